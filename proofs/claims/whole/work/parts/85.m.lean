/-! the model retraces a trace -/
def r_ln (S : pm_S) : ln_T → List Int
  | .inl (i, hd) => (if i = 0 then [] else sp_wd 3) ++ (match pc_brief S hd.1 with
    | none => hd.1
    | some p => (pm_cl S p).1) ++ (if hd.2.1 = true then sp_wd 4 ++ hd.2.2 else []) ++ [10]
  | .inr (.inl f) => r_txt S f
  | .inr (.inr z) => sp_wd 6 ++ sp_num z ++ sp_wd 7 ++ [10]
def r_ld (S : pm_S) : ln_T → Int
  | .inl _ => 0
  | .inr (.inl f) => r_dc S f
  | .inr (.inr _) => 0
theorem r_all_ln (S : pm_S) (T : pt_S) : ∀ n : Nat, r_all S T n = (ln_all T n).flatMap (r_ln S)
  | 0 => rfl
  | n + 1 => by
    unfold r_all ln_all
    rw [r_all_ln S T n, List.flatMap_append]
    congr 1
    unfold ln_at
    cases T.1[n]? with
    | none => rfl
    | some x =>
      simp only
      unfold r_blk ln_blk w_head w_more
      rw [List.flatMap_cons, List.flatMap_append, List.flatMap_map]
      have e1 : (if x.2.1 = -1 then [] else sp_wd 6 ++ sp_num x.2.1 ++ sp_wd 7 ++ [10]) = List.flatMap (r_ln S) (if x.2.1 = -1 then [] else [.inr (.inr x.2.1)]) := by
        by_cases c : x.2.1 = -1
        · rw [if_pos c, if_pos c]
          rfl
        · rw [if_neg c, if_neg c]
          simp [r_ln]
      rw [e1, List.append_assoc]
      rfl
theorem t_sum_ln (S : pm_S) (T : pt_S) : ∀ n : Nat, t_sum (r_dc S) T n = sm ((ln_all T n).map (r_ld S))
  | 0 => rfl
  | n + 1 => by
    unfold t_sum ln_all
    rw [t_sum_ln S T n, List.map_append, sm_app]
    congr 1
    unfold ln_at
    cases T.1[n]? with
    | none => rfl
    | some x =>
      simp only
      unfold ln_blk
      rw [List.map_cons, List.map_append, List.map_map, sm, sm_app]
      have e1 : sm (List.map (r_ld S) (if x.2.1 = -1 then [] else [.inr (.inr x.2.1)])) = 0 := by
        by_cases c : x.2.1 = -1
        · rw [if_pos c]
          rfl
        · rw [if_neg c]
          rfl
      rw [e1]
      show _ = 0 + (_ + 0)
      rw [Int.zero_add, Int.add_zero]
      rfl
theorem m_MO_retraceAll {l : Launch} {G : am_G} {hA : am_H} {m : Nat} {U : mv} {Sm : pm_S} {L : List ln_T} (M : am_mo hA m U) (ho : am_cok U.out_) (hg : am_cok U.all_) (mp : mo_map U Sm) (ok : pm_ok Sm) (fn : pm_fn Sm) (tc : mo_trc U L) (hL : L.length ≤ 32) : am_M l G M_MO_retraceAll [.ref m] hA (mo_X hA m U (L.flatMap (r_ln Sm)) (sm (L.map (r_ld Sm)))) := by
  have f : ko m 35 hA hA := ko.rf
  refine am_M.of (by decide) (Nat.le_of_ble_eq_true rfl) (fun X hB hR => ?_)
  show am_Z X 0 [.ref m, am_u, am_u] [] hA 0 0
  have loop : ∀ (d k : Nat) (xs : List Int) (dc : Int) (v2 : Value) (h1 : am_H), k + d = L.length → L.flatMap (r_ln Sm) = xs ++ (L.drop k).flatMap (r_ln Sm) → sm (L.map (r_ld Sm)) = dc + sm ((L.drop k).map (r_ld Sm)) → mo_S h1 m U xs dc → ko m 35 hA h1 → am_Z X 17 [.ref m, am_n k, v2] [] h1 0 0 := by
    intro d
    induction d with
    | zero =>
      intro k xs dc v2 h1 hk hs hd S f
      obtain ⟨o, s, v, M, q⟩ := id S
      rw [List.drop_eq_nil_of_le (by omega)] at hs hd
      simp only [List.flatMap_nil, List.append_nil, List.map_nil, sm, Int.add_zero] at hs hd
      refine am_iload_n hB d_MO_retraceAll_17 rfl rfl ?_
      refine am_aload_n hB d_MO_retraceAll_18 rfl rfl rfl ?_
      refine am_getf hB d_MO_retraceAll_19 F_MO_203_11 M.1 rfl ?_
      show am_Z X 22 [.ref m, am_n k, v2] [am_n U.lines_, am_n k] h1 0 0
      rw [tc.1]
      refine ai_jge (tgt := 145) hB d_MO_retraceAll_22 (by decide) (fun c1 => ?_) (fun c1 => ?_)
      rotate_left
      · omega
      refine am_vret hB hR d_MO_retraceAll_145 rfl ?_ (Nat.zero_le _) (Nat.zero_le _)
      rw [hs, hd]
      exact ⟨rfl, S, f⟩
    | succ d ih =>
      intro k xs dc v2 h1 hk hs hd S f
      obtain ⟨o, s, v, M, q⟩ := id S
      have hkl : k < L.length := by omega
      have hx := List.getElem?_eq_getElem hkl
      rw [List.drop_eq_getElem_cons hkl] at hs hd
      have lx := tc.2 k _ hx
      generalize L[k]'hkl = x at hx lx hs hd
      rw [List.flatMap_cons, ← List.append_assoc] at hs
      rw [List.map_cons, sm, ← Int.add_assoc] at hd
      have nx : ∀ (v2 : Value) (h1 : am_H), mo_S h1 m U (xs ++ r_ln Sm x) (dc + r_ld Sm x) → ko m 35 hA h1 → am_Z X 139 [.ref m, am_n k, v2] [] h1 0 0 := by
        intro v2 h1 S f
        refine ai_inc hB d_MO_retraceAll_139 rfl (by rw [hR.nL]; decide) rfl ?_
        exact am_goto (tgt := 17) hB d_MO_retraceAll_142 (by decide) (ih (k + 1) _ _ v2 h1 (by omega) hs hd S f)
      refine am_iload_n hB d_MO_retraceAll_17 rfl rfl ?_
      refine am_aload_n hB d_MO_retraceAll_18 rfl rfl rfl ?_
      refine am_getf hB d_MO_retraceAll_19 F_MO_203_11 M.1 rfl ?_
      show am_Z X 22 [.ref m, am_n k, v2] [am_n U.lines_, am_n k] h1 0 0
      rw [tc.1]
      refine ai_jge (tgt := 145) hB d_MO_retraceAll_22 (by decide) (fun c1 => ?_) (fun c1 => ?_)
      · omega
      refine am_aload_n hB d_MO_retraceAll_25 rfl rfl rfl ?_
      refine am_getf hB d_MO_retraceAll_26 F_MO_67_11 M.1 rfl ?_
      refine am_iload_n hB d_MO_retraceAll_29 rfl rfl ?_
      refine ai_iald hB d_MO_retraceAll_30 ty_1 M.kind ?_
      show am_Z X 31 [.ref m, am_n k, v2] [am_n (U.kind_ k)] h1 0 0
      rcases x with ⟨i, hd1⟩ | ff | z
      · have lx0 := lx
        obtain ⟨k1, rg, e1, e2, e3⟩ := lx
        have kin : 0 ≤ U.kind_ k ∧ U.kind_ k < 2 := by
          rw [k1]
          split <;> omega
        refine ai_const hB d_MO_retraceAll_31 ?_
        refine ai_jge (tgt := 99) hB d_MO_retraceAll_32 (by decide) (fun c2 => ?_) (fun c2 => ?_)
        · omega
        refine am_aload_n hB d_MO_retraceAll_35 rfl rfl rfl ?_
        refine am_aload_n hB d_MO_retraceAll_36 rfl rfl rfl ?_
        refine am_getf hB d_MO_retraceAll_37 F_MO_76_11 M.1 rfl ?_
        refine am_iload_n hB d_MO_retraceAll_40 rfl rfl ?_
        refine ai_iald hB d_MO_retraceAll_41 ty_1 M.nameFrom ?_
        refine am_aload_n hB d_MO_retraceAll_42 rfl rfl rfl ?_
        refine am_getf hB d_MO_retraceAll_43 F_MO_79_11 M.1 rfl ?_
        refine am_iload_n hB d_MO_retraceAll_46 rfl rfl ?_
        refine ai_iald hB d_MO_retraceAll_47 ty_1 M.nameTo ?_
        refine ai_const hB d_MO_retraceAll_48 ?_
        show am_Z X 49 [.ref m, am_n k, v2] [am_n 0, am_n (U.nameTo_ k), am_n (U.nameFrom_ k), .ref m] h1 0 0
        refine am_callV hB hR (as := [am_n (U.nameFrom_ k), am_n (U.nameTo_ k), am_n (sp_i false)]) M.1 (m_MO_classLineOf M hg mp (by omega) (by omega) (by omega)) c_MO_284 rfl rfl d_MO_retraceAll_49 ⟨by decide, Nat.le_of_ble_eq_true rfl⟩ ⟨by decide, by decide⟩ rfl rfl (fun rr h hp => ?_)
        obtain ⟨rfl, rfl⟩ := hp
        show am_Z X 52 [.ref m, am_n k, v2] [am_n (sp_oi (pc_brief Sm (nm U.all_ (U.nameFrom_ k) (U.nameTo_ k))))] h1 0 0
        rw [e2]
        have go : ∀ (c a b : Int), (0 ≤ a ∧ a ≤ b ∧ b ≤ 1200) → nm U.all_ a b = (match pc_brief Sm hd1.1 with
            | none => hd1.1
            | some p => (pm_cl Sm p).1) → am_Z X 93 [.ref m, am_n k, am_n c] [am_n b, am_n a, am_n k, .ref m] h1 0 0 := by
          intro c a b hab hn
          refine am_callV hB hR (as := [am_n k, am_n a, am_n b]) M.1 (m_MO_emitHeader S hg (by omega) lx0 hab.1 hab.2.1 hab.2.2) c_MO_307 rfl rfl d_MO_retraceAll_93 ⟨by decide, Nat.le_of_ble_eq_true rfl⟩ ⟨by decide, by decide⟩ rfl rfl (fun rr h hp => ?_)
          obtain ⟨rfl, S, f2⟩ := hp
          show am_Z X 96 [.ref m, am_n k, am_n c] [] h 0 0
          refine am_goto (tgt := 139) hB d_MO_retraceAll_96 (by decide) ?_
          refine nx _ h ?_ (f.tr f2)
          rw [hn] at S
          show mo_S h m U (xs ++ r_ln Sm (.inl (i, hd1))) (dc + 0)
          rw [Int.add_zero]
          exact S
        cases ep : pc_brief Sm hd1.1 with
        | none =>
          rw [ep] at go
          show am_Z X 52 [.ref m, am_n k, v2] [am_n (-1)] h1 0 0
          refine am_istore_n hB d_MO_retraceAll_52 rfl (by rw [hR.nL]; decide) rfl ?_
          refine am_aload_n hB d_MO_retraceAll_53 rfl rfl rfl ?_
          refine am_iload_n hB d_MO_retraceAll_54 rfl rfl ?_
          refine am_iload_n hB d_MO_retraceAll_55 rfl rfl ?_
          refine ai_zge (tgt := 68) hB d_MO_retraceAll_56 (by decide) (fun c3 => ?_) (fun c3 => ?_)
          · omega
          refine am_aload_n hB d_MO_retraceAll_59 rfl rfl rfl ?_
          refine am_getf hB d_MO_retraceAll_60 F_MO_76_11 M.1 rfl ?_
          refine am_iload_n hB d_MO_retraceAll_63 rfl rfl ?_
          refine ai_iald hB d_MO_retraceAll_64 ty_1 M.nameFrom ?_
          refine am_goto (tgt := 74) hB d_MO_retraceAll_65 (by decide) ?_
          refine am_iload_n hB d_MO_retraceAll_74 rfl rfl ?_
          show am_Z X 75 [.ref m, am_n k, am_n (-1)] [am_n (-1), am_n (U.nameFrom_ k), am_n k, .ref m] h1 0 0
          refine ai_zge (tgt := 87) hB d_MO_retraceAll_75 (by decide) (fun c4 => ?_) (fun c4 => ?_)
          · omega
          refine am_aload_n hB d_MO_retraceAll_78 rfl rfl rfl ?_
          refine am_getf hB d_MO_retraceAll_79 F_MO_79_11 M.1 rfl ?_
          refine am_iload_n hB d_MO_retraceAll_82 rfl rfl ?_
          refine ai_iald hB d_MO_retraceAll_83 ty_1 M.nameTo ?_
          refine am_goto (tgt := 93) hB d_MO_retraceAll_84 (by decide) ?_
          exact go (-1) (U.nameFrom_ k) (U.nameTo_ k) ⟨by omega, by omega, by omega⟩ e2
        | some p =>
          rw [ep] at go
          have hp := sp_fd_lt _ _ ep
          have hpl : p < Sm.1.length := by omega
          have m2 := mp.2.1
          obtain ⟨cr1, cr2, cr3, cr4⟩ := mp.2.2.2.2.2.1 p _ (List.getElem?_eq_getElem hpl)
          show am_Z X 52 [.ref m, am_n k, v2] [am_n p] h1 0 0
          refine am_istore_n hB d_MO_retraceAll_52 rfl (by rw [hR.nL]; decide) rfl ?_
          refine am_aload_n hB d_MO_retraceAll_53 rfl rfl rfl ?_
          refine am_iload_n hB d_MO_retraceAll_54 rfl rfl ?_
          refine am_iload_n hB d_MO_retraceAll_55 rfl rfl ?_
          refine ai_zge (tgt := 68) hB d_MO_retraceAll_56 (by decide) (fun c3 => ?_) (fun c3 => ?_)
          rotate_left
          · omega
          refine am_aload_n hB d_MO_retraceAll_68 rfl rfl rfl ?_
          refine am_getf hB d_MO_retraceAll_69 F_MO_19_11 M.1 rfl ?_
          refine am_iload_n hB d_MO_retraceAll_72 rfl rfl ?_
          refine ai_iald hB d_MO_retraceAll_73 ty_1 M.realFrom ?_
          refine am_iload_n hB d_MO_retraceAll_74 rfl rfl ?_
          show am_Z X 75 [.ref m, am_n k, am_n p] [am_n p, am_n (U.realFrom_ p), am_n k, .ref m] h1 0 0
          refine ai_zge (tgt := 87) hB d_MO_retraceAll_75 (by decide) (fun c4 => ?_) (fun c4 => ?_)
          rotate_left
          · omega
          refine am_aload_n hB d_MO_retraceAll_87 rfl rfl rfl ?_
          refine am_getf hB d_MO_retraceAll_88 F_MO_22_11 M.1 rfl ?_
          refine am_iload_n hB d_MO_retraceAll_91 rfl rfl ?_
          refine ai_iald hB d_MO_retraceAll_92 ty_1 M.realTo ?_
          exact go p (U.realFrom_ p) (U.realTo_ p) ⟨by omega, by omega, by omega⟩ (cr3.trans (by show _ = (pm_cl Sm p).1; rw [pm_cl_eq (List.getElem?_eq_getElem hpl)]))
      · have lx0 := lx
        obtain ⟨k1, -⟩ := lx
        rw [k1]
        refine ai_const hB d_MO_retraceAll_31 ?_
        refine ai_jge (tgt := 99) hB d_MO_retraceAll_32 (by decide) (fun c2 => ?_) (fun c2 => ?_)
        rotate_left
        · omega
        refine am_aload_n hB d_MO_retraceAll_99 rfl rfl rfl ?_
        refine am_getf hB d_MO_retraceAll_100 F_MO_67_11 M.1 rfl ?_
        refine am_iload_n hB d_MO_retraceAll_103 rfl rfl ?_
        refine ai_iald hB d_MO_retraceAll_104 ty_1 M.kind ?_
        show am_Z X 105 [.ref m, am_n k, v2] [am_n (U.kind_ k)] h1 0 0
        rw [k1]
        refine ai_const hB d_MO_retraceAll_105 ?_
        refine ai_jne (tgt := 117) hB d_MO_retraceAll_106 (by decide) (fun c3 => ?_) (fun c3 => ?_)
        · omega
        refine am_aload_n hB d_MO_retraceAll_109 rfl rfl rfl ?_
        refine am_iload_n hB d_MO_retraceAll_110 rfl rfl ?_
        refine am_callV hB hR (as := [am_n k]) M.1 (m_MO_retraceFrame S hg mp ok fn (by omega) lx0) c_MO_311 rfl rfl d_MO_retraceAll_111 ⟨by decide, Nat.le_of_ble_eq_true rfl⟩ ⟨by decide, by decide⟩ rfl rfl (fun rr h hp => ?_)
        obtain ⟨rfl, S, f2⟩ := hp
        show am_Z X 114 [.ref m, am_n k, v2] [] h 0 0
        refine am_goto (tgt := 139) hB d_MO_retraceAll_114 (by decide) ?_
        exact nx v2 h S (f.tr f2)
      · obtain ⟨k1, rg, e1⟩ := lx
        rw [k1]
        refine ai_const hB d_MO_retraceAll_31 ?_
        refine ai_jge (tgt := 99) hB d_MO_retraceAll_32 (by decide) (fun c2 => ?_) (fun c2 => ?_)
        rotate_left
        · omega
        refine am_aload_n hB d_MO_retraceAll_99 rfl rfl rfl ?_
        refine am_getf hB d_MO_retraceAll_100 F_MO_67_11 M.1 rfl ?_
        refine am_iload_n hB d_MO_retraceAll_103 rfl rfl ?_
        refine ai_iald hB d_MO_retraceAll_104 ty_1 M.kind ?_
        show am_Z X 105 [.ref m, am_n k, v2] [am_n (U.kind_ k)] h1 0 0
        rw [k1]
        refine ai_const hB d_MO_retraceAll_105 ?_
        refine ai_jne (tgt := 117) hB d_MO_retraceAll_106 (by decide) (fun c3 => ?_) (fun c3 => ?_)
        rotate_left
        · omega
        refine am_aload_n hB d_MO_retraceAll_117 rfl rfl rfl ?_
        refine am_aload_n hB d_MO_retraceAll_118 rfl rfl rfl ?_
        refine am_getf hB d_MO_retraceAll_119 F_MO_70_11 M.1 rfl ?_
        refine am_iload_n hB d_MO_retraceAll_122 rfl rfl ?_
        refine ai_iald hB d_MO_retraceAll_123 ty_1 M.lineFrom ?_
        refine am_aload_n hB d_MO_retraceAll_124 rfl rfl rfl ?_
        refine am_getf hB d_MO_retraceAll_125 F_MO_73_11 M.1 rfl ?_
        refine am_iload_n hB d_MO_retraceAll_128 rfl rfl ?_
        refine ai_iald hB d_MO_retraceAll_129 ty_1 M.lineTo ?_
        show am_Z X 130 [.ref m, am_n k, v2] [am_n (U.lineTo_ k), am_n (U.lineFrom_ k), .ref m] h1 0 0
        refine am_callV hB hR (as := [am_n (U.lineFrom_ k), am_n (U.lineTo_ k)]) M.1 (m_MO_emitText S hg (by omega) (by omega) (by omega)) c_MO_255 rfl rfl d_MO_retraceAll_130 ⟨by decide, Nat.le_of_ble_eq_true rfl⟩ ⟨by decide, by decide⟩ rfl rfl (fun rr h hp => ?_)
        obtain ⟨rfl, S, f2⟩ := hp
        obtain ⟨o, s, v, M, q⟩ := id S
        show am_Z X 133 [.ref m, am_n k, v2] [] h 0 0
        refine am_aload_n hB d_MO_retraceAll_133 rfl rfl rfl ?_
        refine ai_bipush hB d_MO_retraceAll_134 (by decide) ?_
        refine am_callV hB hR (as := [am_n 10]) M.1 (m_MO_emit S (by omega) (by omega)) c_MO_251 rfl rfl d_MO_retraceAll_136 ⟨by decide, Nat.le_of_ble_eq_true rfl⟩ ⟨by decide, by decide⟩ rfl rfl (fun rr h hp => ?_)
        obtain ⟨rfl, S, f3⟩ := hp
        show am_Z X 139 [.ref m, am_n k, v2] [] h 0 0
        rw [List.append_assoc, e1] at S
        refine nx v2 h ?_ ((f.tr f2).tr f3)
        show mo_S h m U (xs ++ r_ln Sm (.inr (.inr z))) (dc + 0)
        rw [Int.add_zero]
        exact S
  refine am_aload_n hB d_MO_retraceAll_0 rfl rfl rfl ?_
  refine ai_const hB d_MO_retraceAll_1 ?_
  refine mo_p_outSize hB d_MO_retraceAll_2 P_MO_245_11 M f (fun h M f => ?_)
  refine am_aload_n hB d_MO_retraceAll_5 rfl rfl rfl ?_
  refine ai_const hB d_MO_retraceAll_6 ?_
  refine mo_p_overflow hB d_MO_retraceAll_7 P_MO_248_11 M f (by first | exact Or.inl rfl | exact Or.inr rfl | omega) (fun h M f => ?_)
  refine am_aload_n hB d_MO_retraceAll_10 rfl rfl rfl ?_
  refine ai_const hB d_MO_retraceAll_11 ?_
  refine mo_p_doubts hB d_MO_retraceAll_12 P_MO_298_11 M f (fun h M f => ?_)
  refine ai_const hB d_MO_retraceAll_15 ?_
  refine am_istore_n hB d_MO_retraceAll_16 rfl (by rw [hR.nL]; decide) rfl ?_
  exact loop L.length 0 [] 0 am_u h (by omega) rfl (by rw [List.drop_zero]; omega) ⟨U.out_, 0, 0, M, ho, ⟨by omega, by omega⟩, Or.inl ⟨rfl, rfl, fun j hj => absurd hj (Nat.not_lt_zero j)⟩⟩ f
