/-! the model shortens a trace -/
def s_lns (S : pm_S) : Nat → List ln_T → List Int
  | 0, _ => []
  | _ + 1, [] => []
  | n + 1, .inl (i, hd) :: r => (if i = 0 then [] else sp_wd 3) ++ (match pc_real S hd.1 with
    | none => hd.1
    | some p => (pm_cl S p).2) ++ (if hd.2.1 = true then sp_wd 4 ++ hd.2.2 else []) ++ [10] ++ s_lns S n r
  | n + 1, .inr (.inl f) :: r => s_txt S (f :: fr_run r) ++ s_lns S n ((.inr (.inl f) :: r).drop (s_cnt S (f :: fr_run r)).toNat)
  | n + 1, .inr (.inr z) :: r => sp_wd 6 ++ sp_num z ++ sp_wd 7 ++ [10] ++ s_lns S n r
theorem fr_run_le : ∀ L : List ln_T, (fr_run L).length ≤ L.length
  | [] => Nat.le_refl _
  | .inl _ :: _ => Nat.zero_le _
  | .inr (.inl f) :: r => by
    have := fr_run_le r
    simp only [fr_run, List.length_cons]
    omega
  | .inr (.inr _) :: _ => Nat.zero_le _
theorem fr_run_app : ∀ {A R : List ln_T}, fr_run R = [] → fr_run (A ++ R) = fr_run A
  | [], R, h => h
  | .inl _ :: _, _, _ => rfl
  | .inr (.inl f) :: A, R, h => by
    show f :: fr_run (A ++ R) = f :: fr_run A
    rw [fr_run_app h]
  | .inr (.inr _) :: _, _, _ => rfl
theorem s_cnt_b {S : pm_S} (ok : pm_ok S) {F : List pt_F} (hF : F ≠ []) : 1 ≤ s_cnt S F ∧ s_cnt S F ≤ F.length := by
  have hl := List.length_pos_iff.mpr hF
  have okb := sf_best_ok (S := S) (F := F) S.2.length 0 (-1, 0, 0) (by omega) (Or.inl rfl)
  unfold s_cnt
  generalize sf_best S F S.2.length 0 (-1, 0, 0) = B at okb
  rcases okb with z | ⟨i, x, h1, h2, h3, h4, h5, h6⟩
  · rw [z, if_pos rfl]
    omega
  · have e := pf_end_le (S := S) (am_lt h1)
    have fi := sf_fit_in ok h1 h6
    rw [if_neg (by omega), h4]
    omega
theorem s_lns_fi {S : pm_S} (ok : pm_ok S) : ∀ (f1 f2 : Nat) (L : List ln_T), L.length ≤ f1 → L.length ≤ f2 → s_lns S f1 L = s_lns S f2 L
  | 0, f2, L, h1, h2 => by
    have : L = [] := List.length_eq_zero_iff.mp (by omega)
    subst this
    cases f2 <;> rfl
  | f1 + 1, 0, L, h1, h2 => by
    have : L = [] := List.length_eq_zero_iff.mp (by omega)
    subst this
    rfl
  | f1 + 1, f2 + 1, [], h1, h2 => rfl
  | f1 + 1, f2 + 1, .inl (i, hd) :: r, h1, h2 => by
    simp only [List.length_cons] at h1 h2
    simp only [s_lns]
    rw [s_lns_fi ok f1 f2 r (by omega) (by omega)]
  | f1 + 1, f2 + 1, .inr (.inl f) :: r, h1, h2 => by
    have cb := s_cnt_b ok (F := f :: fr_run r) (by simp)
    simp only [List.length_cons] at h1 h2
    simp only [s_lns]
    rw [s_lns_fi ok f1 f2 _ (by rw [List.length_drop, List.length_cons]; omega) (by rw [List.length_drop, List.length_cons]; omega)]
  | f1 + 1, f2 + 1, .inr (.inr z) :: r, h1, h2 => by
    simp only [List.length_cons] at h1 h2
    simp only [s_lns]
    rw [s_lns_fi ok f1 f2 r (by omega) (by omega)]
theorem s_lns_app {S : pm_S} (ok : pm_ok S) {R : List ln_T} (hR : fr_run R = []) : ∀ (f : Nat) (A : List ln_T), A.length + R.length ≤ f → s_lns S f (A ++ R) = s_lns S f A ++ s_lns S f R
  | f, [], h => by
    cases f <;> rfl
  | 0, _ :: _, h => by simp at h
  | f + 1, .inl (i, hd) :: A, h => by
    simp only [List.length_cons] at h
    simp only [List.cons_append, s_lns]
    rw [s_lns_app ok hR f A (by omega), s_lns_fi ok (f + 1) f R (by omega) (by omega)]
    simp only [List.append_assoc]
  | f + 1, .inr (.inl ff) :: A, h => by
    have cb := s_cnt_b ok (F := ff :: fr_run A) (by simp)
    have rl := fr_run_le A
    simp only [List.length_cons] at h cb
    simp only [List.cons_append, s_lns]
    rw [fr_run_app hR, ← List.cons_append, List.drop_append_of_le_length (by rw [List.length_cons]; omega), s_lns_app ok hR f _ (by rw [List.length_drop, List.length_cons]; omega), s_lns_fi ok (f + 1) f R (by omega) (by omega)]
    simp only [List.append_assoc]
  | f + 1, .inr (.inr z) :: A, h => by
    simp only [List.length_cons] at h
    simp only [List.cons_append, s_lns]
    rw [s_lns_app ok hR f A (by omega), s_lns_fi ok (f + 1) f R (by omega) (by omega)]
    simp only [List.append_assoc]
theorem fr_run_map : ∀ F : List pt_F, fr_run (F.map (fun f => (.inr (.inl f) : ln_T))) = F
  | [] => rfl
  | f :: F => by
    show f :: fr_run _ = f :: F
    rw [fr_run_map F]
theorem s_lns_frs {S : pm_S} (ok : pm_ok S) : ∀ (m f : Nat) (F : List pt_F), F.length ≤ m → F.length ≤ f → s_lns S f (F.map (fun f => (.inr (.inl f) : ln_T))) = s_frs S m F
  | m, f, [], _, _ => by
    cases f <;> cases m <;> rfl
  | 0, f, _ :: _, h, _ => by simp at h
  | m + 1, 0, _ :: _, _, h => by simp at h
  | m + 1, f + 1, x :: F, h1, h2 => by
    have cb := s_cnt_b ok (F := x :: F) (by simp)
    simp only [List.length_cons] at h1 h2 cb
    simp only [List.map_cons, s_lns, s_frs]
    rw [fr_run_map F, ← List.map_cons (f := fun f => (.inr (.inl f) : ln_T)), ← List.map_drop, s_lns_frs ok m f _ (by rw [List.length_drop, List.length_cons]; omega) (by rw [List.length_drop, List.length_cons]; omega)]
theorem s_all_ln {S : pm_S} (ok : pm_ok S) {T : pt_S} (hT : T.2.length ≤ 20) : ∀ n f : Nat, (ln_all T n).length ≤ f → s_lns S f (ln_all T n) = s_all S T n
  | 0, f, _ => by cases f <;> rfl
  | n + 1, f, hf => by
    unfold ln_all at hf ⊢
    rw [List.length_append] at hf
    have hR : fr_run (ln_at T n) = [] := by
      unfold ln_at
      cases T.1[n]? with
      | none => rfl
      | some x => rfl
    rw [s_lns_app ok hR f _ (by omega), s_all_ln ok hT n f (by omega), s_all]
    congr 1
    unfold ln_at at hf ⊢
    cases e : T.1[n]? with
    | none => cases f <;> rfl
    | some x =>
      rw [e] at hf
      simp only at hf ⊢
      unfold ln_blk at hf ⊢
      simp only [List.length_cons, List.length_append, List.length_map] at hf
      obtain ⟨f, rfl⟩ : ∃ f', f = f' + 1 := ⟨f - 1, by omega⟩
      have hM : fr_run (if x.2.1 = -1 then [] else [(.inr (.inr x.2.1) : ln_T)]) = [] := by split <;> rfl
      have hfr : (t_frs T x).length ≤ 20 := by
        unfold t_frs
        rw [List.length_take, List.length_drop]
        omega
      simp only [s_lns]
      rw [s_lns_app ok hM f _ (by rw [List.length_map]; omega), s_lns_frs ok 20 f _ hfr (by omega)]
      have hmo : s_lns S f (if x.2.1 = -1 then [] else [(.inr (.inr x.2.1) : ln_T)]) = w_more x := by
        unfold w_more
        by_cases c : x.2.1 = -1
        · rw [if_pos c, if_pos c]
          cases f <;> rfl
        · rw [if_neg c] at hf
          rw [if_neg c, if_neg c]
          obtain ⟨f, rfl⟩ : ∃ f', f = f' + 1 := ⟨f - 1, by simp only [List.length_singleton] at hf; omega⟩
          simp only [s_lns]
          cases f <;> simp [s_lns]
      rw [hmo]
      unfold s_blk w_head
      simp only [List.append_assoc]
      rfl
theorem m_MO_shortenAll {l : Launch} {G : am_G} {hA : am_H} {m : Nat} {U : mv} {Sm : pm_S} {L : List ln_T} (M : am_mo hA m U) (ho : am_cok U.out_) (hg : am_cok U.all_) (mp : mo_map U Sm) (ok : pm_ok Sm) (cx : pm_cx Sm) (tc : mo_trc U L) (hL : L.length ≤ 32) : am_M l G M_MO_shortenAll [.ref m] hA (mo_X hA m U (s_lns Sm L.length L) U.doubts_) := by
  have f : ko m 35 hA hA := ko.rf
  refine am_M.of (by decide) (Nat.le_of_ble_eq_true rfl) (fun X hB hR => ?_)
  show am_Z X 0 [.ref m, am_u, am_u] [] hA 0 0
  have loop : ∀ (d k : Nat) (xs : List Int) (v2 : Value) (h1 : am_H), L.length ≤ k + d → k ≤ L.length → s_lns Sm L.length L = xs ++ s_lns Sm (L.length - k) (L.drop k) → mo_S h1 m U xs U.doubts_ → ko m 35 hA h1 → am_Z X 12 [.ref m, am_n k, v2] [] h1 0 0 := by
    intro d
    induction d with
    | zero =>
      intro k xs v2 h1 hk hk2 hs S f
      obtain ⟨o, s, v, M, q⟩ := id S
      rw [show L.length - k = 0 by omega, s_lns, List.append_nil] at hs
      refine am_iload_n hB d_MO_shortenAll_12 rfl rfl ?_
      refine am_aload_n hB d_MO_shortenAll_13 rfl rfl rfl ?_
      refine am_getf hB d_MO_shortenAll_14 F_MO_203_11 M.1 rfl ?_
      show am_Z X 17 [.ref m, am_n k, v2] [am_n U.lines_, am_n k] h1 0 0
      rw [tc.1]
      refine ai_jge (tgt := 123) hB d_MO_shortenAll_17 (by decide) (fun c1 => ?_) (fun c1 => ?_)
      rotate_left
      · omega
      refine am_vret hB hR d_MO_shortenAll_123 rfl ?_ (Nat.zero_le _) (Nat.zero_le _)
      rw [hs]
      exact ⟨rfl, S, f⟩
    | succ d ih =>
      intro k xs v2 h1 hk hk2 hs S f
      obtain ⟨o, s, v, M, q⟩ := id S
      by_cases hkl : k < L.length
      rotate_left
      · rw [show L.length - k = 0 by omega, s_lns, List.append_nil] at hs
        refine am_iload_n hB d_MO_shortenAll_12 rfl rfl ?_
        refine am_aload_n hB d_MO_shortenAll_13 rfl rfl rfl ?_
        refine am_getf hB d_MO_shortenAll_14 F_MO_203_11 M.1 rfl ?_
        show am_Z X 17 [.ref m, am_n k, v2] [am_n U.lines_, am_n k] h1 0 0
        rw [tc.1]
        refine ai_jge (tgt := 123) hB d_MO_shortenAll_17 (by decide) (fun c1 => ?_) (fun c1 => ?_)
        rotate_left
        · omega
        refine am_vret hB hR d_MO_shortenAll_123 rfl ?_ (Nat.zero_le _) (Nat.zero_le _)
        rw [hs]
        exact ⟨rfl, S, f⟩
      have hx := List.getElem?_eq_getElem hkl
      have lx := tc.2 k _ hx
      generalize L[k]'hkl = x at hx lx
      rw [drop_cons hx, show L.length - k = (L.length - (k + 1)) + 1 by omega] at hs
      refine am_iload_n hB d_MO_shortenAll_12 rfl rfl ?_
      refine am_aload_n hB d_MO_shortenAll_13 rfl rfl rfl ?_
      refine am_getf hB d_MO_shortenAll_14 F_MO_203_11 M.1 rfl ?_
      show am_Z X 17 [.ref m, am_n k, v2] [am_n U.lines_, am_n k] h1 0 0
      rw [tc.1]
      refine ai_jge (tgt := 123) hB d_MO_shortenAll_17 (by decide) (fun c1 => ?_) (fun c1 => ?_)
      · omega
      refine am_aload_n hB d_MO_shortenAll_20 rfl rfl rfl ?_
      refine am_getf hB d_MO_shortenAll_21 F_MO_67_11 M.1 rfl ?_
      refine am_iload_n hB d_MO_shortenAll_24 rfl rfl ?_
      refine ai_iald hB d_MO_shortenAll_25 ty_1 M.kind ?_
      show am_Z X 26 [.ref m, am_n k, v2] [am_n (U.kind_ k)] h1 0 0
      rcases x with ⟨i, hd1⟩ | ff | z
      · have lx0 := lx
        obtain ⟨k1, rg, e1, e2, e3⟩ := lx
        have kin : 0 ≤ U.kind_ k ∧ U.kind_ k < 2 := by
          rw [k1]
          split <;> omega
        simp only [s_lns] at hs
        rw [← List.append_assoc] at hs
        have nx : ∀ (v2 : Value) (h1 : am_H), mo_S h1 m U (xs ++ ((if i = 0 then [] else sp_wd 3) ++ (match pc_real Sm hd1.1 with
            | none => hd1.1
            | some p => (pm_cl Sm p).2) ++ (if hd1.2.1 = true then sp_wd 4 ++ hd1.2.2 else []) ++ [10])) U.doubts_ → ko m 35 hA h1 → am_Z X 117 [.ref m, am_n k, v2] [] h1 0 0 := by
          intro v2 h1 S f
          refine ai_inc hB d_MO_shortenAll_117 rfl (by rw [hR.nL]; decide) rfl ?_
          exact am_goto (tgt := 12) hB d_MO_shortenAll_120 (by decide) (ih (k + 1) _ v2 h1 (by omega) (by omega) hs S f)
        refine ai_const hB d_MO_shortenAll_26 ?_
        refine ai_jne (tgt := 39) hB d_MO_shortenAll_27 (by decide) (fun c2 => ?_) (fun c2 => ?_)
        rotate_left
        · omega
        refine am_aload_n hB d_MO_shortenAll_39 rfl rfl rfl ?_
        refine am_getf hB d_MO_shortenAll_40 F_MO_67_11 M.1 rfl ?_
        refine am_iload_n hB d_MO_shortenAll_43 rfl rfl ?_
        refine ai_iald hB d_MO_shortenAll_44 ty_1 M.kind ?_
        refine ai_const hB d_MO_shortenAll_45 ?_
        show am_Z X 46 [.ref m, am_n k, v2] [am_n 2, am_n (U.kind_ k)] h1 0 0
        refine ai_jge (tgt := 69) hB d_MO_shortenAll_46 (by decide) (fun c3 => ?_) (fun c3 => ?_)
        · omega
        refine am_aload_n hB d_MO_shortenAll_49 rfl rfl rfl ?_
        refine am_aload_n hB d_MO_shortenAll_50 rfl rfl rfl ?_
        refine am_getf hB d_MO_shortenAll_51 F_MO_76_11 M.1 rfl ?_
        refine am_iload_n hB d_MO_shortenAll_54 rfl rfl ?_
        refine ai_iald hB d_MO_shortenAll_55 ty_1 M.nameFrom ?_
        refine am_aload_n hB d_MO_shortenAll_56 rfl rfl rfl ?_
        refine am_getf hB d_MO_shortenAll_57 F_MO_79_11 M.1 rfl ?_
        refine am_iload_n hB d_MO_shortenAll_60 rfl rfl ?_
        refine ai_iald hB d_MO_shortenAll_61 ty_1 M.nameTo ?_
        refine ai_const hB d_MO_shortenAll_62 ?_
        show am_Z X 63 [.ref m, am_n k, v2] [am_n 1, am_n (U.nameTo_ k), am_n (U.nameFrom_ k), .ref m] h1 0 0
        refine am_callV hB hR (as := [am_n (U.nameFrom_ k), am_n (U.nameTo_ k), am_n (sp_i true)]) M.1 (m_MO_classLineOf M hg mp (by omega) (by omega) (by omega)) c_MO_284 rfl rfl d_MO_shortenAll_63 ⟨by decide, Nat.le_of_ble_eq_true rfl⟩ ⟨by decide, by decide⟩ rfl rfl (fun rr h hp => ?_)
        obtain ⟨rfl, rfl⟩ := hp
        show am_Z X 66 [.ref m, am_n k, v2] [am_n (sp_oi (pc_real Sm (nm U.all_ (U.nameFrom_ k) (U.nameTo_ k))))] h1 0 0
        rw [e2]
        refine am_goto (tgt := 70) hB d_MO_shortenAll_66 (by decide) ?_
        cases ep : pc_real Sm hd1.1 with
        | none =>
          rw [ep] at nx
          show am_Z X 70 [.ref m, am_n k, v2] [am_n (-1)] h1 0 0
          refine am_istore_n hB d_MO_shortenAll_70 rfl (by rw [hR.nL]; decide) rfl ?_
          refine am_iload_n hB d_MO_shortenAll_71 rfl rfl ?_
          refine ai_zlt (tgt := 95) hB d_MO_shortenAll_72 (by decide) (fun c4 => ?_) (fun c4 => ?_)
          rotate_left
          · omega
          refine am_aload_n hB d_MO_shortenAll_95 rfl rfl rfl ?_
          refine am_aload_n hB d_MO_shortenAll_96 rfl rfl rfl ?_
          refine am_getf hB d_MO_shortenAll_97 F_MO_70_11 M.1 rfl ?_
          refine am_iload_n hB d_MO_shortenAll_100 rfl rfl ?_
          refine ai_iald hB d_MO_shortenAll_101 ty_1 M.lineFrom ?_
          refine am_aload_n hB d_MO_shortenAll_102 rfl rfl rfl ?_
          refine am_getf hB d_MO_shortenAll_103 F_MO_73_11 M.1 rfl ?_
          refine am_iload_n hB d_MO_shortenAll_106 rfl rfl ?_
          refine ai_iald hB d_MO_shortenAll_107 ty_1 M.lineTo ?_
          show am_Z X 108 [.ref m, am_n k, am_n (-1)] [am_n (U.lineTo_ k), am_n (U.lineFrom_ k), .ref m] h1 0 0
          refine am_callV hB hR (as := [am_n (U.lineFrom_ k), am_n (U.lineTo_ k)]) M.1 (m_MO_emitText S hg (by omega) (by omega) (by omega)) c_MO_255 rfl rfl d_MO_shortenAll_108 ⟨by decide, Nat.le_of_ble_eq_true rfl⟩ ⟨by decide, by decide⟩ rfl rfl (fun rr h hp => ?_)
          obtain ⟨rfl, S, f2⟩ := hp
          obtain ⟨o, s, v, M, q⟩ := id S
          show am_Z X 111 [.ref m, am_n k, am_n (-1)] [] h 0 0
          refine am_aload_n hB d_MO_shortenAll_111 rfl rfl rfl ?_
          refine ai_bipush hB d_MO_shortenAll_112 (by decide) ?_
          refine am_callV hB hR (as := [am_n 10]) M.1 (m_MO_emit S (by omega) (by omega)) c_MO_251 rfl rfl d_MO_shortenAll_114 ⟨by decide, Nat.le_of_ble_eq_true rfl⟩ ⟨by decide, by decide⟩ rfl rfl (fun rr h hp => ?_)
          obtain ⟨rfl, S, f3⟩ := hp
          show am_Z X 117 [.ref m, am_n k, am_n (-1)] [] h 0 0
          refine nx _ h ?_ ((f.tr f2).tr f3)
          rw [← nm_app U.all_ (show U.lineFrom_ k ≤ U.nameFrom_ k by omega) (show U.nameFrom_ k ≤ U.lineTo_ k by omega), ← nm_app U.all_ (show U.nameFrom_ k ≤ U.nameTo_ k by omega) (show U.nameTo_ k ≤ U.lineTo_ k by omega), e1, e2, e3] at S
          simp only [List.append_assoc] at S ⊢
          exact S
        | some p =>
          rw [ep] at nx
          have hp := sp_fd_lt _ _ ep
          have hpl : p < Sm.1.length := by omega
          have m2 := mp.2.1
          obtain ⟨cr1, cr2, cr3, cr4⟩ := mp.2.2.2.2.2.1 p _ (List.getElem?_eq_getElem hpl)
          show am_Z X 70 [.ref m, am_n k, v2] [am_n p] h1 0 0
          refine am_istore_n hB d_MO_shortenAll_70 rfl (by rw [hR.nL]; decide) rfl ?_
          refine am_iload_n hB d_MO_shortenAll_71 rfl rfl ?_
          refine ai_zlt (tgt := 95) hB d_MO_shortenAll_72 (by decide) (fun c4 => ?_) (fun c4 => ?_)
          · omega
          refine am_aload_n hB d_MO_shortenAll_75 rfl rfl rfl ?_
          refine am_iload_n hB d_MO_shortenAll_76 rfl rfl ?_
          refine am_aload_n hB d_MO_shortenAll_77 rfl rfl rfl ?_
          refine am_getf hB d_MO_shortenAll_78 F_MO_25_11 M.1 rfl ?_
          refine am_iload_n hB d_MO_shortenAll_81 rfl rfl ?_
          refine ai_iald hB d_MO_shortenAll_82 ty_1 M.shortFrom ?_
          refine am_aload_n hB d_MO_shortenAll_83 rfl rfl rfl ?_
          refine am_getf hB d_MO_shortenAll_84 F_MO_28_11 M.1 rfl ?_
          refine am_iload_n hB d_MO_shortenAll_87 rfl rfl ?_
          refine ai_iald hB d_MO_shortenAll_88 ty_1 M.shortTo ?_
          show am_Z X 89 [.ref m, am_n k, am_n p] [am_n (U.shortTo_ p), am_n (U.shortFrom_ p), am_n k, .ref m] h1 0 0
          refine am_callV hB hR (as := [am_n k, am_n (U.shortFrom_ p), am_n (U.shortTo_ p)]) M.1 (m_MO_emitHeader S hg (by omega) lx0 (by omega) (by omega) (by omega)) c_MO_307 rfl rfl d_MO_shortenAll_89 ⟨by decide, Nat.le_of_ble_eq_true rfl⟩ ⟨by decide, by decide⟩ rfl rfl (fun rr h hp => ?_)
          obtain ⟨rfl, S, f2⟩ := hp
          show am_Z X 92 [.ref m, am_n k, am_n p] [] h 0 0
          refine am_goto (tgt := 117) hB d_MO_shortenAll_92 (by decide) ?_
          refine nx _ h ?_ (f.tr f2)
          simp only
          rw [pm_cl_eq (List.getElem?_eq_getElem hpl), ← cr4]
          exact S
      · have lx0 := lx
        obtain ⟨k1, -⟩ := lx
        have hrun : fr_run (L.drop k) = ff :: fr_run (L.drop (k + 1)) := by
          rw [drop_cons hx]
          rfl
        have cb := s_cnt_b ok (F := fr_run (L.drop k)) (by rw [hrun]; simp)
        have rl := fr_run_le (L.drop k)
        rw [List.length_drop] at rl
        simp only [s_lns] at hs
        rw [← hrun, ← drop_cons hx, List.drop_drop, ← List.append_assoc] at hs
        rw [k1]
        refine ai_const hB d_MO_shortenAll_26 ?_
        refine ai_jne (tgt := 39) hB d_MO_shortenAll_27 (by decide) (fun c2 => ?_) (fun c2 => ?_)
        · omega
        refine am_aload_n hB d_MO_shortenAll_30 rfl rfl rfl ?_
        refine am_iload_n hB d_MO_shortenAll_31 rfl rfl ?_
        refine am_callV hB hR (as := [am_n k]) M.1 (m_MO_shortenFrame S hg mp ok cx tc hL hx) c_MO_329 rfl rfl d_MO_shortenAll_32 ⟨by decide, Nat.le_of_ble_eq_true rfl⟩ ⟨by decide, by decide⟩ rfl rfl (fun rr h hp => ?_)
        obtain ⟨rfl, S, f2⟩ := hp
        show am_Z X 35 [.ref m, am_n k, v2] [am_n (k + s_cnt Sm (fr_run (L.drop k)))] h 0 0
        refine am_istore_n hB d_MO_shortenAll_35 rfl (by rw [hR.nL]; decide) rfl ?_
        generalize hc : s_cnt Sm (fr_run (L.drop k)) = c at cb hs
        have z := ih (k + c.toNat) _ v2 h (by omega) (by omega) (by
          rw [hs]
          congr 1
          refine s_lns_fi ok _ _ _ ?_ ?_
          · rw [List.length_drop]; omega
          · rw [List.length_drop]; omega) S (f.tr f2)
        rw [show ((k + c.toNat : Nat) : Int) = (k : Int) + c by omega] at z
        exact am_goto (tgt := 12) hB d_MO_shortenAll_36 (by decide) z
      · obtain ⟨k1, rg, e1⟩ := lx
        simp only [s_lns] at hs
        rw [← List.append_assoc] at hs
        rw [k1]
        refine ai_const hB d_MO_shortenAll_26 ?_
        refine ai_jne (tgt := 39) hB d_MO_shortenAll_27 (by decide) (fun c2 => ?_) (fun c2 => ?_)
        rotate_left
        · omega
        refine am_aload_n hB d_MO_shortenAll_39 rfl rfl rfl ?_
        refine am_getf hB d_MO_shortenAll_40 F_MO_67_11 M.1 rfl ?_
        refine am_iload_n hB d_MO_shortenAll_43 rfl rfl ?_
        refine ai_iald hB d_MO_shortenAll_44 ty_1 M.kind ?_
        refine ai_const hB d_MO_shortenAll_45 ?_
        show am_Z X 46 [.ref m, am_n k, v2] [am_n 2, am_n (U.kind_ k)] h1 0 0
        rw [k1]
        refine ai_jge (tgt := 69) hB d_MO_shortenAll_46 (by decide) (fun c3 => ?_) (fun c3 => ?_)
        rotate_left
        · omega
        refine ai_const hB d_MO_shortenAll_69 ?_
        refine am_istore_n hB d_MO_shortenAll_70 rfl (by rw [hR.nL]; decide) rfl ?_
        refine am_iload_n hB d_MO_shortenAll_71 rfl rfl ?_
        refine ai_zlt (tgt := 95) hB d_MO_shortenAll_72 (by decide) (fun c4 => ?_) (fun c4 => ?_)
        rotate_left
        · omega
        refine am_aload_n hB d_MO_shortenAll_95 rfl rfl rfl ?_
        refine am_aload_n hB d_MO_shortenAll_96 rfl rfl rfl ?_
        refine am_getf hB d_MO_shortenAll_97 F_MO_70_11 M.1 rfl ?_
        refine am_iload_n hB d_MO_shortenAll_100 rfl rfl ?_
        refine ai_iald hB d_MO_shortenAll_101 ty_1 M.lineFrom ?_
        refine am_aload_n hB d_MO_shortenAll_102 rfl rfl rfl ?_
        refine am_getf hB d_MO_shortenAll_103 F_MO_73_11 M.1 rfl ?_
        refine am_iload_n hB d_MO_shortenAll_106 rfl rfl ?_
        refine ai_iald hB d_MO_shortenAll_107 ty_1 M.lineTo ?_
        show am_Z X 108 [.ref m, am_n k, am_n (-1)] [am_n (U.lineTo_ k), am_n (U.lineFrom_ k), .ref m] h1 0 0
        refine am_callV hB hR (as := [am_n (U.lineFrom_ k), am_n (U.lineTo_ k)]) M.1 (m_MO_emitText S hg (by omega) (by omega) (by omega)) c_MO_255 rfl rfl d_MO_shortenAll_108 ⟨by decide, Nat.le_of_ble_eq_true rfl⟩ ⟨by decide, by decide⟩ rfl rfl (fun rr h hp => ?_)
        obtain ⟨rfl, S, f2⟩ := hp
        obtain ⟨o, s, v, M, q⟩ := id S
        show am_Z X 111 [.ref m, am_n k, am_n (-1)] [] h 0 0
        refine am_aload_n hB d_MO_shortenAll_111 rfl rfl rfl ?_
        refine ai_bipush hB d_MO_shortenAll_112 (by decide) ?_
        refine am_callV hB hR (as := [am_n 10]) M.1 (m_MO_emit S (by omega) (by omega)) c_MO_251 rfl rfl d_MO_shortenAll_114 ⟨by decide, Nat.le_of_ble_eq_true rfl⟩ ⟨by decide, by decide⟩ rfl rfl (fun rr h hp => ?_)
        obtain ⟨rfl, S, f3⟩ := hp
        show am_Z X 117 [.ref m, am_n k, am_n (-1)] [] h 0 0
        rw [List.append_assoc, e1] at S
        refine ai_inc hB d_MO_shortenAll_117 rfl (by rw [hR.nL]; decide) rfl ?_
        exact am_goto (tgt := 12) hB d_MO_shortenAll_120 (by decide) (ih (k + 1) _ _ h (by omega) (by omega) hs S ((f.tr f2).tr f3))
  refine am_aload_n hB d_MO_shortenAll_0 rfl rfl rfl ?_
  refine ai_const hB d_MO_shortenAll_1 ?_
  refine mo_p_outSize hB d_MO_shortenAll_2 P_MO_245_11 M f (fun h M f => ?_)
  refine am_aload_n hB d_MO_shortenAll_5 rfl rfl rfl ?_
  refine ai_const hB d_MO_shortenAll_6 ?_
  refine mo_p_overflow hB d_MO_shortenAll_7 P_MO_248_11 M f (by first | exact Or.inl rfl | exact Or.inr rfl | omega) (fun h M f => ?_)
  refine ai_const hB d_MO_shortenAll_10 ?_
  refine am_istore_n hB d_MO_shortenAll_11 rfl (by rw [hR.nL]; decide) rfl ?_
  exact loop L.length 0 [] am_u h (by omega) (by omega) (by rw [Nat.sub_zero]; rfl) ⟨U.out_, 0, 0, M, ho, ⟨by omega, by omega⟩, Or.inl ⟨rfl, rfl, fun j hj => absurd hj (Nat.not_lt_zero j)⟩⟩ f
