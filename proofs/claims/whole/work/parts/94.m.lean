/-! the model keeps a print -/
theorem m_MO_isFrameAt {l : Launch} {G : am_G} {h : am_H} {m : Nat} {U : mv} {k : Int} (M : am_mo h m U) (ho : am_cok U.out_) (hk : 0 ≤ k ∧ k < U.outSize_) (hs : U.outSize_ ≤ 1000) : am_M l G M_MO_isFrameAt [.ref m, am_n k] h (am_is (am_n (sp_i (decide (U.out_ k = 9 ∧ k + 1 < U.outSize_ ∧ U.out_ (k + 1) = 97)))) h) := by
  have hg := ho k
  have hg1 := ho (k + 1)
  refine am_M.of (by decide) (Nat.le_of_ble_eq_true rfl) (fun X hB hR => ?_)
  show am_Z X 0 [.ref m, am_n k] [] h 0 0
  have no : ¬ (U.out_ k = 9 ∧ k + 1 < U.outSize_ ∧ U.out_ (k + 1) = 97) → am_Z X 38 [.ref m, am_n k] [] h 0 0 := by
    intro hn
    refine ai_const hB d_MO_isFrameAt_38 ?_
    refine am_iret hB hR d_MO_isFrameAt_39 rfl (by decide) ?_ (Nat.zero_le _) (Nat.zero_le _)
    rw [decide_eq_false hn]
    exact ⟨rfl, rfl⟩
  refine am_aload_n hB d_MO_isFrameAt_0 rfl rfl rfl ?_
  refine am_getf hB d_MO_isFrameAt_1 F_MO_94_11 M.1 rfl ?_
  refine am_iload_n hB d_MO_isFrameAt_4 rfl rfl ?_
  refine ai_iald hB d_MO_isFrameAt_5 ty_1 M.out ?_
  refine ai_bipush hB d_MO_isFrameAt_6 (by decide) ?_
  show am_Z X 8 [.ref m, am_n k] [am_n 9, am_n (U.out_ k)] h 0 0
  refine ai_jne (tgt := 38) hB d_MO_isFrameAt_8 (by decide) (fun c1 => ?_) (fun c1 => ?_)
  · exact no (fun z => c1 z.1)
  refine am_iload_n hB d_MO_isFrameAt_11 rfl rfl ?_
  refine ai_const hB d_MO_isFrameAt_12 ?_
  refine ai_add hB d_MO_isFrameAt_13 ?_
  refine am_aload_n hB d_MO_isFrameAt_14 rfl rfl rfl ?_
  refine am_getf hB d_MO_isFrameAt_15 F_MO_245_11 M.1 rfl ?_
  show am_Z X 18 [.ref m, am_n k] [am_n U.outSize_, am_n (k + 1)] h 0 0
  refine ai_jge (tgt := 38) hB d_MO_isFrameAt_18 (by decide) (fun c2 => ?_) (fun c2 => ?_)
  · exact no (fun z => by omega)
  refine am_aload_n hB d_MO_isFrameAt_21 rfl rfl rfl ?_
  refine am_getf hB d_MO_isFrameAt_22 F_MO_94_11 M.1 rfl ?_
  refine am_iload_n hB d_MO_isFrameAt_25 rfl rfl ?_
  refine ai_const hB d_MO_isFrameAt_26 ?_
  refine ai_add hB d_MO_isFrameAt_27 ?_
  refine ai_iald hB d_MO_isFrameAt_28 ty_1 M.out ?_
  refine ai_bipush hB d_MO_isFrameAt_29 (by decide) ?_
  show am_Z X 31 [.ref m, am_n k] [am_n 97, am_n (U.out_ (k + 1))] h 0 0
  refine ai_jne (tgt := 38) hB d_MO_isFrameAt_31 (by decide) (fun c3 => ?_) (fun c3 => ?_)
  · exact no (fun z => c3 z.2.2)
  refine ai_const hB d_MO_isFrameAt_34 ?_
  refine am_goto (tgt := 39) hB d_MO_isFrameAt_35 (by decide) ?_
  refine am_iret hB hR d_MO_isFrameAt_39 rfl (by decide) ?_ (Nat.zero_le _) (Nat.zero_le _)
  rw [decide_eq_true ⟨c1, by omega, c3⟩]
  exact ⟨rfl, rfl⟩
theorem m_MO_keepPrint {l : Launch} {G : am_G} {hA : am_H} {m : Nat} {U : mv} {xs : List Int} (M : am_mo hA m U) (ho : am_cok U.out_) (hs : U.outSize_ = xs.length) (hx : xs.length ≤ 1000) (hr : rl U.out_ xs) : am_M l G M_MO_keepPrint [.ref m] hA (fun r h' => r = some (am_n (kp true xs)) ∧ ∃ g, am_mo h' m (mv.s_printSize (mv.s_print U (g)) (xs.length)) ∧ rl g xs ∧ ko m 35 hA h') := by
  refine am_M.of (by decide) (Nat.le_of_ble_eq_true rfl) (fun X hB hR => ?_)
  show am_Z X 0 [.ref m, am_u, am_u, am_u] [] hA 0 0
  have loop : ∀ (d k : Nat) (z : Int) (v3 : Value) (g : Int → Int) (h1 : am_H), k + d = xs.length → (0 ≤ z ∧ z ≤ k) → kp true xs = z + kp (decide (k = 0 ∨ U.out_ ((k : Int) - 1) = 10)) (xs.drop k) → (∀ j : Nat, j < k → g j = xs.getD j 0) → am_mo h1 m (mv.s_print U (g)) → ko m 35 hA h1 → am_Z X 4 [.ref m, am_n z, am_n k, v3] [] h1 0 0 := by
    intro d
    induction d with
    | zero =>
      intro k z v3 g h1 hk hz hp hg M f
      refine am_iload_n hB d_MO_keepPrint_4 rfl rfl ?_
      refine am_aload_n hB d_MO_keepPrint_5 rfl rfl rfl ?_
      refine am_getf hB d_MO_keepPrint_6 F_MO_245_11 M.1 rfl ?_
      show am_Z X 9 [.ref m, am_n z, am_n k, v3] [am_n U.outSize_, am_n k] h1 0 0
      rw [hs]
      refine ai_jge (tgt := 73) hB d_MO_keepPrint_9 (by decide) (fun c1 => ?_) (fun c1 => ?_)
      rotate_left
      · omega
      refine am_aload_n hB d_MO_keepPrint_73 rfl rfl rfl ?_
      refine am_aload_n hB d_MO_keepPrint_74 rfl rfl rfl ?_
      refine am_getf hB d_MO_keepPrint_75 F_MO_245_11 M.1 rfl ?_
      show am_Z X 78 [.ref m, am_n z, am_n k, v3] [am_n U.outSize_, .ref m] h1 0 0
      rw [hs]
      refine mo_p_printSize hB d_MO_keepPrint_78 P_MO_344_11 M f (fun h M f => ?_)
      refine am_iload_n hB d_MO_keepPrint_81 rfl rfl ?_
      refine am_iret hB hR d_MO_keepPrint_82 rfl rfl ?_ (Nat.zero_le _) (Nat.zero_le _)
      rw [List.drop_eq_nil_of_le (by omega), kp, Int.add_zero] at hp
      rw [hp]
      exact ⟨rfl, g, M, fun j hj => hg j (by omega), f⟩
    | succ d ih =>
      intro k z v3 g h1 hk hz hp hg M f
      have hgk := ho k
      have hgk1 := ho ((k : Int) - 1)
      have hxk : U.out_ k = xs.getD k 0 := hr k (by omega)
      have hdr : xs.drop k = xs.getD k 0 :: xs.drop (k + 1) := by
        rw [List.drop_eq_getElem_cons (by omega), List.getD_eq_getElem?_getD, List.getElem?_eq_getElem (by omega)]
        rfl
      have hhd : (xs.drop (k + 1)).head? = some 97 ↔ (k : Int) + 1 < U.outSize_ ∧ U.out_ (k + 1) = 97 := by
        rw [List.head?_drop]
        constructor
        · intro e
          have hl : k + 1 < xs.length := by
            rcases Nat.lt_or_ge (k + 1) xs.length with w | w
            · exact w
            · rw [List.getElem?_eq_none w] at e
              cases e
          refine ⟨by omega, ?_⟩
          have := hr (k + 1) hl
          rw [List.getD_eq_getElem?_getD, e] at this
          rw [show (k : Int) + 1 = ((k + 1 : Nat) : Int) by omega]
          exact this
        · rintro ⟨e1, e2⟩
          have := hr (k + 1) (by omega)
          rw [show ((k + 1 : Nat) : Int) = (k : Int) + 1 by omega, e2, List.getD_eq_getElem?_getD, List.getElem?_eq_getElem (by omega)] at this
          rw [List.getElem?_eq_getElem (by omega)]
          exact congrArg some this.symm
      rw [hdr, kp, ← hxk] at hp
      simp only [hhd] at hp
      refine am_iload_n hB d_MO_keepPrint_4 rfl rfl ?_
      refine am_aload_n hB d_MO_keepPrint_5 rfl rfl rfl ?_
      refine am_getf hB d_MO_keepPrint_6 F_MO_245_11 M.1 rfl ?_
      show am_Z X 9 [.ref m, am_n z, am_n k, v3] [am_n U.outSize_, am_n k] h1 0 0
      rw [hs]
      refine ai_jge (tgt := 73) hB d_MO_keepPrint_9 (by decide) (fun c1 => ?_) (fun c1 => ?_)
      · omega
      refine am_aload_n hB d_MO_keepPrint_12 rfl rfl rfl ?_
      refine am_getf hB d_MO_keepPrint_13 F_MO_97_11 M.1 rfl ?_
      refine am_iload_n hB d_MO_keepPrint_16 rfl rfl ?_
      refine am_aload_n hB d_MO_keepPrint_17 rfl rfl rfl ?_
      refine am_getf hB d_MO_keepPrint_18 F_MO_94_11 M.1 rfl ?_
      refine am_iload_n hB d_MO_keepPrint_21 rfl rfl ?_
      refine ai_iald hB d_MO_keepPrint_22 ty_1 M.out ?_
      refine mo_s_print hB d_MO_keepPrint_23 M f (fun h M f => ?_)
      have M : am_mo h m (mv.s_print U (am_up g k (U.out_ k))) := M
      have hg' : ∀ j : Nat, j < k + 1 → am_up g k (U.out_ k) j = xs.getD j 0 := fun j hj => by
        by_cases e : j = k
        · subst e
          rw [am_up_eq, hxk]
        · rw [am_up_ne _ _ (by omega)]
          exact hg j (by omega)
      have j66 : ∀ (z' : Int) (b : Int), (0 ≤ z' ∧ z' ≤ k + 1) → kp true xs = z' + kp (decide (U.out_ k = 10)) (xs.drop (k + 1)) → am_Z X 66 [.ref m, am_n z, am_n k, am_n b] [am_n z'] h 0 0 := by
        intro z' b hz' hp'
        refine am_istore_n hB d_MO_keepPrint_66 rfl (by rw [hR.nL]; decide) rfl ?_
        refine ai_inc hB d_MO_keepPrint_67 rfl (by rw [hR.nL]; decide) rfl ?_
        refine am_goto (tgt := 4) hB d_MO_keepPrint_70 (by decide) (ih (k + 1) z' _ _ h (by omega) (by omega) ?_ hg' M f)
        rw [hp', show ((k + 1 : Nat) : Int) - 1 = k by omega]
        congr 2
        simp
      have j46 : ∀ b : Bool, b = decide (k = 0 ∨ U.out_ ((k : Int) - 1) = 10) → am_Z X 46 [.ref m, am_n z, am_n k, v3] [am_n (sp_i b)] h 0 0 := by
        intro b hb
        rw [← hb] at hp
        refine am_istore_n hB d_MO_keepPrint_46 rfl (by rw [hR.nL]; decide) rfl ?_
        refine am_iload_n hB d_MO_keepPrint_47 rfl rfl ?_
        cases b with
        | false =>
          show am_Z X 48 [.ref m, am_n z, am_n k, am_n 0] [am_n 0] h 0 0
          refine ai_zeq (tgt := 65) hB d_MO_keepPrint_48 (by decide) (fun d1 => ?_) (fun d1 => ?_)
          rotate_left
          · omega
          refine am_iload_n hB d_MO_keepPrint_65 rfl rfl ?_
          rw [if_neg (fun w => Bool.false_ne_true w.1), Int.zero_add] at hp
          exact j66 z 0 (by omega) hp
        | true =>
          show am_Z X 48 [.ref m, am_n z, am_n k, am_n 1] [am_n 1] h 0 0
          refine ai_zeq (tgt := 65) hB d_MO_keepPrint_48 (by decide) (fun d1 => ?_) (fun d1 => ?_)
          · omega
          refine am_aload_n hB d_MO_keepPrint_51 rfl rfl rfl ?_
          refine am_iload_n hB d_MO_keepPrint_52 rfl rfl ?_
          refine am_callV hB hR (as := [am_n k]) M.1 (m_MO_isFrameAt M ho ⟨by omega, by show (k : Int) < U.outSize_; omega⟩ (by show U.outSize_ ≤ 1000; omega)) c_MO_341 rfl rfl d_MO_keepPrint_53 ⟨by decide, Nat.le_of_ble_eq_true rfl⟩ ⟨by decide, by decide⟩ rfl rfl (fun rr h hp => ?_)
          obtain ⟨rfl, rfl⟩ := hp
          show am_Z X 56 [.ref m, am_n z, am_n k, am_n 1] [am_n (sp_i (decide (U.out_ k = 9 ∧ (k : Int) + 1 < U.outSize_ ∧ U.out_ (k + 1) = 97)))] h 0 0
          by_cases P : U.out_ k = 9 ∧ (k : Int) + 1 < U.outSize_ ∧ U.out_ (k + 1) = 97
          · rw [decide_eq_true P]
            show am_Z X 56 [.ref m, am_n z, am_n k, am_n 1] [am_n 1] h 0 0
            refine ai_zeq (tgt := 65) hB d_MO_keepPrint_56 (by decide) (fun d2 => ?_) (fun d2 => ?_)
            · omega
            refine am_iload_n hB d_MO_keepPrint_59 rfl rfl ?_
            refine ai_const hB d_MO_keepPrint_60 ?_
            refine ai_add hB d_MO_keepPrint_61 ?_
            refine am_goto (tgt := 66) hB d_MO_keepPrint_62 (by decide) ?_
            rw [if_pos ⟨rfl, P⟩] at hp
            exact j66 (z + 1) 1 (by omega) (by rw [hp]; omega)
          · rw [decide_eq_false P]
            show am_Z X 56 [.ref m, am_n z, am_n k, am_n 1] [am_n 0] h 0 0
            refine ai_zeq (tgt := 65) hB d_MO_keepPrint_56 (by decide) (fun d2 => ?_) (fun d2 => ?_)
            rotate_left
            · omega
            refine am_iload_n hB d_MO_keepPrint_65 rfl rfl ?_
            rw [if_neg (fun w => P w.2), Int.zero_add] at hp
            exact j66 z 1 (by omega) hp
      refine am_iload_n hB d_MO_keepPrint_24 rfl rfl ?_
      refine ai_zeq (tgt := 41) hB d_MO_keepPrint_25 (by decide) (fun c2 => ?_) (fun c2 => ?_)
      · refine ai_const hB d_MO_keepPrint_41 ?_
        refine am_goto (tgt := 46) hB d_MO_keepPrint_42 (by decide) ?_
        exact j46 true (decide_eq_true (Or.inl (by omega))).symm
      refine am_aload_n hB d_MO_keepPrint_28 rfl rfl rfl ?_
      refine am_getf hB d_MO_keepPrint_29 F_MO_94_11 M.1 rfl ?_
      refine am_iload_n hB d_MO_keepPrint_32 rfl rfl ?_
      refine ai_const hB d_MO_keepPrint_33 ?_
      refine ai_sub hB d_MO_keepPrint_34 ?_
      refine ai_iald hB d_MO_keepPrint_35 ty_1 M.out ?_
      refine ai_bipush hB d_MO_keepPrint_36 (by decide) ?_
      show am_Z X 38 [.ref m, am_n z, am_n k, v3] [am_n 10, am_n (U.out_ ((k : Int) - 1))] h 0 0
      refine ai_jne (tgt := 45) hB d_MO_keepPrint_38 (by decide) (fun c3 => ?_) (fun c3 => ?_)
      · refine ai_const hB d_MO_keepPrint_45 ?_
        exact j46 false (decide_eq_false (fun w => w.elim (by omega) c3)).symm
      refine ai_const hB d_MO_keepPrint_41 ?_
      refine am_goto (tgt := 46) hB d_MO_keepPrint_42 (by decide) ?_
      exact j46 true (decide_eq_true (Or.inr c3)).symm
  refine ai_const hB d_MO_keepPrint_0 ?_
  refine am_istore_n hB d_MO_keepPrint_1 rfl (by rw [hR.nL]; decide) rfl ?_
  refine ai_const hB d_MO_keepPrint_2 ?_
  refine am_istore_n hB d_MO_keepPrint_3 rfl (by rw [hR.nL]; decide) rfl ?_
  exact loop xs.length 0 0 _ U.print_ hA (by omega) (by omega) (by rw [decide_eq_true (Or.inl rfl), List.drop_zero, Int.zero_add]) (fun j hj => by omega) M ko.rf
theorem mo_rel.nm {U : mv} {V : dv} (R : mo_rel U V) : pm_nm V.S := by
  obtain ⟨kt, -, -, -, -, e⟩ := R.2.1
  exact pm_parse_nm e
theorem mo_rel.pr {U : mv} {V : dv} {g : Int → Int} {xs : List Int} {db : Int} (R : mo_rel U V) (h : rl g xs) : mo_rel (mv.s_printSize (mv.s_print (mv.s_doubtsKept U (db)) (g)) (xs.length)) (dv.s_db (dv.s_pr V (xs)) (db)) := by
  obtain ⟨a1, a2, a3, a4, a5, a6, a7, a8, a9⟩ := R
  exact ⟨a1, a2, a3, a4, a5, ⟨rfl, h⟩, ⟨rfl, a7.2⟩, a8, a9⟩
theorem m_MO_retrace {l : Launch} {G : am_G} {hA : am_H} {m : Nat} {U : mv} {V : dv} (M : am_mo hA m U) (R : mo_rel U V) (ok : V.ok) : am_M l G M_MO_retrace [.ref m] hA (fun rr h' => ∃ U', am_mo h' m U' ∧ ko m 35 hA h' ∧ (match pt_parse (cut V.dr) with
    | .inl row => rr = some (am_n 0) ∧ U'.code_ = 1 ∧ mo_rel U' (dv.s_wr (dv.s_dr V ([])) (row))
    | .inr T => if V.ld = false then rr = some (am_n 0) ∧ U'.code_ = 2 ∧ mo_rel U' (dv.s_dr V ([])) else (if (r_all V.S T T.1.length).length ≤ 1000 then rr = some (am_n (t_sum (r_fc V.S) T T.1.length)) ∧ U'.code_ = 0 ∧ mo_rel U' (dv.s_db (dv.s_pr (dv.s_dr V ([])) (r_all V.S T T.1.length)) (t_sum (r_dc V.S) T T.1.length)) else rr = some (am_n 0) ∧ U'.code_ = 2 ∧ mo_rel U' (dv.s_dr V ([]))))) := by
  have nS := R.nm
  refine am_M.of (by decide) (Nat.le_of_ble_eq_true rfl) (fun X hB hR => ?_)
  show am_Z X 0 [.ref m] [] hA 0 0
  refine am_aload_n hB d_MO_retrace_0 rfl rfl rfl ?_
  refine am_aload_n hB d_MO_retrace_1 rfl rfl rfl ?_
  refine ai_const hB d_MO_retrace_2 ?_
  show am_Z X 3 [.ref m] [am_n (sp_i true), .ref m, .ref m] hA 0 0
  refine am_callV hB hR (as := [am_n (sp_i true)]) M.1 (m_MO_rewrite (r := true) M R ok nS.fn nS.cx) c_MO_347 rfl rfl d_MO_retrace_3 ⟨by decide, Nat.le_of_ble_eq_true rfl⟩ ⟨by decide, by decide⟩ rfl rfl (fun rr h hp => ?_)
  obtain ⟨U1, M, f, -, hp⟩ := hp
  have bad : ∀ (c : Int) (V' : dv), 0 < c → c < 3 → rr = some (am_n c) → mo_rel U1 V' → (∀ (r : Option Value) (U' : mv), r = some (am_n 0) ∧ U'.code_ = c ∧ mo_rel U' V' → (match pt_parse (cut V.dr) with
    | .inl row => r = some (am_n 0) ∧ U'.code_ = 1 ∧ mo_rel U' (dv.s_wr (dv.s_dr V ([])) (row))
    | .inr T => if V.ld = false then r = some (am_n 0) ∧ U'.code_ = 2 ∧ mo_rel U' (dv.s_dr V ([])) else (if (r_all V.S T T.1.length).length ≤ 1000 then r = some (am_n (t_sum (r_fc V.S) T T.1.length)) ∧ U'.code_ = 0 ∧ mo_rel U' (dv.s_db (dv.s_pr (dv.s_dr V ([])) (r_all V.S T T.1.length)) (t_sum (r_dc V.S) T T.1.length)) else r = some (am_n 0) ∧ U'.code_ = 2 ∧ mo_rel U' (dv.s_dr V ([]))))) → am_Z X 6 [.ref m] (rr.toList ++ [.ref m]) h 0 0 := by
    intro c V' c0 c3 hc rR pst
    subst hc
    show am_Z X 6 [.ref m] [am_n c, .ref m] h 0 0
    refine mo_p_code hB d_MO_retrace_6 P_MO_113_11 M f (fun h M f => ?_)
    refine am_aload_n hB d_MO_retrace_9 rfl rfl rfl ?_
    refine am_getf hB d_MO_retrace_10 F_MO_113_11 M.1 rfl ?_
    show am_Z X 13 [.ref m] [am_n c] h 0 0
    refine ai_zle (tgt := 18) hB d_MO_retrace_13 (by decide) (fun c1 => ?_) (fun c1 => ?_)
    · omega
    refine ai_const hB d_MO_retrace_16 ?_
    refine am_iret hB hR d_MO_retrace_17 rfl rfl ?_ (Nat.zero_le _) (Nat.zero_le _)
    exact ⟨_, M, f, pst _ _ ⟨rfl, rfl, rR⟩⟩
  cases e : pt_parse (cut V.dr) with
  | inl row =>
    rw [e] at hp
    obtain ⟨rfl, rR⟩ := hp
    refine bad 1 _ (by omega) (by omega) rfl rR (fun r U' q => ?_)
    rw [e]
    exact q
  | inr T =>
    rw [e] at hp
    simp only at hp
    by_cases hld : V.ld = false
    · rw [if_pos hld] at hp
      obtain ⟨rfl, rR⟩ := hp
      refine bad 2 _ (by omega) (by omega) rfl rR (fun r U' q => ?_)
      rw [e]
      simp only
      rw [if_pos hld]
      exact q
    · rw [if_neg hld, if_pos trivial] at hp
      by_cases hl : (r_all V.S T T.1.length).length ≤ 1000
      · rw [if_pos hl] at hp
        obtain ⟨rfl, rR, w1, w2, w3, w4, w5⟩ := hp
        show am_Z X 6 [.ref m] [am_n 0, .ref m] h 0 0
        refine mo_p_code hB d_MO_retrace_6 P_MO_113_11 M f (fun h M f => ?_)
        refine am_aload_n hB d_MO_retrace_9 rfl rfl rfl ?_
        refine am_getf hB d_MO_retrace_10 F_MO_113_11 M.1 rfl ?_
        show am_Z X 13 [.ref m] [am_n 0] h 0 0
        refine ai_zle (tgt := 18) hB d_MO_retrace_13 (by decide) (fun c1 => ?_) (fun c1 => ?_)
        rotate_left
        · omega
        refine am_aload_n hB d_MO_retrace_18 rfl rfl rfl ?_
        refine am_aload_n hB d_MO_retrace_19 rfl rfl rfl ?_
        refine am_getf hB d_MO_retrace_20 F_MO_298_11 M.1 rfl ?_
        refine mo_p_doubtsKept hB d_MO_retrace_23 P_MO_351_11 M f (fun h M f => ?_)
        refine am_aload_n hB d_MO_retrace_26 rfl rfl rfl ?_
        refine am_callV hB hR (as := []) M.1 (m_MO_keepPrint M rR.2.2.2.2.2.2.2.2 w3 hl w4) c_MO_354 rfl rfl d_MO_retrace_27 ⟨by decide, Nat.le_of_ble_eq_true rfl⟩ ⟨by decide, by decide⟩ rfl rfl (fun rr h hp => ?_)
        obtain ⟨rfl, g, M, hg, f1⟩ := hp
        have f := f.tr f1
        refine am_iret hB hR d_MO_retrace_30 rfl rfl ?_ (Nat.zero_le _) (Nat.zero_le _)
        refine ⟨_, M, f, ?_⟩
        rw [e]
        simp only
        rw [if_neg hld, if_pos hl, kp_kw0 (r_all_kw nS (pt_parse_nm e)), ← w1]
        exact ⟨rfl, rfl, rR.pr hg⟩
      · rw [if_neg hl] at hp
        obtain ⟨rfl, rR⟩ := hp
        refine bad 2 _ (by omega) (by omega) rfl rR (fun r U' q => ?_)
        rw [e]
        simp only
        rw [if_neg hld, if_neg hl]
        exact q
theorem m_MO_shorten {l : Launch} {G : am_G} {hA : am_H} {m : Nat} {U : mv} {V : dv} (M : am_mo hA m U) (R : mo_rel U V) (ok : V.ok) : am_M l G M_MO_shorten [.ref m] hA (fun rr h' => ∃ U', am_mo h' m U' ∧ ko m 35 hA h' ∧ (match pt_parse (cut V.dr) with
    | .inl row => rr = some (am_n 0) ∧ U'.code_ = 1 ∧ mo_rel U' (dv.s_wr (dv.s_dr V ([])) (row))
    | .inr T => if V.ld = false then rr = some (am_n 0) ∧ U'.code_ = 2 ∧ mo_rel U' (dv.s_dr V ([])) else (if (s_all V.S T T.1.length).length ≤ 1000 then rr = some (am_n (s_ops V.S T T.1.length)) ∧ U'.code_ = 0 ∧ mo_rel U' (dv.s_pr (dv.s_dr V ([])) (s_all V.S T T.1.length)) else rr = some (am_n 0) ∧ U'.code_ = 2 ∧ mo_rel U' (dv.s_dr V ([]))))) := by
  have nS := R.nm
  refine am_M.of (by decide) (Nat.le_of_ble_eq_true rfl) (fun X hB hR => ?_)
  show am_Z X 0 [.ref m] [] hA 0 0
  refine am_aload_n hB d_MO_shorten_0 rfl rfl rfl ?_
  refine am_aload_n hB d_MO_shorten_1 rfl rfl rfl ?_
  refine ai_const hB d_MO_shorten_2 ?_
  show am_Z X 3 [.ref m] [am_n (sp_i false), .ref m, .ref m] hA 0 0
  refine am_callV hB hR (as := [am_n (sp_i false)]) M.1 (m_MO_rewrite (r := false) M R ok nS.fn nS.cx) c_MO_347 rfl rfl d_MO_shorten_3 ⟨by decide, Nat.le_of_ble_eq_true rfl⟩ ⟨by decide, by decide⟩ rfl rfl (fun rr h hp => ?_)
  obtain ⟨U1, M, f, -, hp⟩ := hp
  have bad : ∀ (c : Int) (V' : dv), 0 < c → c < 3 → rr = some (am_n c) → mo_rel U1 V' → (∀ (r : Option Value) (U' : mv), r = some (am_n 0) ∧ U'.code_ = c ∧ mo_rel U' V' → (match pt_parse (cut V.dr) with
    | .inl row => r = some (am_n 0) ∧ U'.code_ = 1 ∧ mo_rel U' (dv.s_wr (dv.s_dr V ([])) (row))
    | .inr T => if V.ld = false then r = some (am_n 0) ∧ U'.code_ = 2 ∧ mo_rel U' (dv.s_dr V ([])) else (if (s_all V.S T T.1.length).length ≤ 1000 then r = some (am_n (s_ops V.S T T.1.length)) ∧ U'.code_ = 0 ∧ mo_rel U' (dv.s_pr (dv.s_dr V ([])) (s_all V.S T T.1.length)) else r = some (am_n 0) ∧ U'.code_ = 2 ∧ mo_rel U' (dv.s_dr V ([]))))) → am_Z X 6 [.ref m] (rr.toList ++ [.ref m]) h 0 0 := by
    intro c V' c0 c3 hc rR pst
    subst hc
    show am_Z X 6 [.ref m] [am_n c, .ref m] h 0 0
    refine mo_p_code hB d_MO_shorten_6 P_MO_113_11 M f (fun h M f => ?_)
    refine am_aload_n hB d_MO_shorten_9 rfl rfl rfl ?_
    refine am_getf hB d_MO_shorten_10 F_MO_113_11 M.1 rfl ?_
    show am_Z X 13 [.ref m] [am_n c] h 0 0
    refine ai_zle (tgt := 20) hB d_MO_shorten_13 (by decide) (fun c1 => ?_) (fun c1 => ?_)
    · omega
    refine ai_const hB d_MO_shorten_16 ?_
    refine am_goto (tgt := 24) hB d_MO_shorten_17 (by decide) ?_
    refine am_iret hB hR d_MO_shorten_24 rfl rfl ?_ (Nat.zero_le _) (Nat.zero_le _)
    exact ⟨_, M, f, pst _ _ ⟨rfl, rfl, rR⟩⟩
  cases e : pt_parse (cut V.dr) with
  | inl row =>
    rw [e] at hp
    obtain ⟨rfl, rR⟩ := hp
    refine bad 1 _ (by omega) (by omega) rfl rR (fun r U' q => ?_)
    rw [e]
    exact q
  | inr T =>
    rw [e] at hp
    simp only at hp
    by_cases hld : V.ld = false
    · rw [if_pos hld] at hp
      obtain ⟨rfl, rR⟩ := hp
      refine bad 2 _ (by omega) (by omega) rfl rR (fun r U' q => ?_)
      rw [e]
      simp only
      rw [if_pos hld]
      exact q
    · rw [if_neg hld, if_neg (by decide)] at hp
      by_cases hl : (s_all V.S T T.1.length).length ≤ 1000
      · rw [if_pos hl] at hp
        obtain ⟨rfl, dc, rR, w1, w2, w3, w4, w5⟩ := hp
        show am_Z X 6 [.ref m] [am_n 0, .ref m] h 0 0
        refine mo_p_code hB d_MO_shorten_6 P_MO_113_11 M f (fun h M f => ?_)
        refine am_aload_n hB d_MO_shorten_9 rfl rfl rfl ?_
        refine am_getf hB d_MO_shorten_10 F_MO_113_11 M.1 rfl ?_
        show am_Z X 13 [.ref m] [am_n 0] h 0 0
        refine ai_zle (tgt := 20) hB d_MO_shorten_13 (by decide) (fun c1 => ?_) (fun c1 => ?_)
        rotate_left
        · omega
        refine am_aload_n hB d_MO_shorten_20 rfl rfl rfl ?_
        refine am_callV hB hR (as := []) M.1 (m_MO_keepPrint M rR.2.2.2.2.2.2.2.2 w3 hl w4) c_MO_354 rfl rfl d_MO_shorten_21 ⟨by decide, Nat.le_of_ble_eq_true rfl⟩ ⟨by decide, by decide⟩ rfl rfl (fun rr h hp => ?_)
        obtain ⟨rfl, g, M, hg, f1⟩ := hp
        have f := f.tr f1
        refine am_iret hB hR d_MO_shorten_24 rfl rfl ?_ (Nat.zero_le _) (Nat.zero_le _)
        refine ⟨_, M, f, ?_⟩
        rw [e]
        simp only
        rw [if_neg hld, if_pos hl, kp_kw0 (s_all_kw nS (pt_parse_nm e))]
        obtain ⟨a1, a2, a3, a4, a5, a6, a7, a8, a9⟩ := rR
        exact ⟨rfl, rfl, a1, a2, a3, a4, a5, ⟨rfl, hg⟩, a7, a8, a9⟩
      · rw [if_neg hl] at hp
        obtain ⟨rfl, rR⟩ := hp
        refine bad 2 _ (by omega) (by omega) rfl rR (fun r U' q => ?_)
        rw [e]
        simp only
        rw [if_neg hld, if_neg hl]
        exact q
