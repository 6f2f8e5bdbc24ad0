/-! the model shortens: fits -/
theorem m_MO_calls {l : Launch} {G : am_G} {h : am_H} {m : Nat} {U : mv} {k j : Nat} {L : List pm_L} {x : pm_L} {ff : pt_F} (M : am_mo h m U) (hg : am_cok U.all_) (hk : k < 32) (hj : j < 32) (lf : mo_ln U k (.inr (.inl ff))) (lx : mo_L U L j x) : am_M l G M_MO_calls [.ref m, am_n k, am_n j] h (am_is (am_n (sp_i (decide (ff.1.1 = x.1.1) && decide (ff.1.2.1 = x.1.2.1)))) h) := by
  obtain ⟨-, rg, -, t1, t2, -⟩ := lf
  obtain ⟨⟨r1, r2, -⟩, ⟨n1, n2, -⟩, -⟩ := lx
  refine am_M.of (by decide) (Nat.le_of_ble_eq_true rfl) (fun X hB hR => ?_)
  show am_Z X 0 [.ref m, am_n k, am_n j] [] h 0 0
  have no : (decide (ff.1.1 = x.1.1) && decide (ff.1.2.1 = x.1.2.1)) = false → am_Z X 68 [.ref m, am_n k, am_n j] [] h 0 0 := by
    intro hz
    refine ai_const hB d_MO_calls_68 ?_
    refine am_iret hB hR d_MO_calls_69 rfl (by decide) ?_ (Nat.zero_le _) (Nat.zero_le _)
    rw [hz]
    exact ⟨rfl, rfl⟩
  refine am_aload_n hB d_MO_calls_0 rfl rfl rfl ?_
  refine am_aload_n hB d_MO_calls_1 rfl rfl rfl ?_
  refine am_getf hB d_MO_calls_2 F_MO_76_11 M.1 rfl ?_
  refine am_iload_n hB d_MO_calls_5 rfl rfl ?_
  refine ai_iald hB d_MO_calls_6 ty_1 M.nameFrom ?_
  refine am_aload_n hB d_MO_calls_7 rfl rfl rfl ?_
  refine am_getf hB d_MO_calls_8 F_MO_82_11 M.1 rfl ?_
  refine am_iload_n hB d_MO_calls_11 rfl rfl ?_
  refine ai_iald hB d_MO_calls_12 ty_1 M.methodFrom ?_
  refine ai_const hB d_MO_calls_13 ?_
  refine ai_sub hB d_MO_calls_14 ?_
  refine am_aload_n hB d_MO_calls_15 rfl rfl rfl ?_
  refine am_getf hB d_MO_calls_16 F_MO_31_11 M.1 rfl ?_
  refine am_iload_n hB d_MO_calls_19 rfl rfl ?_
  refine ai_iald hB d_MO_calls_20 ty_1 M.ownFrom ?_
  refine am_aload_n hB d_MO_calls_21 rfl rfl rfl ?_
  refine am_getf hB d_MO_calls_22 F_MO_34_11 M.1 rfl ?_
  refine am_iload_n hB d_MO_calls_25 rfl rfl ?_
  refine ai_iald hB d_MO_calls_26 ty_1 M.ownTo ?_
  refine am_callV hB hR (as := [am_n (U.nameFrom_ k), am_n (U.methodFrom_ k - 1), am_n (U.ownFrom_ j), am_n (U.ownTo_ j)]) M.1 (m_MO_same M hg (by omega) (by omega) (by omega) r1.1 r1.2.1 (by omega)) c_MO_154 rfl rfl d_MO_calls_27 ⟨by decide, Nat.le_of_ble_eq_true rfl⟩ ⟨by decide, by decide⟩ rfl rfl (fun rr h hp => ?_)
  obtain ⟨rfl, rfl⟩ := hp
  show am_Z X 30 [.ref m, am_n k, am_n j] [am_n (sp_i (sp_eq U.all_ (U.nameFrom_ k) (U.methodFrom_ k - 1) U.all_ (U.ownFrom_ j) (U.ownTo_ j)))] h 0 0
  rw [sp_eq_nm (by omega) r1.2.1, t1, n1]
  by_cases z : ff.1.1 = x.1.1
  rotate_left
  · rw [decide_eq_false z]
    show am_Z X 30 [.ref m, am_n k, am_n j] [am_n 0] h 0 0
    refine ai_zeq (tgt := 68) hB d_MO_calls_30 (by decide) (fun c1 => ?_) (fun c1 => ?_)
    · exact no (by rw [decide_eq_false z]; rfl)
    · omega
  rw [decide_eq_true z]
  show am_Z X 30 [.ref m, am_n k, am_n j] [am_n 1] h 0 0
  refine ai_zeq (tgt := 68) hB d_MO_calls_30 (by decide) (fun c1 => ?_) (fun c1 => ?_)
  · omega
  refine am_aload_n hB d_MO_calls_33 rfl rfl rfl ?_
  refine am_aload_n hB d_MO_calls_34 rfl rfl rfl ?_
  refine am_getf hB d_MO_calls_35 F_MO_82_11 M.1 rfl ?_
  refine am_iload_n hB d_MO_calls_38 rfl rfl ?_
  refine ai_iald hB d_MO_calls_39 ty_1 M.methodFrom ?_
  refine am_aload_n hB d_MO_calls_40 rfl rfl rfl ?_
  refine am_getf hB d_MO_calls_41 F_MO_79_11 M.1 rfl ?_
  refine am_iload_n hB d_MO_calls_44 rfl rfl ?_
  refine ai_iald hB d_MO_calls_45 ty_1 M.nameTo ?_
  refine am_aload_n hB d_MO_calls_46 rfl rfl rfl ?_
  refine am_getf hB d_MO_calls_47 F_MO_37_11 M.1 rfl ?_
  refine am_iload_n hB d_MO_calls_50 rfl rfl ?_
  refine ai_iald hB d_MO_calls_51 ty_1 M.callFrom ?_
  refine am_aload_n hB d_MO_calls_52 rfl rfl rfl ?_
  refine am_getf hB d_MO_calls_53 F_MO_40_11 M.1 rfl ?_
  refine am_iload_n hB d_MO_calls_56 rfl rfl ?_
  refine ai_iald hB d_MO_calls_57 ty_1 M.callTo ?_
  refine am_callV hB hR (as := [am_n (U.methodFrom_ k), am_n (U.nameTo_ k), am_n (U.callFrom_ j), am_n (U.callTo_ j)]) M.1 (m_MO_same M hg (by omega) (by omega) (by omega) r2.1 r2.2.1 (by omega)) c_MO_154 rfl rfl d_MO_calls_58 ⟨by decide, Nat.le_of_ble_eq_true rfl⟩ ⟨by decide, by decide⟩ rfl rfl (fun rr h hp => ?_)
  obtain ⟨rfl, rfl⟩ := hp
  show am_Z X 61 [.ref m, am_n k, am_n j] [am_n (sp_i (sp_eq U.all_ (U.methodFrom_ k) (U.nameTo_ k) U.all_ (U.callFrom_ j) (U.callTo_ j)))] h 0 0
  rw [sp_eq_nm (by omega) r2.2.1, t2, n2]
  by_cases z2 : ff.1.2.1 = x.1.2.1
  · rw [decide_eq_true z2]
    show am_Z X 61 [.ref m, am_n k, am_n j] [am_n 1] h 0 0
    refine ai_zeq (tgt := 68) hB d_MO_calls_61 (by decide) (fun c2 => ?_) (fun c2 => ?_)
    · omega
    refine ai_const hB d_MO_calls_64 ?_
    refine am_goto (tgt := 69) hB d_MO_calls_65 (by decide) ?_
    refine am_iret hB hR d_MO_calls_69 rfl (by decide) ?_ (Nat.zero_le _) (Nat.zero_le _)
    rw [decide_eq_true z, decide_eq_true z2]
    exact ⟨rfl, rfl⟩
  · rw [decide_eq_false z2]
    show am_Z X 61 [.ref m, am_n k, am_n j] [am_n 0] h 0 0
    refine ai_zeq (tgt := 68) hB d_MO_calls_61 (by decide) (fun c2 => ?_) (fun c2 => ?_)
    · exact no (by rw [decide_eq_false z2, Bool.and_false])
    · omega
def fr_run : List ln_T → List pt_F
  | [] => []
  | .inl _ :: _ => []
  | .inr (.inl f) :: r => f :: fr_run r
  | .inr (.inr _) :: _ => []
theorem m_MO_fit {l : Launch} {G : am_G} {h : am_H} {m : Nat} {U : mv} {Sm : pm_S} {L : List ln_T} {i k : Nat} {x : pm_L} (M : am_mo h m U) (hg : am_cok U.all_) (mp : mo_map U Sm) (ok : pm_ok Sm) (tc : mo_trc U L) (hL : L.length ≤ 32) (hx : Sm.2[i]? = some x) (hl : x.2.2.2 = true) (hkL : k ≤ L.length) : am_M l G M_MO_fit [.ref m, am_n (pm_ld Sm.2 i), am_n k] h (am_is (am_n (sf_fit Sm (fr_run (L.drop k)) i)) h) := by
  have hi := am_lt hx
  have m4 := mp.2.2.2.1
  have ei := pf_end_le (S := Sm) hi
  have hgl := pf_grp_len (S := Sm) hi
  obtain ⟨-, -, ⟨y3, y4, -, -⟩, -, -, y6⟩ := mp.2.2.2.2.2.2 i x hx
  obtain ⟨-, z2, -, -, -⟩ := y6
  refine am_M.of (by decide) (Nat.le_of_ble_eq_true rfl) (fun X hB hR => ?_)
  show am_Z X 0 [.ref m, am_n (pm_ld Sm.2 i), am_n k, am_u, am_u, am_u, am_u, am_u] [] h 0 0
  refine ai_const hB d_MO_fit_0 ?_
  refine am_istore_n hB d_MO_fit_1 rfl (by rw [hR.nL]; decide) rfl ?_
  refine am_iload_n hB d_MO_fit_2 rfl rfl ?_
  refine am_istore hB d_MO_fit_3 (by rw [hR.nL]; decide) rfl ?_
  refine am_aload_n hB d_MO_fit_5 rfl rfl rfl ?_
  refine am_iload_n hB d_MO_fit_6 rfl rfl ?_
  refine am_callV hB hR (as := [am_n (pm_ld Sm.2 i)]) M.1 (m_MO_lineOf M mp hx hl) c_MO_269 rfl rfl d_MO_fit_7 ⟨by decide, Nat.le_of_ble_eq_true rfl⟩ ⟨by decide, by decide⟩ rfl rfl (fun rr h hp => ?_)
  obtain ⟨rfl, rfl⟩ := hp
  show am_Z X 10 [.ref m, am_n (pm_ld Sm.2 i), am_n k, am_n (-1), am_n k, am_u, am_u, am_u] [am_n i] h 0 0
  refine am_istore hB d_MO_fit_10 (by rw [hR.nL]; decide) rfl ?_
  refine am_aload_n hB d_MO_fit_12 rfl rfl rfl ?_
  refine am_iload_n hB d_MO_fit_13 rfl rfl ?_
  refine am_callV hB hR (as := [am_n (pm_ld Sm.2 i)]) M.1 (m_MO_lastOf M mp hx hl) c_MO_272 rfl rfl d_MO_fit_14 ⟨by decide, Nat.le_of_ble_eq_true rfl⟩ ⟨by decide, by decide⟩ rfl rfl (fun rr h hp => ?_)
  obtain ⟨rfl, rfl⟩ := hp
  show am_Z X 17 [.ref m, am_n (pm_ld Sm.2 i), am_n k, am_n (-1), am_n k, am_n i, am_u, am_u] [am_n ((pf_end Sm i : Int) - 1)] h 0 0
  refine am_istore hB d_MO_fit_17 (by rw [hR.nL]; decide) rfl ?_
  refine am_aload_n hB d_MO_fit_19 rfl rfl rfl ?_
  refine am_getf hB d_MO_fit_20 F_MO_49_11 M.1 rfl ?_
  refine am_iload hB d_MO_fit_23 rfl ?_
  refine ai_iald hB d_MO_fit_25 ty_1 M.low ?_
  rw [y3]
  have hfit : x.2.1.1 ≠ -1 → sf_fit Sm (fr_run (L.drop k)) i = sf_off (pf_grp Sm i) (fr_run (L.drop k)) (-1) := fun hz => by
    unfold sf_fit
    rw [pm_ln_eq hx, if_neg hz]
  refine ai_zge (tgt := 31) hB d_MO_fit_26 (by decide) (fun c0 => ?_) (fun c0 => ?_)
  rotate_left
  · refine ai_const hB d_MO_fit_29 ?_
    refine am_iret hB hR d_MO_fit_30 rfl rfl ?_ (Nat.zero_le _) (Nat.zero_le _)
    have : sf_fit Sm (fr_run (L.drop k)) i = -1 := by
      unfold sf_fit
      rw [pm_ln_eq hx, if_pos (by omega)]
    rw [this]
    exact ⟨rfl, rfl⟩
  have hf := hfit (by omega)
  have loop : ∀ (d j p : Nat) (of : Int), i ≤ j → j + d = pf_end Sm i → p = k + (j - i) → p ≤ L.length + 32 → (-1 ≤ of ∧ of < 100000) → sf_fit Sm (fr_run (L.drop k)) i = sf_off ((pf_grp Sm i).drop (j - i)) (fr_run (L.drop p)) of → am_Z X 35 [.ref m, am_n (pm_ld Sm.2 i), am_n k, am_n of, am_n p, am_n i, am_n ((pf_end Sm i : Int) - 1), am_n j] [] h 0 0 := by
    intro d
    induction d with
    | zero =>
      intro j p of j1 hd hp hp2 ho hs
      rw [show (pf_grp Sm i).drop (j - i) = [] from List.drop_eq_nil_of_le (by omega), sf_off] at hs
      refine am_iload hB d_MO_fit_35 rfl ?_
      refine am_iload hB d_MO_fit_37 rfl ?_
      refine ai_jgt (tgt := 176) hB d_MO_fit_39 (by decide) (fun c1 => ?_) (fun c1 => ?_)
      rotate_left
      · omega
      refine am_iload_n hB d_MO_fit_176 rfl rfl ?_
      by_cases z : of = -1
      · rw [if_pos z] at hs
        refine ai_zge (tgt := 184) hB d_MO_fit_177 (by decide) (fun c2 => ?_) (fun c2 => ?_)
        · omega
        refine ai_const hB d_MO_fit_180 ?_
        refine am_goto (tgt := 185) hB d_MO_fit_181 (by decide) ?_
        refine am_iret hB hR d_MO_fit_185 rfl rfl ?_ (Nat.zero_le _) (Nat.zero_le _)
        rw [hs]
        exact ⟨rfl, rfl⟩
      · rw [if_neg z] at hs
        refine ai_zge (tgt := 184) hB d_MO_fit_177 (by decide) (fun c2 => ?_) (fun c2 => ?_)
        rotate_left
        · omega
        refine am_iload_n hB d_MO_fit_184 rfl rfl ?_
        refine am_iret hB hR d_MO_fit_185 rfl rfl ?_ (Nat.zero_le _) (Nat.zero_le _)
        rw [hs]
        exact ⟨rfl, rfl⟩
    | succ d ih =>
      intro j p of j1 hd hp hp2 ho hs
      have hjl : j - i < (pf_grp Sm i).length := by omega
      have hj : Sm.2[j]? = some (pf_grp Sm i)[j - i] := by
        have e1 := pf_grp_get (S := Sm) (a := i) (i := j - i) (by omega)
        rw [show i + (j - i) = j by omega] at e1
        rw [← e1]
        exact List.getElem?_eq_getElem hjl
      rw [List.drop_eq_getElem_cons hjl] at hs
      have hjm := am_lt hj
      have mL := mp.2.2.2.2.2.2 j _ hj
      generalize (pf_grp Sm i)[j - i] = y at hj hs mL
      have mL0 := mL
      obtain ⟨-, -, ⟨g1, g2, g3, g4⟩, -, -, g6⟩ := mL
      obtain ⟨-, -, -, q3, q4⟩ := g6
      have no : sf_fit Sm (fr_run (L.drop k)) i = -1 → ∀ pc, pc = 107 → am_Z X pc [.ref m, am_n (pm_ld Sm.2 i), am_n k, am_n of, am_n p, am_n i, am_n ((pf_end Sm i : Int) - 1), am_n j] [] h 0 0 := by
        intro hz pc hpc
        subst hpc
        refine ai_const hB d_MO_fit_107 ?_
        refine am_iret hB hR d_MO_fit_108 rfl rfl ?_ (Nat.zero_le _) (Nat.zero_le _)
        rw [hz]
        exact ⟨rfl, rfl⟩
      refine am_iload hB d_MO_fit_35 rfl ?_
      refine am_iload hB d_MO_fit_37 rfl ?_
      refine ai_jgt (tgt := 176) hB d_MO_fit_39 (by decide) (fun c1 => ?_) (fun c1 => ?_)
      · omega
      refine am_iload hB d_MO_fit_42 rfl ?_
      refine am_aload_n hB d_MO_fit_44 rfl rfl rfl ?_
      refine am_getf hB d_MO_fit_45 F_MO_203_11 M.1 rfl ?_
      rw [tc.1]
      by_cases hpl : p < L.length
      rotate_left
      · rw [show L.drop p = [] from List.drop_eq_nil_of_le (by omega)] at hs
        refine ai_jge (tgt := 107) hB d_MO_fit_48 (by decide) (fun c2 => ?_) (fun c2 => ?_)
        · exact no hs 107 rfl
        · omega
      refine ai_jge (tgt := 107) hB d_MO_fit_48 (by decide) (fun c2 => ?_) (fun c2 => ?_)
      · omega
      have hq := List.getElem?_eq_getElem hpl
      rw [List.drop_eq_getElem_cons hpl] at hs
      have lq := tc.2 p _ hq
      generalize L[p]'hpl = w at hq lq hs
      refine am_aload_n hB d_MO_fit_51 rfl rfl rfl ?_
      refine am_getf hB d_MO_fit_52 F_MO_67_11 M.1 rfl ?_
      refine am_iload hB d_MO_fit_55 rfl ?_
      refine ai_iald hB d_MO_fit_57 ty_1 M.kind ?_
      rcases w with ⟨i2, hd1⟩ | ff | z
      · obtain ⟨k1, -⟩ := lq
        have kin : 0 ≤ U.kind_ p ∧ U.kind_ p < 2 := by
          rw [k1]
          split <;> omega
        refine ai_const hB d_MO_fit_58 ?_
        refine ai_jne (tgt := 107) hB d_MO_fit_59 (by decide) (fun c3 => ?_) (fun c3 => ?_)
        · exact no hs 107 rfl
        · omega
      rotate_left
      · obtain ⟨k1, -⟩ := lq
        rw [k1]
        refine ai_const hB d_MO_fit_58 ?_
        refine ai_jne (tgt := 107) hB d_MO_fit_59 (by decide) (fun c3 => ?_) (fun c3 => ?_)
        · exact no hs 107 rfl
        · omega
      have lq0 := lq
      obtain ⟨k1, -, -, -, -, -, -, t5, t6⟩ := lq
      rw [k1]
      refine ai_const hB d_MO_fit_58 ?_
      refine ai_jne (tgt := 107) hB d_MO_fit_59 (by decide) (fun c3 => ?_) (fun c3 => ?_)
      · omega
      refine am_aload_n hB d_MO_fit_62 rfl rfl rfl ?_
      refine am_iload hB d_MO_fit_63 rfl ?_
      refine am_iload hB d_MO_fit_65 rfl ?_
      have hs : sf_fit Sm (fr_run (L.drop k)) i = sf_off (y :: (pf_grp Sm i).drop (j - i + 1)) (ff :: fr_run (L.drop (p + 1))) of := hs
      rw [sf_off] at hs
      refine am_callV hB hR (as := [am_n p, am_n j]) M.1 (m_MO_calls M hg (by omega) (by omega) lq0 mL0) c_MO_314 rfl rfl d_MO_fit_67 ⟨by decide, Nat.le_of_ble_eq_true rfl⟩ ⟨by decide, by decide⟩ rfl rfl (fun rr h hp => ?_)
      obtain ⟨rfl, rfl⟩ := hp
      show am_Z X 70 [.ref m, am_n (pm_ld Sm.2 i), am_n k, am_n of, am_n p, am_n i, am_n ((pf_end Sm i : Int) - 1), am_n j] [am_n (sp_i (decide (ff.1.1 = y.1.1) && decide (ff.1.2.1 = y.1.2.1)))] h 0 0
      by_cases hcall : ff.1.1 = y.1.1 ∧ ff.1.2.1 = y.1.2.1
      rotate_left
      · rw [if_pos (Or.inr (Or.inr (fun w => hcall ⟨w.1.symm, w.2.symm⟩)))] at hs
        rw [← Bool.decide_and, decide_eq_false hcall]
        show am_Z X 70 [.ref m, am_n (pm_ld Sm.2 i), am_n k, am_n of, am_n p, am_n i, am_n ((pf_end Sm i : Int) - 1), am_n j] [am_n 0] h 0 0
        refine ai_zeq (tgt := 107) hB d_MO_fit_70 (by decide) (fun c4 => ?_) (fun c4 => ?_)
        · exact no hs 107 rfl
        · omega
      rw [← Bool.decide_and, decide_eq_true hcall]
      show am_Z X 70 [.ref m, am_n (pm_ld Sm.2 i), am_n k, am_n of, am_n p, am_n i, am_n ((pf_end Sm i : Int) - 1), am_n j] [am_n 1] h 0 0
      refine ai_zeq (tgt := 107) hB d_MO_fit_70 (by decide) (fun c4 => ?_) (fun c4 => ?_)
      · omega
      refine am_aload_n hB d_MO_fit_73 rfl rfl rfl ?_
      refine am_getf hB d_MO_fit_74 F_MO_91_11 M.1 rfl ?_
      refine am_iload hB d_MO_fit_77 rfl ?_
      refine ai_iald hB d_MO_fit_79 ty_1 M.number ?_
      refine am_aload_n hB d_MO_fit_80 rfl rfl rfl ?_
      refine am_getf hB d_MO_fit_81 F_MO_55_11 M.1 rfl ?_
      refine am_iload hB d_MO_fit_84 rfl ?_
      refine ai_iald hB d_MO_fit_86 ty_1 M.first ?_
      rw [t5, g3]
      refine ai_jlt (tgt := 107) hB d_MO_fit_87 (by decide) (fun c5 => ?_) (fun c5 => ?_)
      · rw [if_pos (Or.inl c5)] at hs
        exact no hs 107 rfl
      refine am_aload_n hB d_MO_fit_90 rfl rfl rfl ?_
      refine am_getf hB d_MO_fit_91 F_MO_91_11 M.1 rfl ?_
      refine am_iload hB d_MO_fit_94 rfl ?_
      refine ai_iald hB d_MO_fit_96 ty_1 M.number ?_
      refine am_aload_n hB d_MO_fit_97 rfl rfl rfl ?_
      refine am_getf hB d_MO_fit_98 F_MO_58_11 M.1 rfl ?_
      refine am_iload hB d_MO_fit_101 rfl ?_
      refine ai_iald hB d_MO_fit_103 ty_1 M.last ?_
      rw [t5, g4]
      refine ai_jle (tgt := 109) hB d_MO_fit_104 (by decide) (fun c6 => ?_) (fun c6 => ?_)
      rotate_left
      · rw [if_pos (Or.inr (Or.inl c6))] at hs
        exact no hs 107 rfl
      rw [if_neg (by rintro (w | w | w); · omega
                     · omega
                     · exact w ⟨hcall.1.symm, hcall.2.symm⟩)] at hs
      have nx : ∀ of2 : Int, (-1 ≤ of2 ∧ of2 < 100000) → sf_fit Sm (fr_run (L.drop k)) i = sf_off ((pf_grp Sm i).drop (j - i + 1)) (fr_run (L.drop (p + 1))) of2 → am_Z X 167 [.ref m, am_n (pm_ld Sm.2 i), am_n k, am_n of2, am_n p, am_n i, am_n ((pf_end Sm i : Int) - 1), am_n j] [] h 0 0 := by
        intro of2 ho2 hs2
        refine ai_inc hB d_MO_fit_167 rfl (by rw [hR.nL]; decide) rfl ?_
        refine ai_inc hB d_MO_fit_170 rfl (by rw [hR.nL]; decide) rfl ?_
        exact am_goto (tgt := 35) hB d_MO_fit_173 (by decide) (ih (j + 1) (p + 1) of2 (by omega) (by omega) (by omega) (by omega) ho2 (by rw [hs2, show j + 1 - i = j - i + 1 by omega]))
      refine am_aload_n hB d_MO_fit_109 rfl rfl rfl ?_
      refine am_getf hB d_MO_fit_110 F_MO_55_11 M.1 rfl ?_
      refine am_iload hB d_MO_fit_113 rfl ?_
      refine ai_iald hB d_MO_fit_115 ty_1 M.first ?_
      refine am_aload_n hB d_MO_fit_116 rfl rfl rfl ?_
      refine am_getf hB d_MO_fit_117 F_MO_58_11 M.1 rfl ?_
      refine am_iload hB d_MO_fit_120 rfl ?_
      refine ai_iald hB d_MO_fit_122 ty_1 M.last ?_
      rw [g3, g4]
      refine ai_jeq (tgt := 167) hB d_MO_fit_123 (by decide) (fun c7 => ?_) (fun c7 => ?_)
      · rw [if_pos c7] at hs
        exact nx of ho hs
      rw [if_neg c7] at hs
      have st : (of = -1 ∨ of = ff.2.2 - y.2.1.2.2.1) → am_Z X 151 [.ref m, am_n (pm_ld Sm.2 i), am_n k, am_n of, am_n p, am_n i, am_n ((pf_end Sm i : Int) - 1), am_n j] [] h 0 0 := by
        intro hz
        rw [if_neg (by rcases hz with w | w; · exact fun q => q.1 w
                       · exact fun q => q.2 w)] at hs
        refine am_aload_n hB d_MO_fit_151 rfl rfl rfl ?_
        refine am_getf hB d_MO_fit_152 F_MO_91_11 M.1 rfl ?_
        refine am_iload hB d_MO_fit_155 rfl ?_
        refine ai_iald hB d_MO_fit_157 ty_1 M.number ?_
        refine am_aload_n hB d_MO_fit_158 rfl rfl rfl ?_
        refine am_getf hB d_MO_fit_159 F_MO_55_11 M.1 rfl ?_
        refine am_iload hB d_MO_fit_162 rfl ?_
        refine ai_iald hB d_MO_fit_164 ty_1 M.first ?_
        rw [t5, g3]
        refine ai_sub hB d_MO_fit_165 ?_
        refine am_istore_n hB d_MO_fit_166 rfl (by rw [hR.nL]; decide) rfl ?_
        exact nx _ (by omega) hs
      refine am_iload_n hB d_MO_fit_126 rfl rfl ?_
      refine ai_zlt (tgt := 151) hB d_MO_fit_127 (by decide) (fun c8 => ?_) (fun c8 => ?_)
      · exact st (Or.inl (by omega))
      refine am_aload_n hB d_MO_fit_130 rfl rfl rfl ?_
      refine am_getf hB d_MO_fit_131 F_MO_91_11 M.1 rfl ?_
      refine am_iload hB d_MO_fit_134 rfl ?_
      refine ai_iald hB d_MO_fit_136 ty_1 M.number ?_
      refine am_aload_n hB d_MO_fit_137 rfl rfl rfl ?_
      refine am_getf hB d_MO_fit_138 F_MO_55_11 M.1 rfl ?_
      refine am_iload hB d_MO_fit_141 rfl ?_
      refine ai_iald hB d_MO_fit_143 ty_1 M.first ?_
      rw [t5, g3]
      refine ai_sub hB d_MO_fit_144 ?_
      refine am_iload_n hB d_MO_fit_145 rfl rfl ?_
      refine ai_jeq (tgt := 151) hB d_MO_fit_146 (by decide) (fun c9 => ?_) (fun c9 => ?_)
      · exact st (Or.inr c9.symm)
      · refine ai_const hB d_MO_fit_149 ?_
        refine am_iret hB hR d_MO_fit_150 rfl rfl ?_ (Nat.zero_le _) (Nat.zero_le _)
        rw [hs, if_pos ⟨by omega, fun w => c9 w.symm⟩]
        exact ⟨rfl, rfl⟩
  refine am_iload hB d_MO_fit_31 rfl ?_
  refine am_istore hB d_MO_fit_33 (by rw [hR.nL]; decide) rfl ?_
  exact loop (pf_end Sm i - i) i k (-1) (Nat.le_refl i) (by omega) (by omega) (by omega) (by omega) (by rw [Nat.sub_self]; exact hf)
theorem m_MO_emitShort {l : Launch} {G : am_G} {hA : am_H} {m : Nat} {U : mv} {xs : List Int} {dc a b : Int} {p : Nat} {C : pm_C} (S : mo_S hA m U xs dc) (hg : am_cok U.all_) (hp8 : p < 8) (cC : mo_C U p C) (h0 : 0 ≤ a) (hab : a ≤ b) (h2 : b ≤ 1200) : am_M l G M_MO_emitShort [.ref m, am_n p, am_n a, am_n b] hA (mo_X hA m U (xs ++ w_open C.2 (nm U.all_ a b)) dc) := by
  have w5 : wbs 157381664 4 = sp_wd 5 := by decide
  obtain ⟨-, r2, -, n2⟩ := cC
  obtain ⟨o, s, v, M, q⟩ := id S
  refine am_M.of (by decide) (Nat.le_of_ble_eq_true rfl) (fun X hB hR => ?_)
  show am_Z X 0 [.ref m, am_n p, am_n a, am_n b] [] hA 0 0
  refine am_aload_n hB d_MO_emitShort_0 rfl rfl rfl ?_
  refine am_ldc2 hB d_MO_emitShort_1 J_MO_223 ?_
  refine ai_const hB d_MO_emitShort_4 ?_
  refine am_callV hB hR (as := [.long 157381664, am_n (4 : Nat)]) M.1 (m_MO_emitWord S (by omega)) c_MO_261 rfl rfl d_MO_emitShort_5 ⟨by decide, Nat.le_of_ble_eq_true rfl⟩ ⟨by decide, by decide⟩ rfl rfl (fun rr h hp => ?_)
  obtain ⟨rfl, S, f1⟩ := hp
  obtain ⟨o, s, v, M, q⟩ := id S
  show am_Z X 8 [.ref m, am_n p, am_n a, am_n b] [] h 0 0
  refine am_aload_n hB d_MO_emitShort_8 rfl rfl rfl ?_
  refine am_aload_n hB d_MO_emitShort_9 rfl rfl rfl ?_
  refine am_getf hB d_MO_emitShort_10 F_MO_25_11 M.1 rfl ?_
  refine am_iload_n hB d_MO_emitShort_13 rfl rfl ?_
  refine ai_iald hB d_MO_emitShort_14 ty_1 M.shortFrom ?_
  refine am_aload_n hB d_MO_emitShort_15 rfl rfl rfl ?_
  refine am_getf hB d_MO_emitShort_16 F_MO_28_11 M.1 rfl ?_
  refine am_iload_n hB d_MO_emitShort_19 rfl rfl ?_
  refine ai_iald hB d_MO_emitShort_20 ty_1 M.shortTo ?_
  show am_Z X 21 [.ref m, am_n p, am_n a, am_n b] [am_n (U.shortTo_ p), am_n (U.shortFrom_ p), .ref m] h 0 0
  refine am_callV hB hR (as := [am_n (U.shortFrom_ p), am_n (U.shortTo_ p)]) M.1 (m_MO_emitText S hg (by omega) (by omega) (by omega)) c_MO_255 rfl rfl d_MO_emitShort_21 ⟨by decide, Nat.le_of_ble_eq_true rfl⟩ ⟨by decide, by decide⟩ rfl rfl (fun rr h hp => ?_)
  obtain ⟨rfl, S, f2⟩ := hp
  obtain ⟨o, s, v, M, q⟩ := id S
  show am_Z X 24 [.ref m, am_n p, am_n a, am_n b] [] h 0 0
  refine am_aload_n hB d_MO_emitShort_24 rfl rfl rfl ?_
  refine ai_bipush hB d_MO_emitShort_25 (by decide) ?_
  refine am_callV hB hR (as := [am_n 46]) M.1 (m_MO_emit S (by omega) (by omega)) c_MO_251 rfl rfl d_MO_emitShort_27 ⟨by decide, Nat.le_of_ble_eq_true rfl⟩ ⟨by decide, by decide⟩ rfl rfl (fun rr h hp => ?_)
  obtain ⟨rfl, S, f3⟩ := hp
  obtain ⟨o, s, v, M, q⟩ := id S
  show am_Z X 30 [.ref m, am_n p, am_n a, am_n b] [] h 0 0
  refine am_aload_n hB d_MO_emitShort_30 rfl rfl rfl ?_
  refine am_iload_n hB d_MO_emitShort_31 rfl rfl ?_
  refine am_iload_n hB d_MO_emitShort_32 rfl rfl ?_
  refine am_callV hB hR (as := [am_n a, am_n b]) M.1 (m_MO_emitText S hg h0 hab h2) c_MO_255 rfl rfl d_MO_emitShort_33 ⟨by decide, Nat.le_of_ble_eq_true rfl⟩ ⟨by decide, by decide⟩ rfl rfl (fun rr h hp => ?_)
  obtain ⟨rfl, S, f4⟩ := hp
  obtain ⟨o, s, v, M, q⟩ := id S
  show am_Z X 36 [.ref m, am_n p, am_n a, am_n b] [] h 0 0
  refine am_aload_n hB d_MO_emitShort_36 rfl rfl rfl ?_
  refine ai_bipush hB d_MO_emitShort_37 (by decide) ?_
  refine am_callV hB hR (as := [am_n 40]) M.1 (m_MO_emit S (by omega) (by omega)) c_MO_251 rfl rfl d_MO_emitShort_39 ⟨by decide, Nat.le_of_ble_eq_true rfl⟩ ⟨by decide, by decide⟩ rfl rfl (fun rr h hp => ?_)
  obtain ⟨rfl, S, f5⟩ := hp
  show am_Z X 42 [.ref m, am_n p, am_n a, am_n b] [] h 0 0
  refine am_vret hB hR d_MO_emitShort_42 rfl ?_ (Nat.zero_le _) (Nat.zero_le _)
  rw [w5, n2] at S
  unfold w_open
  simp only [List.append_assoc] at S ⊢
  exact ⟨rfl, S, (((f1.tr f2).tr f3).tr f4).tr f5⟩
theorem m_MO_emitPlace {l : Launch} {G : am_G} {hA : am_H} {m : Nat} {U : mv} {xs : List Int} {dc : Int} {k : Nat} {ff : pt_F} (S : mo_S hA m U xs dc) (hg : am_cok U.all_) (hk : k < 32) (lf : mo_ln U k (.inr (.inl ff))) : am_M l G M_MO_emitPlace [.ref m, am_n k] hA (mo_X hA m U (xs ++ ((if ff.2.1 = true then sp_wd 14 else ff.1.2.2) ++ w_close ff.2.2)) dc) := by
  obtain ⟨o, s, v, M, q⟩ := id S
  refine am_M.of (by decide) (Nat.le_of_ble_eq_true rfl) (fun X hB hR => ?_)
  show am_Z X 0 [.ref m, am_n k] [] hA 0 0
  have fin : ∀ (ys : List Int) (h1 : am_H), mo_S h1 m U ys dc → ko m 35 hA h1 → xs ++ ((if ff.2.1 = true then sp_wd 14 else ff.1.2.2) ++ w_close ff.2.2) = ys ++ ((if ff.2.1 = true then [] else ff.1.2.2) ++ w_close ff.2.2) → am_Z X 12 [.ref m, am_n k] [] h1 0 0 := by
    intro ys h1 S f hs
    obtain ⟨o, s, v, M, q⟩ := id S
    refine am_aload_n hB d_MO_emitPlace_12 rfl rfl rfl ?_
    refine am_iload_n hB d_MO_emitPlace_13 rfl rfl ?_
    refine am_callV hB hR (as := [am_n k]) M.1 (m_MO_emitTail S hg hk lf) c_MO_304 rfl rfl d_MO_emitPlace_14 ⟨by decide, Nat.le_of_ble_eq_true rfl⟩ ⟨by decide, by decide⟩ rfl rfl (fun rr h hp => ?_)
    obtain ⟨rfl, S, f6⟩ := hp
    show am_Z X 17 [.ref m, am_n k] [] h 0 0
    refine am_vret hB hR d_MO_emitPlace_17 rfl ?_ (Nat.zero_le _) (Nat.zero_le _)
    rw [hs]
    exact ⟨rfl, S, f.tr f6⟩
  refine am_aload_n hB d_MO_emitPlace_0 rfl rfl rfl ?_
  refine am_iload_n hB d_MO_emitPlace_1 rfl rfl ?_
  refine am_callV hB hR (as := [am_n k]) M.1 (m_MO_hasFile M hk lf) c_MO_301 rfl rfl d_MO_emitPlace_2 ⟨by decide, Nat.le_of_ble_eq_true rfl⟩ ⟨by decide, by decide⟩ rfl rfl (fun rr h hp => ?_)
  obtain ⟨rfl, rfl⟩ := hp
  show am_Z X 5 [.ref m, am_n k] [am_n (sp_i ff.2.1)] hA 0 0
  cases hf : ff.2.1 with
  | false =>
    show am_Z X 5 [.ref m, am_n k] [am_n 0] hA 0 0
    refine ai_zeq (tgt := 12) hB d_MO_emitPlace_5 (by decide) (fun c1 => ?_) (fun c1 => ?_)
    · exact fin xs hA S ko.rf (by rw [hf]; rfl)
    · omega
  | true =>
    show am_Z X 5 [.ref m, am_n k] [am_n 1] hA 0 0
    refine ai_zeq (tgt := 12) hB d_MO_emitPlace_5 (by decide) (fun c1 => ?_) (fun c1 => ?_)
    · omega
    refine am_aload_n hB d_MO_emitPlace_8 rfl rfl rfl ?_
    refine am_callV hB hR (as := []) M.1 (m_MO_emitSource S) c_MO_317 rfl rfl d_MO_emitPlace_9 ⟨by decide, Nat.le_of_ble_eq_true rfl⟩ ⟨by decide, by decide⟩ rfl rfl (fun rr h hp => ?_)
    obtain ⟨rfl, S, f1⟩ := hp
    show am_Z X 12 [.ref m, am_n k] [] h 0 0
    exact fin _ h S f1 (by rw [hf]; simp)
