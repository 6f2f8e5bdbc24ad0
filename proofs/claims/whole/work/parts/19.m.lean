/-! the real range of a method line -/
def sp_rr (g : Int → Int) (a e fi la : Int) : Option (Int × Int × Int) := if fi = -1 ∨ sp_tw g 1 a e = false then some (a, fi, la) else
    (if sp_nv g (a + 1) e = -1 then none else
      (if sp_tw g 1 (sp_ni g (a + 1) e) e = true then
        (if sp_nv g (sp_ni g (a + 1) e + 1) e ≠ -1 ∧ (sp_nv g (a + 1) e = sp_nv g (sp_ni g (a + 1) e + 1) e ∨ sp_nv g (sp_ni g (a + 1) e + 1) e - sp_nv g (a + 1) e = la - fi) then some (sp_ni g (sp_ni g (a + 1) e + 1) e, sp_nv g (a + 1) e, sp_nv g (sp_ni g (a + 1) e + 1) e) else none)
      else some (sp_ni g (a + 1) e, sp_nv g (a + 1) e, sp_nv g (a + 1) e)))
theorem sp_tw_1 {g : Int → Int} {a e : Int} (h : sp_tw g 1 a e = true) : a + 1 ≤ e := by
  unfold sp_tw at h
  rw [Bool.and_eq_true, decide_eq_true_eq] at h
  have := h.1
  have e9 : ((am_len.getD 1 0 : Nat) : Int) = 1 := rfl
  omega
theorem m_MA_takesRealRange {l : Launch} {G : am_G} {h : am_H} {b i : Nat} {g : Int → Int} {s : Nat → Int} (m : am_map h b g s) (d : mp_bd g s) (hi : i < 32) (hf : -1 ≤ s (72 + 12 * i) ∧ s (72 + 12 * i) < 10000) (hl : -1 ≤ s (73 + 12 * i) ∧ s (73 + 12 * i) < 10000) : am_M l G M_MA_takesRealRange [.ref b, .ref (b + 29 + 4 * i)] h (fun r h' => ∃ s', mp_to h b g h' s' ∧ (∀ r, r ≠ 0 → r ≠ 74 + 12 * i → r ≠ 75 + 12 * i → s' r = s r) ∧ match sp_rr g (s 0) (s 1) (s (72 + 12 * i)) (s (73 + 12 * i)) with
    | none => r = some (am_n 0)
    | some (a, x, y) => r = some (am_n 1) ∧ s' 0 = a ∧ s' (74 + 12 * i) = x ∧ s' (75 + 12 * i) = y) := by
  have dd := d
  obtain ⟨hg, d0, d1, d2⟩ := dd
  refine am_M.of (by decide) (Nat.le_of_ble_eq_true rfl) (fun X hB hR => ?_)
  show am_Z X 0 [.ref b, .ref (b + 29 + 4 * i)] [] h 0 0
  obtain ⟨h1, s1, e1, m1, g1, v1, o1⟩ := m.e74 hi (s (72 + 12 * i))
  have la1 : s1 (73 + 12 * i) = s (73 + 12 * i) := o1 _ (by omega)
  obtain ⟨h2, s2, e2, m2, g2, v2, o2⟩ := m1.e75 hi (s1 (73 + 12 * i))
  have k2 : ∀ r, r ≠ 74 + 12 * i → r ≠ 75 + 12 * i → s2 r = s r := fun r q1 q2 => by rw [o2 r q2, o1 r q1]
  have t2 : mp_to h b g h2 s2 := ⟨m2, g1.tr g2⟩
  have q0 : s2 0 = s 0 := k2 0 (by omega) (by omega)
  have q1 : s2 1 = s 1 := k2 1 (by omega) (by omega)
  have f2 : s2 (72 + 12 * i) = s (72 + 12 * i) := k2 _ (by omega) (by omega)
  have b2 : mp_bd g s2 := ⟨hg, by rw [q0]; exact d0, by rw [q0, q1]; exact d1, by rw [q1]; exact d2⟩
  refine am_aload_n hB d_MA_takesRealRange_0 rfl rfl rfl ?_
  refine am_aload_n hB d_MA_takesRealRange_1 rfl rfl rfl ?_
  refine am_getf hB d_MA_takesRealRange_2 F_MA_126_5 (m.L hi).1 rfl ?_
  refine am_putf hB d_MA_takesRealRange_5 P_MA_158_5 (m.L hi).1 (by simp) am_fit.i e1 ?_
  refine am_aload_n hB d_MA_takesRealRange_8 rfl rfl rfl ?_
  refine am_aload_n hB d_MA_takesRealRange_9 rfl rfl rfl ?_
  refine am_getf hB d_MA_takesRealRange_10 F_MA_129_5 (m1.L hi).1 rfl ?_
  refine am_putf hB d_MA_takesRealRange_13 P_MA_161_5 (m1.L hi).1 (by simp) am_fit.i e2 ?_
  refine am_aload_n hB d_MA_takesRealRange_16 rfl rfl rfl ?_
  refine am_callV hB hR (as := []) (m2.L hi).1 (m_ML_hasRange (m2.L hi).1 ⟨by rw [f2]; omega, by rw [f2]; omega⟩) c_MA_164 rfl rfl d_MA_takesRealRange_17 ⟨by decide, Nat.le_of_ble_eq_true rfl⟩ ⟨by decide, by decide⟩ rfl rfl (fun rr hh hp => ?_)
  obtain ⟨rfl, rfl⟩ := hp
  rw [f2]
  have yes32 : ∀ (h9 : am_H) (s9 : Nat → Int), mp_to h b g h9 s9 → (∀ r, r ≠ 0 → r ≠ 74 + 12 * i → r ≠ 75 + 12 * i → s9 r = s r) → s9 0 = s 0 → s9 (74 + 12 * i) = s (72 + 12 * i) → s9 (75 + 12 * i) = s (73 + 12 * i) → (s (72 + 12 * i) = -1 ∨ sp_tw g 1 (s 0) (s 1) = false) → am_Z X 32 [.ref b, .ref (b + 29 + 4 * i)] [] h9 0 0 := by
    intro h9 s9 t9 k9 z1 z2 z3 hz
    refine ai_const hB d_MA_takesRealRange_32 ?_
    refine am_iret hB hR d_MA_takesRealRange_33 rfl (by decide) ?_ (Nat.zero_le _) (Nat.zero_le _)
    refine ⟨s9, t9, k9, ?_⟩
    unfold sp_rr
    rw [if_pos hz]
    exact ⟨rfl, z1, z2, z3⟩
  by_cases hr : s (72 + 12 * i) = -1
  · rw [decide_eq_false (fun z => z hr)]
    show am_Z X 20 [.ref b, .ref (b + 29 + 4 * i)] [am_n 0] h2 0 0
    refine ai_zeq (tgt := 32) hB d_MA_takesRealRange_20 (by decide) (fun hc => ?_) (fun hc => ?_)
    · exact yes32 h2 s2 t2 (fun r _ a1 a2 => k2 r a1 a2) q0 (by rw [o2 _ (by omega), v1]) (by rw [v2, la1]) (Or.inl hr)
    · omega
  rw [decide_eq_true hr]
  show am_Z X 20 [.ref b, .ref (b + 29 + 4 * i)] [am_n 1] h2 0 0
  refine ai_zeq (tgt := 32) hB d_MA_takesRealRange_20 (by decide) (fun hc => ?_) (fun hc => ?_)
  · omega
  refine am_aload_n hB d_MA_takesRealRange_23 rfl rfl rfl ?_
  refine am_ldcS hB d_MA_takesRealRange_24 (List.mem_of_getElem? (i := 1) rfl) ?_
  refine am_callU hB hR (as := [.retAddr 1]) m2.1 (mb_takeWord m2 b2 (by decide)) c_MA_70_4 rfl rfl d_MA_takesRealRange_26 ⟨by decide, Nat.le_of_ble_eq_true rfl⟩ ⟨by decide, by decide⟩ rfl rfl (fun rr hh hp => ?_)
  obtain ⟨rfl, s3, ⟨m3, g3⟩, v3, o3⟩ := hp
  rw [q0, q1] at v3 ⊢
  have k3 : ∀ r, r ≠ 0 → r ≠ 74 + 12 * i → r ≠ 75 + 12 * i → s3 r = s r := fun r a0 a1 a2 => by rw [o3 r a0, k2 r a1 a2]
  have t3 : mp_to h b g hh s3 := t2.tr ⟨m3, g3⟩
  cases w1 : sp_tw g 1 (s 0) (s 1) with
  | false =>
    show am_Z X 29 [.ref b, .ref (b + 29 + 4 * i)] [am_n 0] hh 0 0
    refine ai_zne (tgt := 34) hB d_MA_takesRealRange_29 (by decide) (fun c1 => ?_) (fun c1 => ?_)
    · omega
    · exact yes32 hh s3 t3 k3 (by rw [v3, sp_th, w1]; rfl) (by rw [o3 _ (by omega), o2 _ (by omega), v1]) (by rw [o3 _ (by omega), v2, la1]) (Or.inr w1)
  | true =>
    rw [sp_th_1 w1] at v3
    have w2 := sp_tw_1 w1
    have n2 := sp_nv_in (g := g) w2
    have r1 : s3 1 = s 1 := k3 1 (by omega) (by omega) (by omega)
    have b3 : mp_bd g s3 := ⟨hg, by rw [v3]; omega, by rw [v3, r1]; exact w2, by rw [r1]; exact d2⟩
    have hrr : sp_rr g (s 0) (s 1) (s (72 + 12 * i)) (s (73 + 12 * i)) = (if sp_nv g (s 0 + 1) (s 1) = -1 then none else (if sp_tw g 1 (sp_ni g (s 0 + 1) (s 1)) (s 1) = true then (if sp_nv g (sp_ni g (s 0 + 1) (s 1) + 1) (s 1) ≠ -1 ∧ (sp_nv g (s 0 + 1) (s 1) = sp_nv g (sp_ni g (s 0 + 1) (s 1) + 1) (s 1) ∨ sp_nv g (sp_ni g (s 0 + 1) (s 1) + 1) (s 1) - sp_nv g (s 0 + 1) (s 1) = s (73 + 12 * i) - s (72 + 12 * i)) then some (sp_ni g (sp_ni g (s 0 + 1) (s 1) + 1) (s 1), sp_nv g (s 0 + 1) (s 1), sp_nv g (sp_ni g (s 0 + 1) (s 1) + 1) (s 1)) else none) else some (sp_ni g (s 0 + 1) (s 1), sp_nv g (s 0 + 1) (s 1), sp_nv g (s 0 + 1) (s 1)))) := if_neg (fun z => z.elim hr (fun z => by rw [w1] at z; cases z))
    show am_Z X 29 [.ref b, .ref (b + 29 + 4 * i)] [am_n 1] hh 0 0
    refine ai_zne (tgt := 34) hB d_MA_takesRealRange_29 (by decide) (fun c1 => ?_) (fun c1 => ?_)
    · refine am_aload_n hB d_MA_takesRealRange_34 rfl rfl rfl ?_
      refine am_aload_n hB d_MA_takesRealRange_35 rfl rfl rfl ?_
      refine am_callU hB hR (as := []) m3.1 (mb_takeNumber m3 b3) c_MA_135_4 rfl rfl d_MA_takesRealRange_36 ⟨by decide, Nat.le_of_ble_eq_true rfl⟩ ⟨by decide, by decide⟩ rfl rfl (fun rr hh hp => ?_)
      obtain ⟨rfl, s4, ⟨m4, g4⟩, v4, o4⟩ := hp
      rw [v3, r1] at v4 ⊢
      obtain ⟨h5, s5, e5, m5, g5, v5, o5⟩ := m4.e74 hi (sp_nv g (s 0 + 1) (s 1))
      obtain ⟨h6, s6, e6, m6, g6, v6, o6⟩ := m5.e75 hi (s5 (74 + 12 * i))
      have k6 : ∀ r, r ≠ 0 → r ≠ 74 + 12 * i → r ≠ 75 + 12 * i → s6 r = s r := fun r a0 a1 a2 => by rw [o6 r a2, o5 r a1, o4 r a0, k3 r a0 a1 a2]
      have t6 : mp_to h b g h6 s6 := ((t3.tr ⟨m4, g4⟩).tr ⟨m5, g5⟩).tr ⟨m6, g6⟩
      have x6 : s6 (74 + 12 * i) = sp_nv g (s 0 + 1) (s 1) := by rw [o6 _ (by omega), v5]
      have y6 : s6 (75 + 12 * i) = sp_nv g (s 0 + 1) (s 1) := by rw [v6, v5]
      have u0 : s6 0 = sp_ni g (s 0 + 1) (s 1) := by rw [o6 0 (by omega), o5 0 (by omega), v4]
      have u1 : s6 1 = s 1 := k6 1 (by omega) (by omega) (by omega)
      have b6 : mp_bd g s6 := ⟨hg, by rw [u0]; omega, by rw [u0, u1]; omega, by rw [u1]; exact d2⟩
      refine am_putf hB d_MA_takesRealRange_39 P_MA_158_5 (m4.L hi).1 (by simp) am_fit.i e5 ?_
      refine am_aload_n hB d_MA_takesRealRange_42 rfl rfl rfl ?_
      refine am_aload_n hB d_MA_takesRealRange_43 rfl rfl rfl ?_
      refine am_getf hB d_MA_takesRealRange_44 F_MA_158_5 (m5.L hi).1 rfl ?_
      refine am_putf hB d_MA_takesRealRange_47 P_MA_161_5 (m5.L hi).1 (by simp) am_fit.i e6 ?_
      refine am_aload_n hB d_MA_takesRealRange_50 rfl rfl rfl ?_
      refine am_getf hB d_MA_takesRealRange_51 F_MA_158_5 (m6.L hi).1 rfl ?_
      rw [x6]
      refine ai_const hB d_MA_takesRealRange_54 ?_
      refine ai_jne (tgt := 60) hB d_MA_takesRealRange_55 (by decide) (fun c2 => ?_) (fun c2 => ?_)
      · have fin : ∀ (h9 : am_H) (s9 : Nat → Int) (y : Int), mp_to h b g h9 s9 → (∀ r, r ≠ 0 → r ≠ 74 + 12 * i → r ≠ 75 + 12 * i → s9 r = s r) → s9 (74 + 12 * i) = sp_nv g (s 0 + 1) (s 1) → s9 (75 + 12 * i) = y → -1 ≤ y → y < 10000 → sp_rr g (s 0) (s 1) (s (72 + 12 * i)) (s (73 + 12 * i)) = (if y ≠ -1 ∧ (sp_nv g (s 0 + 1) (s 1) = y ∨ y - sp_nv g (s 0 + 1) (s 1) = s (73 + 12 * i) - s (72 + 12 * i)) then some (s9 0, sp_nv g (s 0 + 1) (s 1), y) else none) → am_Z X 77 [.ref b, .ref (b + 29 + 4 * i)] [] h9 0 0 := by
          intro h9 s9 y t9 k9 z1 z2 y1 y2 hz
          have no : ¬ (y ≠ -1 ∧ (sp_nv g (s 0 + 1) (s 1) = y ∨ y - sp_nv g (s 0 + 1) (s 1) = s (73 + 12 * i) - s (72 + 12 * i))) → am_Z X 117 [.ref b, .ref (b + 29 + 4 * i)] [] h9 0 0 := by
            intro hn
            refine ai_const hB d_MA_takesRealRange_117 ?_
            refine am_iret hB hR d_MA_takesRealRange_118 rfl (by decide) ?_ (Nat.zero_le _) (Nat.zero_le _)
            refine ⟨s9, t9, k9, ?_⟩
            rw [hz, if_neg hn]
          have yes : y ≠ -1 ∧ (sp_nv g (s 0 + 1) (s 1) = y ∨ y - sp_nv g (s 0 + 1) (s 1) = s (73 + 12 * i) - s (72 + 12 * i)) → am_Z X 113 [.ref b, .ref (b + 29 + 4 * i)] [] h9 0 0 := by
            intro hn
            refine ai_const hB d_MA_takesRealRange_113 ?_
            refine am_goto (tgt := 118) hB d_MA_takesRealRange_114 (by decide) ?_
            refine am_iret hB hR d_MA_takesRealRange_118 rfl (by decide) ?_ (Nat.zero_le _) (Nat.zero_le _)
            refine ⟨s9, t9, k9, ?_⟩
            rw [hz, if_pos hn]
            exact ⟨rfl, rfl, z1, z2⟩
          refine am_aload_n hB d_MA_takesRealRange_77 rfl rfl rfl ?_
          refine am_getf hB d_MA_takesRealRange_78 F_MA_161_5 (t9.1.L hi).1 rfl ?_
          rw [z2]
          refine ai_const hB d_MA_takesRealRange_81 ?_
          refine ai_jeq (tgt := 117) hB d_MA_takesRealRange_82 (by decide) (fun c5 => ?_) (fun c5 => ?_)
          · exact no (fun z => z.1 c5)
          refine am_aload_n hB d_MA_takesRealRange_85 rfl rfl rfl ?_
          refine am_callV hB hR (as := []) (t9.1.L hi).1 (m_ML_hasOne (t9.1.L hi).1 ⟨by rw [z1]; omega, by rw [z1]; omega⟩ ⟨by rw [z2]; omega, by rw [z2]; omega⟩) c_MA_167 rfl rfl d_MA_takesRealRange_86 ⟨by decide, Nat.le_of_ble_eq_true rfl⟩ ⟨by decide, by decide⟩ rfl rfl (fun rr hh hp => ?_)
          obtain ⟨rfl, rfl⟩ := hp
          rw [z1, z2]
          by_cases ho : sp_nv g (s 0 + 1) (s 1) = y
          · rw [decide_eq_true ho]
            show am_Z X 89 [.ref b, .ref (b + 29 + 4 * i)] [am_n 1] h9 0 0
            refine ai_zne (tgt := 113) hB d_MA_takesRealRange_89 (by decide) (fun c6 => ?_) (fun c6 => ?_)
            · exact yes ⟨c5, Or.inl ho⟩
            · omega
          · rw [decide_eq_false ho]
            show am_Z X 89 [.ref b, .ref (b + 29 + 4 * i)] [am_n 0] h9 0 0
            refine ai_zne (tgt := 113) hB d_MA_takesRealRange_89 (by decide) (fun c6 => ?_) (fun c6 => ?_)
            · omega
            refine am_aload_n hB d_MA_takesRealRange_92 rfl rfl rfl ?_
            refine am_getf hB d_MA_takesRealRange_93 F_MA_161_5 (t9.1.L hi).1 rfl ?_
            refine am_aload_n hB d_MA_takesRealRange_96 rfl rfl rfl ?_
            refine am_getf hB d_MA_takesRealRange_97 F_MA_158_5 (t9.1.L hi).1 rfl ?_
            refine ai_sub hB d_MA_takesRealRange_100 ?_
            refine am_aload_n hB d_MA_takesRealRange_101 rfl rfl rfl ?_
            refine am_getf hB d_MA_takesRealRange_102 F_MA_129_5 (t9.1.L hi).1 rfl ?_
            refine am_aload_n hB d_MA_takesRealRange_105 rfl rfl rfl ?_
            refine am_getf hB d_MA_takesRealRange_106 F_MA_126_5 (t9.1.L hi).1 rfl ?_
            rw [z1, z2, k9 (73 + 12 * i) (by omega) (by omega) (by omega), k9 (72 + 12 * i) (by omega) (by omega) (by omega)]
            refine ai_sub hB d_MA_takesRealRange_109 ?_
            refine ai_jne (tgt := 117) hB d_MA_takesRealRange_110 (by decide) (fun c7 => ?_) (fun c7 => ?_)
            · exact no (fun z => z.2.elim ho c7)
            · exact yes ⟨c5, Or.inr c7⟩
        refine am_aload_n hB d_MA_takesRealRange_60 rfl rfl rfl ?_
        refine am_ldcS hB d_MA_takesRealRange_61 (List.mem_of_getElem? (i := 1) rfl) ?_
        refine am_callU hB hR (as := [.retAddr 1]) m6.1 (mb_takeWord m6 b6 (by decide)) c_MA_70_4 rfl rfl d_MA_takesRealRange_63 ⟨by decide, Nat.le_of_ble_eq_true rfl⟩ ⟨by decide, by decide⟩ rfl rfl (fun rr hh hp => ?_)
        obtain ⟨rfl, s7, ⟨m7, g7⟩, v7, o7⟩ := hp
        rw [u0, u1] at v7 ⊢
        have k7 : ∀ r, r ≠ 0 → r ≠ 74 + 12 * i → r ≠ 75 + 12 * i → s7 r = s r := fun r a0 a1 a2 => by rw [o7 r a0, k6 r a0 a1 a2]
        have t7 : mp_to h b g hh s7 := t6.tr ⟨m7, g7⟩
        cases w3 : sp_tw g 1 (sp_ni g (s 0 + 1) (s 1)) (s 1) with
        | false =>
          show am_Z X 66 [.ref b, .ref (b + 29 + 4 * i)] [am_n 0] hh 0 0
          refine ai_zeq (tgt := 77) hB d_MA_takesRealRange_66 (by decide) (fun c3 => ?_) (fun c3 => ?_)
          · refine fin hh s7 (sp_nv g (s 0 + 1) (s 1)) t7 k7 (by rw [o7 _ (by omega), x6]) (by rw [o7 _ (by omega), y6]) (by omega) (by omega) ?_
            rw [hrr, if_neg c2, if_neg (by rw [w3]; decide), if_pos ⟨c2, Or.inl rfl⟩, v7, sp_th, w3]
            rfl
          · omega
        | true =>
          rw [sp_th_1 w3] at v7
          have w4 := sp_tw_1 w3
          have n3 := sp_nv_in (g := g) w4
          have p1 : s7 1 = s 1 := k7 1 (by omega) (by omega) (by omega)
          have b7 : mp_bd g s7 := ⟨hg, by rw [v7]; omega, by rw [v7, p1]; exact w4, by rw [p1]; exact d2⟩
          show am_Z X 66 [.ref b, .ref (b + 29 + 4 * i)] [am_n 1] hh 0 0
          refine ai_zeq (tgt := 77) hB d_MA_takesRealRange_66 (by decide) (fun c3 => ?_) (fun c3 => ?_)
          · omega
          refine am_aload_n hB d_MA_takesRealRange_69 rfl rfl rfl ?_
          refine am_aload_n hB d_MA_takesRealRange_70 rfl rfl rfl ?_
          refine am_callU hB hR (as := []) m7.1 (mb_takeNumber m7 b7) c_MA_135_4 rfl rfl d_MA_takesRealRange_71 ⟨by decide, Nat.le_of_ble_eq_true rfl⟩ ⟨by decide, by decide⟩ rfl rfl (fun rr hh hp => ?_)
          obtain ⟨rfl, s8, ⟨m8, g8⟩, v8, o8⟩ := hp
          rw [v7, p1] at v8 ⊢
          obtain ⟨h9, s9, e9, m9, g9, v9, o9⟩ := m8.e75 hi (sp_nv g (sp_ni g (s 0 + 1) (s 1) + 1) (s 1))
          refine am_putf hB d_MA_takesRealRange_74 P_MA_161_5 (m8.L hi).1 (by simp) am_fit.i e9 ?_
          refine fin h9 s9 (sp_nv g (sp_ni g (s 0 + 1) (s 1) + 1) (s 1)) ((t7.tr ⟨m8, g8⟩).tr ⟨m9, g9⟩) (fun r a0 a1 a2 => by rw [o9 r a2, o8 r a0, k7 r a0 a1 a2]) (by rw [o9 _ (by omega), o8 _ (by omega), o7 _ (by omega), x6]) v9 (by omega) (by omega) ?_
          rw [hrr, if_neg c2, if_pos w3, o9 0 (by omega), v8]
      · refine ai_const hB d_MA_takesRealRange_58 ?_
        refine am_iret hB hR d_MA_takesRealRange_59 rfl (by decide) ?_ (Nat.zero_le _) (Nat.zero_le _)
        refine ⟨s6, t6, k6, ?_⟩
        rw [hrr, if_pos c2]
    · omega
