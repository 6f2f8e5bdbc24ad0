/-! names into a mapping's slices; the rest of a method line -/
theorem mb_take2 {l : Launch} {G : am_G} {h : am_H} {b : Nat} {g : Int → Int} {s : Nat → Int} {mp ms : Int} (m : am_map h b g s) (d : mp_bd g s) (hmp : 0 ≤ mp ∧ mp < 1000000) (hms : 0 ≤ ms ∧ ms < 1000000) : am_M l G M_FO_takeParts [.ref b, .ref (b + 2), am_n mp, am_n ms] h (fun r h' => match sp_take g mp ms (s 0) (s 1) with
    | none => r = some (am_n 0) ∧ h = h'
    | some j => r = some (am_n 1) ∧ ∃ s', mp_to h b g h' s' ∧ s' 0 = j ∧ s' 6 = s 0 ∧ s' 7 = j ∧ ∀ r, r ≠ 0 → r ≠ 6 → r ≠ 7 → s' r = s r) :=
  (m_FO_takeParts (m.fo d) m.2.2.1 hmp hms).imp (fun r h' hp => by
    cases e : sp_take g mp ms (s 0) (s 1) with
    | none =>
      rw [e] at hp
      exact ⟨hp.1, hp.2.symm⟩
    | some j =>
      rw [e] at hp
      obtain ⟨hp1, hp2⟩ := hp
      obtain ⟨h1, s1, e1, m1, g1, v1, v2, o1⟩ := m.s2 (s 0) j
      obtain ⟨h2, s2, e2, m2, g2, v3, o2⟩ := m1.e0 j
      refine ⟨hp1, s2, ⟨?_, ?_⟩, v3, by rw [o2 _ (by omega), v1], by rw [o2 _ (by omega), v2], fun r h1 h2 h3 => by rw [o2 r h1, o1 r h2 h3]⟩
      · rw [o1 1 (by omega) (by omega), o1 2 (by omega) (by omega), o1 3 (by omega) (by omega), o1 4 (by omega) (by omega), o1 5 (by omega) (by omega), ← e1] at e2
        rw [hp2, e2]
        exact m2
      · rw [o1 1 (by omega) (by omega), o1 2 (by omega) (by omega), o1 3 (by omega) (by omega), o1 4 (by omega) (by omega), o1 5 (by omega) (by omega), ← e1] at e2
        rw [hp2, e2]
        exact g1.tr g2)

theorem mb_takeR {l : Launch} {G : am_G} {h : am_H} {b : Nat} {g : Int → Int} {s : Nat → Int} {mp ms : Int} (m : am_map h b g s) (d : mp_bd g s) {i : Nat} (hi : i < 8) (hmp : 0 ≤ mp ∧ mp < 1000000) (hms : 0 ≤ ms ∧ ms < 1000000) : am_M l G M_FO_takeParts [.ref b, .ref (b + 5 + 3 * i), am_n mp, am_n ms] h (fun r h' => match sp_take g mp ms (s 0) (s 1) with
    | none => r = some (am_n 0) ∧ h = h'
    | some j => r = some (am_n 1) ∧ ∃ s', mp_to h b g h' s' ∧ s' 0 = j ∧ s' (8 + 7 * i) = s 0 ∧ s' (9 + 7 * i) = j ∧ ∀ r, r ≠ 0 → r ≠ 8 + 7 * i → r ≠ 9 + 7 * i → s' r = s r) :=
  (m_FO_takeParts (m.fo d) (m.C hi).2.1 hmp hms).imp (fun r h' hp => by
    cases e : sp_take g mp ms (s 0) (s 1) with
    | none =>
      rw [e] at hp
      exact ⟨hp.1, hp.2.symm⟩
    | some j =>
      rw [e] at hp
      obtain ⟨hp1, hp2⟩ := hp
      obtain ⟨h1, s1, e1, m1, g1, v1, v2, o1⟩ := m.sR hi (s 0) j
      obtain ⟨h2, s2, e2, m2, g2, v3, o2⟩ := m1.e0 j
      refine ⟨hp1, s2, ⟨?_, ?_⟩, v3, by rw [o2 _ (by omega), v1], by rw [o2 _ (by omega), v2], fun r h1 h2 h3 => by rw [o2 r h1, o1 r h2 h3]⟩
      · rw [o1 1 (by omega) (by omega), o1 2 (by omega) (by omega), o1 3 (by omega) (by omega), o1 4 (by omega) (by omega), o1 5 (by omega) (by omega), ← e1] at e2
        rw [hp2, e2]
        exact m2
      · rw [o1 1 (by omega) (by omega), o1 2 (by omega) (by omega), o1 3 (by omega) (by omega), o1 4 (by omega) (by omega), o1 5 (by omega) (by omega), ← e1] at e2
        rw [hp2, e2]
        exact g1.tr g2)

theorem mb_takeB {l : Launch} {G : am_G} {h : am_H} {b : Nat} {g : Int → Int} {s : Nat → Int} {mp ms : Int} (m : am_map h b g s) (d : mp_bd g s) {i : Nat} (hi : i < 8) (hmp : 0 ≤ mp ∧ mp < 1000000) (hms : 0 ≤ ms ∧ ms < 1000000) : am_M l G M_FO_takeParts [.ref b, .ref (b + 6 + 3 * i), am_n mp, am_n ms] h (fun r h' => match sp_take g mp ms (s 0) (s 1) with
    | none => r = some (am_n 0) ∧ h = h'
    | some j => r = some (am_n 1) ∧ ∃ s', mp_to h b g h' s' ∧ s' 0 = j ∧ s' (10 + 7 * i) = s 0 ∧ s' (11 + 7 * i) = j ∧ ∀ r, r ≠ 0 → r ≠ 10 + 7 * i → r ≠ 11 + 7 * i → s' r = s r) :=
  (m_FO_takeParts (m.fo d) (m.C hi).2.2 hmp hms).imp (fun r h' hp => by
    cases e : sp_take g mp ms (s 0) (s 1) with
    | none =>
      rw [e] at hp
      exact ⟨hp.1, hp.2.symm⟩
    | some j =>
      rw [e] at hp
      obtain ⟨hp1, hp2⟩ := hp
      obtain ⟨h1, s1, e1, m1, g1, v1, v2, o1⟩ := m.sB hi (s 0) j
      obtain ⟨h2, s2, e2, m2, g2, v3, o2⟩ := m1.e0 j
      refine ⟨hp1, s2, ⟨?_, ?_⟩, v3, by rw [o2 _ (by omega), v1], by rw [o2 _ (by omega), v2], fun r h1 h2 h3 => by rw [o2 r h1, o1 r h2 h3]⟩
      · rw [o1 1 (by omega) (by omega), o1 2 (by omega) (by omega), o1 3 (by omega) (by omega), o1 4 (by omega) (by omega), o1 5 (by omega) (by omega), ← e1] at e2
        rw [hp2, e2]
        exact m2
      · rw [o1 1 (by omega) (by omega), o1 2 (by omega) (by omega), o1 3 (by omega) (by omega), o1 4 (by omega) (by omega), o1 5 (by omega) (by omega), ← e1] at e2
        rw [hp2, e2]
        exact g1.tr g2)

theorem mb_takeS {l : Launch} {G : am_G} {h : am_H} {b : Nat} {g : Int → Int} {s : Nat → Int} {mp ms : Int} (m : am_map h b g s) (d : mp_bd g s) {i : Nat} (hi : i < 32) (hmp : 0 ≤ mp ∧ mp < 1000000) (hms : 0 ≤ ms ∧ ms < 1000000) : am_M l G M_FO_takeParts [.ref b, .ref (b + 32 + 4 * i), am_n mp, am_n ms] h (fun r h' => match sp_take g mp ms (s 0) (s 1) with
    | none => r = some (am_n 0) ∧ h = h'
    | some j => r = some (am_n 1) ∧ ∃ s', mp_to h b g h' s' ∧ s' 0 = j ∧ s' (68 + 12 * i) = s 0 ∧ s' (69 + 12 * i) = j ∧ ∀ r, r ≠ 0 → r ≠ 68 + 12 * i → r ≠ 69 + 12 * i → s' r = s r) :=
  (m_FO_takeParts (m.fo d) (m.L hi).2.2.2 hmp hms).imp (fun r h' hp => by
    cases e : sp_take g mp ms (s 0) (s 1) with
    | none =>
      rw [e] at hp
      exact ⟨hp.1, hp.2.symm⟩
    | some j =>
      rw [e] at hp
      obtain ⟨hp1, hp2⟩ := hp
      obtain ⟨h1, s1, e1, m1, g1, v1, v2, o1⟩ := m.sS hi (s 0) j
      obtain ⟨h2, s2, e2, m2, g2, v3, o2⟩ := m1.e0 j
      refine ⟨hp1, s2, ⟨?_, ?_⟩, v3, by rw [o2 _ (by omega), v1], by rw [o2 _ (by omega), v2], fun r h1 h2 h3 => by rw [o2 r h1, o1 r h2 h3]⟩
      · rw [o1 1 (by omega) (by omega), o1 2 (by omega) (by omega), o1 3 (by omega) (by omega), o1 4 (by omega) (by omega), o1 5 (by omega) (by omega), ← e1] at e2
        rw [hp2, e2]
        exact m2
      · rw [o1 1 (by omega) (by omega), o1 2 (by omega) (by omega), o1 3 (by omega) (by omega), o1 4 (by omega) (by omega), o1 5 (by omega) (by omega), ← e1] at e2
        rw [hp2, e2]
        exact g1.tr g2)
/-- the real class and method of a method line, where its call stands at a .. j and the class line's real class at x .. y -/
def sp_of (g : Int → Int) (a j x : Int) : Int := if sp_lp g a (j - a).toNat = -1 then x else a
def sp_ot (g : Int → Int) (a j y : Int) : Int := if sp_lp g a (j - a).toNat = -1 then y else sp_lp g a (j - a).toNat
def sp_mf (g : Int → Int) (a j : Int) : Int := if sp_lp g a (j - a).toNat = -1 then a else sp_lp g a (j - a).toNat + 1
theorem am_map.sl2 {h : am_H} {b : Nat} {g : Int → Int} {s : Nat → Int} (m : am_map h b g s) (hg : am_cok g) (h0 : 0 ≤ s 6) (h1 : s 6 ≤ s 7) (h2 : s 7 ≤ 600) : am_sl h (b + 2) (b + 1) (s 6) (s 7) 600 g := ⟨m.2.2.1, m.2.1, hg, h0, h1, h2, by omega⟩
theorem m_MA_takesRealCall {l : Launch} {G : am_G} {h : am_H} {b i p : Nat} {g : Int → Int} {s : Nat → Int} (m : am_map h b g s) (d : mp_bd g s) (hi : i < 32) (hp8 : p < 8) (hpe : s (70 + 12 * i) = p) : am_M l G M_MA_takesRealCall [.ref b, .ref (b + 29 + 4 * i)] h (fun r h' => ∃ s', mp_to h b g h' s' ∧ (∀ r, r ≠ 0 → r ≠ 6 → r ≠ 7 → (r < 64 + 12 * i ∨ 67 + 12 * i < r) → s' r = s r) ∧ match sp_take g 40 40 (s 0) (s 1) with
    | none => r = some (am_n 0)
    | some j => r = some (am_n 1) ∧ s' 0 = j ∧ s' (64 + 12 * i) = sp_of g (s 0) j (s (8 + 7 * p)) ∧ s' (65 + 12 * i) = sp_ot g (s 0) j (s (9 + 7 * p)) ∧ s' (66 + 12 * i) = sp_mf g (s 0) j ∧ s' (67 + 12 * i) = j) := by
  have dd := d
  obtain ⟨hg, d0, d1, d2⟩ := dd
  refine am_M.of (by decide) (Nat.le_of_ble_eq_true rfl) (fun X hB hR => ?_)
  show am_Z X 0 [.ref b, .ref (b + 29 + 4 * i), am_u, am_u] [] h 0 0
  refine am_aload_n hB d_MA_takesRealCall_0 rfl rfl rfl ?_
  refine am_aload_n hB d_MA_takesRealCall_1 rfl rfl rfl ?_
  refine am_getf hB d_MA_takesRealCall_2 F_MA_12_4 m.1 rfl ?_
  refine ai_bipush hB d_MA_takesRealCall_5 (by decide) ?_
  refine ai_bipush hB d_MA_takesRealCall_7 (by decide) ?_
  refine am_callU hB hR (as := [.ref (b + 2), am_n 40, am_n 40]) m.1 (mb_take2 m d ⟨by omega, by omega⟩ ⟨by omega, by omega⟩) c_MA_83_4 rfl rfl d_MA_takesRealCall_9 ⟨by decide, Nat.le_of_ble_eq_true rfl⟩ ⟨by decide, by decide⟩ rfl rfl (fun rr hh hp => ?_)
  cases et : sp_take g 40 40 (s 0) (s 1) with
  | none =>
    rw [et] at hp
    obtain ⟨rfl, rfl⟩ := hp
    show am_Z X 12 [.ref b, .ref (b + 29 + 4 * i), am_u, am_u] [am_n 0] h 0 0
    refine ai_zne (tgt := 17) hB d_MA_takesRealCall_12 (by decide) (fun hc => ?_) (fun hc => ?_)
    · omega
    refine ai_const hB d_MA_takesRealCall_15 ?_
    refine am_iret hB hR d_MA_takesRealCall_16 rfl (by decide) ?_ (Nat.zero_le _) (Nat.zero_le _)
    refine ⟨s, ⟨m, am_rg.rf⟩, fun _ _ _ _ _ => rfl, ?_⟩
    rw [et]
  | some j =>
    rw [et] at hp
    obtain ⟨rfl, s1, ⟨m1, g1⟩, v1, v2, v3, o1⟩ := hp
    have hj := sp_take_in d1 et
    have hlp := sp_lp_in g (s 0) d0 (j - s 0).toNat
    show am_Z X 12 [.ref b, .ref (b + 29 + 4 * i), am_u, am_u] [am_n 1] hh 0 0
    refine ai_zne (tgt := 17) hB d_MA_takesRealCall_12 (by decide) (fun hc => ?_) (fun hc => ?_)
    · refine am_aload_n hB d_MA_takesRealCall_17 rfl rfl rfl ?_
      refine am_getf hB d_MA_takesRealCall_18 F_MA_12_4 m1.1 rfl ?_
      have cl : am_M l G M_SL_lastPoint [.ref (b + 2)] hh (am_is (am_n (sp_lp g (s 0) (j - s 0).toNat)) hh) := by
        have := m_SL_lastPoint (l := l) (G := G) m1.2.2.1 m1.2.1 hg (by rw [v2, v3]; omega) (by omega)
        rw [v2, v3] at this
        exact this
      refine am_callV hB hR (as := []) m1.2.2.1 cl c_MA_139 rfl rfl d_MA_takesRealCall_21 ⟨by decide, Nat.le_of_ble_eq_true rfl⟩ ⟨by decide, by decide⟩ rfl rfl (fun rr hh hp => ?_)
      obtain ⟨rfl, rfl⟩ := hp
      refine am_istore_n hB d_MA_takesRealCall_24 rfl (by rw [hR.nL]; decide) rfl ?_
      refine am_iload_n hB d_MA_takesRealCall_25 rfl rfl ?_
      refine ai_const hB d_MA_takesRealCall_26 ?_
      have fin : ∀ (h9 : am_H) (s9 : Nat → Int) (u v : Value), mp_to h b g h9 s9 → (∀ r, r ≠ 0 → r ≠ 6 → r ≠ 7 → (r < 64 + 12 * i ∨ 67 + 12 * i < r) → s9 r = s r) → (s9 0 = j ∧ s9 (64 + 12 * i) = sp_of g (s 0) j (s (8 + 7 * p)) ∧ s9 (65 + 12 * i) = sp_ot g (s 0) j (s (9 + 7 * p)) ∧ s9 (66 + 12 * i) = sp_mf g (s 0) j ∧ s9 (67 + 12 * i) = j) → am_Z X 114 [.ref b, .ref (b + 29 + 4 * i), u, v] [] h9 0 0 := by
        intro h9 s9 u v t9 k9 hz
        refine ai_const hB d_MA_takesRealCall_114 ?_
        refine am_iret hB hR d_MA_takesRealCall_115 rfl (by decide) ?_ (Nat.zero_le _) (Nat.zero_le _)
        refine ⟨s9, t9, k9, ?_⟩
        rw [et]
        exact ⟨rfl, hz⟩
      refine ai_jne (tgt := 82) hB d_MA_takesRealCall_27 (by decide) (fun c1 => ?_) (fun c1 => ?_)
      · refine am_aload_n hB d_MA_takesRealCall_82 rfl rfl rfl ?_
        refine am_getf hB d_MA_takesRealCall_83 F_MA_142_5 (m1.L hi).1 rfl ?_
        refine am_aload_n hB d_MA_takesRealCall_86 rfl rfl rfl ?_
        refine am_getf hB d_MA_takesRealCall_87 F_MA_12_4 m1.1 rfl ?_
        refine am_getf hB d_MA_takesRealCall_90 F_MA_145_7 m1.2.2.1 rfl ?_
        rw [v2]
        refine am_iload_n hB d_MA_takesRealCall_93 rfl rfl ?_
        obtain ⟨h2, s2, e2, m2, g2, x2, y2, o2⟩ := m1.sO hi (s 0) (sp_lp g (s 0) (j - s 0).toNat)
        refine am_callV hB hR (as := [am_n (s 0), am_n (sp_lp g (s 0) (j - s 0).toNat)]) (m1.L hi).2.1 (m_SL_set (m1.L hi).2.1) c_MA_151 rfl rfl d_MA_takesRealCall_94 ⟨by decide, Nat.le_of_ble_eq_true rfl⟩ ⟨by decide, by decide⟩ rfl rfl (fun rr hh hp => ?_)
        obtain ⟨rfl, rfl⟩ := hp
        rw [e2]
        refine am_aload_n hB d_MA_takesRealCall_97 rfl rfl rfl ?_
        refine am_getf hB d_MA_takesRealCall_98 F_MA_155_5 (m2.L hi).1 rfl ?_
        refine am_iload_n hB d_MA_takesRealCall_101 rfl rfl ?_
        refine ai_const hB d_MA_takesRealCall_102 ?_
        refine ai_add hB d_MA_takesRealCall_103 ?_
        refine am_aload_n hB d_MA_takesRealCall_104 rfl rfl rfl ?_
        refine am_getf hB d_MA_takesRealCall_105 F_MA_12_4 m2.1 rfl ?_
        refine am_getf hB d_MA_takesRealCall_108 F_MA_148_7 m2.2.2.1 rfl ?_
        rw [o2 7 (by omega) (by omega), v3]
        obtain ⟨h3, s3, e3, m3, g3, x3, y3, o3⟩ := m2.sM hi (sp_lp g (s 0) (j - s 0).toNat + 1) j
        refine am_callV hB hR (as := [am_n (sp_lp g (s 0) (j - s 0).toNat + 1), am_n j]) (m2.L hi).2.2.1 (m_SL_set (m2.L hi).2.2.1) c_MA_151 rfl rfl d_MA_takesRealCall_111 ⟨by decide, Nat.le_of_ble_eq_true rfl⟩ ⟨by decide, by decide⟩ rfl rfl (fun rr hh hp => ?_)
        obtain ⟨rfl, rfl⟩ := hp
        rw [e3]
        refine fin h3 s3 _ _ ⟨m3, (g1.tr g2).tr g3⟩ (fun r q0 q1 q2 q3 => by rw [o3 r (by omega) (by omega), o2 r (by omega) (by omega), o1 r q0 q1 q2]) ⟨?_, ?_, ?_, ?_, ?_⟩
        · rw [o3 0 (by omega) (by omega), o2 0 (by omega) (by omega), v1]
        · rw [o3 _ (by omega) (by omega), x2, sp_of, if_neg c1]
        · rw [o3 _ (by omega) (by omega), y2, sp_ot, if_neg c1]
        · rw [x3, sp_mf, if_neg c1]
        · exact y3
      · have hpe1 : s1 (70 + 12 * i) = p := by rw [o1 _ (by omega) (by omega) (by omega), hpe]
        refine am_aload_n hB d_MA_takesRealCall_30 rfl rfl rfl ?_
        refine am_getf hB d_MA_takesRealCall_31 F_MA_20_4 m1.1 rfl ?_
        refine am_aload_n hB d_MA_takesRealCall_34 rfl rfl rfl ?_
        refine am_getf hB d_MA_takesRealCall_35 F_MA_108_5 (m1.L hi).1 rfl ?_
        rw [hpe1]
        refine ai_aald hB d_MA_takesRealCall_38 ty_3 m1.2.2.2.1 (z := b + 4 + 3 * p) (if_pos (by omega)) ?_
        refine am_getf hB d_MA_takesRealCall_39 F_MA_80_0 (m1.C hp8).1 rfl ?_
        refine am_astore_n hB d_MA_takesRealCall_42 rfl (by rw [hR.nL]; decide) rfl rfl ?_
        refine am_aload_n hB d_MA_takesRealCall_43 rfl rfl rfl ?_
        refine am_getf hB d_MA_takesRealCall_44 F_MA_142_5 (m1.L hi).1 rfl ?_
        refine am_aload_n hB d_MA_takesRealCall_47 rfl rfl rfl ?_
        refine am_getf hB d_MA_takesRealCall_48 F_MA_145_7 (m1.C hp8).2.1 rfl ?_
        refine am_aload_n hB d_MA_takesRealCall_51 rfl rfl rfl ?_
        refine am_getf hB d_MA_takesRealCall_52 F_MA_148_7 (m1.C hp8).2.1 rfl ?_
        rw [o1 (8 + 7 * p) (by omega) (by omega) (by omega), o1 (9 + 7 * p) (by omega) (by omega) (by omega)]
        obtain ⟨h2, s2, e2, m2, g2, x2, y2, o2⟩ := m1.sO hi (s (8 + 7 * p)) (s (9 + 7 * p))
        refine am_callV hB hR (as := [am_n (s (8 + 7 * p)), am_n (s (9 + 7 * p))]) (m1.L hi).2.1 (m_SL_set (m1.L hi).2.1) c_MA_151 rfl rfl d_MA_takesRealCall_55 ⟨by decide, Nat.le_of_ble_eq_true rfl⟩ ⟨by decide, by decide⟩ rfl rfl (fun rr hh hp => ?_)
        obtain ⟨rfl, rfl⟩ := hp
        rw [e2]
        refine am_aload_n hB d_MA_takesRealCall_58 rfl rfl rfl ?_
        refine am_getf hB d_MA_takesRealCall_59 F_MA_155_5 (m2.L hi).1 rfl ?_
        refine am_aload_n hB d_MA_takesRealCall_62 rfl rfl rfl ?_
        refine am_getf hB d_MA_takesRealCall_63 F_MA_12_4 m2.1 rfl ?_
        refine am_getf hB d_MA_takesRealCall_66 F_MA_145_7 m2.2.2.1 rfl ?_
        refine am_aload_n hB d_MA_takesRealCall_69 rfl rfl rfl ?_
        refine am_getf hB d_MA_takesRealCall_70 F_MA_12_4 m2.1 rfl ?_
        refine am_getf hB d_MA_takesRealCall_73 F_MA_148_7 m2.2.2.1 rfl ?_
        rw [o2 6 (by omega) (by omega), o2 7 (by omega) (by omega), v2, v3]
        obtain ⟨h3, s3, e3, m3, g3, x3, y3, o3⟩ := m2.sM hi (s 0) j
        refine am_callV hB hR (as := [am_n (s 0), am_n j]) (m2.L hi).2.2.1 (m_SL_set (m2.L hi).2.2.1) c_MA_151 rfl rfl d_MA_takesRealCall_76 ⟨by decide, Nat.le_of_ble_eq_true rfl⟩ ⟨by decide, by decide⟩ rfl rfl (fun rr hh hp => ?_)
        obtain ⟨rfl, rfl⟩ := hp
        rw [e3]
        refine am_goto (tgt := 114) hB d_MA_takesRealCall_79 (by decide) ?_
        refine fin h3 s3 _ _ ⟨m3, (g1.tr g2).tr g3⟩ (fun r q0 q1 q2 q3 => by rw [o3 r (by omega) (by omega), o2 r (by omega) (by omega), o1 r q0 q1 q2]) ⟨?_, ?_, ?_, ?_, ?_⟩
        · rw [o3 0 (by omega) (by omega), o2 0 (by omega) (by omega), v1]
        · rw [o3 _ (by omega) (by omega), x2, sp_of, if_pos c1]
        · rw [o3 _ (by omega) (by omega), y2, sp_ot, if_pos c1]
        · rw [x3, sp_mf, if_pos c1]
        · exact y3
    · omega
