/-! a method line, a class line -/
def sp_mline (g : Int → Int) (a e x y : Int) : Option (Int × Int × Int × Int × Int × Int × Int × Int × Int × Int) := match sp_rg g a e with
  | none => none
  | some (a1, fi, la) => match sp_take g 40 40 a1 e with
    | none => none
    | some j => match sp_rr g j e fi la with
      | none => none
      | some (a3, rf, rl) => if sp_tw g 2 a3 e = true then (match sp_take g 1 40 (a3 + 4) e with
          | none => none
          | some k => if e ≤ k then some (sp_of g a1 j x, sp_ot g a1 j y, sp_mf g a1 j, j, a3 + 4, k, fi, la, rf, rl) else none) else none
theorem sp_rg_in {g : Int → Int} {a e a1 fi la : Int} (h : a ≤ e) (hs : sp_rg g a e = some (a1, fi, la)) : a ≤ a1 ∧ a1 ≤ e ∧ -1 ≤ fi ∧ fi < 10000 ∧ -1 ≤ la ∧ la < 10000 := by
  unfold sp_rg at hs
  have n1 := sp_nv_in (g := g) h
  split at hs
  · split at hs
    · rename_i q
      have w1 := sp_tw_1 q.2.1
      have n2 := sp_nv_in (g := g) w1
      have w2 := sp_tw_1 q.2.2.2.1
      simp only [Option.some.injEq, Prod.mk.injEq] at hs
      omega
    · cases hs
  · simp only [Option.some.injEq, Prod.mk.injEq] at hs
    omega
theorem sp_rr_in {g : Int → Int} {a e fi la a3 rf rl : Int} (h : a ≤ e) (hf : -1 ≤ fi ∧ fi < 10000) (hl : -1 ≤ la ∧ la < 10000) (hs : sp_rr g a e fi la = some (a3, rf, rl)) : a ≤ a3 ∧ a3 ≤ e ∧ -1 ≤ rf ∧ rf < 10000 ∧ -1 ≤ rl ∧ rl < 10000 := by
  unfold sp_rr at hs
  split at hs
  · simp only [Option.some.injEq, Prod.mk.injEq] at hs
    omega
  · rename_i q
    have w1 : sp_tw g 1 a e = true := by
      cases z : sp_tw g 1 a e with
      | true => rfl
      | false => exact absurd (Or.inr z) q
    have w2 := sp_tw_1 w1
    have n1 := sp_nv_in (g := g) w2
    split at hs
    · cases hs
    · split at hs
      · rename_i q2
        have w3 := sp_tw_1 q2
        have n2 := sp_nv_in (g := g) w3
        split at hs
        · simp only [Option.some.injEq, Prod.mk.injEq] at hs
          omega
        · cases hs
      · simp only [Option.some.injEq, Prod.mk.injEq] at hs
        omega
theorem sp_tw_2 {g : Int → Int} {a e : Int} (h : sp_tw g 2 a e = true) : a + 4 ≤ e := by
  unfold sp_tw at h
  rw [Bool.and_eq_true, decide_eq_true_eq] at h
  have := h.1
  have e9 : ((am_len.getD 2 0 : Nat) : Int) = 4 := rfl
  omega
theorem sp_th_2 {g : Int → Int} {a e : Int} (h : sp_tw g 2 a e = true) : sp_th g 2 a e = a + 4 := by
  unfold sp_th
  rw [if_pos h]
  rfl
/-- line i holds these numbers, all else but here, the call and line i's group is as before -/
def mp_line (s s1 : Nat → Int) (i p : Nat) (v : Int × Int × Int × Int × Int × Int × Int × Int × Int × Int) : Prop := s1 (64 + 12 * i) = v.1 ∧ s1 (65 + 12 * i) = v.2.1 ∧ s1 (66 + 12 * i) = v.2.2.1 ∧ s1 (67 + 12 * i) = v.2.2.2.1 ∧ s1 (68 + 12 * i) = v.2.2.2.2.1 ∧ s1 (69 + 12 * i) = v.2.2.2.2.2.1 ∧ s1 (70 + 12 * i) = p ∧ s1 (72 + 12 * i) = v.2.2.2.2.2.2.1 ∧ s1 (73 + 12 * i) = v.2.2.2.2.2.2.2.1 ∧ s1 (74 + 12 * i) = v.2.2.2.2.2.2.2.2.1 ∧ s1 (75 + 12 * i) = v.2.2.2.2.2.2.2.2.2 ∧ ∀ r, r ≠ 0 → r ≠ 6 → r ≠ 7 → (r < 64 + 12 * i ∨ 75 + 12 * i < r) → s1 r = s r
theorem m_MA_takesMethodLine {l : Launch} {G : am_G} {h : am_H} {b i n : Nat} {g : Int → Int} {s : Nat → Int} (m : am_map h b g s) (d : mp_bd g s) (h2 : s 2 = n) (hn8 : n ≤ 8) (h3 : s 3 = i) (hi32 : i ≤ 32) (h5 : s 5 = -1 ∨ ∃ q : Nat, s 5 = q ∧ q < i) (hv : ∀ j, j < i → mp_lv s j) (hvC : ∀ p, p < n → 0 ≤ s (8 + 7 * p) ∧ s (8 + 7 * p) ≤ s (9 + 7 * p) ∧ s (9 + 7 * p) ≤ 600) :
    am_M l G M_MA_takesMethodLine [.ref b] h (fun r h' => ∃ s', mp_to h b g h' s' ∧ ((r = some (am_n 0) ∧ (n = 0 ∨ i = 32 ∨ sp_mline g (s 0) (s 1) (s (8 + 7 * (n - 1))) (s (9 + 7 * (n - 1))) = none)) ∨ (r = some (am_n 1) ∧ n ≠ 0 ∧ i ≠ 32 ∧ ∃ v s1, sp_mline g (s 0) (s 1) (s (8 + 7 * (n - 1))) (s (9 + 7 * (n - 1))) = some v ∧ mp_line s s1 i (n - 1) v ∧ mp_lv s1 i ∧ mp_ent g s1 s' i (n - 1)))) := by
  have dd := d
  obtain ⟨hg, d0, d1, d2⟩ := dd
  refine am_M.of (by decide) (Nat.le_of_ble_eq_true rfl) (fun X hB hR => ?_)
  show am_Z X 0 [.ref b, am_u] [] h 0 0
  refine am_aload_n hB d_MA_takesMethodLine_0 rfl rfl rfl ?_
  refine am_getf hB d_MA_takesMethodLine_1 F_MA_49_4 m.1 rfl ?_
  rw [h2]
  refine ai_zeq (tgt := 16) hB d_MA_takesMethodLine_4 (by decide) (fun c1 => ?_) (fun c1 => ?_)
  · refine ai_const hB d_MA_takesMethodLine_16 ?_
    refine am_iret hB hR d_MA_takesMethodLine_17 rfl (by decide) ?_ (Nat.zero_le _) (Nat.zero_le _)
    exact ⟨s, ⟨m, am_rg.rf⟩, Or.inl ⟨rfl, Or.inl (by omega)⟩⟩
  refine am_aload_n hB d_MA_takesMethodLine_7 rfl rfl rfl ?_
  refine am_getf hB d_MA_takesMethodLine_8 F_MA_52_4 m.1 rfl ?_
  rw [h3]
  refine ai_bipush hB d_MA_takesMethodLine_11 (by decide) ?_
  refine ai_jne (tgt := 18) hB d_MA_takesMethodLine_13 (by decide) (fun c2 => ?_) (fun c2 => ?_)
  · obtain ⟨p, rfl⟩ : ∃ p, n = p + 1 := ⟨n - 1, by omega⟩
    have hi : i < 32 := by omega
    have p8 : p < 8 := by omega
    refine am_aload_n hB d_MA_takesMethodLine_18 rfl rfl rfl ?_
    refine am_getf hB d_MA_takesMethodLine_19 F_MA_27_4 m.1 rfl ?_
    refine am_aload_n hB d_MA_takesMethodLine_22 rfl rfl rfl ?_
    refine am_getf hB d_MA_takesMethodLine_23 F_MA_52_4 m.1 rfl ?_
    rw [h3]
    refine ai_aald hB d_MA_takesMethodLine_26 ty_4 m.2.2.2.2.1 (z := b + 29 + 4 * i) (if_pos (by omega)) ?_
    refine am_astore_n hB d_MA_takesMethodLine_27 rfl (by rw [hR.nL]; decide) rfl rfl ?_
    refine am_aload_n hB d_MA_takesMethodLine_28 rfl rfl rfl ?_
    refine am_aload_n hB d_MA_takesMethodLine_29 rfl rfl rfl ?_
    refine am_getf hB d_MA_takesMethodLine_30 F_MA_49_4 m.1 rfl ?_
    rw [h2]
    refine ai_const hB d_MA_takesMethodLine_33 ?_
    refine ai_sub hB d_MA_takesMethodLine_34 ?_
    obtain ⟨h1, s1, e1, m1, g1, v1, o1⟩ := m.e70 hi (((p + 1 : Nat) : Int) - 1)
    have v1' : s1 (70 + 12 * i) = p := by rw [v1]; omega
    refine am_putf hB d_MA_takesMethodLine_35 P_MA_108_5 (m.L hi).1 (by simp) am_fit.i e1 ?_
    have q0 : s1 0 = s 0 := o1 0 (by omega)
    have q1 : s1 1 = s 1 := o1 1 (by omega)
    have b1 : mp_bd g s1 := ⟨hg, by rw [q0]; exact d0, by rw [q0, q1]; exact d1, by rw [q1]; exact d2⟩
    have no : ∀ (h9 : am_H) (s9 : Nat → Int), mp_to h b g h9 s9 → sp_mline g (s 0) (s 1) (s (8 + 7 * p)) (s (9 + 7 * p)) = none → am_Z X 92 [.ref b, .ref (b + 29 + 4 * i)] [] h9 0 0 := by
      intro h9 s9 t9 hz
      refine ai_const hB d_MA_takesMethodLine_92 ?_
      refine am_iret hB hR d_MA_takesMethodLine_93 rfl (by decide) ?_ (Nat.zero_le _) (Nat.zero_le _)
      exact ⟨s9, t9, Or.inl ⟨rfl, Or.inr (Or.inr hz)⟩⟩
    refine am_aload_n hB d_MA_takesMethodLine_38 rfl rfl rfl ?_
    refine am_aload_n hB d_MA_takesMethodLine_39 rfl rfl rfl ?_
    refine am_callV hB hR (as := [.ref (b + 29 + 4 * i)]) m1.1 (m_MA_takesRange m1 b1 hi) c_MA_111 rfl rfl d_MA_takesMethodLine_40 ⟨by decide, Nat.le_of_ble_eq_true rfl⟩ ⟨by decide, by decide⟩ rfl rfl (fun rr hh hp => ?_)
    obtain ⟨s2, ⟨m2, g2⟩, o2, hp⟩ := hp
    rw [q0, q1] at hp
    have t2 : mp_to h b g hh s2 := ⟨m2, g1.tr g2⟩
    cases e2 : sp_rg g (s 0) (s 1) with
    | none =>
      rw [e2] at hp
      obtain rfl := hp
      show am_Z X 43 [.ref b, .ref (b + 29 + 4 * i)] [am_n 0] hh 0 0
      refine ai_zeq (tgt := 92) hB d_MA_takesMethodLine_43 (by decide) (fun c3 => ?_) (fun c3 => ?_)
      · exact no hh s2 t2 (by unfold sp_mline; rw [e2])
      · omega
    | some w2 =>
      obtain ⟨a1, fi, la⟩ := w2
      rw [e2] at hp
      obtain ⟨rfl, x0, x1, x2⟩ := hp
      have r1 := sp_rg_in d1 e2
      have q21 : s2 1 = s 1 := by rw [o2 1 (by omega) (by omega) (by omega), q1]
      have b2 : mp_bd g s2 := ⟨hg, by rw [x0]; omega, by rw [x0, q21]; omega, by rw [q21]; exact d2⟩
      have hc2 : s2 (70 + 12 * i) = p := by rw [o2 _ (by omega) (by omega) (by omega), v1']
      have hC8 : s2 (8 + 7 * p) = s (8 + 7 * p) := by rw [o2 _ (by omega) (by omega) (by omega), o1 _ (by omega)]
      have hC9 : s2 (9 + 7 * p) = s (9 + 7 * p) := by rw [o2 _ (by omega) (by omega) (by omega), o1 _ (by omega)]
      have hvp := hvC p (by omega)
      show am_Z X 43 [.ref b, .ref (b + 29 + 4 * i)] [am_n 1] hh 0 0
      refine ai_zeq (tgt := 92) hB d_MA_takesMethodLine_43 (by decide) (fun c3 => ?_) (fun c3 => ?_)
      · omega
      refine am_aload_n hB d_MA_takesMethodLine_46 rfl rfl rfl ?_
      refine am_aload_n hB d_MA_takesMethodLine_47 rfl rfl rfl ?_
      refine am_callV hB hR (as := [.ref (b + 29 + 4 * i)]) m2.1 (m_MA_takesRealCall m2 b2 hi p8 hc2) c_MA_115 rfl rfl d_MA_takesMethodLine_48 ⟨by decide, Nat.le_of_ble_eq_true rfl⟩ ⟨by decide, by decide⟩ rfl rfl (fun rr hh hp => ?_)
      obtain ⟨s3, ⟨m3, g3⟩, o3, hp⟩ := hp
      rw [x0, q21, hC8, hC9] at hp
      have t3 := t2.tr ⟨m3, g3⟩
      cases e3 : sp_take g 40 40 a1 (s 1) with
      | none =>
        rw [e3] at hp
        obtain rfl := hp
        show am_Z X 51 [.ref b, .ref (b + 29 + 4 * i)] [am_n 0] _ 0 0
        refine ai_zeq (tgt := 92) hB d_MA_takesMethodLine_51 (by decide) (fun c4 => ?_) (fun c4 => ?_)
        · exact no _ s3 t3 (by unfold sp_mline; simp only [e2, e3])
        · omega
      | some j =>
        rw [e3] at hp
        obtain ⟨rfl, y0, y1, y2, y3, y4⟩ := hp
        have rj := sp_take_in r1.2.1 e3
        have q31 : s3 1 = s 1 := by rw [o3 1 (by omega) (by omega) (by omega) (by omega), q21]
        have b3 : mp_bd g s3 := ⟨hg, by rw [y0]; omega, by rw [y0, q31]; omega, by rw [q31]; exact d2⟩
        have f3 : s3 (72 + 12 * i) = fi := by rw [o3 _ (by omega) (by omega) (by omega) (by omega), x1]
        have l3 : s3 (73 + 12 * i) = la := by rw [o3 _ (by omega) (by omega) (by omega) (by omega), x2]
        show am_Z X 51 [.ref b, .ref (b + 29 + 4 * i)] [am_n 1] _ 0 0
        refine ai_zeq (tgt := 92) hB d_MA_takesMethodLine_51 (by decide) (fun c4 => ?_) (fun c4 => ?_)
        · omega
        refine am_aload_n hB d_MA_takesMethodLine_54 rfl rfl rfl ?_
        refine am_aload_n hB d_MA_takesMethodLine_55 rfl rfl rfl ?_
        refine am_callV hB hR (as := [.ref (b + 29 + 4 * i)]) m3.1 (m_MA_takesRealRange m3 b3 hi (by rw [f3]; omega) (by rw [l3]; omega)) c_MA_118 rfl rfl d_MA_takesMethodLine_56 ⟨by decide, Nat.le_of_ble_eq_true rfl⟩ ⟨by decide, by decide⟩ rfl rfl (fun rr hh hp => ?_)
        obtain ⟨s4, ⟨m4, g4⟩, o4, hp⟩ := hp
        rw [y0, q31, f3, l3] at hp
        have t4 := t3.tr ⟨m4, g4⟩
        cases e4 : sp_rr g j (s 1) fi la with
        | none =>
          rw [e4] at hp
          obtain rfl := hp
          show am_Z X 59 [.ref b, .ref (b + 29 + 4 * i)] [am_n 0] _ 0 0
          refine ai_zeq (tgt := 92) hB d_MA_takesMethodLine_59 (by decide) (fun c5 => ?_) (fun c5 => ?_)
          · exact no _ s4 t4 (by unfold sp_mline; simp only [e2, e3, e4])
          · omega
        | some w4 =>
          obtain ⟨a3, rf, rl⟩ := w4
          rw [e4] at hp
          obtain ⟨rfl, z0, z1, z2⟩ := hp
          have r3 := sp_rr_in (by omega) ⟨r1.2.2.1, r1.2.2.2.1⟩ r1.2.2.2.2 e4
          have q41 : s4 1 = s 1 := by rw [o4 1 (by omega) (by omega) (by omega), q31]
          have b4 : mp_bd g s4 := ⟨hg, by rw [z0]; omega, by rw [z0, q41]; omega, by rw [q41]; exact d2⟩
          show am_Z X 59 [.ref b, .ref (b + 29 + 4 * i)] [am_n 1] _ 0 0
          refine ai_zeq (tgt := 92) hB d_MA_takesMethodLine_59 (by decide) (fun c5 => ?_) (fun c5 => ?_)
          · omega
          refine am_aload_n hB d_MA_takesMethodLine_62 rfl rfl rfl ?_
          refine am_ldcS hB d_MA_takesMethodLine_63 (List.mem_of_getElem? (i := 2) rfl) ?_
          refine am_callU hB hR (as := [.retAddr 2]) m4.1 (mb_takeWord m4 b4 (by decide)) c_MA_70_4 rfl rfl d_MA_takesMethodLine_65 ⟨by decide, Nat.le_of_ble_eq_true rfl⟩ ⟨by decide, by decide⟩ rfl rfl (fun rr hh hp => ?_)
          obtain ⟨rfl, s5, ⟨m5, g5⟩, v5, o5⟩ := hp
          rw [z0, q41] at v5 ⊢
          have t5 := t4.tr ⟨m5, g5⟩
          cases w5 : sp_tw g 2 a3 (s 1) with
          | false =>
            show am_Z X 68 [.ref b, .ref (b + 29 + 4 * i)] [am_n 0] _ 0 0
            refine ai_zeq (tgt := 92) hB d_MA_takesMethodLine_68 (by decide) (fun c6 => ?_) (fun c6 => ?_)
            · exact no _ s5 t5 (by unfold sp_mline; simp only [e2, e3, e4, w5]; rfl)
            · omega
          | true =>
            have w6 := sp_tw_2 w5
            rw [sp_th_2 w5] at v5
            have q51 : s5 1 = s 1 := by rw [o5 1 (by omega), q41]
            have b5 : mp_bd g s5 := ⟨hg, by rw [v5]; omega, by rw [v5, q51]; omega, by rw [q51]; exact d2⟩
            show am_Z X 68 [.ref b, .ref (b + 29 + 4 * i)] [am_n 1] _ 0 0
            refine ai_zeq (tgt := 92) hB d_MA_takesMethodLine_68 (by decide) (fun c6 => ?_) (fun c6 => ?_)
            · omega
            refine am_aload_n hB d_MA_takesMethodLine_71 rfl rfl rfl ?_
            refine am_aload_n hB d_MA_takesMethodLine_72 rfl rfl rfl ?_
            refine am_getf hB d_MA_takesMethodLine_73 F_MA_121_5 (m5.L hi).1 rfl ?_
            refine ai_const hB d_MA_takesMethodLine_76 ?_
            refine ai_bipush hB d_MA_takesMethodLine_77 (by decide) ?_
            refine am_callU hB hR (as := [.ref (b + 32 + 4 * i), am_n 1, am_n 40]) m5.1 (mb_takeS m5 b5 hi ⟨by omega, by omega⟩ ⟨by omega, by omega⟩) c_MA_83_4 rfl rfl d_MA_takesMethodLine_79 ⟨by decide, Nat.le_of_ble_eq_true rfl⟩ ⟨by decide, by decide⟩ rfl rfl (fun rr hh hp => ?_)
            rw [v5, q51] at hp
            cases e6 : sp_take g 1 40 (a3 + 4) (s 1) with
            | none =>
              rw [e6] at hp
              obtain ⟨rfl, rfl⟩ := hp
              show am_Z X 82 [.ref b, .ref (b + 29 + 4 * i)] [am_n 0] _ 0 0
              refine ai_zeq (tgt := 92) hB d_MA_takesMethodLine_82 (by decide) (fun c7 => ?_) (fun c7 => ?_)
              · exact no _ s5 t5 (by unfold sp_mline; simp only [e2, e3, e4, w5, e6]; rfl)
              · omega
            | some k =>
              rw [e6] at hp
              obtain ⟨rfl, s6, ⟨m6, g6⟩, u0, u1, u2, o6⟩ := hp
              have t6 := t5.tr ⟨m6, g6⟩
              have rk := sp_take_in w6 e6
              have q61 : s6 1 = s 1 := by rw [o6 1 (by omega) (by omega) (by omega), q51]
              have b6 : mp_bd g s6 := ⟨hg, by rw [u0]; omega, by rw [u0, q61]; omega, by rw [q61]; exact d2⟩
              show am_Z X 82 [.ref b, .ref (b + 29 + 4 * i)] [am_n 1] _ 0 0
              refine ai_zeq (tgt := 92) hB d_MA_takesMethodLine_82 (by decide) (fun c7 => ?_) (fun c7 => ?_)
              · omega
              refine am_aload_n hB d_MA_takesMethodLine_85 rfl rfl rfl ?_
              refine am_callU hB hR (as := []) m6.1 (m_FO_isDone (m6.fo b6)) c_MA_61_4 rfl rfl d_MA_takesMethodLine_86 ⟨by decide, Nat.le_of_ble_eq_true rfl⟩ ⟨by decide, by decide⟩ rfl rfl (fun rr hh hp => ?_)
              obtain ⟨rfl, rfl⟩ := hp
              rw [u0, q61]
              by_cases hk : s 1 ≤ k
              · rw [decide_eq_true hk]
                show am_Z X 89 [.ref b, .ref (b + 29 + 4 * i)] [am_n 1] _ 0 0
                have k6 : ∀ r, r ≠ 0 → r ≠ 6 → r ≠ 7 → (r < 64 + 12 * i ∨ 75 + 12 * i < r) → s6 r = s r := fun r a0 a6 a7 ar => by rw [o6 r a0 (by omega) (by omega), o5 r a0, o4 r a0 (by omega) (by omega), o3 r a0 a6 a7 (by omega), o2 r a0 (by omega) (by omega), o1 r (by omega)]
                have ln : mp_line s s6 i p (sp_of g a1 j (s (8 + 7 * p)), sp_ot g a1 j (s (9 + 7 * p)), sp_mf g a1 j, j, a3 + 4, k, fi, la, rf, rl) := by
                  refine ⟨?_, ?_, ?_, ?_, ?_, ?_, ?_, ?_, ?_, ?_, ?_, k6⟩
                  · rw [o6 _ (by omega) (by omega) (by omega), o5 _ (by omega), o4 _ (by omega) (by omega) (by omega), y1]
                  · rw [o6 _ (by omega) (by omega) (by omega), o5 _ (by omega), o4 _ (by omega) (by omega) (by omega), y2]
                  · rw [o6 _ (by omega) (by omega) (by omega), o5 _ (by omega), o4 _ (by omega) (by omega) (by omega), y3]
                  · rw [o6 _ (by omega) (by omega) (by omega), o5 _ (by omega), o4 _ (by omega) (by omega) (by omega), y4]
                  · exact u1
                  · exact u2
                  · rw [o6 _ (by omega) (by omega) (by omega), o5 _ (by omega), o4 _ (by omega) (by omega) (by omega), o3 _ (by omega) (by omega) (by omega) (by omega), hc2]
                  · rw [o6 _ (by omega) (by omega) (by omega), o5 _ (by omega), o4 _ (by omega) (by omega) (by omega), f3]
                  · rw [o6 _ (by omega) (by omega) (by omega), o5 _ (by omega), o4 _ (by omega) (by omega) (by omega), l3]
                  · rw [o6 _ (by omega) (by omega) (by omega), o5 _ (by omega), z1]
                  · rw [o6 _ (by omega) (by omega) (by omega), o5 _ (by omega), z2]
                have hlp := sp_lp_in g a1 (by omega) (j - a1).toNat
                have lvi : mp_lv s6 i := by
                  obtain ⟨n1, n2, n3, n4, n5, n6, n7, n8, n9, n10, n11, -⟩ := ln
                  unfold mp_lv
                  rw [n1, n2, n3, n4, n5, n6, n7, n8, n9, n10, n11]
                  simp only
                  have of1 : sp_of g a1 j (s (8 + 7 * p)) = s (8 + 7 * p) ∧ sp_ot g a1 j (s (9 + 7 * p)) = s (9 + 7 * p) ∧ sp_mf g a1 j = a1 ∨ sp_of g a1 j (s (8 + 7 * p)) = a1 ∧ a1 ≤ sp_ot g a1 j (s (9 + 7 * p)) ∧ sp_ot g a1 j (s (9 + 7 * p)) < j ∧ sp_mf g a1 j = sp_ot g a1 j (s (9 + 7 * p)) + 1 := by
                    unfold sp_of sp_ot sp_mf
                    by_cases z : sp_lp g a1 (j - a1).toNat = -1
                    · rw [if_pos z, if_pos z, if_pos z]
                      exact Or.inl ⟨rfl, rfl, rfl⟩
                    · rw [if_neg z, if_neg z, if_neg z]
                      exact Or.inr ⟨rfl, by omega, by omega, rfl⟩
                  omega
                refine ai_zne (tgt := 94) hB d_MA_takesMethodLine_89 (by decide) (fun c8 => ?_) (fun c8 => ?_)
                · refine am_aload_n hB d_MA_takesMethodLine_94 rfl rfl rfl ?_
                  refine am_aload_n hB d_MA_takesMethodLine_95 rfl rfl rfl ?_
                  refine am_aload_n hB d_MA_takesMethodLine_96 rfl rfl rfl ?_
                  refine am_getf hB d_MA_takesMethodLine_97 F_MA_20_4 m6.1 rfl ?_
                  refine am_aload_n hB d_MA_takesMethodLine_100 rfl rfl rfl ?_
                  refine am_getf hB d_MA_takesMethodLine_101 F_MA_49_4 m6.1 rfl ?_
                  rw [k6 2 (by omega) (by omega) (by omega) (by omega), h2]
                  refine ai_const hB d_MA_takesMethodLine_104 ?_
                  refine ai_sub hB d_MA_takesMethodLine_105 ?_
                  refine ai_aald hB d_MA_takesMethodLine_106 ty_3 m6.2.2.2.1 (z := b + 4 + 3 * p) ((if_pos (by omega)).trans (by show some (b + 4 + 3 * (((p + 1 : Nat) : Int) - 1).toNat) = _; congr 2; omega)) ?_
                  have hv6 : ∀ j, j ≤ i → mp_lv s6 j := by
                    intro j' hj'
                    by_cases ji : j' = i
                    · rw [ji]; exact lvi
                    · have := hv j' (by omega)
                      unfold mp_lv at this ⊢
                      simp only [k6 (64 + 12 * j') (by omega) (by omega) (by omega) (by omega), k6 (65 + 12 * j') (by omega) (by omega) (by omega) (by omega), k6 (66 + 12 * j') (by omega) (by omega) (by omega) (by omega), k6 (67 + 12 * j') (by omega) (by omega) (by omega) (by omega), k6 (68 + 12 * j') (by omega) (by omega) (by omega) (by omega), k6 (69 + 12 * j') (by omega) (by omega) (by omega) (by omega), k6 (70 + 12 * j') (by omega) (by omega) (by omega) (by omega), k6 (72 + 12 * j') (by omega) (by omega) (by omega) (by omega), k6 (73 + 12 * j') (by omega) (by omega) (by omega) (by omega), k6 (74 + 12 * j') (by omega) (by omega) (by omega) (by omega), k6 (75 + 12 * j') (by omega) (by omega) (by omega) (by omega)]
                      exact this
                  refine am_callV hB hR (as := [.ref (b + 29 + 4 * i), .ref (b + 4 + 3 * p)]) m6.1 (m_MA_enter m6 hg hi p8 (by rw [k6 3 (by omega) (by omega) (by omega) (by omega), h3]) (by rw [k6 5 (by omega) (by omega) (by omega) (by omega)]; exact h5) hv6) c_MA_122 rfl rfl d_MA_takesMethodLine_107 ⟨by decide, Nat.le_of_ble_eq_true rfl⟩ ⟨by decide, by decide⟩ rfl rfl (fun rr hh hp => ?_)
                  obtain ⟨rfl, s7, t7, hent⟩ := hp
                  refine ai_const hB d_MA_takesMethodLine_110 ?_
                  refine am_iret hB hR d_MA_takesMethodLine_111 rfl (by decide) ?_ (Nat.zero_le _) (Nat.zero_le _)
                  refine ⟨s7, t6.tr t7, Or.inr ⟨rfl, by omega, by omega, _, s6, ?_, ln, lvi, hent⟩⟩
                  unfold sp_mline
                  simp only [e2, e3, e4, w5, e6, if_pos hk]
                  rfl
                · omega
              · rw [decide_eq_false hk]
                show am_Z X 89 [.ref b, .ref (b + 29 + 4 * i)] [am_n 0] _ 0 0
                refine ai_zne (tgt := 94) hB d_MA_takesMethodLine_89 (by decide) (fun c8 => ?_) (fun c8 => ?_)
                · omega
                · exact no _ s6 t6 (by unfold sp_mline; simp only [e2, e3, e4, w5, e6, if_neg hk]; rfl)
  · refine ai_const hB d_MA_takesMethodLine_16 ?_
    refine am_iret hB hR d_MA_takesMethodLine_17 rfl (by decide) ?_ (Nat.zero_le _) (Nat.zero_le _)
    exact ⟨s, ⟨m, am_rg.rf⟩, Or.inl ⟨rfl, Or.inr (Or.inl (by omega))⟩⟩
