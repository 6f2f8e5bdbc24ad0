/-! a class line, a line -/
def sp_cline (g : Int → Int) (a e : Int) : Option (Int × Int) := match sp_take g 40 40 a e with
  | none => none
  | some j => if sp_tw g 2 j e = true then (match sp_take g 40 40 (j + 4) e with
      | none => none
      | some k => if sp_tw g 1 k e = true ∧ e ≤ k + 1 then some (j, k) else none) else none
theorem sp_cline_in {g : Int → Int} {a e j k : Int} (h : a ≤ e) (hs : sp_cline g a e = some (j, k)) : a < j ∧ j + 4 < k ∧ k + 1 = e := by
  unfold sp_cline at hs
  cases e1 : sp_take g 40 40 a e with
  | none => rw [e1] at hs; cases hs
  | some j' =>
    have r1 := sp_take_in h e1
    rw [e1] at hs
    simp only at hs
    split at hs
    · rename_i w
      have w2 := sp_tw_2 w
      cases e2 : sp_take g 40 40 (j' + 4) e with
      | none => rw [e2] at hs; cases hs
      | some k' =>
        have r2 := sp_take_in w2 e2
        rw [e2] at hs
        simp only at hs
        split at hs
        · rename_i w3
          have w4 := sp_tw_1 w3.1
          simp only [Option.some.injEq, Prod.mk.injEq] at hs
          omega
        · cases hs
    · cases hs
/-- what a new class line n leaves -/
def mp_cent (s s' : Nat → Int) (n : Nat) (j k : Int) : Prop := s' 2 = n + 1 ∧ s' (8 + 7 * n) = s 0 ∧ s' (9 + 7 * n) = j ∧ s' (10 + 7 * n) = j + 4 ∧ s' (11 + 7 * n) = k ∧ s' (12 + 7 * n) = s 3 ∧ s' (13 + 7 * n) = s 3 ∧ s' (14 + 7 * n) = 0 ∧ ∀ r, r ≠ 0 → r ≠ 2 → (r < 8 + 7 * n ∨ 14 + 7 * n < r) → s' r = s r
abbrev sp_fR (g : Int → Int) (s : Nat → Int) (gz : Int → Int) (f t : Int) (n : Nat) : Option Nat := sp_fd (fun i => sp_eq g (s (8 + 7 * i)) (s (9 + 7 * i)) gz f t) 0 n
abbrev sp_fB (g : Int → Int) (s : Nat → Int) (gz : Int → Int) (f t : Int) (n : Nat) : Option Nat := sp_fd (fun i => sp_eq g (s (10 + 7 * i)) (s (11 + 7 * i)) gz f t) 0 n
theorem sp_fd_cg {P Q : Nat → Bool} : ∀ (n i : Nat), (∀ j, i ≤ j → j < i + n → P j = Q j) → sp_fd P i n = sp_fd Q i n
  | 0, _, _ => rfl
  | n + 1, i, h => by
    unfold sp_fd
    rw [h i (by omega) (by omega), sp_fd_cg n (i + 1) (fun j h1 h2 => h j (by omega) (by omega))]
theorem m_MA_takesClassLine {l : Launch} {G : am_G} {h : am_H} {b n : Nat} {g : Int → Int} {s : Nat → Int} (m : am_map h b g s) (d : mp_bd g s) (h2 : s 2 = n) (hn8 : n ≤ 8) (hvC : ∀ p, p < n → 0 ≤ s (8 + 7 * p) ∧ s (8 + 7 * p) ≤ s (9 + 7 * p) ∧ s (9 + 7 * p) ≤ 600) (hvB : ∀ p, p < n → 0 ≤ s (10 + 7 * p) ∧ s (10 + 7 * p) ≤ s (11 + 7 * p) ∧ s (11 + 7 * p) ≤ 600) :
    am_M l G M_MA_takesClassLine [.ref b] h (fun r h' => ∃ s', mp_to h b g h' s' ∧ ((r = some (am_n 0) ∧ (n = 8 ∨ sp_cline g (s 0) (s 1) = none ∨ ∃ j k, sp_cline g (s 0) (s 1) = some (j, k) ∧ (sp_fR g s g (s 0) j n ≠ none ∨ sp_fB g s g (j + 4) k n ≠ none))) ∨ (r = some (am_n 1) ∧ n ≠ 8 ∧ ∃ j k, sp_cline g (s 0) (s 1) = some (j, k) ∧ sp_fR g s g (s 0) j n = none ∧ sp_fB g s g (j + 4) k n = none ∧ mp_cent s s' n j k))) := by
  have dd := d
  obtain ⟨hg, d0, d1, d2⟩ := dd
  refine am_M.of (by decide) (Nat.le_of_ble_eq_true rfl) (fun X hB hR => ?_)
  show am_Z X 0 [.ref b, am_u] [] h 0 0
  refine am_aload_n hB d_MA_takesClassLine_0 rfl rfl rfl ?_
  refine am_getf hB d_MA_takesClassLine_1 F_MA_49_4 m.1 rfl ?_
  rw [h2]
  refine ai_bipush hB d_MA_takesClassLine_4 (by decide) ?_
  refine ai_jne (tgt := 11) hB d_MA_takesClassLine_6 (by decide) (fun c1 => ?_) (fun c1 => ?_)
  · have hn : n < 8 := by omega
    refine am_aload_n hB d_MA_takesClassLine_11 rfl rfl rfl ?_
    refine am_getf hB d_MA_takesClassLine_12 F_MA_20_4 m.1 rfl ?_
    refine am_aload_n hB d_MA_takesClassLine_15 rfl rfl rfl ?_
    refine am_getf hB d_MA_takesClassLine_16 F_MA_49_4 m.1 rfl ?_
    rw [h2]
    refine ai_aald hB d_MA_takesClassLine_19 ty_3 m.2.2.2.1 (z := b + 4 + 3 * n) (if_pos (by omega)) ?_
    refine am_astore_n hB d_MA_takesClassLine_20 rfl (by rw [hR.nL]; decide) rfl rfl ?_
    refine am_aload_n hB d_MA_takesClassLine_21 rfl rfl rfl ?_
    refine am_aload_n hB d_MA_takesClassLine_22 rfl rfl rfl ?_
    refine am_getf hB d_MA_takesClassLine_23 F_MA_80_0 (m.C hn).1 rfl ?_
    refine ai_bipush hB d_MA_takesClassLine_26 (by decide) ?_
    refine ai_bipush hB d_MA_takesClassLine_28 (by decide) ?_
    have no : ∀ (h9 : am_H) (s9 : Nat → Int), mp_to h b g h9 s9 → sp_cline g (s 0) (s 1) = none → am_Z X 76 [.ref b, .ref (b + 4 + 3 * n)] [] h9 0 0 := by
      intro h9 s9 t9 hz
      refine ai_const hB d_MA_takesClassLine_76 ?_
      refine am_iret hB hR d_MA_takesClassLine_77 rfl (by decide) ?_ (Nat.zero_le _) (Nat.zero_le _)
      exact ⟨s9, t9, Or.inl ⟨rfl, Or.inr (Or.inl hz)⟩⟩
    refine am_callU hB hR (as := [.ref (b + 5 + 3 * n), am_n 40, am_n 40]) m.1 (mb_takeR m d hn ⟨by omega, by omega⟩ ⟨by omega, by omega⟩) c_MA_83_4 rfl rfl d_MA_takesClassLine_30 ⟨by decide, Nat.le_of_ble_eq_true rfl⟩ ⟨by decide, by decide⟩ rfl rfl (fun rr hh hp => ?_)
    cases e2 : sp_take g 40 40 (s 0) (s 1) with
    | none =>
      rw [e2] at hp
      obtain ⟨rfl, rfl⟩ := hp
      show am_Z X 33 [.ref b, .ref (b + 4 + 3 * n)] [am_n 0] h 0 0
      refine ai_zeq (tgt := 76) hB d_MA_takesClassLine_33 (by decide) (fun c3 => ?_) (fun c3 => ?_)
      · exact no h s ⟨m, am_rg.rf⟩ (by unfold sp_cline; rw [e2])
      · omega
    | some j =>
      rw [e2] at hp
      obtain ⟨rfl, s2, t2, x0, x1, x2, o2⟩ := hp
      have m2 := t2.1
      have rj := sp_take_in d1 e2
      have q21 : s2 1 = s 1 := o2 1 (by omega) (by omega) (by omega)
      have b2 : mp_bd g s2 := ⟨hg, by rw [x0]; omega, by rw [x0, q21]; omega, by rw [q21]; exact d2⟩
      show am_Z X 33 [.ref b, .ref (b + 4 + 3 * n)] [am_n 1] hh 0 0
      refine ai_zeq (tgt := 76) hB d_MA_takesClassLine_33 (by decide) (fun c3 => ?_) (fun c3 => ?_)
      · omega
      refine am_aload_n hB d_MA_takesClassLine_36 rfl rfl rfl ?_
      refine am_ldcS hB d_MA_takesClassLine_37 (List.mem_of_getElem? (i := 2) rfl) ?_
      refine am_callU hB hR (as := [.retAddr 2]) m2.1 (mb_takeWord m2 b2 (by decide)) c_MA_70_4 rfl rfl d_MA_takesClassLine_39 ⟨by decide, Nat.le_of_ble_eq_true rfl⟩ ⟨by decide, by decide⟩ rfl rfl (fun rr hh hp => ?_)
      obtain ⟨rfl, s5, t5', v5, o5⟩ := hp
      have m5 := t5'.1
      rw [x0, q21] at v5 ⊢
      have t5 := t2.tr t5'
      cases w5 : sp_tw g 2 j (s 1) with
      | false =>
        show am_Z X 42 [.ref b, .ref (b + 4 + 3 * n)] [am_n 0] _ 0 0
        refine ai_zeq (tgt := 76) hB d_MA_takesClassLine_42 (by decide) (fun c6 => ?_) (fun c6 => ?_)
        · exact no _ s5 t5 (by unfold sp_cline; simp only [e2, w5]; rfl)
        · omega
      | true =>
        have w6 := sp_tw_2 w5
        rw [sp_th_2 w5] at v5
        have q51 : s5 1 = s 1 := by rw [o5 1 (by omega), q21]
        have b5 : mp_bd g s5 := ⟨hg, by rw [v5]; omega, by rw [v5, q51]; omega, by rw [q51]; exact d2⟩
        show am_Z X 42 [.ref b, .ref (b + 4 + 3 * n)] [am_n 1] _ 0 0
        refine ai_zeq (tgt := 76) hB d_MA_takesClassLine_42 (by decide) (fun c6 => ?_) (fun c6 => ?_)
        · omega
        refine am_aload_n hB d_MA_takesClassLine_45 rfl rfl rfl ?_
        refine am_aload_n hB d_MA_takesClassLine_46 rfl rfl rfl ?_
        refine am_getf hB d_MA_takesClassLine_47 F_MA_89_0 (m5.C hn).1 rfl ?_
        refine ai_bipush hB d_MA_takesClassLine_50 (by decide) ?_
        refine ai_bipush hB d_MA_takesClassLine_52 (by decide) ?_
        refine am_callU hB hR (as := [.ref (b + 6 + 3 * n), am_n 40, am_n 40]) m5.1 (mb_takeB m5 b5 hn ⟨by omega, by omega⟩ ⟨by omega, by omega⟩) c_MA_83_4 rfl rfl d_MA_takesClassLine_54 ⟨by decide, Nat.le_of_ble_eq_true rfl⟩ ⟨by decide, by decide⟩ rfl rfl (fun rr hh hp => ?_)
        rw [v5, q51] at hp
        cases e6 : sp_take g 40 40 (j + 4) (s 1) with
        | none =>
          rw [e6] at hp
          obtain ⟨rfl, rfl⟩ := hp
          show am_Z X 57 [.ref b, .ref (b + 4 + 3 * n)] [am_n 0] _ 0 0
          refine ai_zeq (tgt := 76) hB d_MA_takesClassLine_57 (by decide) (fun c7 => ?_) (fun c7 => ?_)
          · exact no _ s5 t5 (by unfold sp_cline; simp only [e2, w5, e6]; rfl)
          · omega
        | some k =>
          rw [e6] at hp
          obtain ⟨rfl, s6, t6', u0, u1, u2, o6⟩ := hp
          have m6 := t6'.1
          have t6 := t5.tr t6'
          have rk := sp_take_in w6 e6
          have q61 : s6 1 = s 1 := by rw [o6 1 (by omega) (by omega) (by omega), q51]
          have b6 : mp_bd g s6 := ⟨hg, by rw [u0]; omega, by rw [u0, q61]; omega, by rw [q61]; exact d2⟩
          show am_Z X 57 [.ref b, .ref (b + 4 + 3 * n)] [am_n 1] _ 0 0
          refine ai_zeq (tgt := 76) hB d_MA_takesClassLine_57 (by decide) (fun c7 => ?_) (fun c7 => ?_)
          · omega
          refine am_aload_n hB d_MA_takesClassLine_60 rfl rfl rfl ?_
          refine am_ldcS hB d_MA_takesClassLine_61 (List.mem_of_getElem? (i := 1) rfl) ?_
          refine am_callU hB hR (as := [.retAddr 1]) m6.1 (mb_takeWord m6 b6 (by decide)) c_MA_70_4 rfl rfl d_MA_takesClassLine_63 ⟨by decide, Nat.le_of_ble_eq_true rfl⟩ ⟨by decide, by decide⟩ rfl rfl (fun rr hh hp => ?_)
          obtain ⟨rfl, s7, t7', v7, o7⟩ := hp
          have m7 := t7'.1
          rw [u0, q61] at v7 ⊢
          have t7 := t6.tr t7'
          cases w7 : sp_tw g 1 k (s 1) with
          | false =>
            show am_Z X 66 [.ref b, .ref (b + 4 + 3 * n)] [am_n 0] _ 0 0
            refine ai_zeq (tgt := 76) hB d_MA_takesClassLine_66 (by decide) (fun c8 => ?_) (fun c8 => ?_)
            · exact no _ s7 t7 (by unfold sp_cline; simp only [e2, w5, e6, w7]; rfl)
            · omega
          | true =>
            have w8 := sp_tw_1 w7
            rw [sp_th_1 w7] at v7
            have q71 : s7 1 = s 1 := by rw [o7 1 (by omega), q61]
            have b7 : mp_bd g s7 := ⟨hg, by rw [v7]; omega, by rw [v7, q71]; omega, by rw [q71]; exact d2⟩
            show am_Z X 66 [.ref b, .ref (b + 4 + 3 * n)] [am_n 1] _ 0 0
            refine ai_zeq (tgt := 76) hB d_MA_takesClassLine_66 (by decide) (fun c8 => ?_) (fun c8 => ?_)
            · omega
            refine am_aload_n hB d_MA_takesClassLine_69 rfl rfl rfl ?_
            refine am_callU hB hR (as := []) m7.1 (m_FO_isDone (m7.fo b7)) c_MA_61_4 rfl rfl d_MA_takesClassLine_70 ⟨by decide, Nat.le_of_ble_eq_true rfl⟩ ⟨by decide, by decide⟩ rfl rfl (fun rr hh hp => ?_)
            obtain ⟨rfl, rfl⟩ := hp
            rw [v7, q71]
            have k7 : ∀ r, r ≠ 0 → (r < 8 + 7 * n ∨ 11 + 7 * n < r) → s7 r = s r := fun r a0 ar => by rw [o7 r a0, o6 r a0 (by omega) (by omega), o5 r a0, o2 r a0 (by omega) (by omega)]
            by_cases hk : s 1 ≤ k + 1
            · have hcl : sp_cline g (s 0) (s 1) = some (j, k) := by
                unfold sp_cline
                simp only [e2, w5, e6, w7]
                rw [if_pos trivial, if_pos ⟨trivial, hk⟩]
              rw [decide_eq_true hk]
              show am_Z X 73 [.ref b, .ref (b + 4 + 3 * n)] [am_n 1] _ 0 0
              refine ai_zne (tgt := 78) hB d_MA_takesClassLine_73 (by decide) (fun c9 => ?_) (fun c9 => ?_)
              · refine am_aload_n hB d_MA_takesClassLine_78 rfl rfl rfl ?_
                refine am_aload_n hB d_MA_takesClassLine_79 rfl rfl rfl ?_
                refine am_getf hB d_MA_takesClassLine_80 F_MA_80_0 (m7.C hn).1 rfl ?_
                have y8 : s7 (8 + 7 * n) = s 0 := by rw [o7 _ (by omega), o6 _ (by omega) (by omega) (by omega), o5 _ (by omega), x1]
                have y9 : s7 (9 + 7 * n) = j := by rw [o7 _ (by omega), o6 _ (by omega) (by omega) (by omega), o5 _ (by omega), x2]
                have y10 : s7 (10 + 7 * n) = j + 4 := by rw [o7 _ (by omega), u1]
                have y11 : s7 (11 + 7 * n) = k := by rw [o7 _ (by omega), u2]
                have z8 : am_sl hh (b + 5 + 3 * n) (b + 1) (s 0) j 600 g := by
                  refine ⟨?_, m7.2.1, hg, by omega, by omega, by omega, by omega⟩
                  have := (m7.C hn).2.1
                  rw [y8, y9] at this
                  exact this
                have z10 : am_sl hh (b + 6 + 3 * n) (b + 1) (j + 4) k 600 g := by
                  refine ⟨?_, m7.2.1, hg, by omega, by omega, by omega, by omega⟩
                  have := (m7.C hn).2.2
                  rw [y10, y11] at this
                  exact this
                have n7 : s7 2 = n := by rw [k7 2 (by omega) (by omega), h2]
                have fr : sp_fR g s7 g (s 0) j n = sp_fR g s g (s 0) j n := sp_fd_cg n 0 (fun i _ hi => by rw [k7 _ (by omega) (by omega), k7 _ (by omega) (by omega)])
                have fb : sp_fB g s7 g (j + 4) k n = sp_fB g s g (j + 4) k n := sp_fd_cg n 0 (fun i _ hi => by rw [k7 _ (by omega) (by omega), k7 _ (by omega) (by omega)])
                have no2 : (sp_fR g s g (s 0) j n ≠ none ∨ sp_fB g s g (j + 4) k n ≠ none) → am_Z X 100 [.ref b, .ref (b + 4 + 3 * n)] [] hh 0 0 := by
                  intro hz
                  refine ai_const hB d_MA_takesClassLine_100 ?_
                  refine am_iret hB hR d_MA_takesClassLine_101 rfl (by decide) ?_ (Nat.zero_le _) (Nat.zero_le _)
                  exact ⟨s7, t7, Or.inl ⟨rfl, Or.inr (Or.inr ⟨j, k, hcl, hz⟩)⟩⟩
                refine am_callV hB hR (as := [.ref (b + 5 + 3 * n)]) m7.1 (m_MA_lineOfReal m7 hg z8 n7 hn8 (fun i hi => by rw [k7 _ (by omega) (by omega), k7 _ (by omega) (by omega)]; exact hvC i hi)) c_MA_94 rfl rfl d_MA_takesClassLine_83 ⟨by decide, Nat.le_of_ble_eq_true rfl⟩ ⟨by decide, by decide⟩ rfl rfl (fun rr hh hp => ?_)
                obtain ⟨rfl, rfl⟩ := hp
                show am_Z X 86 [.ref b, .ref (b + 4 + 3 * n)] [mp_rv b (sp_fR g s7 g (s 0) j n)] hh 0 0
                cases f1 : sp_fR g s7 g (s 0) j n with
                | some i1 =>
                  show am_Z X 86 [.ref b, .ref (b + 4 + 3 * n)] [.ref (b + 4 + 3 * i1)] hh 0 0
                  refine am_ifnonnullR (tgt := 100) hB d_MA_takesClassLine_86 (by decide) (no2 (Or.inl ?_))
                  rw [← fr, f1]
                  exact fun z => by cases z
                | none =>
                  show am_Z X 86 [.ref b, .ref (b + 4 + 3 * n)] [.null] hh 0 0
                  refine am_ifnonnullN hB d_MA_takesClassLine_86 ?_
                  refine am_aload_n hB d_MA_takesClassLine_89 rfl rfl rfl ?_
                  refine am_aload_n hB d_MA_takesClassLine_90 rfl rfl rfl ?_
                  refine am_getf hB d_MA_takesClassLine_91 F_MA_89_0 (m7.C hn).1 rfl ?_
                  refine am_callV hB hR (as := [.ref (b + 6 + 3 * n)]) m7.1 (m_MA_lineOfShort m7 hg z10 n7 hn8 (fun i hi => by rw [k7 _ (by omega) (by omega), k7 _ (by omega) (by omega)]; exact hvB i hi)) c_MA_98 rfl rfl d_MA_takesClassLine_94 ⟨by decide, Nat.le_of_ble_eq_true rfl⟩ ⟨by decide, by decide⟩ rfl rfl (fun rr hh hp => ?_)
                  obtain ⟨rfl, rfl⟩ := hp
                  show am_Z X 97 [.ref b, .ref (b + 4 + 3 * n)] [mp_rv b (sp_fB g s7 g (j + 4) k n)] hh 0 0
                  cases f2 : sp_fB g s7 g (j + 4) k n with
                  | some i1 =>
                    show am_Z X 97 [.ref b, .ref (b + 4 + 3 * n)] [.ref (b + 4 + 3 * i1)] hh 0 0
                    refine am_ifnullR hB d_MA_takesClassLine_97 (no2 (Or.inr ?_))
                    rw [← fb, f2]
                    exact fun z => by cases z
                  | none =>
                    show am_Z X 97 [.ref b, .ref (b + 4 + 3 * n)] [.null] hh 0 0
                    refine am_ifnullN (tgt := 102) hB d_MA_takesClassLine_97 (by decide) ?_
                    refine am_aload_n hB d_MA_takesClassLine_102 rfl rfl rfl ?_
                    refine am_aload_n hB d_MA_takesClassLine_103 rfl rfl rfl ?_
                    refine am_getf hB d_MA_takesClassLine_104 F_MA_52_4 m7.1 rfl ?_
                    obtain ⟨hA, sA, eA, mA, gA, vA, oA⟩ := m7.e12 hn (s7 3)
                    refine am_putf hB d_MA_takesClassLine_107 P_MA_101_0 (m7.C hn).1 (by simp) am_fit.i eA ?_
                    refine am_aload_n hB d_MA_takesClassLine_110 rfl rfl rfl ?_
                    refine am_aload_n hB d_MA_takesClassLine_111 rfl rfl rfl ?_
                    refine am_getf hB d_MA_takesClassLine_112 F_MA_52_4 mA.1 rfl ?_
                    obtain ⟨hC, sC, eC, mC, gC, vC, oC⟩ := mA.e13 hn (sA 3)
                    refine am_putf hB d_MA_takesClassLine_115 P_MA_104_0 (mA.C hn).1 (by simp) am_fit.i eC ?_
                    refine am_aload_n hB d_MA_takesClassLine_118 rfl rfl rfl ?_
                    refine ai_const hB d_MA_takesClassLine_119 ?_
                    obtain ⟨hD, sD, eD, mD, gD, vD, oD⟩ := mC.e14 hn 0
                    refine am_putf hB d_MA_takesClassLine_120 P_MA_107_0 (mC.C hn).1 (by simp) am_fit.i eD ?_
                    refine am_aload_n hB d_MA_takesClassLine_123 rfl rfl rfl ?_
                    refine am_dup hB d_MA_takesClassLine_124 rfl ?_
                    refine am_getf hB d_MA_takesClassLine_125 F_MA_49_4 mD.1 rfl ?_
                    have nD : sD 2 = n := by rw [oD _ (by omega), oC _ (by omega), oA _ (by omega), n7]
                    rw [nD]
                    refine ai_const hB d_MA_takesClassLine_128 ?_
                    refine ai_add hB d_MA_takesClassLine_129 ?_
                    obtain ⟨hE, sE, eE, mE, gE, vE, oE⟩ := mD.e2 (n + 1)
                    refine am_putf hB d_MA_takesClassLine_130 P_MA_49_4 mD.1 (by simp) am_fit.i eE ?_
                    refine ai_const hB d_MA_takesClassLine_133 ?_
                    refine am_iret hB hR d_MA_takesClassLine_134 rfl (by decide) ?_ (Nat.zero_le _) (Nat.zero_le _)
                    have a3 : sA 3 = s 3 := by rw [oA _ (by omega), k7 _ (by omega) (by omega)]
                    refine ⟨sE, ⟨mE, (((t7.2.tr gA).tr gC).tr gD).tr gE⟩, Or.inr ⟨rfl, by omega, j, k, hcl, fr.symm.trans f1, fb.symm.trans f2, vE, ?_, ?_, ?_, ?_, ?_, ?_, ?_, ?_⟩⟩
                    · rw [oE _ (by omega), oD _ (by omega), oC _ (by omega), oA _ (by omega), y8]
                    · rw [oE _ (by omega), oD _ (by omega), oC _ (by omega), oA _ (by omega), y9]
                    · rw [oE _ (by omega), oD _ (by omega), oC _ (by omega), oA _ (by omega), y10]
                    · rw [oE _ (by omega), oD _ (by omega), oC _ (by omega), oA _ (by omega), y11]
                    · rw [oE _ (by omega), oD _ (by omega), oC _ (by omega), vA, k7 _ (by omega) (by omega)]
                    · rw [oE _ (by omega), oD _ (by omega), vC, a3]
                    · rw [oE _ (by omega), vD]
                    · intro r r0 r2 rr
                      rw [oE r r2, oD r (by omega), oC r (by omega), oA r (by omega), k7 r r0 (by omega)]
              · omega
            · rw [decide_eq_false hk]
              show am_Z X 73 [.ref b, .ref (b + 4 + 3 * n)] [am_n 0] _ 0 0
              refine ai_zne (tgt := 78) hB d_MA_takesClassLine_73 (by decide) (fun c9 => ?_) (fun c9 => ?_)
              · omega
              · exact no _ s7 t7 (by unfold sp_cline; simp only [e2, w5, e6, w7]; rw [if_pos trivial, if_neg (fun z => hk z.2)])
  · refine ai_const hB d_MA_takesClassLine_9 ?_
    refine am_iret hB hR d_MA_takesClassLine_10 rfl (by decide) ?_ (Nat.zero_le _) (Nat.zero_le _)
    exact ⟨s, ⟨m, am_rg.rf⟩, Or.inl ⟨rfl, Or.inl (by omega)⟩⟩
