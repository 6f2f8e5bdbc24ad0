/-! the more line, a place -/
def sp_more (g : Int → Int) (a e : Int) : Option Int := if sp_tw g 6 a e = true then (if sp_nv g (a + 5) e ≠ -1 ∧ sp_tw g 7 (sp_ni g (a + 5) e) e = true ∧ e ≤ sp_ni g (a + 5) e + 5 then some (sp_nv g (a + 5) e) else none) else none
theorem m_TR_takesMore {l : Launch} {G : am_G} {h : am_H} {b c i : Nat} {g : Int → Int} {t : Nat → Int} (m : am_tr h b c g t) (d : mp_bd g t) (hi : i < 4) :
    am_M l G M_TR_takesMore [.ref b, .ref (b + 3 + 3 * i)] h (fun r h' => ∃ t', tr_to h b c g h' t' ∧ ((r = some (am_n 0) ∧ sp_more g (t 0) (t 1) = none) ∨ (r = some (am_n 1) ∧ ∃ v, sp_more g (t 0) (t 1) = some v ∧ t' (25 + 24 * i) = v ∧ ∀ r, r ≠ 0 → r ≠ 25 + 24 * i → t' r = t r))) := by
  have dd := d
  obtain ⟨hg, d0, d1, d2⟩ := dd
  refine am_M.of (by decide) (Nat.le_of_ble_eq_true rfl) (fun X hB hR => ?_)
  show am_Z X 0 [.ref b, .ref (b + 3 + 3 * i)] [] h 0 0
  refine am_aload_n hB d_TR_takesMore_0 rfl rfl rfl ?_
  refine am_ldcS hB d_TR_takesMore_1 (List.mem_of_getElem? (i := 6) rfl) ?_
  refine am_callU hB hR (as := [.retAddr 6]) m.o (mt_takeWord m d (by decide)) c_TR_41_9 rfl rfl d_TR_takesMore_3 ⟨by decide, Nat.le_of_ble_eq_true rfl⟩ ⟨by decide, by decide⟩ rfl rfl (fun rr hh hp => ?_)
  obtain ⟨rfl, t3, u3, v3, o3⟩ := hp
  have m3 := u3.1
  have q31 : t3 1 = t 1 := o3 1 (by omega)
  cases w3 : sp_tw g 6 (t 0) (t 1) with
  | false =>
    show am_Z X 6 [.ref b, .ref (b + 3 + 3 * i)] [am_n 0] hh 0 0
    refine ai_zne (tgt := 11) hB d_TR_takesMore_6 (by decide) (fun c1 => ?_) (fun c1 => ?_)
    · omega
    refine ai_const hB d_TR_takesMore_9 ?_
    refine am_iret hB hR d_TR_takesMore_10 rfl (by decide) ?_ (Nat.zero_le _) (Nat.zero_le _)
    refine ⟨t3, u3, Or.inl ⟨rfl, ?_⟩⟩
    unfold sp_more
    rw [if_neg (by rw [w3]; decide)]
  | true =>
    obtain ⟨w4, w5⟩ := sp_twl 5 rfl w3
    rw [w5] at v3
    have w4' : t 0 + 5 ≤ t 1 := w4
    have v3' : t3 0 = t 0 + 5 := v3
    have b3 : mp_bd g t3 := ⟨hg, by rw [v3']; omega, by rw [v3', q31]; omega, by rw [q31]; exact d2⟩
    have hm : sp_more g (t 0) (t 1) = if sp_nv g (t 0 + 5) (t 1) ≠ -1 ∧ sp_tw g 7 (sp_ni g (t 0 + 5) (t 1)) (t 1) = true ∧ t 1 ≤ sp_ni g (t 0 + 5) (t 1) + 5 then some (sp_nv g (t 0 + 5) (t 1)) else none := if_pos w3
    show am_Z X 6 [.ref b, .ref (b + 3 + 3 * i)] [am_n 1] hh 0 0
    have no : ∀ (h9 : am_H) (t9 : Nat → Int), tr_to h b c g h9 t9 → sp_more g (t 0) (t 1) = none → am_Z X 47 [.ref b, .ref (b + 3 + 3 * i)] [] h9 0 0 := by
      intro h9 t9 u9 hz
      refine ai_const hB d_TR_takesMore_47 ?_
      refine am_iret hB hR d_TR_takesMore_48 rfl (by decide) ?_ (Nat.zero_le _) (Nat.zero_le _)
      exact ⟨t9, u9, Or.inl ⟨rfl, hz⟩⟩
    refine ai_zne (tgt := 11) hB d_TR_takesMore_6 (by decide) (fun c1 => ?_) (fun c1 => ?_)
    · refine am_aload_n hB d_TR_takesMore_11 rfl rfl rfl ?_
      refine am_aload_n hB d_TR_takesMore_12 rfl rfl rfl ?_
      refine am_callU hB hR (as := []) m3.o (mt_takeNumber m3 b3) c_TR_137_9 rfl rfl d_TR_takesMore_13 ⟨by decide, Nat.le_of_ble_eq_true rfl⟩ ⟨by decide, by decide⟩ rfl rfl (fun rr hh hp => ?_)
      obtain ⟨rfl, t4, u4, v4, o4⟩ := hp
      have m4 := u4.1
      rw [v3', q31] at v4 ⊢
      have n4 := sp_nv_in (g := g) w4'
      obtain ⟨h5, t5, e5, m5, g5, v5, o5⟩ := m4.eHo hi (sp_nv g (t 0 + 5) (t 1))
      show am_Z X 16 [.ref b, .ref (b + 3 + 3 * i)] [am_n (sp_nv g (t 0 + 5) (t 1)), .ref (b + 3 + 3 * i)] hh 0 0
      refine am_putf hB d_TR_takesMore_16 P_TR_49_3 (m4.H hi) (by simp) am_fit.i e5 ?_
      refine am_aload_n hB d_TR_takesMore_19 rfl rfl rfl ?_
      refine am_getf hB d_TR_takesMore_20 F_TR_49_3 (m5.H hi) rfl ?_
      rw [v5]
      have p0 : t5 0 = sp_ni g (t 0 + 5) (t 1) := by rw [o5 0 (by omega), v4]
      have p1 : t5 1 = t 1 := by rw [o5 1 (by omega), o4 1 (by omega), q31]
      have b5 : mp_bd g t5 := ⟨hg, by rw [p0]; omega, by rw [p0, p1]; omega, by rw [p1]; exact d2⟩
      have u5 : tr_to h b c g h5 t5 := (u3.tr u4).tr ⟨m5, g5⟩
      refine ai_const hB d_TR_takesMore_23 ?_
      refine ai_jeq (tgt := 47) hB d_TR_takesMore_24 (by decide) (fun c2 => ?_) (fun c2 => ?_)
      · exact no h5 t5 u5 (by rw [hm, if_neg (fun z => z.1 c2)])
      refine am_aload_n hB d_TR_takesMore_27 rfl rfl rfl ?_
      refine am_ldcS hB d_TR_takesMore_28 (List.mem_of_getElem? (i := 7) rfl) ?_
      refine am_callU hB hR (as := [.retAddr 7]) m5.o (mt_takeWord m5 b5 (by decide)) c_TR_41_9 rfl rfl d_TR_takesMore_30 ⟨by decide, Nat.le_of_ble_eq_true rfl⟩ ⟨by decide, by decide⟩ rfl rfl (fun rr hh hp => ?_)
      obtain ⟨rfl, t6, u6, v6, o6⟩ := hp
      have m6 := u6.1
      rw [p0, p1] at v6 ⊢
      cases w6 : sp_tw g 7 (sp_ni g (t 0 + 5) (t 1)) (t 1) with
      | false =>
        show am_Z X 33 [.ref b, .ref (b + 3 + 3 * i)] [am_n 0] hh 0 0
        refine ai_zeq (tgt := 47) hB d_TR_takesMore_33 (by decide) (fun c3 => ?_) (fun c3 => ?_)
        · exact no _ t6 (u5.tr u6) (by rw [hm, if_neg (fun z => by rw [w6] at z; cases z.2.1)])
        · omega
      | true =>
        obtain ⟨w7, w8⟩ := sp_twl 5 rfl w6
        rw [w8] at v6
        have v6' : t6 0 = sp_ni g (t 0 + 5) (t 1) + 5 := v6
        have w7' : sp_ni g (t 0 + 5) (t 1) + 5 ≤ t 1 := w7
        have q61 : t6 1 = t 1 := by rw [o6 1 (by omega), p1]
        have b6 : mp_bd g t6 := ⟨hg, by rw [v6']; omega, by rw [v6', q61]; omega, by rw [q61]; exact d2⟩
        show am_Z X 33 [.ref b, .ref (b + 3 + 3 * i)] [am_n 1] hh 0 0
        refine ai_zeq (tgt := 47) hB d_TR_takesMore_33 (by decide) (fun c3 => ?_) (fun c3 => ?_)
        · omega
        refine am_aload_n hB d_TR_takesMore_36 rfl rfl rfl ?_
        refine am_callU hB hR (as := []) m6.o (m_FO_isDone (m6.fo b6)) c_TR_65_9 rfl rfl d_TR_takesMore_37 ⟨by decide, Nat.le_of_ble_eq_true rfl⟩ ⟨by decide, by decide⟩ rfl rfl (fun rr hh hp => ?_)
        obtain ⟨rfl, rfl⟩ := hp
        rw [v6', q61]
        by_cases hk : t 1 ≤ sp_ni g (t 0 + 5) (t 1) + 5
        · rw [decide_eq_true hk]
          show am_Z X 40 [.ref b, .ref (b + 3 + 3 * i)] [am_n 1] hh 0 0
          refine ai_zeq (tgt := 47) hB d_TR_takesMore_40 (by decide) (fun c4 => ?_) (fun c4 => ?_)
          · omega
          refine ai_const hB d_TR_takesMore_43 ?_
          refine am_goto (tgt := 48) hB d_TR_takesMore_44 (by decide) ?_
          refine am_iret hB hR d_TR_takesMore_48 rfl (by decide) ?_ (Nat.zero_le _) (Nat.zero_le _)
          refine ⟨t6, u5.tr u6, Or.inr ⟨rfl, _, (by rw [hm, if_pos ⟨c2, w6, hk⟩]), ?_, fun r r0 r1 => ?_⟩⟩
          · rw [o6 _ (by omega), v5]
          · rw [o6 r r0, o5 r r1, o4 r r0, o3 r r0]
        · rw [decide_eq_false hk]
          show am_Z X 40 [.ref b, .ref (b + 3 + 3 * i)] [am_n 0] hh 0 0
          refine ai_zeq (tgt := 47) hB d_TR_takesMore_40 (by decide) (fun c4 => ?_) (fun c4 => ?_)
          · exact no _ t6 (u5.tr u6) (by rw [hm, if_neg (fun z => hk z.2.2)])
          · omega
    · omega
def sp_pl (g : Int → Int) (a e : Int) : Option (Int × Int × Bool × Int × Int) := if sp_tw g 8 a e = true then
    (if sp_tw g 9 (a + 1) e = true then (if sp_tw g 11 (a + 15) e = true then some (a + 1, a + 15, false, -1, a + 16) else none)
    else if sp_tw g 10 (a + 1) e = true then (if sp_tw g 11 (a + 14) e = true then some (a + 1, a + 14, false, -1, a + 15) else none)
    else match sp_take g 2 81 (a + 1) e with
      | none => none
      | some k => if sp_tw g 1 k e = true then (if sp_nv g (k + 1) e ≠ -1 ∧ sp_tw g 11 (sp_ni g (k + 1) e) e = true then some (a + 1, k, true, sp_nv g (k + 1) e, sp_ni g (k + 1) e + 1) else none) else if sp_tw g 11 k e = true then some (a + 1, k, true, -1, k + 1) else none)
  else none
theorem m_TR_takesPlace {l : Launch} {G : am_G} {h : am_H} {b c i : Nat} {g : Int → Int} {t : Nat → Int} (m : am_tr h b c g t) (d : mp_bd g t) (hi : i < 20) :
    am_M l G M_TR_takesPlace [.ref b, .ref (b + 16 + 4 * i)] h (fun r h' => ∃ t', tr_to h b c g h' t' ∧ (∀ r, r ≠ 0 → r ≠ 128 + 32 * i → r ≠ 129 + 32 * i → r ≠ 152 + 32 * i → r ≠ 153 + 32 * i → t' r = t r) ∧ ((r = some (am_n 0) ∧ sp_pl g (t 0) (t 1) = none) ∨ (r = some (am_n 1) ∧ ∃ pf pt hf ln p, sp_pl g (t 0) (t 1) = some (pf, pt, hf, ln, p) ∧ t' 0 = p ∧ t' (152 + 32 * i) = pf ∧ t' (153 + 32 * i) = pt ∧ t' (128 + 32 * i) = sp_i hf ∧ t' (129 + 32 * i) = ln))) := by
  have dd := d
  obtain ⟨hg, d0, d1, d2⟩ := dd
  refine am_M.of (by decide) (Nat.le_of_ble_eq_true rfl) (fun X hB hR => ?_)
  show am_Z X 0 [.ref b, .ref (b + 16 + 4 * i)] [] h 0 0
  obtain ⟨h1, t1, e1, m1, g1, v1, o1⟩ := m.eFl hi (-1)
  obtain ⟨h2, t2, e2, m2, g2, v2, o2⟩ := m1.eFh hi 0
  have v2l : t2 (129 + 32 * i) = -1 := by rw [o2 _ (by omega), v1]
  have q20 : t2 0 = t 0 := by rw [o2 0 (by omega), o1 0 (by omega)]
  have q21 : t2 1 = t 1 := by rw [o2 1 (by omega), o1 1 (by omega)]
  have b2 : mp_bd g t2 := ⟨hg, by rw [q20]; exact d0, by rw [q20, q21]; exact d1, by rw [q21]; exact d2⟩
  have k2 : ∀ r, r ≠ 0 → r ≠ 128 + 32 * i → r ≠ 129 + 32 * i → r ≠ 152 + 32 * i → r ≠ 153 + 32 * i → t2 r = t r := fun r _ a1 a2 _ _ => by rw [o2 r a1, o1 r a2]
  have u2 : tr_to h b c g h2 t2 := ⟨m2, g1.tr g2⟩
  refine am_aload_n hB d_TR_takesPlace_0 rfl rfl rfl ?_
  refine ai_const hB d_TR_takesPlace_1 ?_
  refine am_putf hB d_TR_takesPlace_2 P_TR_114_2 (m.F hi) (by simp) am_fit.i e1 ?_
  refine am_aload_n hB d_TR_takesPlace_5 rfl rfl rfl ?_
  refine ai_const hB d_TR_takesPlace_6 ?_
  refine am_putf hB d_TR_takesPlace_7 P_TR_117_2 (m1.F hi) (by simp) (am_fit.z (Or.inl rfl)) e2 ?_
  refine am_aload_n hB d_TR_takesPlace_10 rfl rfl rfl ?_
  refine am_ldcS hB d_TR_takesPlace_11 (List.mem_of_getElem? (i := 8) rfl) ?_
  refine am_callU hB hR (as := [.retAddr 8]) m2.o (mt_takeWord m2 b2 (by decide)) c_TR_41_9 rfl rfl d_TR_takesPlace_13 ⟨by decide, Nat.le_of_ble_eq_true rfl⟩ ⟨by decide, by decide⟩ rfl rfl (fun rr hh hp => ?_)
  obtain ⟨rfl, t3, u3', v3, o3⟩ := hp
  have m3 := u3'.1
  have u3 := u2.tr u3'
  rw [q20, q21] at v3 ⊢
  have k3 : ∀ r, r ≠ 0 → r ≠ 128 + 32 * i → r ≠ 129 + 32 * i → r ≠ 152 + 32 * i → r ≠ 153 + 32 * i → t3 r = t r := fun r a0 a1 a2 a3 a4 => by rw [o3 r a0, k2 r a0 a1 a2 a3 a4]
  have q31 : t3 1 = t 1 := by rw [o3 1 (by omega), q21]
  cases w3 : sp_tw g 8 (t 0) (t 1) with
  | false =>
    show am_Z X 16 [.ref b, .ref (b + 16 + 4 * i)] [am_n 0] hh 0 0
    refine ai_zne (tgt := 21) hB d_TR_takesPlace_16 (by decide) (fun c1 => ?_) (fun c1 => ?_)
    · omega
    refine ai_const hB d_TR_takesPlace_19 ?_
    refine am_iret hB hR d_TR_takesPlace_20 rfl (by decide) ?_ (Nat.zero_le _) (Nat.zero_le _)
    refine ⟨t3, u3, k3, Or.inl ⟨rfl, ?_⟩⟩
    unfold sp_pl
    rw [if_neg (by rw [w3]; decide)]
  | true =>
    obtain ⟨w4, w5⟩ := sp_twl 1 rfl w3
    rw [w5] at v3
    have v3' : t3 0 = t 0 + 1 := v3
    have w4' : t 0 + 1 ≤ t 1 := w4
    have b3 : mp_bd g t3 := ⟨hg, by rw [v3']; omega, by rw [v3', q31]; omega, by rw [q31]; exact d2⟩
    have hpl : sp_pl g (t 0) (t 1) = (if sp_tw g 9 (t 0 + 1) (t 1) = true then (if sp_tw g 11 (t 0 + 15) (t 1) = true then some (t 0 + 1, t 0 + 15, false, -1, t 0 + 16) else none)
      else if sp_tw g 10 (t 0 + 1) (t 1) = true then (if sp_tw g 11 (t 0 + 14) (t 1) = true then some (t 0 + 1, t 0 + 14, false, -1, t 0 + 15) else none)
      else match sp_take g 2 81 (t 0 + 1) (t 1) with
        | none => none
        | some k => if sp_tw g 1 k (t 1) = true then (if sp_nv g (k + 1) (t 1) ≠ -1 ∧ sp_tw g 11 (sp_ni g (k + 1) (t 1)) (t 1) = true then some (t 0 + 1, k, true, sp_nv g (k + 1) (t 1), sp_ni g (k + 1) (t 1) + 1) else none) else if sp_tw g 11 k (t 1) = true then some (t 0 + 1, k, true, -1, k + 1) else none) := if_pos w3
    show am_Z X 16 [.ref b, .ref (b + 16 + 4 * i)] [am_n 1] hh 0 0
    -- a closing bracket behind a place without a line
    have close : ∀ (pc : Nat) (h9 : am_H) (t9 : Nat → Int) (a pf pt : Int) (hf : Bool), (pc = 47 ∨ pc = 115) → tr_to h b c g h9 t9 → (∀ r, r ≠ 0 → r ≠ 128 + 32 * i → r ≠ 129 + 32 * i → r ≠ 152 + 32 * i → r ≠ 153 + 32 * i → t9 r = t r) → t9 0 = a → 0 ≤ a → a ≤ t 1 → t9 (152 + 32 * i) = pf → t9 (153 + 32 * i) = pt → t9 (128 + 32 * i) = sp_i hf → t9 (129 + 32 * i) = -1 → sp_pl g (t 0) (t 1) = (if sp_tw g 11 a (t 1) = true then some (pf, pt, hf, -1, a + 1) else none) → am_Z X pc [.ref b, .ref (b + 16 + 4 * i)] [] h9 0 0 := by
      intro pc h9 t9 a pf pt hf hpc u9 k9 y0 a0 a1 y152 y153 y128 y129 hs
      have m9 := u9.1
      have q91 : t9 1 = t 1 := by rw [k9 1 (by omega) (by omega) (by omega) (by omega) (by omega)]
      have b9 : mp_bd g t9 := ⟨hg, by rw [y0]; omega, by rw [y0, q91]; omega, by rw [q91]; exact d2⟩
      have after : ∀ (rr : Option Value) (hh : am_H), (rr = some (am_n (sp_i (sp_tw g 11 (t9 0) (t9 1)))) ∧ ∃ t', tr_to h9 b c g hh t' ∧ t' 0 = sp_th g 11 (t9 0) (t9 1) ∧ ∀ r, r ≠ 0 → t' r = t9 r) → ∃ (x : Int), rr = some (am_n x) ∧ (x = 0 ∨ x = 1) ∧ (∃ t', tr_to h b c g hh t' ∧ (∀ r, r ≠ 0 → r ≠ 128 + 32 * i → r ≠ 129 + 32 * i → r ≠ 152 + 32 * i → r ≠ 153 + 32 * i → t' r = t r) ∧ ((x = 0 ∧ sp_pl g (t 0) (t 1) = none) ∨ (x = 1 ∧ ∃ pf pt hf ln p, sp_pl g (t 0) (t 1) = some (pf, pt, hf, ln, p) ∧ t' 0 = p ∧ t' (152 + 32 * i) = pf ∧ t' (153 + 32 * i) = pt ∧ t' (128 + 32 * i) = sp_i hf ∧ t' (129 + 32 * i) = ln))) := by
        rintro rr hh ⟨rfl, tA, uA, vA, oA⟩
        rw [y0, q91] at vA ⊢
        have kA : ∀ r, r ≠ 0 → r ≠ 128 + 32 * i → r ≠ 129 + 32 * i → r ≠ 152 + 32 * i → r ≠ 153 + 32 * i → tA r = t r := fun r a0 a1 a2 a3 a4 => by rw [oA r a0, k9 r a0 a1 a2 a3 a4]
        cases wA : sp_tw g 11 a (t 1) with
        | false =>
          refine ⟨0, rfl, Or.inl rfl, tA, u9.tr uA, kA, Or.inl ⟨rfl, ?_⟩⟩
          rw [hs, if_neg (by rw [wA]; decide)]
        | true =>
          obtain ⟨wB, wC⟩ := sp_twl 1 rfl wA
          rw [wC] at vA
          refine ⟨1, rfl, Or.inr rfl, tA, u9.tr uA, kA, Or.inr ⟨rfl, pf, pt, hf, -1, a + 1, (by rw [hs, if_pos wA]), vA, ?_, ?_, ?_, ?_⟩⟩
          · rw [oA _ (by omega), y152]
          · rw [oA _ (by omega), y153]
          · rw [oA _ (by omega), y128]
          · rw [oA _ (by omega), y129]
      rcases hpc with rfl | rfl
      · refine am_aload_n hB d_TR_takesPlace_47 rfl rfl rfl ?_
        refine am_ldcS hB d_TR_takesPlace_48 (List.mem_of_getElem? (i := 11) rfl) ?_
        refine am_callU hB hR (as := [.retAddr 11]) m9.o (mt_takeWord m9 b9 (by decide)) c_TR_41_9 rfl rfl d_TR_takesPlace_50 ⟨by decide, Nat.le_of_ble_eq_true rfl⟩ ⟨by decide, by decide⟩ rfl rfl (fun rr hh hp => ?_)
        obtain ⟨x, rfl, hx, tA, uA, kA, hA⟩ := after rr hh hp
        refine am_iret hB hR d_TR_takesPlace_53 rfl (by rcases hx with rfl | rfl <;> decide) ⟨tA, uA, kA, ?_⟩ (Nat.zero_le _) (Nat.zero_le _)
        rcases hA with ⟨rfl, z⟩ | ⟨rfl, z⟩
        · exact Or.inl ⟨rfl, z⟩
        · exact Or.inr ⟨rfl, z⟩
      · refine am_aload_n hB d_TR_takesPlace_115 rfl rfl rfl ?_
        refine am_ldcS hB d_TR_takesPlace_116 (List.mem_of_getElem? (i := 11) rfl) ?_
        refine am_callU hB hR (as := [.retAddr 11]) m9.o (mt_takeWord m9 b9 (by decide)) c_TR_41_9 rfl rfl d_TR_takesPlace_118 ⟨by decide, Nat.le_of_ble_eq_true rfl⟩ ⟨by decide, by decide⟩ rfl rfl (fun rr hh hp => ?_)
        obtain ⟨x, rfl, hx, tA, uA, kA, hA⟩ := after rr hh hp
        refine am_iret hB hR d_TR_takesPlace_121 rfl (by rcases hx with rfl | rfl <;> decide) ⟨tA, uA, kA, ?_⟩ (Nat.zero_le _) (Nat.zero_le _)
        rcases hA with ⟨rfl, z⟩ | ⟨rfl, z⟩
        · exact Or.inl ⟨rfl, z⟩
        · exact Or.inr ⟨rfl, z⟩
    have f3h : t3 (128 + 32 * i) = 0 := by rw [o3 _ (by omega), v2]
    have f3l : t3 (129 + 32 * i) = -1 := by rw [o3 _ (by omega), v2l]
    refine ai_zne (tgt := 21) hB d_TR_takesPlace_16 (by decide) (fun c1 => ?_) (fun c1 => ?_)
    · refine am_aload_n hB d_TR_takesPlace_21 rfl rfl rfl ?_
      refine am_ldcS hB d_TR_takesPlace_22 (List.mem_of_getElem? (i := 9) rfl) ?_
      refine am_aload_n hB d_TR_takesPlace_24 rfl rfl rfl ?_
      refine am_getf hB d_TR_takesPlace_25 F_TR_124_2 (m3.F hi) rfl ?_
      refine am_callU hB hR (as := [.retAddr 9, .ref (b + 19 + 4 * i)]) m3.o (mt_wordInto m3 b3 hi (by decide)) c_TR_127_9 rfl rfl d_TR_takesPlace_28 ⟨by decide, Nat.le_of_ble_eq_true rfl⟩ ⟨by decide, by decide⟩ rfl rfl (fun rr hh hp => ?_)
      obtain ⟨rfl, t4, u4', v4, v4f, v4t, o4⟩ := hp
      have m4 := u4'.1
      have u4 := u3.tr u4'
      rw [v3'] at v4f
      rw [v3', q31] at v4 v4t ⊢
      have k4 : ∀ r, r ≠ 0 → r ≠ 128 + 32 * i → r ≠ 129 + 32 * i → r ≠ 152 + 32 * i → r ≠ 153 + 32 * i → t4 r = t r := fun r a0 a1 a2 a3 a4 => by rw [o4 r a0 a3 a4, k3 r a0 a1 a2 a3 a4]
      have q41 : t4 1 = t 1 := by rw [o4 1 (by omega) (by omega) (by omega), q31]
      have f4h : t4 (128 + 32 * i) = 0 := by rw [o4 _ (by omega) (by omega) (by omega), f3h]
      have f4l : t4 (129 + 32 * i) = -1 := by rw [o4 _ (by omega) (by omega) (by omega), f3l]
      cases x9 : sp_tw g 9 (t 0 + 1) (t 1) with
      | true =>
        obtain ⟨y1, y2⟩ := sp_twl 14 rfl x9
        have y1' : t 0 + 1 + 14 ≤ t 1 := y1
        rw [y2] at v4
        have v4' : t4 0 = t 0 + 15 := by rw [v4]; show t 0 + 1 + 14 = t 0 + 15; omega
        have v4t' : t4 (153 + 32 * i) = t 0 + 15 := by
          rw [v4t]
          unfold sp_mi
          rw [if_neg (by show ¬ t 1 < t 0 + 1 + 14; omega)]
          show t 0 + 1 + 14 = t 0 + 15
          omega
        show am_Z X 31 [.ref b, .ref (b + 16 + 4 * i)] [am_n 1] hh 0 0
        refine ai_zne (tgt := 47) hB d_TR_takesPlace_31 (by decide) (fun c2 => ?_) (fun c2 => ?_)
        · refine close 47 hh t4 (t 0 + 15) (t 0 + 1) (t 0 + 15) false (Or.inl rfl) u4 k4 v4' (by omega) (by omega) v4f v4t' f4h f4l ?_
          rw [hpl, if_pos x9, show t 0 + 15 + 1 = t 0 + 16 by omega]
        · omega
      | false =>
        rw [sp_th_f x9] at v4
        have b4 : mp_bd g t4 := ⟨hg, by rw [v4]; omega, by rw [v4, q41]; omega, by rw [q41]; exact d2⟩
        show am_Z X 31 [.ref b, .ref (b + 16 + 4 * i)] [am_n 0] hh 0 0
        refine ai_zne (tgt := 47) hB d_TR_takesPlace_31 (by decide) (fun c2 => ?_) (fun c2 => ?_)
        · omega
        refine am_aload_n hB d_TR_takesPlace_34 rfl rfl rfl ?_
        refine am_ldcS hB d_TR_takesPlace_35 (List.mem_of_getElem? (i := 10) rfl) ?_
        refine am_aload_n hB d_TR_takesPlace_37 rfl rfl rfl ?_
        refine am_getf hB d_TR_takesPlace_38 F_TR_124_2 (m4.F hi) rfl ?_
        refine am_callU hB hR (as := [.retAddr 10, .ref (b + 19 + 4 * i)]) m4.o (mt_wordInto m4 b4 hi (by decide)) c_TR_127_9 rfl rfl d_TR_takesPlace_41 ⟨by decide, Nat.le_of_ble_eq_true rfl⟩ ⟨by decide, by decide⟩ rfl rfl (fun rr hh hp => ?_)
        obtain ⟨rfl, t5, u5', v5, v5f, v5t, o5⟩ := hp
        have m5 := u5'.1
        have u5 := u4.tr u5'
        rw [v4] at v5f
        rw [v4, q41] at v5 v5t ⊢
        have k5 : ∀ r, r ≠ 0 → r ≠ 128 + 32 * i → r ≠ 129 + 32 * i → r ≠ 152 + 32 * i → r ≠ 153 + 32 * i → t5 r = t r := fun r a0 a1 a2 a3 a4 => by rw [o5 r a0 a3 a4, k4 r a0 a1 a2 a3 a4]
        have q51 : t5 1 = t 1 := by rw [o5 1 (by omega) (by omega) (by omega), q41]
        have f5h : t5 (128 + 32 * i) = 0 := by rw [o5 _ (by omega) (by omega) (by omega), f4h]
        have f5l : t5 (129 + 32 * i) = -1 := by rw [o5 _ (by omega) (by omega) (by omega), f4l]
        have hpl2 := hpl
        rw [if_neg (by rw [x9]; decide)] at hpl2
        cases x10 : sp_tw g 10 (t 0 + 1) (t 1) with
        | true =>
          obtain ⟨y1, y2⟩ := sp_twl 13 rfl x10
          have y1' : t 0 + 1 + 13 ≤ t 1 := y1
          rw [y2] at v5
          have v5' : t5 0 = t 0 + 14 := by rw [v5]; show t 0 + 1 + 13 = t 0 + 14; omega
          have v5t' : t5 (153 + 32 * i) = t 0 + 14 := by
            rw [v5t]
            unfold sp_mi
            rw [if_neg (by show ¬ t 1 < t 0 + 1 + 13; omega)]
            show t 0 + 1 + 13 = t 0 + 14
            omega
          show am_Z X 44 [.ref b, .ref (b + 16 + 4 * i)] [am_n 1] hh 0 0
          refine ai_zeq (tgt := 54) hB d_TR_takesPlace_44 (by decide) (fun c3 => ?_) (fun c3 => ?_)
          · omega
          · refine close 47 hh t5 (t 0 + 14) (t 0 + 1) (t 0 + 14) false (Or.inl rfl) u5 k5 v5' (by omega) (by omega) v5f v5t' f5h f5l ?_
            rw [hpl2, if_pos x10, show t 0 + 14 + 1 = t 0 + 15 by omega]
        | false =>
          rw [if_neg (by rw [x10]; decide)] at hpl2
          rw [sp_th_f x10] at v5
          have b5 : mp_bd g t5 := ⟨hg, by rw [v5]; omega, by rw [v5, q51]; omega, by rw [q51]; exact d2⟩
          show am_Z X 44 [.ref b, .ref (b + 16 + 4 * i)] [am_n 0] hh 0 0
          refine ai_zeq (tgt := 54) hB d_TR_takesPlace_44 (by decide) (fun c3 => ?_) (fun c3 => ?_)
          · refine am_aload_n hB d_TR_takesPlace_54 rfl rfl rfl ?_
            refine am_aload_n hB d_TR_takesPlace_55 rfl rfl rfl ?_
            refine am_getf hB d_TR_takesPlace_56 F_TR_124_2 (m5.F hi) rfl ?_
            refine ai_const hB d_TR_takesPlace_59 ?_
            refine ai_bipush hB d_TR_takesPlace_60 (by decide) ?_
            refine am_callU hB hR (as := [.ref (b + 19 + 4 * i), am_n 2, am_n 81]) m5.o (mt_takeP m5 b5 hi ⟨by omega, by omega⟩ ⟨by omega, by omega⟩) c_TR_74_9 rfl rfl d_TR_takesPlace_62 ⟨by decide, Nat.le_of_ble_eq_true rfl⟩ ⟨by decide, by decide⟩ rfl rfl (fun rr hh hp => ?_)
            rw [v5, q51] at hp
            cases x11 : sp_take g 2 81 (t 0 + 1) (t 1) with
            | none =>
              rw [x11] at hp hpl2
              obtain ⟨rfl, rfl⟩ := hp
              show am_Z X 65 [.ref b, .ref (b + 16 + 4 * i)] [am_n 0] _ 0 0
              refine ai_zne (tgt := 70) hB d_TR_takesPlace_65 (by decide) (fun c4 => ?_) (fun c4 => ?_)
              · omega
              refine ai_const hB d_TR_takesPlace_68 ?_
              refine am_iret hB hR d_TR_takesPlace_69 rfl (by decide) ?_ (Nat.zero_le _) (Nat.zero_le _)
              exact ⟨t5, u5, k5, Or.inl ⟨rfl, hpl2⟩⟩
            | some k =>
              rw [x11] at hp hpl2
              simp only at hpl2
              obtain ⟨rfl, t6, u6', y0, y1, y2, o6⟩ := hp
              have m6 := u6'.1
              have u6 := u5.tr u6'
              have rk := sp_take_in w4' x11
              show am_Z X 65 [.ref b, .ref (b + 16 + 4 * i)] [am_n 1] hh 0 0
              refine ai_zne (tgt := 70) hB d_TR_takesPlace_65 (by decide) (fun c4 => ?_) (fun c4 => ?_)
              · obtain ⟨h7, t7, e7, m7, g7, v7, o7⟩ := m6.eFh hi 1
                refine am_aload_n hB d_TR_takesPlace_70 rfl rfl rfl ?_
                refine ai_const hB d_TR_takesPlace_71 ?_
                refine am_putf hB d_TR_takesPlace_72 P_TR_117_2 (m6.F hi) (by simp) (am_fit.z (Or.inr rfl)) e7 ?_
                have u7 := u6.tr ⟨m7, g7⟩
                have k7 : ∀ r, r ≠ 0 → r ≠ 128 + 32 * i → r ≠ 129 + 32 * i → r ≠ 152 + 32 * i → r ≠ 153 + 32 * i → t7 r = t r := fun r a0 a1 a2 a3 a4 => by rw [o7 r a1, o6 r a0 a3 a4, k5 r a0 a1 a2 a3 a4]
                have p0 : t7 0 = k := by rw [o7 0 (by omega), y0]
                have p1 : t7 1 = t 1 := k7 1 (by omega) (by omega) (by omega) (by omega) (by omega)
                have p152 : t7 (152 + 32 * i) = t 0 + 1 := by rw [o7 _ (by omega), y1]
                have p153 : t7 (153 + 32 * i) = k := by rw [o7 _ (by omega), y2]
                have p129 : t7 (129 + 32 * i) = -1 := by rw [o7 _ (by omega), o6 _ (by omega) (by omega) (by omega), f5l]
                have b7 : mp_bd g t7 := ⟨hg, by rw [p0]; omega, by rw [p0, p1]; omega, by rw [p1]; exact d2⟩
                refine am_aload_n hB d_TR_takesPlace_75 rfl rfl rfl ?_
                refine am_ldcS hB d_TR_takesPlace_76 (List.mem_of_getElem? (i := 12) rfl) ?_
                refine am_callU hB hR (as := [.retAddr 1]) m7.o (mt_takeWord m7 b7 (by decide)) c_TR_41_9 rfl rfl d_TR_takesPlace_78 ⟨by decide, Nat.le_of_ble_eq_true rfl⟩ ⟨by decide, by decide⟩ rfl rfl (fun rr hh hp => ?_)
                obtain ⟨rfl, t8, u8', v8, o8⟩ := hp
                have m8 := u8'.1
                have u8 := u7.tr u8'
                rw [p0, p1] at v8 ⊢
                have k8 : ∀ r, r ≠ 0 → r ≠ 128 + 32 * i → r ≠ 129 + 32 * i → r ≠ 152 + 32 * i → r ≠ 153 + 32 * i → t8 r = t r := fun r a0 a1 a2 a3 a4 => by rw [o8 r a0, k7 r a0 a1 a2 a3 a4]
                cases x12 : sp_tw g 1 k (t 1) with
                | false =>
                  rw [sp_th_f x12] at v8
                  rw [if_neg (by rw [x12]; decide)] at hpl2
                  show am_Z X 81 [.ref b, .ref (b + 16 + 4 * i)] [am_n 0] hh 0 0
                  refine ai_zeq (tgt := 115) hB d_TR_takesPlace_81 (by decide) (fun c5 => ?_) (fun c5 => ?_)
                  · exact close 115 hh t8 k (t 0 + 1) k true (Or.inr rfl) u8 k8 v8 (by omega) (by omega) (by rw [o8 _ (by omega), p152]) (by rw [o8 _ (by omega), p153]) (by rw [o8 _ (by omega), v7]; rfl) (by rw [o8 _ (by omega), p129]) hpl2
                  · omega
                | true =>
                  obtain ⟨z1, z2⟩ := sp_twl 1 rfl x12
                  have z1' : k + 1 ≤ t 1 := z1
                  rw [z2] at v8
                  have v8' : t8 0 = k + 1 := v8
                  rw [if_pos x12] at hpl2
                  have q81 : t8 1 = t 1 := by rw [o8 1 (by omega), p1]
                  have b8 : mp_bd g t8 := ⟨hg, by rw [v8']; omega, by rw [v8', q81]; omega, by rw [q81]; exact d2⟩
                  show am_Z X 81 [.ref b, .ref (b + 16 + 4 * i)] [am_n 1] hh 0 0
                  refine ai_zeq (tgt := 115) hB d_TR_takesPlace_81 (by decide) (fun c5 => ?_) (fun c5 => ?_)
                  · omega
                  refine am_aload_n hB d_TR_takesPlace_84 rfl rfl rfl ?_
                  refine am_aload_n hB d_TR_takesPlace_85 rfl rfl rfl ?_
                  refine am_callU hB hR (as := []) m8.o (mt_takeNumber m8 b8) c_TR_137_9 rfl rfl d_TR_takesPlace_86 ⟨by decide, Nat.le_of_ble_eq_true rfl⟩ ⟨by decide, by decide⟩ rfl rfl (fun rr hh hp => ?_)
                  obtain ⟨rfl, t9, u9', v9, o9⟩ := hp
                  have m9 := u9'.1
                  rw [v8', q81] at v9 ⊢
                  have n9 := sp_nv_in (g := g) z1'
                  obtain ⟨hA, tA, eA, mA, gA, vA, oA⟩ := m9.eFl hi (sp_nv g (k + 1) (t 1))
                  show am_Z X 89 [.ref b, .ref (b + 16 + 4 * i)] [am_n (sp_nv g (k + 1) (t 1)), .ref (b + 16 + 4 * i)] hh 0 0
                  refine am_putf hB d_TR_takesPlace_89 P_TR_114_2 (m9.F hi) (by simp) am_fit.i eA ?_
                  have uA := (u8.tr u9').tr ⟨mA, gA⟩
                  have kA : ∀ r, r ≠ 0 → r ≠ 128 + 32 * i → r ≠ 129 + 32 * i → r ≠ 152 + 32 * i → r ≠ 153 + 32 * i → tA r = t r := fun r a0 a1 a2 a3 a4 => by rw [oA r a2, o9 r a0, k8 r a0 a1 a2 a3 a4]
                  have r0 : tA 0 = sp_ni g (k + 1) (t 1) := by rw [oA 0 (by omega), v9]
                  have r1 : tA 1 = t 1 := kA 1 (by omega) (by omega) (by omega) (by omega) (by omega)
                  have bA : mp_bd g tA := ⟨hg, by rw [r0]; omega, by rw [r0, r1]; omega, by rw [r1]; exact d2⟩
                  refine am_aload_n hB d_TR_takesPlace_92 rfl rfl rfl ?_
                  refine am_getf hB d_TR_takesPlace_93 F_TR_114_2 (mA.F hi) rfl ?_
                  rw [vA]
                  have no : ∀ (h9 : am_H) (t9 : Nat → Int), tr_to h b c g h9 t9 → (∀ r, r ≠ 0 → r ≠ 128 + 32 * i → r ≠ 129 + 32 * i → r ≠ 152 + 32 * i → r ≠ 153 + 32 * i → t9 r = t r) → sp_pl g (t 0) (t 1) = none → am_Z X 113 [.ref b, .ref (b + 16 + 4 * i)] [] h9 0 0 := by
                    intro h9 t9 u9 k9 hz
                    refine ai_const hB d_TR_takesPlace_113 ?_
                    refine am_iret hB hR d_TR_takesPlace_114 rfl (by decide) ?_ (Nat.zero_le _) (Nat.zero_le _)
                    exact ⟨t9, u9, k9, Or.inl ⟨rfl, hz⟩⟩
                  refine ai_const hB d_TR_takesPlace_96 ?_
                  refine ai_jeq (tgt := 113) hB d_TR_takesPlace_97 (by decide) (fun c6 => ?_) (fun c6 => ?_)
                  · exact no hA tA uA kA (by rw [hpl2, if_neg (fun z => z.1 c6)])
                  refine am_aload_n hB d_TR_takesPlace_100 rfl rfl rfl ?_
                  refine am_ldcS hB d_TR_takesPlace_101 (List.mem_of_getElem? (i := 11) rfl) ?_
                  refine am_callU hB hR (as := [.retAddr 11]) mA.o (mt_takeWord mA bA (by decide)) c_TR_41_9 rfl rfl d_TR_takesPlace_103 ⟨by decide, Nat.le_of_ble_eq_true rfl⟩ ⟨by decide, by decide⟩ rfl rfl (fun rr hh hp => ?_)
                  obtain ⟨rfl, tB, uB', vB, oB⟩ := hp
                  have uB := uA.tr uB'
                  rw [r0, r1] at vB ⊢
                  have kB : ∀ r, r ≠ 0 → r ≠ 128 + 32 * i → r ≠ 129 + 32 * i → r ≠ 152 + 32 * i → r ≠ 153 + 32 * i → tB r = t r := fun r a0 a1 a2 a3 a4 => by rw [oB r a0, kA r a0 a1 a2 a3 a4]
                  cases x13 : sp_tw g 11 (sp_ni g (k + 1) (t 1)) (t 1) with
                  | false =>
                    show am_Z X 106 [.ref b, .ref (b + 16 + 4 * i)] [am_n 0] hh 0 0
                    refine ai_zeq (tgt := 113) hB d_TR_takesPlace_106 (by decide) (fun c7 => ?_) (fun c7 => ?_)
                    · exact no hh tB uB kB (by rw [hpl2, if_neg (fun z => by rw [x13] at z; cases z.2)])
                    · omega
                  | true =>
                    obtain ⟨z3, z4⟩ := sp_twl 1 rfl x13
                    rw [z4] at vB
                    show am_Z X 106 [.ref b, .ref (b + 16 + 4 * i)] [am_n 1] hh 0 0
                    refine ai_zeq (tgt := 113) hB d_TR_takesPlace_106 (by decide) (fun c7 => ?_) (fun c7 => ?_)
                    · omega
                    refine ai_const hB d_TR_takesPlace_109 ?_
                    refine am_goto (tgt := 114) hB d_TR_takesPlace_110 (by decide) ?_
                    refine am_iret hB hR d_TR_takesPlace_114 rfl (by decide) ?_ (Nat.zero_le _) (Nat.zero_le _)
                    refine ⟨tB, uB, kB, Or.inr ⟨rfl, t 0 + 1, k, true, sp_nv g (k + 1) (t 1), sp_ni g (k + 1) (t 1) + 1, hpl2.trans (if_pos ⟨c6, x13⟩), vB, ?_, ?_, ?_, ?_⟩⟩
                    · rw [oB _ (by omega), oA _ (by omega), o9 _ (by omega), o8 _ (by omega), p152]
                    · rw [oB _ (by omega), oA _ (by omega), o9 _ (by omega), o8 _ (by omega), p153]
                    · rw [oB _ (by omega), oA _ (by omega), o9 _ (by omega), o8 _ (by omega), v7]
                      rfl
                    · rw [oB _ (by omega), vA]
              · omega
          · omega
    · omega
