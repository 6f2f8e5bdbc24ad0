/-! the parts of a trace's lines -/
theorem sp_twl {g : Int → Int} {w : Nat} {a e : Int} (L : Nat) (hw : am_len.getD w 0 = L) (h : sp_tw g w a e = true) : a + L ≤ e ∧ sp_th g w a e = a + L := by
  have q := h
  unfold sp_tw at q
  rw [Bool.and_eq_true, decide_eq_true_eq, hw] at q
  refine ⟨by omega, ?_⟩
  unfold sp_th
  rw [if_pos h, hw]
def sp_hd (g : Int → Int) (a e : Int) : Option (Int × Bool × Int) := match sp_take g 40 40 a e with
  | none => none
  | some j => if sp_tw g 4 j e = true then some (j, true, j + 2) else if e ≤ j then some (j, false, j) else none
def tr_hd (t t' : Nat → Int) (n : Nat) (j k : Int) (mb : Bool) : Prop := t' 2 = n + 1 ∧ t' (32 + 24 * n) = t 0 ∧ t' (33 + 24 * n) = j ∧ t' (40 + 24 * n) = k ∧ t' (41 + 24 * n) = t 1 ∧ t' (24 + 24 * n) = sp_i mb ∧ t' (25 + 24 * n) = -1 ∧ t' (26 + 24 * n) = t 3 ∧ t' (27 + 24 * n) = t 3 ∧ ∀ r, r ≠ 0 → r ≠ 2 → (r < 24 + 24 * n ∨ 47 + 24 * n < r) → t' r = t r
theorem m_TR_takesHeader {l : Launch} {G : am_G} {h : am_H} {b c n : Nat} {g : Int → Int} {t : Nat → Int} (m : am_tr h b c g t) (d : mp_bd g t) (h2 : t 2 = n) (hn : n ≤ 4) (h3 : 0 ≤ t 3 ∧ t 3 ≤ 20) :
    am_M l G M_TR_takesHeader [.ref b] h (fun r h' => ∃ t', tr_to h b c g h' t' ∧ ((r = some (am_n 0) ∧ (n = 4 ∨ sp_hd g (t 0) (t 1) = none)) ∨ (r = some (am_n 1) ∧ n ≠ 4 ∧ ∃ j mb k, sp_hd g (t 0) (t 1) = some (j, mb, k) ∧ tr_hd t t' n j k mb))) := by
  have dd := d
  obtain ⟨hg, d0, d1, d2⟩ := dd
  refine am_M.of (by decide) (Nat.le_of_ble_eq_true rfl) (fun X hB hR => ?_)
  show am_Z X 0 [.ref b, am_u] [] h 0 0
  refine am_aload_n hB d_TR_takesHeader_0 rfl rfl rfl ?_
  refine am_getf hB d_TR_takesHeader_1 F_TR_32_9 m.o rfl ?_
  rw [h2]
  refine ai_const hB d_TR_takesHeader_4 ?_
  refine ai_jne (tgt := 10) hB d_TR_takesHeader_5 (by decide) (fun c1 => ?_) (fun c1 => ?_)
  · have n4 : n < 4 := by omega
    refine am_aload_n hB d_TR_takesHeader_10 rfl rfl rfl ?_
    refine am_getf hB d_TR_takesHeader_11 F_TR_20_9 m.o rfl ?_
    refine am_aload_n hB d_TR_takesHeader_14 rfl rfl rfl ?_
    refine am_getf hB d_TR_takesHeader_15 F_TR_32_9 m.o rfl ?_
    rw [h2]
    refine ai_aald hB d_TR_takesHeader_18 ty_5 m.qH (z := b + 3 + 3 * n) (if_pos (by omega)) ?_
    refine am_astore_n hB d_TR_takesHeader_19 rfl (by rw [hR.nL]; decide) rfl rfl ?_
    refine am_aload_n hB d_TR_takesHeader_20 rfl rfl rfl ?_
    refine am_aload_n hB d_TR_takesHeader_21 rfl rfl rfl ?_
    refine am_getf hB d_TR_takesHeader_22 F_TR_71_3 (m.H n4) rfl ?_
    refine ai_bipush hB d_TR_takesHeader_25 (by decide) ?_
    refine ai_bipush hB d_TR_takesHeader_27 (by decide) ?_
    refine am_callU hB hR (as := [.ref (b + 4 + 3 * n), am_n 40, am_n 40]) m.o (mt_takeT m d n4 ⟨by omega, by omega⟩ ⟨by omega, by omega⟩) c_TR_74_9 rfl rfl d_TR_takesHeader_29 ⟨by decide, Nat.le_of_ble_eq_true rfl⟩ ⟨by decide, by decide⟩ rfl rfl (fun rr hh hp => ?_)
    cases e2 : sp_take g 40 40 (t 0) (t 1) with
    | none =>
      rw [e2] at hp
      obtain ⟨rfl, rfl⟩ := hp
      show am_Z X 32 [.ref b, .ref (b + 3 + 3 * n)] [am_n 0] h 0 0
      refine ai_zne (tgt := 37) hB d_TR_takesHeader_32 (by decide) (fun c3 => ?_) (fun c3 => ?_)
      · omega
      refine ai_const hB d_TR_takesHeader_35 ?_
      refine am_iret hB hR d_TR_takesHeader_36 rfl (by decide) ?_ (Nat.zero_le _) (Nat.zero_le _)
      exact ⟨t, ⟨m, am_rg.rf⟩, Or.inl ⟨rfl, Or.inr (by unfold sp_hd; rw [e2])⟩⟩
    | some j =>
      rw [e2] at hp
      obtain ⟨rfl, t2, u2, x0, x1, x2, o2⟩ := hp
      have m2 := u2.1
      have rj := sp_take_in d1 e2
      have q21 : t2 1 = t 1 := o2 1 (by omega) (by omega) (by omega)
      have b2 : mp_bd g t2 := ⟨hg, by rw [x0]; omega, by rw [x0, q21]; omega, by rw [q21]; exact d2⟩
      show am_Z X 32 [.ref b, .ref (b + 3 + 3 * n)] [am_n 1] hh 0 0
      have fin : ∀ (h5 : am_H) (t5 : Nat → Int) (k : Int) (mb : Bool), tr_to h b c g h5 t5 → j ≤ k → k ≤ t 1 → t5 0 = k → t5 1 = t 1 → t5 (32 + 24 * n) = t 0 → t5 (33 + 24 * n) = j → t5 (24 + 24 * n) = sp_i mb → (∀ r, r ≠ 0 → (r < 24 + 24 * n ∨ 47 + 24 * n < r) → t5 r = t r) → sp_hd g (t 0) (t 1) = some (j, mb, k) → am_Z X 63 [.ref b, .ref (b + 3 + 3 * n)] [] h5 0 0 := by
        intro h5 t5 k mb u5 jk k1 y0 y1 y32 y33 y24 o5 hs
        have m5 := u5.1
        have b5 : mp_bd g t5 := ⟨hg, by rw [y0]; omega, by rw [y0, y1]; omega, by rw [y1]; exact d2⟩
        refine am_aload_n hB d_TR_takesHeader_63 rfl rfl rfl ?_
        refine am_aload_n hB d_TR_takesHeader_64 rfl rfl rfl ?_
        refine am_getf hB d_TR_takesHeader_65 F_TR_84_3 (m5.H n4) rfl ?_
        refine am_callU hB hR (as := [.ref (b + 5 + 3 * n)]) m5.o (mt_takeRest m5 b5 n4) c_TR_87_9 rfl rfl d_TR_takesHeader_68 ⟨by decide, Nat.le_of_ble_eq_true rfl⟩ ⟨by decide, by decide⟩ rfl rfl (fun rr hh hp => ?_)
        obtain ⟨rfl, t6, u6, z1, z2, o6⟩ := hp
        have m6 := u6.1
        obtain ⟨h7, t7, e7, m7, g7, v7, o7⟩ := m6.eHo n4 (-1)
        show am_Z X 71 [.ref b, .ref (b + 3 + 3 * n)] [] hh 0 0
        refine am_aload_n hB d_TR_takesHeader_71 rfl rfl rfl ?_
        refine ai_const hB d_TR_takesHeader_72 ?_
        refine am_putf hB d_TR_takesHeader_73 P_TR_49_3 (m6.H n4) (by simp) am_fit.i e7 ?_
        refine am_aload_n hB d_TR_takesHeader_76 rfl rfl rfl ?_
        refine am_aload_n hB d_TR_takesHeader_77 rfl rfl rfl ?_
        refine am_getf hB d_TR_takesHeader_78 F_TR_36_9 m7.o rfl ?_
        obtain ⟨h8, t8, e8, m8, g8, v8, o8⟩ := m7.eHf n4 (t7 3)
        refine am_putf hB d_TR_takesHeader_81 P_TR_91_3 (m7.H n4) (by simp) am_fit.i e8 ?_
        refine am_aload_n hB d_TR_takesHeader_84 rfl rfl rfl ?_
        refine am_aload_n hB d_TR_takesHeader_85 rfl rfl rfl ?_
        refine am_getf hB d_TR_takesHeader_86 F_TR_36_9 m8.o rfl ?_
        obtain ⟨h9, t9, e9, m9, g9, v9, o9⟩ := m8.eHe n4 (t8 3)
        refine am_putf hB d_TR_takesHeader_89 P_TR_68_3 (m8.H n4) (by simp) am_fit.i e9 ?_
        have k9 : ∀ r, r ≠ 0 → (r < 24 + 24 * n ∨ 47 + 24 * n < r) → t9 r = t r := fun r r0 rr => by rw [o9 r (by omega), o8 r (by omega), o7 r (by omega), o6 r r0 (by omega) (by omega), o5 r r0 rr]
        refine am_aload_n hB d_TR_takesHeader_92 rfl rfl rfl ?_
        refine am_dup hB d_TR_takesHeader_93 rfl ?_
        refine am_getf hB d_TR_takesHeader_94 F_TR_32_9 m9.o rfl ?_
        rw [k9 2 (by omega) (by omega), h2]
        refine ai_const hB d_TR_takesHeader_97 ?_
        refine ai_add hB d_TR_takesHeader_98 ?_
        obtain ⟨hA, tA, eA, mA, gA, vA, oA⟩ := m9.e2 (n + 1)
        refine am_putf hB d_TR_takesHeader_99 P_TR_32_9 m9.o (by simp) am_fit.i eA ?_
        refine ai_const hB d_TR_takesHeader_102 ?_
        refine am_iret hB hR d_TR_takesHeader_103 rfl (by decide) ?_ (Nat.zero_le _) (Nat.zero_le _)
        have kk : ∀ r, r ≠ 0 → r ≠ 2 → r ≠ 40 + 24 * n → r ≠ 41 + 24 * n → r ≠ 25 + 24 * n → r ≠ 26 + 24 * n → r ≠ 27 + 24 * n → tA r = t5 r := fun r a0 a1 a2 a3 a4 a5 a6 => by rw [oA r a1, o9 r a6, o8 r a5, o7 r a4, o6 r a0 a2 a3]
        have f3 : t7 3 = t 3 := by rw [o7 3 (by omega), o6 3 (by omega) (by omega) (by omega), o5 3 (by omega) (by omega)]
        refine ⟨tA, ⟨mA, ((((u5.2.tr u6.2).tr g7).tr g8).tr g9).tr gA⟩, Or.inr ⟨rfl, by omega, j, mb, k, hs, vA, ?_, ?_, ?_, ?_, ?_, ?_, ?_, ?_, ?_⟩⟩
        · rw [kk _ (by omega) (by omega) (by omega) (by omega) (by omega) (by omega) (by omega), y32]
        · rw [kk _ (by omega) (by omega) (by omega) (by omega) (by omega) (by omega) (by omega), y33]
        · rw [oA _ (by omega), o9 _ (by omega), o8 _ (by omega), o7 _ (by omega), z1, y0]
        · rw [oA _ (by omega), o9 _ (by omega), o8 _ (by omega), o7 _ (by omega), z2, y1]
        · rw [kk _ (by omega) (by omega) (by omega) (by omega) (by omega) (by omega) (by omega), y24]
        · rw [oA _ (by omega), o9 _ (by omega), o8 _ (by omega), v7]
        · rw [oA _ (by omega), o9 _ (by omega), v8, f3]
        · rw [oA _ (by omega), v9, o8 3 (by omega), f3]
        · intro r r0 r2 rr
          rw [oA r r2, k9 r r0 rr]
      refine ai_zne (tgt := 37) hB d_TR_takesHeader_32 (by decide) (fun c3 => ?_) (fun c3 => ?_)
      · refine am_aload_n hB d_TR_takesHeader_37 rfl rfl rfl ?_
        refine am_aload_n hB d_TR_takesHeader_38 rfl rfl rfl ?_
        refine am_ldcS hB d_TR_takesHeader_39 (List.mem_of_getElem? (i := 4) rfl) ?_
        refine am_callU hB hR (as := [.retAddr 4]) m2.o (mt_takeWord m2 b2 (by decide)) c_TR_41_9 rfl rfl d_TR_takesHeader_41 ⟨by decide, Nat.le_of_ble_eq_true rfl⟩ ⟨by decide, by decide⟩ rfl rfl (fun rr hh hp => ?_)
        obtain ⟨rfl, t3, u3, v3, o3⟩ := hp
        have m3 := u3.1
        rw [x0, q21] at v3 ⊢
        cases w3 : sp_tw g 4 j (t 1) with
        | true =>
          obtain ⟨w4, w5⟩ := sp_twl 2 rfl w3
          rw [w5] at v3
          show am_Z X 44 [.ref b, .ref (b + 3 + 3 * n)] [am_n 1, .ref (b + 3 + 3 * n)] hh 0 0
          obtain ⟨h4, t4, e4, m4, g4, v4, o4⟩ := m3.eHm n4 1
          refine am_putf hB d_TR_takesHeader_44 P_TR_80_3 (m3.H n4) (by simp) (am_fit.z (Or.inr rfl)) e4 ?_
          refine am_aload_n hB d_TR_takesHeader_47 rfl rfl rfl ?_
          refine am_getf hB d_TR_takesHeader_48 F_TR_80_3 (m4.H n4) rfl ?_
          rw [v4]
          refine ai_zne (tgt := 63) hB d_TR_takesHeader_51 (by decide) (fun c5 => ?_) (fun c5 => ?_)
          · refine fin h4 t4 (j + 2) true ⟨m4, (u2.2.tr u3.2).tr g4⟩ (by omega) (by omega) (by rw [o4 0 (by omega), v3]; rfl) (by rw [o4 1 (by omega), o3 1 (by omega), q21]) (by rw [o4 _ (by omega), o3 _ (by omega), x1]) (by rw [o4 _ (by omega), o3 _ (by omega), x2]) v4 (fun r r0 rr => by rw [o4 r (by omega), o3 r r0, o2 r r0 (by omega) (by omega)]) ?_
            unfold sp_hd
            rw [e2]
            exact if_pos w3
          · omega
        | false =>
          rw [sp_th_f w3] at v3
          show am_Z X 44 [.ref b, .ref (b + 3 + 3 * n)] [am_n 0, .ref (b + 3 + 3 * n)] hh 0 0
          obtain ⟨h4, t4, e4, m4, g4, v4, o4⟩ := m3.eHm n4 0
          refine am_putf hB d_TR_takesHeader_44 P_TR_80_3 (m3.H n4) (by simp) (am_fit.z (Or.inl rfl)) e4 ?_
          refine am_aload_n hB d_TR_takesHeader_47 rfl rfl rfl ?_
          refine am_getf hB d_TR_takesHeader_48 F_TR_80_3 (m4.H n4) rfl ?_
          rw [v4]
          have p0 : t4 0 = j := by rw [o4 0 (by omega), v3]
          have p1 : t4 1 = t 1 := by rw [o4 1 (by omega), o3 1 (by omega), q21]
          have b4 : mp_bd g t4 := ⟨hg, by rw [p0]; omega, by rw [p0, p1]; omega, by rw [p1]; exact d2⟩
          refine ai_zne (tgt := 63) hB d_TR_takesHeader_51 (by decide) (fun c5 => ?_) (fun c5 => ?_)
          · omega
          refine am_aload_n hB d_TR_takesHeader_54 rfl rfl rfl ?_
          refine am_callU hB hR (as := []) m4.o (m_FO_isDone (m4.fo b4)) c_TR_65_9 rfl rfl d_TR_takesHeader_55 ⟨by decide, Nat.le_of_ble_eq_true rfl⟩ ⟨by decide, by decide⟩ rfl rfl (fun rr hh hp => ?_)
          obtain ⟨rfl, rfl⟩ := hp
          rw [p0, p1]
          by_cases hk : t 1 ≤ j
          · rw [decide_eq_true hk]
            show am_Z X 58 [.ref b, .ref (b + 3 + 3 * n)] [am_n 1] h4 0 0
            refine ai_zne (tgt := 63) hB d_TR_takesHeader_58 (by decide) (fun c6 => ?_) (fun c6 => ?_)
            · refine fin h4 t4 j false ⟨m4, (u2.2.tr u3.2).tr g4⟩ (by omega) (by omega) p0 p1 (by rw [o4 _ (by omega), o3 _ (by omega), x1]) (by rw [o4 _ (by omega), o3 _ (by omega), x2]) v4 (fun r r0 rr => by rw [o4 r (by omega), o3 r r0, o2 r r0 (by omega) (by omega)]) ?_
              unfold sp_hd
              rw [e2]
              simp only
              rw [if_neg (by rw [w3]; decide), if_pos hk]
            · omega
          · rw [decide_eq_false hk]
            show am_Z X 58 [.ref b, .ref (b + 3 + 3 * n)] [am_n 0] h4 0 0
            refine ai_zne (tgt := 63) hB d_TR_takesHeader_58 (by decide) (fun c6 => ?_) (fun c6 => ?_)
            · omega
            refine ai_const hB d_TR_takesHeader_61 ?_
            refine am_iret hB hR d_TR_takesHeader_62 rfl (by decide) ?_ (Nat.zero_le _) (Nat.zero_le _)
            refine ⟨t4, ⟨m4, (u2.2.tr u3.2).tr g4⟩, Or.inl ⟨rfl, Or.inr ?_⟩⟩
            unfold sp_hd
            rw [e2]
            simp only
            rw [if_neg (by rw [w3]; decide), if_neg hk]
      · omega
  · refine ai_const hB d_TR_takesHeader_8 ?_
    refine am_iret hB hR d_TR_takesHeader_9 rfl (by decide) ?_ (Nat.zero_le _) (Nat.zero_le _)
    exact ⟨t, ⟨m, am_rg.rf⟩, Or.inl ⟨rfl, Or.inl (by omega)⟩⟩
def sp_call (g : Int → Int) (a e : Int) : Option (Int × Int) := match sp_take g 40 40 a e with
  | none => none
  | some j => if sp_lp g a (j - a).toNat = -1 then none else some (j, sp_lp g a (j - a).toNat)
theorem m_TR_takesCall {l : Launch} {G : am_G} {h : am_H} {b c i : Nat} {g : Int → Int} {t : Nat → Int} (m : am_tr h b c g t) (d : mp_bd g t) (hi : i < 20) :
    am_M l G M_TR_takesCall [.ref b, .ref (b + 16 + 4 * i)] h (fun r h' => ∃ t', tr_to h b c g h' t' ∧ (∀ r, r ≠ 0 → r ≠ 8 → r ≠ 9 → (r < 136 + 32 * i ∨ 145 + 32 * i < r) → t' r = t r) ∧ match sp_call g (t 0) (t 1) with
      | none => r = some (am_n 0)
      | some (j, p) => r = some (am_n 1) ∧ t' 0 = j ∧ t' (136 + 32 * i) = t 0 ∧ t' (137 + 32 * i) = p ∧ t' (144 + 32 * i) = p + 1 ∧ t' (145 + 32 * i) = j) := by
  have dd := d
  obtain ⟨hg, d0, d1, d2⟩ := dd
  refine am_M.of (by decide) (Nat.le_of_ble_eq_true rfl) (fun X hB hR => ?_)
  show am_Z X 0 [.ref b, .ref (b + 16 + 4 * i), am_u] [] h 0 0
  refine am_aload_n hB d_TR_takesCall_0 rfl rfl rfl ?_
  refine am_aload_n hB d_TR_takesCall_1 rfl rfl rfl ?_
  refine am_getf hB d_TR_takesCall_2 F_TR_12_9 m.o rfl ?_
  refine ai_bipush hB d_TR_takesCall_5 (by decide) ?_
  refine ai_bipush hB d_TR_takesCall_7 (by decide) ?_
  refine am_callU hB hR (as := [.ref (b + 1), am_n 40, am_n 40]) m.o (mt_takeC m d ⟨by omega, by omega⟩ ⟨by omega, by omega⟩) c_TR_74_9 rfl rfl d_TR_takesCall_9 ⟨by decide, Nat.le_of_ble_eq_true rfl⟩ ⟨by decide, by decide⟩ rfl rfl (fun rr hh hp => ?_)
  cases e2 : sp_take g 40 40 (t 0) (t 1) with
  | none =>
    rw [e2] at hp
    obtain ⟨rfl, rfl⟩ := hp
    show am_Z X 12 [.ref b, .ref (b + 16 + 4 * i), am_u] [am_n 0] h 0 0
    refine ai_zne (tgt := 17) hB d_TR_takesCall_12 (by decide) (fun c3 => ?_) (fun c3 => ?_)
    · omega
    refine ai_const hB d_TR_takesCall_15 ?_
    refine am_iret hB hR d_TR_takesCall_16 rfl (by decide) ?_ (Nat.zero_le _) (Nat.zero_le _)
    refine ⟨t, ⟨m, am_rg.rf⟩, fun _ _ _ _ _ => rfl, ?_⟩
    unfold sp_call
    rw [e2]
  | some j =>
    rw [e2] at hp
    obtain ⟨rfl, t2, u2, x0, x1, x2, o2⟩ := hp
    have m2 := u2.1
    have rj := sp_take_in d1 e2
    have hlp := sp_lp_in g (t 0) d0 (j - t 0).toNat
    show am_Z X 12 [.ref b, .ref (b + 16 + 4 * i), am_u] [am_n 1] hh 0 0
    have rc := m2.SC
    rw [x1, x2] at rc
    have hcl : sp_call g (t 0) (t 1) = if sp_lp g (t 0) (j - t 0).toNat = -1 then none else some (j, sp_lp g (t 0) (j - t 0).toNat) := by
      unfold sp_call
      rw [e2]
    refine ai_zne (tgt := 17) hB d_TR_takesCall_12 (by decide) (fun c3 => ?_) (fun c3 => ?_)
    · refine am_aload_n hB d_TR_takesCall_17 rfl rfl rfl ?_
      refine am_getf hB d_TR_takesCall_18 F_TR_12_9 m2.o rfl ?_
      refine am_callV hB hR (as := []) rc (m_SL_lastPoint rc m2.2.1 hg ⟨by omega, by omega, by omega⟩ (by omega)) c_TR_94 rfl rfl d_TR_takesCall_21 ⟨by decide, Nat.le_of_ble_eq_true rfl⟩ ⟨by decide, by decide⟩ rfl rfl (fun rr hh hp => ?_)
      obtain ⟨rfl, rfl⟩ := hp
      show am_Z X 24 [.ref b, .ref (b + 16 + 4 * i), am_u] [am_n (sp_lp g (t 0) (j - t 0).toNat)] hh 0 0
      refine am_istore_n hB d_TR_takesCall_24 rfl (by rw [hR.nL]; decide) rfl ?_
      refine am_iload_n hB d_TR_takesCall_25 rfl rfl ?_
      refine ai_const hB d_TR_takesCall_26 ?_
      refine ai_jne (tgt := 32) hB d_TR_takesCall_27 (by decide) (fun c4 => ?_) (fun c4 => ?_)
      · refine am_aload_n hB d_TR_takesCall_32 rfl rfl rfl ?_
        refine am_getf hB d_TR_takesCall_33 F_TR_98_2 (m2.F hi) rfl ?_
        refine am_aload_n hB d_TR_takesCall_36 rfl rfl rfl ?_
        refine am_getf hB d_TR_takesCall_37 F_TR_12_9 m2.o rfl ?_
        refine am_getf hB d_TR_takesCall_40 F_TR_101_7 rc rfl ?_
        refine am_iload_n hB d_TR_takesCall_43 rfl rfl ?_
        obtain ⟨h3, t3, e3, m3, g3, v3, v3', o3⟩ := m2.sO hi (t 0) (sp_lp g (t 0) (j - t 0).toNat)
        refine am_callV hB hR (as := [am_n (t 0), am_n (sp_lp g (t 0) (j - t 0).toNat)]) (m2.SO hi) (m_SL_set (m2.SO hi)) c_TR_104 rfl rfl d_TR_takesCall_44 ⟨by decide, Nat.le_of_ble_eq_true rfl⟩ ⟨by decide, by decide⟩ rfl rfl (fun rr hh hp => ?_)
        obtain ⟨rfl, hp2⟩ := hp
        rw [e3] at hp2
        subst hp2
        show am_Z X 47 [.ref b, .ref (b + 16 + 4 * i), am_n (sp_lp g (t 0) (j - t 0).toNat)] [] hh 0 0
        refine am_aload_n hB d_TR_takesCall_47 rfl rfl rfl ?_
        refine am_getf hB d_TR_takesCall_48 F_TR_108_2 (m3.F hi) rfl ?_
        refine am_iload_n hB d_TR_takesCall_51 rfl rfl ?_
        refine ai_const hB d_TR_takesCall_52 ?_
        refine ai_add hB d_TR_takesCall_53 ?_
        refine am_aload_n hB d_TR_takesCall_54 rfl rfl rfl ?_
        refine am_getf hB d_TR_takesCall_55 F_TR_12_9 m3.o rfl ?_
        have rc3 := m3.SC
        rw [o3 8 (by omega) (by omega), o3 9 (by omega) (by omega), x1, x2] at rc3
        refine am_getf hB d_TR_takesCall_58 F_TR_111_7 rc3 rfl ?_
        obtain ⟨h4, t4, e4, m4, g4, v4, v4', o4⟩ := m3.sM hi (sp_lp g (t 0) (j - t 0).toNat + 1) j
        refine am_callV hB hR (as := [am_n (sp_lp g (t 0) (j - t 0).toNat + 1), am_n j]) (m3.SM hi) (m_SL_set (m3.SM hi)) c_TR_104 rfl rfl d_TR_takesCall_61 ⟨by decide, Nat.le_of_ble_eq_true rfl⟩ ⟨by decide, by decide⟩ rfl rfl (fun rr hh hp => ?_)
        obtain ⟨rfl, hp2⟩ := hp
        rw [e4] at hp2
        subst hp2
        show am_Z X 64 [.ref b, .ref (b + 16 + 4 * i), am_n (sp_lp g (t 0) (j - t 0).toNat)] [] hh 0 0
        refine ai_const hB d_TR_takesCall_64 ?_
        refine am_iret hB hR d_TR_takesCall_65 rfl (by decide) ?_ (Nat.zero_le _) (Nat.zero_le _)
        refine ⟨t4, ⟨m4, (u2.2.tr g3).tr g4⟩, fun r r0 r8 r9 rr => by rw [o4 r (by omega) (by omega), o3 r (by omega) (by omega), o2 r r0 r8 r9], ?_⟩
        rw [hcl, if_neg c4]
        refine ⟨rfl, ?_, ?_, ?_, v4, v4'⟩
        · rw [o4 0 (by omega) (by omega), o3 0 (by omega) (by omega), x0]
        · rw [o4 _ (by omega) (by omega), v3]
        · rw [o4 _ (by omega) (by omega), v3']
      · refine ai_const hB d_TR_takesCall_30 ?_
        refine am_iret hB hR d_TR_takesCall_31 rfl (by decide) ?_ (Nat.zero_le _) (Nat.zero_le _)
        refine ⟨t2, u2, fun r r0 r8 r9 rr => o2 r r0 r8 r9, ?_⟩
        rw [hcl, if_pos (by omega)]
    · omega
