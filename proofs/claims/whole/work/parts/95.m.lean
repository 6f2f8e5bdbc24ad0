/-! the model's key -/
theorem m_MO_mix {l : Launch} {G : am_G} {h : am_H} {m : Nat} {U : mv} {c : Int} (M : am_mo h m U) : am_M l G M_MO_mix [.ref m, am_n c] h (fun r h' => r = none ∧ am_mo h' m (mv.s_hash U (kx_mix U.hash_ c)) ∧ ko m 35 h h') := by
  have f : ko m 35 h h := ko.rf
  refine am_M.of (by decide) (Nat.le_of_ble_eq_true rfl) (fun X hB hR => ?_)
  show am_Z X 0 [.ref m, am_n c] [] h 0 0
  refine am_aload_n hB d_MO_mix_0 rfl rfl rfl ?_
  refine am_aload_n hB d_MO_mix_1 rfl rfl rfl ?_
  refine am_getf hB d_MO_mix_2 F_MO_358_11 M.1 rfl ?_
  refine am_iload_n hB d_MO_mix_5 rfl rfl ?_
  refine am_i2l hB d_MO_mix_6 ?_
  refine am_lxor hB d_MO_mix_7 ?_
  refine am_ldc2 hB d_MO_mix_8 J_MO_362 ?_
  refine am_lmul hB d_MO_mix_11 ?_
  refine mo_p_hash hB d_MO_mix_12 P_MO_358_11 M f (fun h M f => ?_)
  refine am_vret hB hR d_MO_mix_15 rfl ?_ (Nat.zero_le _) (Nat.zero_le _)
  exact ⟨rfl, M, f⟩
theorem m_MO_endOfLine {l : Launch} {G : am_G} {h : am_H} {m : Nat} {U : mv} {a e : Int} (M : am_mo h m U) (ho : am_cok U.out_) (h0 : 0 ≤ a) (h1 : a ≤ e) (h2 : e < 1000) (he : U.out_ e = 10) (hn : ∀ i, a ≤ i → i < e → U.out_ i ≠ 10) : am_M l G M_MO_endOfLine [.ref m, am_n a] h (am_is (am_n e) h) := by
  refine am_M.of (by decide) (Nat.le_of_ble_eq_true rfl) (fun X hB hR => ?_)
  show am_Z X 0 [.ref m, am_n a, am_u] [] h 0 0
  have loop : ∀ (d : Nat) (i : Int), a ≤ i → i + d = e → am_Z X 2 [.ref m, am_n a, am_n i] [] h 0 0 := by
    intro d
    induction d with
    | zero =>
      intro i hi hd
      have hie : i = e := by omega
      subst hie
      refine am_aload_n hB d_MO_endOfLine_2 rfl rfl rfl ?_
      refine am_getf hB d_MO_endOfLine_3 F_MO_94_11 M.1 rfl ?_
      refine am_iload_n hB d_MO_endOfLine_6 rfl rfl ?_
      refine ai_iald hB d_MO_endOfLine_7 ty_1 M.out ?_
      refine ai_bipush hB d_MO_endOfLine_8 (by decide) ?_
      show am_Z X 10 [.ref m, am_n a, am_n i] [am_n 10, am_n (U.out_ i)] h 0 0
      rw [he]
      refine ai_jeq (tgt := 19) hB d_MO_endOfLine_10 (by decide) (fun c1 => ?_) (fun c1 => ?_)
      rotate_left
      · omega
      refine am_iload_n hB d_MO_endOfLine_19 rfl rfl ?_
      refine am_iret hB hR d_MO_endOfLine_20 rfl rfl ?_ (Nat.zero_le _) (Nat.zero_le _)
      exact ⟨rfl, rfl⟩
    | succ d ih =>
      intro i hi hd
      have hg := ho i
      have hne := hn i hi (by omega)
      refine am_aload_n hB d_MO_endOfLine_2 rfl rfl rfl ?_
      refine am_getf hB d_MO_endOfLine_3 F_MO_94_11 M.1 rfl ?_
      refine am_iload_n hB d_MO_endOfLine_6 rfl rfl ?_
      refine ai_iald hB d_MO_endOfLine_7 ty_1 M.out ?_
      refine ai_bipush hB d_MO_endOfLine_8 (by decide) ?_
      show am_Z X 10 [.ref m, am_n a, am_n i] [am_n 10, am_n (U.out_ i)] h 0 0
      refine ai_jeq (tgt := 19) hB d_MO_endOfLine_10 (by decide) (fun c1 => ?_) (fun c1 => ?_)
      · exact absurd c1 hne
      refine ai_inc hB d_MO_endOfLine_13 rfl (by rw [hR.nL]; decide) rfl ?_
      exact am_goto (tgt := 2) hB d_MO_endOfLine_16 (by decide) (ih (i + 1) (by omega) (by omega))
  refine am_iload_n hB d_MO_endOfLine_0 rfl rfl ?_
  refine am_istore_n hB d_MO_endOfLine_1 rfl (by rw [hR.nL]; decide) rfl ?_
  exact loop (e - a).toNat a (Int.le_refl a) (by omega)
theorem m_MO_bracket {l : Launch} {G : am_G} {h : am_H} {m : Nat} {U : mv} {a e : Int} (M : am_mo h m U) (ho : am_cok U.out_) (h0 : 0 ≤ a) (h1 : a ≤ e) (h2 : e < 1000) (he : U.out_ e = 40) (hn : ∀ i, a ≤ i → i < e → U.out_ i ≠ 40) : am_M l G M_MO_bracket [.ref m, am_n a] h (am_is (am_n e) h) := by
  refine am_M.of (by decide) (Nat.le_of_ble_eq_true rfl) (fun X hB hR => ?_)
  show am_Z X 0 [.ref m, am_n a, am_u] [] h 0 0
  have loop : ∀ (d : Nat) (i : Int), a ≤ i → i + d = e → am_Z X 2 [.ref m, am_n a, am_n i] [] h 0 0 := by
    intro d
    induction d with
    | zero =>
      intro i hi hd
      have hie : i = e := by omega
      subst hie
      refine am_aload_n hB d_MO_bracket_2 rfl rfl rfl ?_
      refine am_getf hB d_MO_bracket_3 F_MO_94_11 M.1 rfl ?_
      refine am_iload_n hB d_MO_bracket_6 rfl rfl ?_
      refine ai_iald hB d_MO_bracket_7 ty_1 M.out ?_
      refine ai_bipush hB d_MO_bracket_8 (by decide) ?_
      show am_Z X 10 [.ref m, am_n a, am_n i] [am_n 40, am_n (U.out_ i)] h 0 0
      rw [he]
      refine ai_jeq (tgt := 19) hB d_MO_bracket_10 (by decide) (fun c1 => ?_) (fun c1 => ?_)
      rotate_left
      · omega
      refine am_iload_n hB d_MO_bracket_19 rfl rfl ?_
      refine am_iret hB hR d_MO_bracket_20 rfl rfl ?_ (Nat.zero_le _) (Nat.zero_le _)
      exact ⟨rfl, rfl⟩
    | succ d ih =>
      intro i hi hd
      have hg := ho i
      have hne := hn i hi (by omega)
      refine am_aload_n hB d_MO_bracket_2 rfl rfl rfl ?_
      refine am_getf hB d_MO_bracket_3 F_MO_94_11 M.1 rfl ?_
      refine am_iload_n hB d_MO_bracket_6 rfl rfl ?_
      refine ai_iald hB d_MO_bracket_7 ty_1 M.out ?_
      refine ai_bipush hB d_MO_bracket_8 (by decide) ?_
      show am_Z X 10 [.ref m, am_n a, am_n i] [am_n 40, am_n (U.out_ i)] h 0 0
      refine ai_jeq (tgt := 19) hB d_MO_bracket_10 (by decide) (fun c1 => ?_) (fun c1 => ?_)
      · exact absurd c1 hne
      refine ai_inc hB d_MO_bracket_13 rfl (by rw [hR.nL]; decide) rfl ?_
      exact am_goto (tgt := 2) hB d_MO_bracket_16 (by decide) (ih (i + 1) (by omega) (by omega))
  refine am_iload_n hB d_MO_bracket_0 rfl rfl ?_
  refine am_istore_n hB d_MO_bracket_1 rfl (by rw [hR.nL]; decide) rfl ?_
  exact loop (e - a).toNat a (Int.le_refl a) (by omega)
theorem m_MO_mixHead {l : Launch} {G : am_G} {hA : am_H} {m : Nat} {U : mv} {a b : Int} (M : am_mo hA m U) (ho : am_cok U.out_) (h0 : 0 ≤ a) (ha : a ≤ 1100) (h2 : 0 ≤ b ∧ b ≤ 1000) : am_M l G M_MO_mixHead [.ref m, am_n a, am_n b] hA (fun r h' => r = none ∧ am_mo h' m (mv.s_hash U (kx_fl kx_mix U.out_ a (b - a).toNat a U.hash_)) ∧ ko m 35 hA h') := by
  refine am_M.of (by decide) (Nat.le_of_ble_eq_true rfl) (fun X hB hR => ?_)
  show am_Z X 0 [.ref m, am_n a, am_n b, am_u, am_u] [] hA 0 0
  have loop : ∀ (d : Nat) (i : Int) (k : Int64) (v4 : Value) (h1 : am_H), a ≤ i → i < 1101 → (b - i).toNat = d → kx_fl kx_mix U.out_ a (b - a).toNat a U.hash_ = kx_fl kx_mix U.out_ a d i k → am_mo h1 m (mv.s_hash U (k)) → ko m 35 hA h1 → am_Z X 2 [.ref m, am_n a, am_n b, am_n i, v4] [] h1 0 0 := by
    intro d
    induction d with
    | zero =>
      intro i k v4 h1 hi hib hd hs M f
      refine am_iload_n hB d_MO_mixHead_2 rfl rfl ?_
      refine am_iload_n hB d_MO_mixHead_3 rfl rfl ?_
      refine ai_jge (tgt := 67) hB d_MO_mixHead_4 (by decide) (fun c1 => ?_) (fun c1 => ?_)
      rotate_left
      · omega
      refine am_vret hB hR d_MO_mixHead_67 rfl ?_ (Nat.zero_le _) (Nat.zero_le _)
      rw [hs]
      exact ⟨rfl, M, f⟩
    | succ d ih =>
      intro i k v4 h1 hi hib hd hs M f
      have hg := ho i
      have hg1 := ho (i - 1)
      rw [kx_fl] at hs
      have nxt : ∀ (k' : Int64) (v4 : Value) (h2 : am_H), k' = (if sp_fig (U.out_ i) = true then (if i = a ∨ sp_fig (U.out_ (i - 1)) = false then kx_mix k 48 else k) else kx_mix k (U.out_ i)) → am_mo h2 m (mv.s_hash U (k')) → ko m 35 hA h2 → am_Z X 61 [.ref m, am_n a, am_n b, am_n i, v4] [] h2 0 0 := by
        intro k' v4 h2 hk M f
        rw [← hk] at hs
        refine ai_inc hB d_MO_mixHead_61 rfl (by rw [hR.nL]; decide) rfl ?_
        exact am_goto (tgt := 2) hB d_MO_mixHead_64 (by decide) (ih (i + 1) k' _ h2 (by omega) (by omega) (by omega) hs M f)
      refine am_iload_n hB d_MO_mixHead_2 rfl rfl ?_
      refine am_iload_n hB d_MO_mixHead_3 rfl rfl ?_
      refine ai_jge (tgt := 67) hB d_MO_mixHead_4 (by decide) (fun c1 => ?_) (fun c1 => ?_)
      · omega
      refine am_aload_n hB d_MO_mixHead_7 rfl rfl rfl ?_
      refine am_getf hB d_MO_mixHead_8 F_MO_94_11 M.1 rfl ?_
      refine am_iload_n hB d_MO_mixHead_11 rfl rfl ?_
      refine ai_iald hB d_MO_mixHead_12 ty_1 M.out ?_
      show am_Z X 13 [.ref m, am_n a, am_n b, am_n i, v4] [am_n (U.out_ i)] h1 0 0
      refine am_callS hB hR (as := [am_n (U.out_ i)]) (n_isFigure hg.1 hg.2 h1) c_MO_126 rfl rfl d_MO_mixHead_13 ⟨by decide, Nat.le_of_ble_eq_true rfl⟩ ⟨by decide, by decide⟩ rfl rfl (fun rr h hp => ?_)
      obtain ⟨rfl, rfl⟩ := hp
      show am_Z X 16 [.ref m, am_n a, am_n b, am_n i, v4] [am_n (sp_i (sp_fig (U.out_ i)))] h1 0 0
      refine am_istore hB d_MO_mixHead_16 (by rw [hR.nL]; decide) rfl ?_
      refine am_iload hB d_MO_mixHead_18 rfl ?_
      cases q : sp_fig (U.out_ i) with
      | false =>
        rw [q, if_neg Bool.false_ne_true] at nxt
        show am_Z X 20 [.ref m, am_n a, am_n b, am_n i, am_n 0] [am_n 0] h1 0 0
        refine ai_zne (tgt := 36) hB d_MO_mixHead_20 (by decide) (fun c2 => ?_) (fun c2 => ?_)
        · omega
        refine am_aload_n hB d_MO_mixHead_23 rfl rfl rfl ?_
        refine am_aload_n hB d_MO_mixHead_24 rfl rfl rfl ?_
        refine am_getf hB d_MO_mixHead_25 F_MO_94_11 M.1 rfl ?_
        refine am_iload_n hB d_MO_mixHead_28 rfl rfl ?_
        refine ai_iald hB d_MO_mixHead_29 ty_1 M.out ?_
        show am_Z X 30 [.ref m, am_n a, am_n b, am_n i, am_n 0] [am_n (U.out_ i), .ref m] h1 0 0
        refine am_callV hB hR (as := [am_n (U.out_ i)]) M.1 (m_MO_mix M) c_MO_364 rfl rfl d_MO_mixHead_30 ⟨by decide, Nat.le_of_ble_eq_true rfl⟩ ⟨by decide, by decide⟩ rfl rfl (fun rr h hp => ?_)
        obtain ⟨rfl, M, f1⟩ := hp
        have f := f.tr f1
        refine am_goto (tgt := 61) hB d_MO_mixHead_33 (by decide) ?_
        exact nxt _ _ h rfl M f
      | true =>
        rw [q, if_pos rfl] at nxt
        show am_Z X 20 [.ref m, am_n a, am_n b, am_n i, am_n 1] [am_n 1] h1 0 0
        have put : (i = a ∨ sp_fig (U.out_ (i - 1)) = false) → am_Z X 55 [.ref m, am_n a, am_n b, am_n i, am_n 1] [] h1 0 0 := by
          intro hz
          rw [if_pos hz] at nxt
          refine am_aload_n hB d_MO_mixHead_55 rfl rfl rfl ?_
          refine ai_bipush hB d_MO_mixHead_56 (by decide) ?_
          refine am_callV hB hR (as := [am_n 48]) M.1 (m_MO_mix M) c_MO_364 rfl rfl d_MO_mixHead_58 ⟨by decide, Nat.le_of_ble_eq_true rfl⟩ ⟨by decide, by decide⟩ rfl rfl (fun rr h hp => ?_)
          obtain ⟨rfl, M, f1⟩ := hp
          have f := f.tr f1
          exact nxt _ _ h rfl M f
        refine ai_zne (tgt := 36) hB d_MO_mixHead_20 (by decide) (fun c2 => ?_) (fun c2 => ?_)
        rotate_left
        · omega
        refine am_iload_n hB d_MO_mixHead_36 rfl rfl ?_
        refine am_iload_n hB d_MO_mixHead_37 rfl rfl ?_
        refine ai_jeq (tgt := 55) hB d_MO_mixHead_38 (by decide) (fun c3 => ?_) (fun c3 => ?_)
        · exact put (Or.inl c3)
        refine am_aload_n hB d_MO_mixHead_41 rfl rfl rfl ?_
        refine am_getf hB d_MO_mixHead_42 F_MO_94_11 M.1 rfl ?_
        refine am_iload_n hB d_MO_mixHead_45 rfl rfl ?_
        refine ai_const hB d_MO_mixHead_46 ?_
        refine ai_sub hB d_MO_mixHead_47 ?_
        refine ai_iald hB d_MO_mixHead_48 ty_1 M.out ?_
        show am_Z X 49 [.ref m, am_n a, am_n b, am_n i, am_n 1] [am_n (U.out_ (i - 1))] h1 0 0
        refine am_callS hB hR (as := [am_n (U.out_ (i - 1))]) (n_isFigure hg1.1 hg1.2 h1) c_MO_126 rfl rfl d_MO_mixHead_49 ⟨by decide, Nat.le_of_ble_eq_true rfl⟩ ⟨by decide, by decide⟩ rfl rfl (fun rr h hp => ?_)
        obtain ⟨rfl, rfl⟩ := hp
        show am_Z X 52 [.ref m, am_n a, am_n b, am_n i, am_n 1] [am_n (sp_i (sp_fig (U.out_ (i - 1))))] h1 0 0
        cases q1 : sp_fig (U.out_ (i - 1)) with
        | false =>
          show am_Z X 52 [.ref m, am_n a, am_n b, am_n i, am_n 1] [am_n 0] h1 0 0
          refine ai_zne (tgt := 61) hB d_MO_mixHead_52 (by decide) (fun c4 => ?_) (fun c4 => ?_)
          · omega
          exact put (Or.inr q1)
        | true =>
          show am_Z X 52 [.ref m, am_n a, am_n b, am_n i, am_n 1] [am_n 1] h1 0 0
          refine ai_zne (tgt := 61) hB d_MO_mixHead_52 (by decide) (fun c4 => ?_) (fun c4 => ?_)
          rotate_left
          · omega
          refine nxt k _ h1 ?_ M f
          rw [if_neg]
          rintro (z | z)
          · exact c3 z
          · rw [q1] at z
            cases z
  refine am_iload_n hB d_MO_mixHead_0 rfl rfl ?_
  refine am_istore_n hB d_MO_mixHead_1 rfl (by rw [hR.nL]; decide) rfl ?_
  exact loop (b - a).toNat a U.hash_ _ hA (Int.le_refl a) (by omega) rfl rfl M ko.rf
theorem s_hash2 (U : mv) (k x : Int64) : (U.s_hash k).s_hash x = U.s_hash x := rfl
theorem hash_s (U : mv) (k : Int64) : (U.s_hash k).hash_ = k := rfl
theorem out_hs (U : mv) (k : Int64) : (U.s_hash k).out_ = U.out_ := rfl
theorem q_MO_mix {l : Launch} {G : am_G} {h : am_H} {m : Nat} {U : mv} {c : Int} {k : Int64} (M : am_mo h m (mv.s_hash U (k))) : am_M l G M_MO_mix [.ref m, am_n c] h (fun r h' => r = none ∧ am_mo h' m (mv.s_hash U (kx_mix k c)) ∧ ko m 35 h h') := by
  have t := m_MO_mix (l := l) (G := G) (c := c) M
  rw [s_hash2, hash_s] at t
  exact t
theorem q_MO_mixHead {l : Launch} {G : am_G} {hA : am_H} {m : Nat} {U : mv} {a b : Int} {k : Int64} (M : am_mo hA m (mv.s_hash U (k))) (ho : am_cok U.out_) (h0 : 0 ≤ a) (ha : a ≤ 1100) (h2 : 0 ≤ b ∧ b ≤ 1000) : am_M l G M_MO_mixHead [.ref m, am_n a, am_n b] hA (fun r h' => r = none ∧ am_mo h' m (mv.s_hash U (kx_fl kx_mix U.out_ a (b - a).toNat a k)) ∧ ko m 35 hA h') := by
  have t := m_MO_mixHead (l := l) (G := G) M (show am_cok (U.s_hash k).out_ from ho) h0 ha h2
  rw [s_hash2, hash_s, out_hs] at t
  exact t
def wq (k : Int) : Int := (((4855291011764854882 : Int64) >>> ((am_i (8 * (7 - k))).toInt64 &&& 63)) &&& 255).toInt
theorem wq_ch : ∀ k : Nat, k < 8 → wq k = sp_ch 3 k := by decide +kernel
theorem m_MO_mixHeader {l : Launch} {G : am_G} {hA : am_H} {m : Nat} {U : mv} {a e : Int} {c : Bool} {k : Int64} (M : am_mo hA m (mv.s_hash U (k))) (ho : am_cok U.out_) (h0 : 0 ≤ a) (h1 : a ≤ e) (h2 : e ≤ 1000) (hc : c = true ↔ (11 < e - a ∧ ∀ j : Nat, j < 8 → U.out_ (a + j) = sp_ch 3 j)) : am_M l G M_MO_mixHeader [.ref m, am_n a, am_n e] hA (fun r h' => r = none ∧ am_mo h' m (mv.s_hash U (kx_head kx_mix U.out_ k (if c = true then a + 11 else a) e)) ∧ ko m 35 hA h') := by
  have f : ko m 35 hA hA := ko.rf
  refine am_M.of (by decide) (Nat.le_of_ble_eq_true rfl) (fun X hB hR => ?_)
  show am_Z X 0 [.ref m, am_n a, am_n e, am_u, am_u, am_u] [] hA 0 0
  have fin : ∀ B : Int, B = (if c = true then a + 11 else a) → (0 ≤ B ∧ B ≤ e) → am_Z X 82 [.ref m, am_n a, am_n e, am_n (sp_i c), am_n 8, am_u] [am_n B] hA 0 0 := by
    intro B hB' hBe
    have pl : sp_pl1 U.out_ 58 B e = sp_ix U.out_ 58 B (e - B).toNat := if_pos hBe.2
    have hin := sp_ix_in U.out_ 58 (e - B).toNat B
    have go : ∀ p : Int, p = sp_ix U.out_ 58 B (e - B).toNat → am_Z X 112 [.ref m, am_n a, am_n e, am_n (sp_i c), am_n B, am_n p] [] hA 0 0 := by
      intro p hk
      rw [← hk] at hin pl
      refine am_aload_n hB d_MO_mixHeader_112 rfl rfl rfl ?_
      refine am_iload hB d_MO_mixHeader_113 rfl ?_
      refine am_iload hB d_MO_mixHeader_115 rfl ?_
      refine am_callV hB hR (as := [am_n B, am_n p]) M.1 (q_MO_mixHead M ho hBe.1 (by omega) ⟨by omega, by omega⟩) c_MO_367 rfl rfl d_MO_mixHeader_117 ⟨by decide, Nat.le_of_ble_eq_true rfl⟩ ⟨by decide, by decide⟩ rfl rfl (fun rr h hp => ?_)
      obtain ⟨rfl, M, f1⟩ := hp
      have f := f.tr f1
      show am_Z X 120 [.ref m, am_n a, am_n e, am_n (sp_i c), am_n B, am_n p] [] h 0 0
      refine am_aload_n hB d_MO_mixHeader_120 rfl rfl rfl ?_
      refine ai_bipush hB d_MO_mixHeader_121 (by decide) ?_
      refine am_callV hB hR (as := [am_n 58]) M.1 (q_MO_mix M) c_MO_364 rfl rfl d_MO_mixHeader_123 ⟨by decide, Nat.le_of_ble_eq_true rfl⟩ ⟨by decide, by decide⟩ rfl rfl (fun rr h hp => ?_)
      obtain ⟨rfl, M, f2⟩ := hp
      have f := f.tr f2
      show am_Z X 126 [.ref m, am_n a, am_n e, am_n (sp_i c), am_n B, am_n p] [] h 0 0
      have lst : ∀ q : Int, (0 ≤ q ∧ q ≤ 1100) → (q = p + 2 ∨ (p = e ∧ q = e)) → am_Z X 141 [.ref m, am_n a, am_n e, am_n (sp_i c), am_n B, am_n p] [am_n q, .ref m] h 0 0 := by
        intro q q1 q2
        refine am_iload_n hB d_MO_mixHeader_141 rfl rfl ?_
        refine am_callV hB hR (as := [am_n q, am_n e]) M.1 (q_MO_mixHead M ho q1.1 (by omega) ⟨by omega, by omega⟩) c_MO_367 rfl rfl d_MO_mixHeader_142 ⟨by decide, Nat.le_of_ble_eq_true rfl⟩ ⟨by decide, by decide⟩ rfl rfl (fun rr h hp => ?_)
        obtain ⟨rfl, M, f3⟩ := hp
        have f := f.tr f3
        show am_Z X 145 [.ref m, am_n a, am_n e, am_n (sp_i c), am_n B, am_n p] [] h 0 0
        refine am_aload_n hB d_MO_mixHeader_145 rfl rfl rfl ?_
        refine ai_bipush hB d_MO_mixHeader_146 (by decide) ?_
        refine am_callV hB hR (as := [am_n 10]) M.1 (q_MO_mix M) c_MO_364 rfl rfl d_MO_mixHeader_148 ⟨by decide, Nat.le_of_ble_eq_true rfl⟩ ⟨by decide, by decide⟩ rfl rfl (fun rr h hp => ?_)
        obtain ⟨rfl, M, f4⟩ := hp
        have f := f.tr f4
        refine am_vret hB hR d_MO_mixHeader_151 rfl ?_ (Nat.zero_le _) (Nat.zero_le _)
        refine ⟨rfl, ?_, f⟩
        rw [← hB']
        unfold kx_head
        rw [pl]
        rcases q2 with z2 | ⟨z1, z2⟩
        · rw [← z2]
          exact M
        · rw [z2, show (e - e).toNat = 0 by omega, kx_fl, z1] at M
          rw [z1, show (e - (e + 2)).toNat = 0 by omega, kx_fl]
          exact M
      refine am_aload_n hB d_MO_mixHeader_126 rfl rfl rfl ?_
      refine am_iload hB d_MO_mixHeader_127 rfl ?_
      refine am_iload_n hB d_MO_mixHeader_129 rfl rfl ?_
      refine ai_jge (tgt := 140) hB d_MO_mixHeader_130 (by decide) (fun c5 => ?_) (fun c5 => ?_)
      · refine am_iload_n hB d_MO_mixHeader_140 rfl rfl ?_
        exact lst e ⟨by omega, by omega⟩ (Or.inr ⟨by omega, rfl⟩)
      · refine am_iload hB d_MO_mixHeader_133 rfl ?_
        refine ai_const hB d_MO_mixHeader_135 ?_
        refine ai_add hB d_MO_mixHeader_136 ?_
        refine am_goto (tgt := 141) hB d_MO_mixHeader_137 (by decide) ?_
        exact lst (p + 2) ⟨by omega, by omega⟩ (Or.inl rfl)
    have loop : ∀ (d : Nat) (i : Int), B ≤ i → i + d = e → sp_ix U.out_ 58 B (e - B).toNat = sp_ix U.out_ 58 i d → am_Z X 88 [.ref m, am_n a, am_n e, am_n (sp_i c), am_n B, am_n i] [] hA 0 0 := by
      intro d
      induction d with
      | zero =>
        intro i hi hd hs
        refine am_iload hB d_MO_mixHeader_88 rfl ?_
        refine am_iload_n hB d_MO_mixHeader_90 rfl rfl ?_
        refine ai_jge (tgt := 112) hB d_MO_mixHeader_91 (by decide) (fun c3 => ?_) (fun c3 => ?_)
        · exact go i (by rw [hs]; rfl)
        · omega
      | succ d ih =>
        intro i hi hd hs
        have hg := ho i
        rw [sp_ix] at hs
        refine am_iload hB d_MO_mixHeader_88 rfl ?_
        refine am_iload_n hB d_MO_mixHeader_90 rfl rfl ?_
        refine ai_jge (tgt := 112) hB d_MO_mixHeader_91 (by decide) (fun c3 => ?_) (fun c3 => ?_)
        · omega
        refine am_aload_n hB d_MO_mixHeader_94 rfl rfl rfl ?_
        refine am_getf hB d_MO_mixHeader_95 F_MO_94_11 M.1 rfl ?_
        refine am_iload hB d_MO_mixHeader_98 rfl ?_
        refine ai_iald hB d_MO_mixHeader_100 ty_1 M.out ?_
        refine ai_bipush hB d_MO_mixHeader_101 (by decide) ?_
        show am_Z X 103 [.ref m, am_n a, am_n e, am_n (sp_i c), am_n B, am_n i] [am_n 58, am_n (U.out_ i)] hA 0 0
        refine ai_jeq (tgt := 112) hB d_MO_mixHeader_103 (by decide) (fun c4 => ?_) (fun c4 => ?_)
        · rw [if_pos c4] at hs
          exact go i hs.symm
        · rw [if_neg c4] at hs
          refine ai_inc hB d_MO_mixHeader_106 rfl (by rw [hR.nL]; decide) rfl ?_
          exact am_goto (tgt := 88) hB d_MO_mixHeader_109 (by decide) (ih (i + 1) (by omega) (by omega) hs)
    refine am_istore hB d_MO_mixHeader_82 (by rw [hR.nL]; decide) rfl ?_
    refine am_iload hB d_MO_mixHeader_84 rfl ?_
    refine am_istore hB d_MO_mixHeader_86 (by rw [hR.nL]; decide) rfl ?_
    exact loop (e - B).toNat B (Int.le_refl B) (by omega) rfl
  have loop : ∀ (d k : Nat) (b : Bool), k + d = 8 → (b = true ↔ (11 < e - a ∧ ∀ j : Nat, j < k → U.out_ (a + j) = sp_ch 3 j)) → am_Z X 17 [.ref m, am_n a, am_n e, am_n (sp_i b), am_n k, am_u] [] hA 0 0 := by
    intro d
    induction d with
    | zero =>
      intro k b hk hb
      have hk8 : k = 8 := by omega
      subst hk8
      have hbc : b = c := by
        cases b <;> cases c <;> first | rfl | exact absurd (hc.mpr (hb.mp rfl)) (by decide) | exact absurd (hb.mpr (hc.mp rfl)) (by decide)
      subst hbc
      show am_Z X 17 [.ref m, am_n a, am_n e, am_n (sp_i b), am_n 8, am_u] [] hA 0 0
      refine am_iload hB d_MO_mixHeader_17 rfl ?_
      refine ai_bipush hB d_MO_mixHeader_19 (by decide) ?_
      refine ai_jge (tgt := 70) hB d_MO_mixHeader_21 (by decide) (fun c1 => ?_) (fun c1 => ?_)
      rotate_left
      · omega
      refine am_iload_n hB d_MO_mixHeader_70 rfl rfl ?_
      cases b with
      | false =>
        show am_Z X 71 [.ref m, am_n a, am_n e, am_n 0, am_n 8, am_u] [am_n 0] hA 0 0
        refine ai_zeq (tgt := 81) hB d_MO_mixHeader_71 (by decide) (fun c2 => ?_) (fun c2 => ?_)
        rotate_left
        · omega
        refine am_iload_n hB d_MO_mixHeader_81 rfl rfl ?_
        exact fin a rfl ⟨h0, h1⟩
      | true =>
        have := (hb.mp rfl).1
        show am_Z X 71 [.ref m, am_n a, am_n e, am_n 1, am_n 8, am_u] [am_n 1] hA 0 0
        refine ai_zeq (tgt := 81) hB d_MO_mixHeader_71 (by decide) (fun c2 => ?_) (fun c2 => ?_)
        · omega
        refine am_iload_n hB d_MO_mixHeader_74 rfl rfl ?_
        refine ai_bipush hB d_MO_mixHeader_75 (by decide) ?_
        refine ai_add hB d_MO_mixHeader_77 ?_
        refine am_goto (tgt := 82) hB d_MO_mixHeader_78 (by decide) ?_
        exact fin (a + 11) rfl ⟨by omega, by omega⟩
    | succ d ih =>
      intro k b hk hb
      have hg := ho (a + k)
      have nxt : ∀ b' : Bool, (b' = true ↔ (b = true ∧ U.out_ (a + k) = sp_ch 3 k)) → am_Z X 63 [.ref m, am_n a, am_n e, am_n (sp_i b), am_n k, am_u] [am_n (sp_i b')] hA 0 0 := by
        intro b' hb'
        refine am_istore_n hB d_MO_mixHeader_63 rfl (by rw [hR.nL]; decide) rfl ?_
        refine ai_inc hB d_MO_mixHeader_64 rfl (by rw [hR.nL]; decide) rfl ?_
        refine am_goto (tgt := 17) hB d_MO_mixHeader_67 (by decide) (ih (k + 1) b' (by omega) ?_)
        rw [hb', hb]
        constructor
        · rintro ⟨⟨z1, z2⟩, z3⟩
          refine ⟨z1, fun j hj => ?_⟩
          by_cases e : j = k
          · rw [e]
            exact z3
          · exact z2 j (by omega)
        · rintro ⟨z1, z2⟩
          exact ⟨⟨z1, fun j hj => z2 j (by omega)⟩, z2 k (by omega)⟩
      refine am_iload hB d_MO_mixHeader_17 rfl ?_
      refine ai_bipush hB d_MO_mixHeader_19 (by decide) ?_
      refine ai_jge (tgt := 70) hB d_MO_mixHeader_21 (by decide) (fun c1 => ?_) (fun c1 => ?_)
      · omega
      refine am_iload_n hB d_MO_mixHeader_24 rfl rfl ?_
      cases b with
      | false =>
        show am_Z X 25 [.ref m, am_n a, am_n e, am_n 0, am_n k, am_u] [am_n 0] hA 0 0
        refine ai_zeq (tgt := 62) hB d_MO_mixHeader_25 (by decide) (fun c2 => ?_) (fun c2 => ?_)
        rotate_left
        · omega
        refine ai_const hB d_MO_mixHeader_62 ?_
        exact nxt false ⟨fun z => absurd z Bool.false_ne_true, fun z => absurd z.1 Bool.false_ne_true⟩
      | true =>
        have hl := (hb.mp rfl).1
        show am_Z X 25 [.ref m, am_n a, am_n e, am_n 1, am_n k, am_u] [am_n 1] hA 0 0
        refine ai_zeq (tgt := 62) hB d_MO_mixHeader_25 (by decide) (fun c2 => ?_) (fun c2 => ?_)
        · omega
        refine am_aload_n hB d_MO_mixHeader_28 rfl rfl rfl ?_
        refine am_getf hB d_MO_mixHeader_29 F_MO_94_11 M.1 rfl ?_
        refine am_iload_n hB d_MO_mixHeader_32 rfl rfl ?_
        refine am_iload hB d_MO_mixHeader_33 rfl ?_
        refine ai_add hB d_MO_mixHeader_35 ?_
        refine ai_iald hB d_MO_mixHeader_36 ty_1 M.out ?_
        refine am_i2l hB d_MO_mixHeader_37 ?_
        refine am_ldc2 hB d_MO_mixHeader_38 J_MO_231 ?_
        refine ai_bipush hB d_MO_mixHeader_41 (by decide) ?_
        refine ai_bipush hB d_MO_mixHeader_43 (by decide) ?_
        refine am_iload hB d_MO_mixHeader_45 rfl ?_
        refine ai_sub hB d_MO_mixHeader_47 ?_
        refine ai_mul hB d_MO_mixHeader_48 ?_
        refine am_lshr hB d_MO_mixHeader_49 ?_
        refine am_ldc2 hB d_MO_mixHeader_50 J_MO_120 ?_
        refine am_land hB d_MO_mixHeader_53 ?_
        refine am_lcmp hB d_MO_mixHeader_54 ?_
        refine am_if_ne (tgt := 62) hB d_MO_mixHeader_55 (by decide) (fun c3 => ?_) (fun c3 => ?_)
        · have c3 : ¬ U.out_ (a + k) = wq k := fun z => c3 ((lg_cmp_eq _ _).mpr ((am_i64_eq (c := U.out_ (a + k)) (by omega) (by omega)).mpr z))
          rw [wq_ch k (by omega)] at c3
          refine ai_const hB d_MO_mixHeader_62 ?_
          exact nxt false ⟨fun z => absurd z Bool.false_ne_true, fun z => absurd z.2 c3⟩
        · have c3 : U.out_ (a + k) = wq k := (am_i64_eq (c := U.out_ (a + k)) (by omega) (by omega)).mp ((lg_cmp_eq _ _).mp c3)
          rw [wq_ch k (by omega)] at c3
          refine ai_const hB d_MO_mixHeader_58 ?_
          refine am_goto (tgt := 63) hB d_MO_mixHeader_59 (by decide) ?_
          exact nxt true ⟨fun _ => ⟨rfl, c3⟩, fun _ => rfl⟩
  have st : ∀ b : Bool, (b = true ↔ 11 < e - a) → am_Z X 13 [.ref m, am_n a, am_n e, am_u, am_u, am_u] [am_n (sp_i b)] hA 0 0 := by
    intro b hb
    refine am_istore_n hB d_MO_mixHeader_13 rfl (by rw [hR.nL]; decide) rfl ?_
    refine ai_const hB d_MO_mixHeader_14 ?_
    refine am_istore hB d_MO_mixHeader_15 (by rw [hR.nL]; decide) rfl ?_
    exact loop 8 0 b rfl ⟨fun z => ⟨hb.mp z, fun j hj => by omega⟩, fun z => hb.mpr z.1⟩
  refine am_iload_n hB d_MO_mixHeader_0 rfl rfl ?_
  refine am_iload_n hB d_MO_mixHeader_1 rfl rfl ?_
  refine ai_sub hB d_MO_mixHeader_2 ?_
  refine ai_bipush hB d_MO_mixHeader_3 (by decide) ?_
  refine ai_jle (tgt := 12) hB d_MO_mixHeader_5 (by decide) (fun c1 => ?_) (fun c1 => ?_)
  · refine ai_const hB d_MO_mixHeader_12 ?_
    exact st false ⟨fun z => absurd z Bool.false_ne_true, fun z => by omega⟩
  · refine ai_const hB d_MO_mixHeader_8 ?_
    refine am_goto (tgt := 13) hB d_MO_mixHeader_9 (by decide) ?_
    exact st true ⟨fun _ => by omega, fun _ => rfl⟩
