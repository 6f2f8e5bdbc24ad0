/-! the model prints -/
def mo_W (U : mv) (o : Int → Int) (s v dc : Int) : mv := (mv.s_doubts (mv.s_overflow (mv.s_outSize (mv.s_out U (o)) (s)) (v)) (dc))
def mo_o (o : Int → Int) (s v : Int) (xs : List Int) : Prop := am_cok o ∧ (0 ≤ s ∧ s ≤ 1000) ∧ ((v = 0 ∧ s = xs.length ∧ rl o xs) ∨ (v = 1 ∧ s = 1000 ∧ 1000 < xs.length))
def mo_S (h : am_H) (m : Nat) (U : mv) (xs : List Int) (dc : Int) : Prop := ∃ (o : Int → Int) (s v : Int), am_mo h m (mo_W U o s v dc) ∧ mo_o o s v xs
def mo_X (h : am_H) (m : Nat) (U : mv) (xs : List Int) (dc : Int) : am_Y := fun r h' => r = none ∧ mo_S h' m U xs dc ∧ ko m 35 h h'
theorem m_MO_emit {l : Launch} {G : am_G} {hA : am_H} {m : Nat} {U : mv} {xs : List Int} {dc c : Int} (S : mo_S hA m U xs dc) (c0 : 0 ≤ c) (c1 : c < 65536) : am_M l G M_MO_emit [.ref m, am_n c] hA (mo_X hA m U (xs ++ [c]) dc) := by
  obtain ⟨o, s, v, M, ho, ⟨s0, s1⟩, hx⟩ := S
  have f : ko m 35 hA hA := ko.rf
  refine am_M.of (by decide) (Nat.le_of_ble_eq_true rfl) (fun X hB hR => ?_)
  show am_Z X 0 [.ref m, am_n c] [] hA 0 0
  refine am_aload_n hB d_MO_emit_0 rfl rfl rfl ?_
  refine am_getf hB d_MO_emit_1 F_MO_245_11 M.1 rfl ?_
  refine ai_sipush hB d_MO_emit_4 (by decide) ?_
  show am_Z X 7 [.ref m, am_n c] [am_n 1000, am_n s] hA 0 0
  refine ai_jne (tgt := 16) hB d_MO_emit_7 (by decide) (fun c1 => ?_) (fun c1 => ?_)
  · have hx0 : v = 0 ∧ s = xs.length ∧ rl o xs := by
      rcases hx with hx | hx
      · exact hx
      · exact absurd hx.2.1 c1
    obtain ⟨rfl, hs, hr⟩ := hx0
    refine am_aload_n hB d_MO_emit_16 rfl rfl rfl ?_
    refine am_getf hB d_MO_emit_17 F_MO_94_11 M.1 rfl ?_
    refine am_aload_n hB d_MO_emit_20 rfl rfl rfl ?_
    refine am_getf hB d_MO_emit_21 F_MO_245_11 M.1 rfl ?_
    show am_Z X 24 [.ref m, am_n c] [am_n s, .ref (m + 29)] hA 0 0
    refine am_iload_n hB d_MO_emit_24 rfl rfl ?_
    refine mo_s_out hB d_MO_emit_25 M f (fun h M f => ?_)
    refine am_aload_n hB d_MO_emit_26 rfl rfl rfl ?_
    refine am_dup hB d_MO_emit_27 rfl ?_
    refine am_getf hB d_MO_emit_28 F_MO_245_11 M.1 rfl ?_
    show am_Z X 31 [.ref m, am_n c] [am_n s, .ref m] h 0 0
    refine ai_const hB d_MO_emit_31 ?_
    refine ai_add hB d_MO_emit_32 ?_
    refine mo_p_outSize hB d_MO_emit_33 P_MO_245_11 M f (fun h M f => ?_)
    refine am_vret hB hR d_MO_emit_36 rfl ?_ (Nat.zero_le _) (Nat.zero_le _)
    refine ⟨rfl, ⟨am_up o s c, s + 1, 0, M, ho.up c0 (by omega), ⟨by omega, by omega⟩, Or.inl ⟨rfl, ?_, ?_⟩⟩, f⟩
    · rw [List.length_append, List.length_singleton]
      omega
    · rw [hs]
      exact hr.add
  · refine am_aload_n hB d_MO_emit_10 rfl rfl rfl ?_
    refine ai_const hB d_MO_emit_11 ?_
    refine mo_p_overflow hB d_MO_emit_12 P_MO_248_11 M f (by first | exact Or.inl rfl | exact Or.inr rfl | omega) (fun h M f => ?_)
    refine am_vret hB hR d_MO_emit_15 rfl ?_ (Nat.zero_le _) (Nat.zero_le _)
    refine ⟨rfl, ⟨o, s, 1, M, ho, ⟨s0, s1⟩, Or.inr ⟨rfl, c1, ?_⟩⟩, f⟩
    rw [List.length_append, List.length_singleton]
    rcases hx with hx | hx
    · omega
    · omega
theorem m_MO_emitText {l : Launch} {G : am_G} {hA : am_H} {m : Nat} {U : mv} {xs : List Int} {dc a b : Int} (S : mo_S hA m U xs dc) (hg : am_cok U.all_) (h0 : 0 ≤ a) (hab : a ≤ b) (h2 : b ≤ 1200) : am_M l G M_MO_emitText [.ref m, am_n a, am_n b] hA (mo_X hA m U (xs ++ nm U.all_ a b) dc) := by
  refine am_M.of (by decide) (Nat.le_of_ble_eq_true rfl) (fun X hB hR => ?_)
  show am_Z X 0 [.ref m, am_n a, am_n b, am_u] [] hA 0 0
  have loop : ∀ (d : Nat) (i : Int) (ys : List Int) (h1 : am_H), a ≤ i → i + d = b → xs ++ nm U.all_ a b = ys ++ nm U.all_ i b → mo_S h1 m U ys dc → ko m 35 hA h1 → am_Z X 2 [.ref m, am_n a, am_n b, am_n i] [] h1 0 0 := by
    intro d
    induction d with
    | zero =>
      intro i ys h1 i1 hd hs S f
      refine am_iload_n hB d_MO_emitText_2 rfl rfl ?_
      refine am_iload_n hB d_MO_emitText_3 rfl rfl ?_
      refine ai_jge (tgt := 23) hB d_MO_emitText_4 (by decide) (fun c1 => ?_) (fun c1 => ?_)
      rotate_left
      · omega
      refine am_vret hB hR d_MO_emitText_23 rfl ?_ (Nat.zero_le _) (Nat.zero_le _)
      rw [nm_nil U.all_ (show b ≤ i by omega), List.append_nil] at hs
      rw [hs]
      exact ⟨rfl, S, f⟩
    | succ d ih =>
      intro i ys h1 i1 hd hs S f
      have hgi := hg i
      obtain ⟨o, s, v, M, q⟩ := id S
      refine am_iload_n hB d_MO_emitText_2 rfl rfl ?_
      refine am_iload_n hB d_MO_emitText_3 rfl rfl ?_
      refine ai_jge (tgt := 23) hB d_MO_emitText_4 (by decide) (fun c1 => ?_) (fun c1 => ?_)
      · omega
      refine am_aload_n hB d_MO_emitText_7 rfl rfl rfl ?_
      refine am_aload_n hB d_MO_emitText_8 rfl rfl rfl ?_
      refine am_getf hB d_MO_emitText_9 F_MO_13_11 M.1 rfl ?_
      refine am_iload_n hB d_MO_emitText_12 rfl rfl ?_
      refine ai_iald hB d_MO_emitText_13 ty_1 M.all ?_
      show am_Z X 14 [.ref m, am_n a, am_n b, am_n i] [am_n (U.all_ i), .ref m] h1 0 0
      refine am_callV hB hR (as := [am_n (U.all_ i)]) M.1 (m_MO_emit S hgi.1 hgi.2) c_MO_251 rfl rfl d_MO_emitText_14 ⟨by decide, Nat.le_of_ble_eq_true rfl⟩ ⟨by decide, by decide⟩ rfl rfl (fun rr h hp => ?_)
      obtain ⟨rfl, S, f2⟩ := hp
      show am_Z X 17 [.ref m, am_n a, am_n b, am_n i] [] h 0 0
      refine ai_inc hB d_MO_emitText_17 rfl (by rw [hR.nL]; decide) rfl ?_
      exact am_goto (tgt := 2) hB d_MO_emitText_20 (by decide) (ih (i + 1) (ys ++ [U.all_ i]) h (by omega) (by omega) (by rw [hs, nm_cons U.all_ (show i < b by omega)]; simp) S (f.tr f2))
  refine am_iload_n hB d_MO_emitText_0 rfl rfl ?_
  refine am_istore_n hB d_MO_emitText_1 rfl (by rw [hR.nL]; decide) rfl ?_
  exact loop (b - a).toNat a xs hA (Int.le_refl a) (by omega) rfl S ko.rf
/-- the bytes of a word, as they are printed -/
def wbs (w : Int64) : Nat → List Int
  | 0 => []
  | n + 1 => ((w >>> ((am_i (8 * (n : Int))).toInt64 &&& 63)) &&& 255).toInt32.toInt :: wbs w n
theorem m_MO_emitWord {l : Launch} {G : am_G} {hA : am_H} {m n : Nat} {U : mv} {xs : List Int} {dc : Int} {w : Int64} (S : mo_S hA m U xs dc) (hn : n ≤ 8) : am_M l G M_MO_emitWord [.ref m, .long w, am_n n] hA (mo_X hA m U (xs ++ wbs w n) dc) := by
  refine am_M.of (by decide) (Nat.le_of_ble_eq_true rfl) (fun X hB hR => ?_)
  show am_Z X 0 [.ref m, .long w, am_u, am_n n, am_u] [] hA 0 0
  have loop : ∀ (k : Nat) (i : Int) (ys : List Int) (h1 : am_H), i = (k : Int) - 1 → k ≤ 8 → xs ++ wbs w n = ys ++ wbs w k → mo_S h1 m U ys dc → ko m 35 hA h1 → am_Z X 5 [.ref m, .long w, am_u, am_n n, am_n i] [] h1 0 0 := by
    intro k
    induction k with
    | zero =>
      intro i ys h1 hi hk hs S f
      refine am_iload hB d_MO_emitWord_5 rfl ?_
      refine ai_zlt (tgt := 32) hB d_MO_emitWord_7 (by decide) (fun c1 => ?_) (fun c1 => ?_)
      rotate_left
      · omega
      refine am_vret hB hR d_MO_emitWord_32 rfl ?_ (Nat.zero_le _) (Nat.zero_le _)
      rw [wbs, List.append_nil] at hs
      rw [hs]
      exact ⟨rfl, S, f⟩
    | succ k ih =>
      intro i ys h1 hi hk hs S f
      have hi' : i = (k : Int) := by omega
      subst hi'
      obtain ⟨o, s, v, M, q⟩ := id S
      refine am_iload hB d_MO_emitWord_5 rfl ?_
      refine ai_zlt (tgt := 32) hB d_MO_emitWord_7 (by decide) (fun c1 => ?_) (fun c1 => ?_)
      · omega
      refine am_aload_n hB d_MO_emitWord_10 rfl rfl rfl ?_
      refine am_lload_n hB d_MO_emitWord_11 rfl rfl ?_
      refine ai_bipush hB d_MO_emitWord_12 (by decide) ?_
      refine am_iload hB d_MO_emitWord_14 rfl ?_
      refine ai_mul hB d_MO_emitWord_16 ?_
      refine am_lshr hB d_MO_emitWord_17 ?_
      refine am_ldc2 hB d_MO_emitWord_18 J_MO_120 ?_
      refine am_land hB d_MO_emitWord_21 ?_
      refine am_l2i hB d_MO_emitWord_22 ?_
      have cin := cd_and (w >>> ((am_i (8 * (k : Int))).toInt64 &&& 63))
      rw [am_i_of ((w >>> ((am_i (8 * (k : Int))).toInt64 &&& 63)) &&& 255).toInt32]
      refine am_callV hB hR (as := [am_n ((w >>> ((am_i (8 * (k : Int))).toInt64 &&& 63)) &&& 255).toInt32.toInt]) M.1 (m_MO_emit S cin.1 (by omega)) c_MO_251 rfl rfl d_MO_emitWord_23 ⟨by decide, Nat.le_of_ble_eq_true rfl⟩ ⟨by decide, by decide⟩ rfl rfl (fun rr h hp => ?_)
      obtain ⟨rfl, S, f2⟩ := hp
      show am_Z X 26 [.ref m, .long w, am_u, am_n n, am_n k] [] h 0 0
      refine ai_inc hB d_MO_emitWord_26 rfl (by rw [hR.nL]; decide) rfl ?_
      exact am_goto (tgt := 5) hB d_MO_emitWord_29 (by decide) (ih ((k : Int) + -1) (ys ++ [_]) h (by omega) (by omega) (by rw [hs, wbs]; simp) S (f.tr f2))
  refine am_iload_n hB d_MO_emitWord_0 rfl rfl ?_
  refine ai_const hB d_MO_emitWord_1 ?_
  refine ai_sub hB d_MO_emitWord_2 ?_
  refine am_istore hB d_MO_emitWord_3 (by rw [hR.nL]; decide) rfl ?_
  exact loop n ((n : Int) - 1) xs hA rfl hn rfl S ko.rf
theorem m_MO_emitNumber {l : Launch} {G : am_G} {hA : am_H} {m : Nat} {U : mv} {xs : List Int} {dc v : Int} (S : mo_S hA m U xs dc) (h0 : 0 ≤ v) (h1 : v < 10000) : am_M l G M_MO_emitNumber [.ref m, am_n v] hA (mo_X hA m U (xs ++ sp_num v) dc) := by
  refine am_M.of (by decide) (Nat.le_of_ble_eq_true rfl) (fun X hB hR => ?_)
  show am_Z X 0 [.ref m, am_n v, am_u] [] hA 0 0
  have dig : ∀ (ten : Int) (ys : List Int) (h1 : am_H), (ten = 1 ∨ ten = 10 ∨ ten = 100 ∨ ten = 1000) → mo_S h1 m U ys dc → ko m 35 hA h1 → (∀ h2, mo_S h2 m U (ys ++ [48 + v / ten % 10]) dc → ko m 35 hA h2 → am_Z X 18 [.ref m, am_n v, am_n (ten / 10)] [] h2 0 0) → am_Z X 18 [.ref m, am_n v, am_n ten] [] h1 0 0 := by
    intro ten ys h1 ht S f kk
    obtain ⟨o, s, vv, M, q⟩ := id S
    refine am_iload_n hB d_MO_emitNumber_18 rfl rfl ?_
    refine ai_zle (tgt := 43) hB d_MO_emitNumber_19 (by decide) (fun c1 => ?_) (fun c1 => ?_)
    · omega
    have q0 : 0 ≤ v / ten ∧ v / ten < 10000 := by rcases ht with rfl | rfl | rfl | rfl <;> omega
    refine am_aload_n hB d_MO_emitNumber_22 rfl rfl rfl ?_
    refine ai_bipush hB d_MO_emitNumber_23 (by decide) ?_
    refine am_iload_n hB d_MO_emitNumber_25 rfl rfl ?_
    refine am_iload_n hB d_MO_emitNumber_26 rfl rfl ?_
    refine ai_div hB d_MO_emitNumber_27 ?_
    refine ai_bipush hB d_MO_emitNumber_28 (by decide) ?_
    refine ai_rem hB d_MO_emitNumber_30 ?_
    refine ai_add hB d_MO_emitNumber_31 ?_
    refine am_callV hB hR (as := [am_n (48 + v / ten % 10)]) M.1 (m_MO_emit S (by omega) (by omega)) c_MO_251 rfl rfl d_MO_emitNumber_32 ⟨by decide, Nat.le_of_ble_eq_true rfl⟩ ⟨by decide, by decide⟩ rfl rfl (fun rr h hp => ?_)
    obtain ⟨rfl, S, f2⟩ := hp
    show am_Z X 35 [.ref m, am_n v, am_n ten] [] h 0 0
    refine am_iload_n hB d_MO_emitNumber_35 rfl rfl ?_
    refine ai_bipush hB d_MO_emitNumber_36 (by decide) ?_
    refine ai_div hB d_MO_emitNumber_38 ?_
    refine am_istore_n hB d_MO_emitNumber_39 rfl (by rw [hR.nL]; decide) rfl ?_
    exact am_goto (tgt := 18) hB d_MO_emitNumber_40 (by decide) (kk h S (f.tr f2))
  have fin : ∀ (h1 : am_H), mo_S h1 m U (xs ++ sp_num v) dc → ko m 35 hA h1 → am_Z X 18 [.ref m, am_n v, am_n 0] [] h1 0 0 := by
    intro h1 S f
    refine am_iload_n hB d_MO_emitNumber_18 rfl rfl ?_
    refine ai_zle (tgt := 43) hB d_MO_emitNumber_19 (by decide) (fun c1 => ?_) (fun c1 => ?_)
    rotate_left
    · omega
    refine am_vret hB hR d_MO_emitNumber_43 rfl ?_ (Nat.zero_le _) (Nat.zero_le _)
    exact ⟨rfl, S, f⟩
  have up : ∀ ten : Int, (ten = 1 ∨ ten = 10 ∨ ten = 100 ∨ ten = 1000) → (v < ten * 10 → am_Z X 18 [.ref m, am_n v, am_n ten] [] hA 0 0) → (ten * 10 ≤ v → am_Z X 2 [.ref m, am_n v, am_n (ten * 10)] [] hA 0 0) → am_Z X 2 [.ref m, am_n v, am_n ten] [] hA 0 0 := by
    intro ten ht k1 k2
    refine am_iload_n hB d_MO_emitNumber_2 rfl rfl ?_
    refine ai_bipush hB d_MO_emitNumber_3 (by decide) ?_
    refine ai_mul hB d_MO_emitNumber_5 ?_
    refine am_iload_n hB d_MO_emitNumber_6 rfl rfl ?_
    refine ai_jgt (tgt := 18) hB d_MO_emitNumber_7 (by decide) (fun c1 => ?_) (fun c1 => ?_)
    · exact k1 c1
    · refine am_iload_n hB d_MO_emitNumber_10 rfl rfl ?_
      refine ai_bipush hB d_MO_emitNumber_11 (by decide) ?_
      refine ai_mul hB d_MO_emitNumber_13 ?_
      refine am_istore_n hB d_MO_emitNumber_14 rfl (by rw [hR.nL]; decide) rfl ?_
      exact am_goto (tgt := 2) hB d_MO_emitNumber_15 (by decide) (k2 c1)
  refine ai_const hB d_MO_emitNumber_0 ?_
  refine am_istore_n hB d_MO_emitNumber_1 rfl (by rw [hR.nL]; decide) rfl ?_
  refine up 1 (by omega) (fun a1 => ?_) (fun a1 => up 10 (by omega) (fun a2 => ?_) (fun a2 => up 100 (by omega) (fun a3 => ?_) (fun a3 => up 1000 (by omega) (fun a4 => ?_) (fun a4 => by omega))))
  · refine dig 1 xs hA (by omega) S ko.rf (fun h2 S f => ?_)
    refine fin h2 ?_ f
    unfold sp_num sp_dg
    rw [if_neg (by omega), if_neg (by omega), if_neg (by omega)]
    exact S
  · refine dig 10 xs hA (by omega) S ko.rf (fun h2 S f => dig 1 _ h2 (by omega) S f (fun h2 S f => ?_))
    refine fin h2 ?_ f
    unfold sp_num sp_dg
    rw [if_neg (by omega), if_neg (by omega), if_pos (by omega)]
    rw [List.append_assoc] at S
    exact S
  · refine dig 100 xs hA (by omega) S ko.rf (fun h2 S f => dig 10 _ h2 (by omega) S f (fun h2 S f => dig 1 _ h2 (by omega) S f (fun h2 S f => ?_)))
    refine fin h2 ?_ f
    unfold sp_num sp_dg
    rw [if_neg (by omega), if_pos (by omega), if_pos (by omega)]
    rw [List.append_assoc, List.append_assoc] at S
    exact S
  · refine dig 1000 xs hA (by omega) S ko.rf (fun h2 S f => dig 100 _ h2 (by omega) S f (fun h2 S f => dig 10 _ h2 (by omega) S f (fun h2 S f => dig 1 _ h2 (by omega) S f (fun h2 S f => ?_))))
    refine fin h2 ?_ f
    unfold sp_num sp_dg
    rw [if_pos (by omega), if_pos (by omega), if_pos (by omega)]
    rw [List.append_assoc, List.append_assoc, List.append_assoc] at S
    exact S
theorem m_MO_emitFile {l : Launch} {G : am_G} {hA : am_H} {m : Nat} {U : mv} {xs : List Int} {dc a b : Int} (S : mo_S hA m U xs dc) (hg : am_cok U.all_) (h0 : 0 ≤ a) (hab : a < b) (h2 : b ≤ 1200) (hl : U.all_ (b - 1) ≠ 46) : am_M l G M_MO_emitFile [.ref m, am_n a, am_n b] hA (mo_X hA m U (xs ++ sp_file U.all_ a b) dc) := by
  obtain ⟨o, s, v, M, q⟩ := id S
  have f : ko m 35 hA hA := ko.rf
  have lin := sp_lp_in U.all_ a h0 (b - a).toNat
  have fin1 : a ≤ sp_fa U.all_ a b ∧ sp_fa U.all_ a b < b := by
    unfold sp_fa
    split
    · omega
    · rename_i c
      have lpt := sp_lp_pt U.all_ a (b - a).toNat c
      have : sp_lp U.all_ a (b - a).toNat ≠ b - 1 := fun z => by rw [z] at lpt; exact hl lpt
      omega
  have efb : sp_fb U.all_ a b = sp_ix U.all_ 36 (sp_fa U.all_ a b + 1) (b - 1 - sp_fa U.all_ a b).toNat := by
    have hin := sp_ix_in U.all_ 36 (b - 1 - sp_fa U.all_ a b).toNat (sp_fa U.all_ a b + 1)
    unfold sp_fb
    rw [sp_dl_ix]
    split
    · omega
    · rfl
  have wd13 : wbs 199353267809 5 = sp_wd 13 := by decide
  refine am_M.of (by decide) (Nat.le_of_ble_eq_true rfl) (fun X hB hR => ?_)
  show am_Z X 0 [.ref m, am_n a, am_n b, am_u, am_u] [] hA 0 0
  have last : ∀ t : Int, t = sp_fb U.all_ a b → am_Z X 67 [.ref m, am_n a, am_n b, am_n (sp_fa U.all_ a b), am_n t] [] hA 0 0 := by
    intro t ht
    have hin := sp_ix_in U.all_ 36 (b - 1 - sp_fa U.all_ a b).toNat (sp_fa U.all_ a b + 1)
    rw [efb] at ht
    refine am_aload_n hB d_MO_emitFile_67 rfl rfl rfl ?_
    refine am_iload_n hB d_MO_emitFile_68 rfl rfl ?_
    refine am_iload hB d_MO_emitFile_69 rfl ?_
    refine am_callV hB hR (as := [am_n (sp_fa U.all_ a b), am_n t]) M.1 (m_MO_emitText S hg (by omega) (by omega) (by omega)) c_MO_255 rfl rfl d_MO_emitFile_71 ⟨by decide, Nat.le_of_ble_eq_true rfl⟩ ⟨by decide, by decide⟩ rfl rfl (fun rr h hp => ?_)
    obtain ⟨rfl, S, f2⟩ := hp
    have f := f.tr f2
    obtain ⟨o, s, v, M, q⟩ := id S
    show am_Z X 74 [.ref m, am_n a, am_n b, am_n (sp_fa U.all_ a b), am_n t] [] h 0 0
    refine am_aload_n hB d_MO_emitFile_74 rfl rfl rfl ?_
    refine am_ldc2 hB d_MO_emitFile_75 J_MO_259 ?_
    refine ai_const hB d_MO_emitFile_78 ?_
    refine am_callV hB hR (as := [.long 199353267809, am_n (5 : Nat)]) M.1 (m_MO_emitWord S (by omega)) c_MO_261 rfl rfl d_MO_emitFile_79 ⟨by decide, Nat.le_of_ble_eq_true rfl⟩ ⟨by decide, by decide⟩ rfl rfl (fun rr h hp => ?_)
    obtain ⟨rfl, S, f3⟩ := hp
    show am_Z X 82 [.ref m, am_n a, am_n b, am_n (sp_fa U.all_ a b), am_n t] [] h 0 0
    refine am_vret hB hR d_MO_emitFile_82 rfl ?_ (Nat.zero_le _) (Nat.zero_le _)
    rw [wd13, List.append_assoc] at S
    refine ⟨rfl, ?_, f.tr f3⟩
    unfold sp_file
    rw [efb, ← ht]
    exact S
  have loop2 : ∀ (d : Nat) (i : Int), sp_fa U.all_ a b + 1 ≤ i → i + d = b → sp_fb U.all_ a b = sp_ix U.all_ 36 i d → am_Z X 43 [.ref m, am_n a, am_n b, am_n (sp_fa U.all_ a b), am_n i] [] hA 0 0 := by
    intro d
    induction d with
    | zero =>
      intro i i1 hd hs
      refine am_iload hB d_MO_emitFile_43 rfl ?_
      refine am_iload_n hB d_MO_emitFile_45 rfl rfl ?_
      refine ai_jge (tgt := 67) hB d_MO_emitFile_46 (by decide) (fun c1 => ?_) (fun c1 => ?_)
      · exact last i (by rw [hs]; rfl)
      · omega
    | succ d ih =>
      intro i i1 hd hs
      have hgi := hg i
      rw [sp_ix] at hs
      refine am_iload hB d_MO_emitFile_43 rfl ?_
      refine am_iload_n hB d_MO_emitFile_45 rfl rfl ?_
      refine ai_jge (tgt := 67) hB d_MO_emitFile_46 (by decide) (fun c1 => ?_) (fun c1 => ?_)
      · omega
      refine am_aload_n hB d_MO_emitFile_49 rfl rfl rfl ?_
      refine am_getf hB d_MO_emitFile_50 F_MO_13_11 M.1 rfl ?_
      refine am_iload hB d_MO_emitFile_53 rfl ?_
      refine ai_iald hB d_MO_emitFile_55 ty_1 M.all ?_
      refine ai_bipush hB d_MO_emitFile_56 (by decide) ?_
      show am_Z X 58 [.ref m, am_n a, am_n b, am_n (sp_fa U.all_ a b), am_n i] [am_n 36, am_n (U.all_ i)] hA 0 0
      refine ai_jeq (tgt := 67) hB d_MO_emitFile_58 (by decide) (fun c2 => ?_) (fun c2 => ?_)
      · rw [if_pos c2] at hs
        exact last i hs.symm
      · rw [if_neg c2] at hs
        refine ai_inc hB d_MO_emitFile_61 rfl (by rw [hR.nL]; decide) rfl ?_
        exact am_goto (tgt := 43) hB d_MO_emitFile_64 (by decide) (ih (i + 1) (by omega) (by omega) hs)
  have loop1 : ∀ (d : Nat) (k : Nat) (be : Int), (k : Int) + d = b - a → be = (if sp_lp U.all_ a k = -1 then a else sp_lp U.all_ a k + 1) → am_Z X 5 [.ref m, am_n a, am_n b, am_n be, am_n (a + k)] [] hA 0 0 := by
    intro d
    induction d with
    | zero =>
      intro k be hd hbe
      have hk : (b - a).toNat = k := by omega
      have hbf : be = sp_fa U.all_ a b := by
        unfold sp_fa
        rw [hk]
        exact hbe
      subst hbf
      refine am_iload hB d_MO_emitFile_5 rfl ?_
      refine am_iload_n hB d_MO_emitFile_7 rfl rfl ?_
      refine ai_jge (tgt := 38) hB d_MO_emitFile_8 (by decide) (fun c1 => ?_) (fun c1 => ?_)
      rotate_left
      · omega
      refine am_iload_n hB d_MO_emitFile_38 rfl rfl ?_
      refine ai_const hB d_MO_emitFile_39 ?_
      refine ai_add hB d_MO_emitFile_40 ?_
      refine am_istore hB d_MO_emitFile_41 (by rw [hR.nL]; decide) rfl ?_
      exact loop2 (b - 1 - sp_fa U.all_ a b).toNat _ (by omega) (by omega) efb
    | succ d ih =>
      intro k be hd hbe
      have hgi := hg (a + k)
      have lik := sp_lp_in U.all_ a h0 k
      refine am_iload hB d_MO_emitFile_5 rfl ?_
      refine am_iload_n hB d_MO_emitFile_7 rfl rfl ?_
      refine ai_jge (tgt := 38) hB d_MO_emitFile_8 (by decide) (fun c1 => ?_) (fun c1 => ?_)
      · omega
      refine am_aload_n hB d_MO_emitFile_11 rfl rfl rfl ?_
      refine am_getf hB d_MO_emitFile_12 F_MO_13_11 M.1 rfl ?_
      refine am_iload hB d_MO_emitFile_15 rfl ?_
      refine ai_iald hB d_MO_emitFile_17 ty_1 M.all ?_
      refine ai_bipush hB d_MO_emitFile_18 (by decide) ?_
      show am_Z X 20 [.ref m, am_n a, am_n b, am_n be, am_n (a + k)] [am_n 46, am_n (U.all_ (a + k))] hA 0 0
      refine ai_jne (tgt := 30) hB d_MO_emitFile_20 (by decide) (fun c2 => ?_) (fun c2 => ?_)
      · refine am_iload_n hB d_MO_emitFile_30 rfl rfl ?_
        refine am_istore_n hB d_MO_emitFile_31 rfl (by rw [hR.nL]; decide) rfl ?_
        refine ai_inc hB d_MO_emitFile_32 rfl (by rw [hR.nL]; decide) rfl ?_
        have z := ih (k + 1) be (by omega) (by rw [sp_lp, if_neg c2]; exact hbe)
        rw [show a + ((k + 1 : Nat) : Int) = a + k + 1 by omega] at z
        exact am_goto (tgt := 5) hB d_MO_emitFile_35 (by decide) z
      · refine am_iload hB d_MO_emitFile_23 rfl ?_
        refine ai_const hB d_MO_emitFile_25 ?_
        refine ai_add hB d_MO_emitFile_26 ?_
        refine am_goto (tgt := 31) hB d_MO_emitFile_27 (by decide) ?_
        refine am_istore_n hB d_MO_emitFile_31 rfl (by rw [hR.nL]; decide) rfl ?_
        refine ai_inc hB d_MO_emitFile_32 rfl (by rw [hR.nL]; decide) rfl ?_
        have z := ih (k + 1) (a + k + 1) (by omega) (by rw [sp_lp, if_pos c2, if_neg (by omega)])
        rw [show a + ((k + 1 : Nat) : Int) = a + k + 1 by omega] at z
        exact am_goto (tgt := 5) hB d_MO_emitFile_35 (by decide) z
  refine am_iload_n hB d_MO_emitFile_0 rfl rfl ?_
  refine am_istore_n hB d_MO_emitFile_1 rfl (by rw [hR.nL]; decide) rfl ?_
  refine am_iload_n hB d_MO_emitFile_2 rfl rfl ?_
  refine am_istore hB d_MO_emitFile_3 (by rw [hR.nL]; decide) rfl ?_
  have z := loop1 (b - a).toNat 0 a (by omega) rfl
  rw [show a + ((0 : Nat) : Int) = a by omega] at z
  exact z
