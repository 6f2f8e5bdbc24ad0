/-! small static methods; Slice -/
def sp_i (b : Bool) : Int := if b then 1 else 0
theorem sp_i_t : sp_i true = 1 := rfl
theorem sp_i_f : sp_i false = 0 := rfl
def sp_fig (c : Int) : Bool := decide (48 ≤ c) && decide (c ≤ 57)
def sp_let (c : Int) : Bool := (decide (97 ≤ c) && decide (c ≤ 122)) || (decide (65 ≤ c) && decide (c ≤ 90)) || decide (c = 95) || decide (c = 36)
/-- an answer and the heap as it was -/
def am_is (v : Value) (h : am_H) : am_Y := fun r h' => r = some v ∧ h = h'
def am_ok (h : am_H) : am_Y := fun r h' => r = none ∧ h = h'
theorem m_isFigure {l : Launch} {G : am_G} {c : Int} (h0 : 0 ≤ c) (h1 : c < 65536) (h : am_H) : am_M l G M_RD_isFigure [am_n c] h (am_is (am_n (sp_i (sp_fig c))) h) := by
  refine am_M.of (by decide) (Nat.le_of_ble_eq_true rfl) (fun X hB hR => ?_)
  show am_Z X 0 [am_n c] [] h 0 0
  refine am_iload_n hB d_RD_isFigure_0 rfl rfl ?_
  refine ai_bipush hB d_RD_isFigure_1 (by decide) ?_
  refine ai_jlt (tgt := 16) hB d_RD_isFigure_3 (by decide) (fun hc => ?_) (fun hc => ?_)
  · refine ai_const hB d_RD_isFigure_16 ?_
    refine am_iret hB hR d_RD_isFigure_17 rfl (by decide) ?_ (Nat.zero_le _) (Nat.zero_le _)
    have e : sp_fig c = false := by simp [sp_fig]; omega
    rw [e]
    exact ⟨rfl, rfl⟩
  refine am_iload_n hB d_RD_isFigure_6 rfl rfl ?_
  refine ai_bipush hB d_RD_isFigure_7 (by decide) ?_
  refine ai_jgt (tgt := 16) hB d_RD_isFigure_9 (by decide) (fun hd => ?_) (fun hd => ?_)
  · refine ai_const hB d_RD_isFigure_16 ?_
    refine am_iret hB hR d_RD_isFigure_17 rfl (by decide) ?_ (Nat.zero_le _) (Nat.zero_le _)
    have e : sp_fig c = false := by simp [sp_fig]; omega
    rw [e]
    exact ⟨rfl, rfl⟩
  refine ai_const hB d_RD_isFigure_12 ?_
  refine am_goto (tgt := 17) hB d_RD_isFigure_13 (by decide) ?_
  refine am_iret hB hR d_RD_isFigure_17 rfl (by decide) ?_ (Nat.zero_le _) (Nat.zero_le _)
  have e : sp_fig c = true := by simp [sp_fig]; omega
  rw [e]
  exact ⟨rfl, rfl⟩
theorem m_isLetter {l : Launch} {G : am_G} {c : Int} (h0 : 0 ≤ c) (h1 : c < 65536) (h : am_H) : am_M l G M_RD_isLetter [am_n c] h (am_is (am_n (sp_i (sp_let c))) h) := by
  refine am_M.of (by decide) (Nat.le_of_ble_eq_true rfl) (fun X hB hR => ?_)
  show am_Z X 0 [am_n c] [] h 0 0
  have hT : sp_let c = true → am_Z X 36 [am_n c] [] h 0 0 := by
    intro e
    refine ai_const hB d_RD_isLetter_36 ?_
    refine am_goto (tgt := 41) hB d_RD_isLetter_37 (by decide) ?_
    refine am_iret hB hR d_RD_isLetter_41 rfl (by decide) ?_ (Nat.zero_le _) (Nat.zero_le _)
    rw [e]
    exact ⟨rfl, rfl⟩
  have h24 : (c < 65 ∨ 90 < c) → (c < 97 ∨ 122 < c) → am_Z X 24 [am_n c] [] h 0 0 := by
    intro q1 q2
    refine am_iload_n hB d_RD_isLetter_24 rfl rfl ?_
    refine ai_bipush hB d_RD_isLetter_25 (by decide) ?_
    refine ai_jeq (tgt := 36) hB d_RD_isLetter_27 (by decide) (fun a1 => ?_) (fun a1 => ?_)
    · exact hT (by simp [sp_let]; omega)
    refine am_iload_n hB d_RD_isLetter_30 rfl rfl ?_
    refine ai_bipush hB d_RD_isLetter_31 (by decide) ?_
    refine ai_jne (tgt := 40) hB d_RD_isLetter_33 (by decide) (fun a2 => ?_) (fun a2 => ?_)
    · refine ai_const hB d_RD_isLetter_40 ?_
      refine am_iret hB hR d_RD_isLetter_41 rfl (by decide) ?_ (Nat.zero_le _) (Nat.zero_le _)
      have e : sp_let c = false := by simp [sp_let]; omega
      rw [e]
      exact ⟨rfl, rfl⟩
    · exact hT (by simp [sp_let]; omega)
  have h12 : (c < 97 ∨ 122 < c) → am_Z X 12 [am_n c] [] h 0 0 := by
    intro q2
    refine am_iload_n hB d_RD_isLetter_12 rfl rfl ?_
    refine ai_bipush hB d_RD_isLetter_13 (by decide) ?_
    refine ai_jlt (tgt := 24) hB d_RD_isLetter_15 (by decide) (fun a1 => ?_) (fun a1 => ?_)
    · exact h24 (Or.inl a1) q2
    refine am_iload_n hB d_RD_isLetter_18 rfl rfl ?_
    refine ai_bipush hB d_RD_isLetter_19 (by decide) ?_
    refine ai_jle (tgt := 36) hB d_RD_isLetter_21 (by decide) (fun a2 => ?_) (fun a2 => ?_)
    · exact hT (by simp [sp_let]; omega)
    · exact h24 (Or.inr a2) q2
  refine am_iload_n hB d_RD_isLetter_0 rfl rfl ?_
  refine ai_bipush hB d_RD_isLetter_1 (by decide) ?_
  refine ai_jlt (tgt := 12) hB d_RD_isLetter_3 (by decide) (fun a1 => ?_) (fun a1 => ?_)
  · exact h12 (Or.inl a1)
  refine am_iload_n hB d_RD_isLetter_6 rfl rfl ?_
  refine ai_bipush hB d_RD_isLetter_7 (by decide) ?_
  refine ai_jle (tgt := 36) hB d_RD_isLetter_9 (by decide) (fun a2 => ?_) (fun a2 => ?_)
  · exact hT (by simp [sp_let]; omega)
  · exact h12 (Or.inr a2)
/-- a slice: its codes' place, from, to -/
abbrev ce_SL (c : Nat) (f t : Int) : va_E := .inr (7, [.ref c, am_n f, am_n t])
theorem m_SL_set {l : Launch} {G : am_G} {h : am_H} {k c : Nat} {f t a b : Int} (r : h[k]? = some (ce_SL c f t)) : am_M l G M_SL_set [.ref k, am_n a, am_n b] h (fun r' h' => r' = none ∧ h' = h.set k (ce_SL c a b)) := by
  refine am_M.of (by decide) (Nat.le_of_ble_eq_true rfl) (fun X hB hR => ?_)
  show am_Z X 0 [.ref k, am_n a, am_n b] [] h 0 0
  refine am_aload_n hB d_SL_set_0 rfl rfl rfl ?_
  refine am_iload_n hB d_SL_set_1 rfl rfl ?_
  refine am_putf hB d_SL_set_2 P_SL_15_7 r (by simp) am_fit.i rfl ?_
  refine am_aload_n hB d_SL_set_5 rfl rfl rfl ?_
  refine am_iload_n hB d_SL_set_6 rfl rfl ?_
  refine am_putf hB d_SL_set_7 P_SL_19_7 (am_rs r) (by simp) am_fit.i rfl ?_
  refine am_vret hB hR d_SL_set_10 rfl ?_ (Nat.zero_le _) (Nat.zero_le _)
  exact ⟨rfl, by rw [List.set_set]; rfl⟩
/-- two spans of codes are the same -/
def sp_same (f g : Int → Int) (a b : Int) : Nat → Bool
  | 0 => true
  | n + 1 => decide (f a = g b) && sp_same f g (a + 1) (b + 1) n
theorem m_SL_isSame {l : Launch} {G : am_G} {h : am_H} {k1 k2 c1 c2 n1 n2 : Nat} {f1 t1 f2 t2 : Int} {g1 g2 : Int → Int} (r1 : h[k1]? = some (ce_SL c1 f1 t1)) (r2 : h[k2]? = some (ce_SL c2 f2 t2)) (q1 : h[c1]? = some (am_ia 0 n1 g1)) (q2 : h[c2]? = some (am_ia 0 n2 g2))
    (b1 : 0 ≤ f1 ∧ f1 ≤ t1 ∧ t1 ≤ n1) (b2 : 0 ≤ f2 ∧ f2 ≤ t2 ∧ t2 ≤ n2) (hn1 : n1 < 1000000) (hn2 : n2 < 1000000) (hg1 : ∀ j, 0 ≤ g1 j ∧ g1 j < 65536) (hg2 : ∀ j, 0 ≤ g2 j ∧ g2 j < 65536) :
    am_M l G M_SL_isSame [.ref k1, .ref k2] h (am_is (am_n (sp_i (decide (t2 - f2 = t1 - f1) && sp_same g1 g2 f1 f2 (t1 - f1).toNat))) h) := by
  refine am_M.of (by decide) (Nat.le_of_ble_eq_true rfl) (fun X hB hR => ?_)
  show am_Z X 0 [.ref k1, .ref k2, am_u, am_u] [] h 0 0
  refine am_aload_n hB d_SL_isSame_0 rfl rfl rfl ?_
  refine am_getf hB d_SL_isSame_1 F_SL_19_7 (by assumption) rfl ?_
  refine am_aload_n hB d_SL_isSame_4 rfl rfl rfl ?_
  refine am_getf hB d_SL_isSame_5 F_SL_15_7 (by assumption) rfl ?_
  refine ai_sub hB d_SL_isSame_8 ?_
  refine am_istore_n hB d_SL_isSame_9 rfl (by rw [hR.nL]; decide) rfl ?_
  refine am_aload_n hB d_SL_isSame_10 rfl rfl rfl ?_
  refine am_getf hB d_SL_isSame_11 F_SL_19_7 (by assumption) rfl ?_
  refine am_aload_n hB d_SL_isSame_14 rfl rfl rfl ?_
  refine am_getf hB d_SL_isSame_15 F_SL_15_7 (by assumption) rfl ?_
  refine ai_sub hB d_SL_isSame_18 ?_
  refine am_iload_n hB d_SL_isSame_19 rfl rfl ?_
  refine ai_jeq (tgt := 25) hB d_SL_isSame_20 (by decide) (fun hc => ?_) (fun hc => ?_)
  · have loop : ∀ (n : Nat) (i : Int), 0 ≤ i → i + n = t1 - f1 → sp_same g1 g2 f1 f2 (t1 - f1).toNat = sp_same g1 g2 (f1 + i) (f2 + i) n → am_Z X 27 [.ref k1, .ref k2, am_n (t1 - f1), am_n i] [] h 0 0 := by
      intro n
      induction n with
      | zero =>
        intro i hi hn hs
        refine am_iload_n hB d_SL_isSame_27 rfl rfl ?_
        refine am_iload_n hB d_SL_isSame_28 rfl rfl ?_
        refine ai_jge (tgt := 65) hB d_SL_isSame_29 (by decide) (fun hd => ?_) (fun hd => ?_)
        · refine ai_const hB d_SL_isSame_65 ?_
          refine am_iret hB hR d_SL_isSame_66 rfl (by decide) ?_ (Nat.zero_le _) (Nat.zero_le _)
          rw [hs, decide_eq_true (by omega : t2 - f2 = t1 - f1)]
          exact ⟨rfl, rfl⟩
        · omega
      | succ n ih =>
        intro i hi hn hs
        refine am_iload_n hB d_SL_isSame_27 rfl rfl ?_
        refine am_iload_n hB d_SL_isSame_28 rfl rfl ?_
        refine ai_jge (tgt := 65) hB d_SL_isSame_29 (by decide) (fun hd => ?_) (fun hd => ?_)
        · omega
        refine am_aload_n hB d_SL_isSame_32 rfl rfl rfl ?_
        refine am_getf hB d_SL_isSame_33 F_SL_9_7 (by assumption) rfl ?_
        refine am_aload_n hB d_SL_isSame_36 rfl rfl rfl ?_
        refine am_getf hB d_SL_isSame_37 F_SL_15_7 (by assumption) rfl ?_
        refine am_iload_n hB d_SL_isSame_40 rfl rfl ?_
        refine ai_add hB d_SL_isSame_41 ?_
        refine ai_cald hB d_SL_isSame_42 ty_0 (by assumption) ?_
        refine am_aload_n hB d_SL_isSame_43 rfl rfl rfl ?_
        refine am_getf hB d_SL_isSame_44 F_SL_9_7 (by assumption) rfl ?_
        refine am_aload_n hB d_SL_isSame_47 rfl rfl rfl ?_
        refine am_getf hB d_SL_isSame_48 F_SL_15_7 (by assumption) rfl ?_
        refine am_iload_n hB d_SL_isSame_51 rfl rfl ?_
        refine ai_add hB d_SL_isSame_52 ?_
        refine ai_cald hB d_SL_isSame_53 ty_0 (by assumption) ?_
        have z1 := hg1 (f1 + i)
        have z2 := hg2 (f2 + i)
        refine ai_jeq (tgt := 59) hB d_SL_isSame_54 (by decide) (fun he => ?_) (fun he => ?_)
        · refine ai_inc hB d_SL_isSame_59 rfl (by rw [hR.nL]; decide) rfl ?_
          refine am_goto (tgt := 27) hB d_SL_isSame_62 (by decide) (ih (i + 1) (by omega) (by omega) ?_)
          rw [hs, sp_same, he, decide_eq_true rfl, Bool.true_and]
          congr 1 <;> omega
        · refine ai_const hB d_SL_isSame_57 ?_
          refine am_iret hB hR d_SL_isSame_58 rfl (by decide) ?_ (Nat.zero_le _) (Nat.zero_le _)
          rw [hs, sp_same, decide_eq_false he, Bool.false_and, Bool.and_false]
          exact ⟨rfl, rfl⟩
    refine ai_const hB d_SL_isSame_25 ?_
    refine am_istore_n hB d_SL_isSame_26 rfl (by rw [hR.nL]; decide) rfl ?_
    exact loop (t1 - f1).toNat 0 (by omega) (by omega) (by congr 1 <;> omega)
  · refine ai_const hB d_SL_isSame_23 ?_
    refine am_iret hB hR d_SL_isSame_24 rfl (by decide) ?_ (Nat.zero_le _) (Nat.zero_le _)
    rw [decide_eq_false hc, Bool.false_and]
    exact ⟨rfl, rfl⟩
