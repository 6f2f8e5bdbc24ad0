/-! a mapping, a trace, a desk are made -/
def pr_qa (t n base st : Nat) (i : Nat) : va_E := am_qa t n (fun j => if j < (i : Int) then some (base + st * j.toNat) else none)
theorem pr_qa_0 (t n base st : Nat) : (.inl (t, n, .inr (.inr (.inr (.inr (fun _ => none))))) : va_E) = pr_qa t n base st 0 := by
  unfold pr_qa am_qa
  have e : (fun _ : Nat => (none : Option Nat)) = fun j : Nat => if (j : Int) < ((0 : Nat) : Int) then some (base + st * ((j : Int)).toNat) else none := by
    funext j
    rw [if_neg (by omega)]
  rw [e]
theorem pr_qa_up (t n base st i : Nat) : am_qa t n (fun j => if j = (i : Int) then some (base + st * i) else (if j < (i : Int) then some (base + st * j.toNat) else none)) = pr_qa t n base st (i + 1) := by
  unfold pr_qa
  congr 1
  funext j
  by_cases c : j = (i : Int)
  · subst c
    rw [if_pos rfl, if_pos (by omega)]
    rfl
  · rw [if_neg c]
    by_cases c2 : j < (i : Int)
    · rw [if_pos c2, if_pos (by omega)]
    · rw [if_neg c2, if_neg (by omega)]
abbrev nw_MA : va_E := .inr (4, [.null, .int 0, .int 0, .null, .null, .int 0, .int 0, .int 0, .int 0, .null])
def mi_1 (h : am_H) (b : Nat) (g : Int → Int) (i : Nat) (h' : am_H) : Prop := h'.length = b + 4 + 3 * i ∧ h'[b]? = some (.inr (4, [.ref (b + 1), .int 0, .int 0, .ref (b + 3), .null, .int 0, .int 0, .int 0, .int 0, .ref (b + 2)])) ∧ h'[b + 1]? = some (am_ia 0 600 g) ∧ h'[b + 2]? = some (ce_SL (b + 1) 0 0) ∧ h'[b + 3]? = some (pr_qa 3 8 (b + 4) 3 i) ∧ (∀ j, j < i → mp_C h' b (fun _ => 0) j) ∧ ko b 157 h h'
def mi_2 (h : am_H) (b : Nat) (g : Int → Int) (i : Nat) (h' : am_H) : Prop := h'.length = b + 29 + 4 * i ∧ h'[b]? = some (.inr (4, [.ref (b + 1), .int 0, .int 0, .ref (b + 3), .ref (b + 28), .int 0, .int 0, .int 0, .int 0, .ref (b + 2)])) ∧ h'[b + 1]? = some (am_ia 0 600 g) ∧ h'[b + 2]? = some (ce_SL (b + 1) 0 0) ∧ h'[b + 3]? = some (mp_qC b) ∧ h'[b + 28]? = some (pr_qa 4 32 (b + 29) 4 i) ∧ (∀ j, j < 8 → mp_C h' b (fun _ => 0) j) ∧ (∀ j, j < i → mp_L h' b (fun _ => 0) j) ∧ ko b 157 h h'
theorem mp_C.ko {h h' : am_H} {b a n j : Nat} {s : Nat → Int} (m : mp_C h b s j) (f : ko a n h h') (hd : b + 7 + 3 * j ≤ a ∨ a + n ≤ b + 4 + 3 * j) : mp_C h' b s j := ⟨f _ _ (by omega) m.1, f _ _ (by omega) m.2.1, f _ _ (by omega) m.2.2⟩
theorem mp_L.ko {h h' : am_H} {b a n j : Nat} {s : Nat → Int} (m : mp_L h b s j) (f : ko a n h h') (hd : b + 33 + 4 * j ≤ a ∨ a + n ≤ b + 29 + 4 * j) : mp_L h' b s j := ⟨f _ _ (by omega) m.1, f _ _ (by omega) m.2.1, f _ _ (by omega) m.2.2.1, f _ _ (by omega) m.2.2.2⟩
theorem m_MA_init {l : Launch} {G : am_G} {h : am_H} {b : Nat} {g : Int → Int} (r : h[b]? = some nw_MA) (rc : h[b + 1]? = some (am_ia 0 600 g)) (hl : h.length = b + 2) : am_M l G M_MA_init [.ref b, .ref (b + 1)] h (fun r h' => r = none ∧ h'.length = b + 157 ∧ am_map h' b g (fun _ => 0) ∧ ko b 157 h h') := by
  refine am_M.of (by decide) (Nat.le_of_ble_eq_true rfl) (fun X hB hR => ?_)
  show am_Z X 0 [.ref b, .ref (b + 1), am_u] [] h 0 0
  have loop2 : ∀ (k i : Nat) (h3 : am_H), i + k = 32 → mi_2 h b g i h3 → am_Z X 65 [.ref b, .ref (b + 1), am_n i] [] h3 (27 + 4 * i) (131 + 18 * i) := by
    intro k
    induction k with
    | zero =>
      intro i h3 hi J
      have hi' : i = 32 := by omega
      subst hi'
      obtain ⟨j1, j2, j3, j4, j5, j6, j7, j8, j9⟩ := J
      refine am_iload_n hB d_MA_init_65 rfl rfl ?_
      refine ai_bipush hB d_MA_init_66 (by decide) ?_
      refine ai_jge (tgt := 91) hB d_MA_init_68 (by decide) (fun c1 => ?_) (fun c1 => ?_)
      · refine am_vret hB hR d_MA_init_91 rfl ?_ (by decide) (by decide)
        exact ⟨rfl, j1, ⟨j2, j3, j4, j5, j6, j7, j8⟩, j9⟩
      · omega
    | succ k ih =>
      intro i h3 hi J
      obtain ⟨j1, j2, j3, j4, j5, j6, j7, j8, j9⟩ := J
      refine am_iload_n hB d_MA_init_65 rfl rfl ?_
      refine ai_bipush hB d_MA_init_66 (by decide) ?_
      refine ai_jge (tgt := 91) hB d_MA_init_68 (by decide) (fun c1 => ?_) (fun c1 => ?_)
      · omega
      refine am_aload_n hB d_MA_init_71 rfl rfl rfl ?_
      refine am_getf hB d_MA_init_72 F_MA_27_4 j2 rfl ?_
      refine am_iload_n hB d_MA_init_75 rfl rfl ?_
      refine am_new hB d_MA_init_76 N_MA_25 (by rw [hR.room]; show _ ≤ 155; omega) (by rw [hR.room]; show _ ≤ 707; omega) (q := b + 29 + 4 * i) j1 rfl rfl rfl ?_
      refine am_dup hB d_MA_init_79 rfl ?_
      refine am_aload_n hB d_MA_init_80 rfl rfl rfl ?_
      refine am_callI hB hR (as := [.ref (b + 1)]) (m_ML_init (ap_nw j1.symm)) c_MA_31 rfl rfl d_MA_init_81 ⟨by decide, Nat.le_of_ble_eq_true rfl⟩ ⟨by show _ + 3 ≤ 155; omega, by show _ + 9 ≤ 707; omega⟩ rfl rfl (fun rr h4 hp => ?_)
      obtain ⟨rfl, l4, x4, ⟨y1, y2, y3⟩, f4⟩ := hp
      rw [ap_len, j1] at l4 y1 y2 y3 x4
      have x4' : h4[b + 29 + 4 * i]? = some (ce_ML (b + 30 + 4 * i) (b + 31 + 4 * i) (b + 32 + 4 * i) 0 0 0 0 0 0) := by
        rw [show b + 30 + 4 * i = b + 29 + 4 * i + 1 by omega, show b + 31 + 4 * i = b + 29 + 4 * i + 1 + 1 by omega, show b + 32 + 4 * i = b + 29 + 4 * i + 1 + 2 by omega]
        exact x4
      rw [show b + 29 + 4 * i + 1 = b + 30 + 4 * i by omega] at y1
      rw [show b + 29 + 4 * i + 1 + 1 = b + 31 + 4 * i by omega] at y2
      rw [show b + 29 + 4 * i + 1 + 2 = b + 32 + 4 * i by omega] at y3
      have f34 : ko (b + 29 + 4 * i) 1 h3 h4 := ko.app.tr f4
      show am_Z X 84 [.ref b, .ref (b + 1), am_n i] [.ref (b + 29 + 4 * i), am_n i, .ref (b + 28)] h4 _ _
      refine ai_aast hB d_MA_init_84 ty_4 (f34 _ _ (by omega) j6) x4 rfl rfl ?_
      refine ai_inc hB d_MA_init_85 rfl (by rw [hR.nL]; decide) rfl ?_
      refine am_goto (tgt := 65) hB d_MA_init_88 (by decide) (am_wide (k := 27 + 4 * (i + 1)) (n := 131 + 18 * (i + 1)) (by show 27 + 4 * i + 1 + 3 ≤ _; omega) (by show 131 + 18 * i + 9 + 9 ≤ _; omega) (ih (i + 1) _ (by omega) ?_))
      have fS : ko (b + 28) 1 h4 (h4.set (b + 28) (am_qa 4 32 (fun j => if j = (i : Int) then some (b + 29 + 4 * i) else (if j < (i : Int) then some (b + 29 + 4 * j.toNat) else none)))) := ko.set _ _ (by omega) (by omega)
      refine ⟨by rw [List.length_set, l4]; omega, fS _ _ (by omega) (f34 _ _ (by omega) j2), fS _ _ (by omega) (f34 _ _ (by omega) j3), fS _ _ (by omega) (f34 _ _ (by omega) j4), fS _ _ (by omega) (f34 _ _ (by omega) j5), ?_, fun j hj => ((j7 j hj).ko f34 (by omega)).ko fS (by omega), fun j hj => ?_, ?_⟩
      · rw [← pr_qa_up]
        exact am_rs (f34 _ _ (by omega) j6)
      · by_cases c : j = i
        · subst c
          exact ⟨fS _ _ (by omega) x4', fS _ _ (by omega) y1, fS _ _ (by omega) y2, fS _ _ (by omega) y3⟩
        · exact ((j8 j (by omega)).ko f34 (by omega)).ko fS (by omega)
      · exact (j9.tr (f34.sub (by omega) (by omega))).tr (fS.sub (by omega) (by omega))
  have loop1 : ∀ (k i : Nat) (h3 : am_H), i + k = 8 → mi_1 h b g i h3 → am_Z X 28 [.ref b, .ref (b + 1), am_n i] [] h3 (2 + 3 * i) (11 + 11 * i) := by
    intro k
    induction k with
    | zero =>
      intro i h3 hi J
      have hi' : i = 8 := by omega
      subst hi'
      obtain ⟨j1, j2, j3, j4, j5, j6, j7⟩ := J
      refine am_iload_n hB d_MA_init_28 rfl rfl ?_
      refine ai_bipush hB d_MA_init_29 (by decide) ?_
      refine ai_jge (tgt := 54) hB d_MA_init_31 (by decide) (fun c1 => ?_) (fun c1 => ?_)
      · refine am_aload_n hB d_MA_init_54 rfl rfl rfl ?_
        refine ai_bipush hB d_MA_init_55 (by decide) ?_
        refine am_newA hB d_MA_init_57 ty_4 A_MA_25 am_aoML (by decide) (N := 32) (by decide) (by decide) (by rw [hR.room]; decide) (by rw [hR.room]; decide) (q := b + 28) j1 rfl rfl rfl ?_
        refine am_putF hB d_MA_init_60 P_MA_27_4 (hR.name.trans rfl) (ap_old j2) (by simp) (am_fit.r rfl (Or.inr ⟨_, rfl⟩)) rfl ?_
        refine ai_const hB d_MA_init_63 ?_
        refine am_istore_n hB d_MA_init_64 rfl (by rw [hR.nL]; decide) rfl ?_
        have fA : ko (b + 28) 1 h3 (h3 ++ [.inl (4, 32, .inr (.inr (.inr (.inr (fun _ => none)))))]) := ko.app
        refine loop2 32 0 _ (by omega) ⟨by rw [List.length_set, ap_len, j1], am_rs (ap_old j2), am_rn (by omega) (ap_old j3), am_rn (by omega) (ap_old j4), am_rn (by omega) (ap_old j5), ?_, fun j hj => ((j6 j hj).ko fA (by omega)).ko (ko.set (a := b) (n := 1) _ _ (by omega) (by omega)) (by omega), fun j hj => absurd hj (Nat.not_lt_zero j), (j7.tr (fA.sub (by omega) (by omega))).tr (ko.set _ _ (by omega) (by omega))⟩
        rw [← pr_qa_0]
        exact am_rn (by omega) (ap_nw j1.symm)
      · omega
    | succ k ih =>
      intro i h3 hi J
      obtain ⟨j1, j2, j3, j4, j5, j6, j7⟩ := J
      refine am_iload_n hB d_MA_init_28 rfl rfl ?_
      refine ai_bipush hB d_MA_init_29 (by decide) ?_
      refine ai_jge (tgt := 54) hB d_MA_init_31 (by decide) (fun c1 => ?_) (fun c1 => ?_)
      · omega
      refine am_aload_n hB d_MA_init_34 rfl rfl rfl ?_
      refine am_getf hB d_MA_init_35 F_MA_20_4 j2 rfl ?_
      refine am_iload_n hB d_MA_init_38 rfl rfl ?_
      refine am_new hB d_MA_init_39 N_MA_18 (by rw [hR.room]; show _ ≤ 155; omega) (by rw [hR.room]; show _ ≤ 707; omega) (q := b + 4 + 3 * i) j1 rfl rfl rfl ?_
      refine am_dup hB d_MA_init_42 rfl ?_
      refine am_aload_n hB d_MA_init_43 rfl rfl rfl ?_
      refine am_callI hB hR (as := [.ref (b + 1)]) (m_CL_init (ap_nw j1.symm)) c_MA_24 rfl rfl d_MA_init_44 ⟨by decide, Nat.le_of_ble_eq_true rfl⟩ ⟨by show _ + 2 ≤ 155; omega, by show _ + 6 ≤ 707; omega⟩ rfl rfl (fun rr h4 hp => ?_)
      obtain ⟨rfl, l4, x4, ⟨y1, y2⟩, f4⟩ := hp
      rw [ap_len, j1] at l4 y1 y2 x4
      have x4' : h4[b + 4 + 3 * i]? = some (ce_CL (b + 5 + 3 * i) (b + 6 + 3 * i) 0 0 0) := by
        rw [show b + 5 + 3 * i = b + 4 + 3 * i + 1 by omega, show b + 6 + 3 * i = b + 4 + 3 * i + 1 + 1 by omega]
        exact x4
      rw [show b + 4 + 3 * i + 1 = b + 5 + 3 * i by omega] at y1
      rw [show b + 4 + 3 * i + 1 + 1 = b + 6 + 3 * i by omega] at y2
      have f34 : ko (b + 4 + 3 * i) 1 h3 h4 := ko.app.tr f4
      show am_Z X 47 [.ref b, .ref (b + 1), am_n i] [.ref (b + 4 + 3 * i), am_n i, .ref (b + 3)] h4 _ _
      refine ai_aast hB d_MA_init_47 ty_3 (f34 _ _ (by omega) j5) x4 rfl rfl ?_
      refine ai_inc hB d_MA_init_48 rfl (by rw [hR.nL]; decide) rfl ?_
      refine am_goto (tgt := 28) hB d_MA_init_51 (by decide) (am_wide (k := 2 + 3 * (i + 1)) (n := 11 + 11 * (i + 1)) (by show 2 + 3 * i + 1 + 2 ≤ _; omega) (by show 11 + 11 * i + 5 + 6 ≤ _; omega) (ih (i + 1) _ (by omega) ?_))
      have fS : ko (b + 3) 1 h4 (h4.set (b + 3) (am_qa 3 8 (fun j => if j = (i : Int) then some (b + 4 + 3 * i) else (if j < (i : Int) then some (b + 4 + 3 * j.toNat) else none)))) := ko.set _ _ (by omega) (by omega)
      refine ⟨by rw [List.length_set, l4]; omega, fS _ _ (by omega) (f34 _ _ (by omega) j2), fS _ _ (by omega) (f34 _ _ (by omega) j3), fS _ _ (by omega) (f34 _ _ (by omega) j4), ?_, fun j hj => ?_, ?_⟩
      · rw [← pr_qa_up]
        exact am_rs (f34 _ _ (by omega) j5)
      · by_cases c : j = i
        · subst c
          exact ⟨fS _ _ (by omega) x4', fS _ _ (by omega) y1, fS _ _ (by omega) y2⟩
        · exact ((j6 j (by omega)).ko f34 (by omega)).ko fS (by omega)
      · exact (j7.tr (f34.sub (by omega) (by omega))).tr (fS.sub (by omega) (by omega))
  refine am_aload_n hB d_MA_init_0 rfl rfl rfl ?_
  refine am_aload_n hB d_MA_init_1 rfl rfl rfl ?_
  refine am_callI hB hR (as := [.ref (b + 1)]) (m_FO_init (Or.inl rfl) r) c_MA_3 rfl rfl d_MA_init_2 ⟨by decide, Nat.le_of_ble_eq_true rfl⟩ ⟨by decide, by decide⟩ rfl rfl (fun rr h1 hp => ?_)
  obtain ⟨rfl, e1⟩ := hp
  have l1 : h1.length = b + 2 := by rw [e1, List.length_set, hl]
  have r1 : h1[b]? = some (.inr (4, [.ref (b + 1), .int 0, .int 0, .null, .null, .int 0, .int 0, .int 0, .int 0, .null])) := by rw [e1]; exact am_rs r
  have f1 : ko b 1 h h1 := by rw [e1]; exact ko.set _ _ (by omega) (by omega)
  have c1 := f1 _ _ (by omega) rc
  show am_Z X 5 [.ref b, .ref (b + 1), am_u] [] h1 0 0
  refine am_aload_n hB d_MA_init_5 rfl rfl rfl ?_
  refine am_new hB d_MA_init_6 N_MA_9 (by rw [hR.room]; decide) (by rw [hR.room]; decide) (q := b + 2) l1 rfl rfl rfl ?_
  refine am_dup hB d_MA_init_9 rfl ?_
  refine am_aload_n hB d_MA_init_10 rfl rfl rfl ?_
  refine am_callI hB hR (as := [.ref (b + 1)]) (m_SL_init (ap_nw l1.symm)) c_MA_11 rfl rfl d_MA_init_11 ⟨by decide, Nat.le_of_ble_eq_true rfl⟩ ⟨by decide, by decide⟩ rfl rfl (fun rr h2 hp => ?_)
  obtain ⟨rfl, e2⟩ := hp
  have e2 := ap_sl l1.symm e2
  have l2 : h2.length = b + 3 := by rw [e2, ap_len, l1]
  have f2 : ko b 157 h1 h2 := by rw [e2]; exact ko.app
  have f20 : ko 0 0 h1 h2 := by rw [e2]; exact ko.app
  have r2 := f20 _ _ (by omega) r1
  have c2 := f20 _ _ (by omega) c1
  have x2 : h2[b + 2]? = some (ce_SL (b + 1) 0 0) := by rw [e2]; exact ap_nw l1.symm
  show am_Z X 14 [.ref b, .ref (b + 1), am_u] [.ref (b + 2), .ref b] h2 1 3
  refine am_putF hB d_MA_init_14 P_MA_12_4 (hR.name.trans rfl) r2 (by simp) (am_fit.r rfl (Or.inl ⟨_, rfl⟩)) rfl ?_
  refine am_aload_n hB d_MA_init_17 rfl rfl rfl ?_
  refine ai_bipush hB d_MA_init_18 (by decide) ?_
  refine am_newA hB d_MA_init_20 ty_3 A_MA_18 am_aoCL (by decide) (N := 8) (by decide) (by decide) (by rw [hR.room]; decide) (by rw [hR.room]; decide) (q := b + 3) (by rw [List.length_set]; exact l2) rfl rfl rfl ?_
  refine am_putF hB d_MA_init_23 P_MA_20_4 (hR.name.trans rfl) (ap_old (am_rs r2)) (by simp) (am_fit.r rfl (Or.inr ⟨_, rfl⟩)) rfl ?_
  refine ai_const hB d_MA_init_26 ?_
  refine am_istore_n hB d_MA_init_27 rfl (by rw [hR.nL]; decide) rfl ?_
  refine loop1 8 0 _ (by omega) ⟨by rw [List.length_set, ap_len, List.length_set, l2], am_rs (ap_old (am_rs r2)), am_rn (by omega) (ap_old (am_rn (by omega) c2)), am_rn (by omega) (ap_old (am_rn (by omega) x2)), ?_, fun j hj => absurd hj (Nat.not_lt_zero j), ((((f1.sub (by omega) (by omega)).tr f2).tr (ko.set _ _ (by omega) (by omega))).tr ko.app).tr (ko.set _ _ (by omega) (by omega))⟩
  rw [← pr_qa_0]
  exact am_rn (by omega) (ap_nw (by rw [List.length_set]; exact l2.symm))
abbrev nw_TR : va_E := .inr (9, [.null, .int 0, .int 0, .null, .null, .int 0, .int 0, .null])
def ti_1 (h : am_H) (b c : Nat) (i : Nat) (h' : am_H) : Prop := h'.length = b + 3 + 3 * i ∧ h'[b]? = some (.inr (9, [.ref c, .int 0, .int 0, .ref (b + 2), .null, .int 0, .int 0, .ref (b + 1)])) ∧ h'[b + 1]? = some (ce_SL c 0 0) ∧ h'[b + 2]? = some (pr_qa 5 4 (b + 3) 3 i) ∧ (∀ q, 3 ≤ q → q < 3 + 3 * i → h'[b + q]? = some (tr_cell b c (fun _ => 0) q)) ∧ ko b 96 h h'
def ti_2 (h : am_H) (b c : Nat) (i : Nat) (h' : am_H) : Prop := h'.length = b + 16 + 4 * i ∧ h'[b]? = some (.inr (9, [.ref c, .int 0, .int 0, .ref (b + 2), .ref (b + 15), .int 0, .int 0, .ref (b + 1)])) ∧ h'[b + 1]? = some (ce_SL c 0 0) ∧ h'[b + 2]? = some (tr_qH b) ∧ h'[b + 15]? = some (pr_qa 6 20 (b + 16) 4 i) ∧ (∀ q, 3 ≤ q → q < 15 → h'[b + q]? = some (tr_cell b c (fun _ => 0) q)) ∧ (∀ q, 16 ≤ q → q < 16 + 4 * i → h'[b + q]? = some (tr_cell b c (fun _ => 0) q)) ∧ ko b 96 h h'
theorem tc_he {b c i : Nat} (hi : i < 4) : tr_cell b c (fun _ => 0) (3 + 3 * i) = ce_HE (b + (3 + 3 * i) + 1) (b + (3 + 3 * i) + 2) 0 0 0 0 := by
  unfold tr_cell
  rw [if_neg (by omega), if_neg (by omega), if_neg (by omega), if_pos ⟨by omega, by omega⟩]
theorem tc_fr {b c i : Nat} (hi : i < 20) : tr_cell b c (fun _ => 0) (16 + 4 * i) = ce_FR (b + (16 + 4 * i) + 1) (b + (16 + 4 * i) + 2) (b + (16 + 4 * i) + 3) 0 0 := by
  unfold tr_cell
  rw [if_neg (by omega), if_neg (by omega), if_neg (by omega), if_neg (by omega), if_pos ⟨by omega, by omega⟩]
theorem tc_sl {b c q : Nat} (h1 : q ≠ 0 ∧ q ≠ 2 ∧ q ≠ 15) (h2 : ¬ (q < 15 ∧ q % 3 = 0)) (h3 : ¬ (15 < q ∧ q % 4 = 0)) : tr_cell b c (fun _ => 0) q = ce_SL c 0 0 := by
  unfold tr_cell
  rw [if_neg h1.1, if_neg h1.2.1, if_neg h1.2.2, if_neg h2, if_neg h3]
theorem m_TR_init {l : Launch} {G : am_G} {h : am_H} {b c : Nat} (r : h[b]? = some nw_TR) (hl : h.length = b + 1) : am_M l G M_TR_init [.ref b, .ref c] h (fun r h' => r = none ∧ h'.length = b + 96 ∧ (∀ q, q < 96 → h'[b + q]? = some (tr_cell b c (fun _ => 0) q)) ∧ ko b 96 h h') := by
  refine am_M.of (by decide) (Nat.le_of_ble_eq_true rfl) (fun X hB hR => ?_)
  show am_Z X 0 [.ref b, .ref c, am_u] [] h 0 0
  have loop2 : ∀ (k i : Nat) (h3 : am_H), i + k = 20 → ti_2 h b c i h3 → am_Z X 63 [.ref b, .ref c, am_n i] [] h3 (15 + 4 * i) (75 + 14 * i) := by
    intro k
    induction k with
    | zero =>
      intro i h3 hi J
      have hi' : i = 20 := by omega
      subst hi'
      obtain ⟨j1, j2, j3, j4, j5, j6, j7, j8⟩ := J
      refine am_iload_n hB d_TR_init_63 rfl rfl ?_
      refine ai_bipush hB d_TR_init_64 (by decide) ?_
      refine ai_jge (tgt := 89) hB d_TR_init_66 (by decide) (fun c1 => ?_) (fun c1 => ?_)
      · refine am_vret hB hR d_TR_init_89 rfl ?_ (by decide) (by decide)
        refine ⟨rfl, j1, fun q hq => ?_, j8⟩
        by_cases q0 : q = 0
        · subst q0
          exact j2
        by_cases q1 : q = 1
        · subst q1
          exact j3
        by_cases q2 : q = 2
        · subst q2
          exact j4
        by_cases q3 : q < 15
        · exact j6 q (by omega) q3
        by_cases q4 : q = 15
        · subst q4
          exact j5
        · exact j7 q (by omega) (by omega)
      · omega
    | succ k ih =>
      intro i h3 hi J
      obtain ⟨j1, j2, j3, j4, j5, j6, j7, j8⟩ := J
      refine am_iload_n hB d_TR_init_63 rfl rfl ?_
      refine ai_bipush hB d_TR_init_64 (by decide) ?_
      refine ai_jge (tgt := 89) hB d_TR_init_66 (by decide) (fun c1 => ?_) (fun c1 => ?_)
      · omega
      refine am_aload_n hB d_TR_init_69 rfl rfl rfl ?_
      refine am_getf hB d_TR_init_70 F_TR_27_9 j2 rfl ?_
      refine am_iload_n hB d_TR_init_73 rfl rfl ?_
      refine am_new hB d_TR_init_74 N_TR_25 (by rw [hR.room]; show _ ≤ 95; omega) (by rw [hR.room]; show _ ≤ 355; omega) (q := b + 16 + 4 * i) j1 rfl rfl rfl ?_
      refine am_dup hB d_TR_init_77 rfl ?_
      refine am_aload_n hB d_TR_init_78 rfl rfl rfl ?_
      refine am_callI hB hR (as := [.ref c]) (m_FR_init (ap_nw j1.symm)) c_TR_31 rfl rfl d_TR_init_79 ⟨by decide, Nat.le_of_ble_eq_true rfl⟩ ⟨by show _ + 3 ≤ 95; omega, by show _ + 9 ≤ 355; omega⟩ rfl rfl (fun rr h4 hp => ?_)
      obtain ⟨rfl, l4, x4, ⟨y1, y2, y3⟩, f4⟩ := hp
      rw [ap_len, j1] at l4 y1 y2 y3 x4
      have f34 : ko (b + 16 + 4 * i) 1 h3 h4 := ko.app.tr f4
      show am_Z X 82 [.ref b, .ref c, am_n i] [.ref (b + 16 + 4 * i), am_n i, .ref (b + 15)] h4 _ _
      refine ai_aast hB d_TR_init_82 ty_6 (f34 _ _ (by omega) j5) x4 rfl rfl ?_
      refine ai_inc hB d_TR_init_83 rfl (by rw [hR.nL]; decide) rfl ?_
      refine am_goto (tgt := 63) hB d_TR_init_86 (by decide) (am_wide (k := 15 + 4 * (i + 1)) (n := 75 + 14 * (i + 1)) (by show 15 + 4 * i + 1 + 3 ≤ _; omega) (by show 75 + 14 * i + 5 + 9 ≤ _; omega) (ih (i + 1) _ (by omega) ?_))
      have fS : ko (b + 15) 1 h4 (h4.set (b + 15) (am_qa 6 20 (fun j => if j = (i : Int) then some (b + 16 + 4 * i) else (if j < (i : Int) then some (b + 16 + 4 * j.toNat) else none)))) := ko.set _ _ (by omega) (by omega)
      refine ⟨by rw [List.length_set, l4]; omega, fS _ _ (by omega) (f34 _ _ (by omega) j2), fS _ _ (by omega) (f34 _ _ (by omega) j3), fS _ _ (by omega) (f34 _ _ (by omega) j4), ?_, fun q h1 h2 => fS _ _ (by omega) (f34 _ _ (by omega) (j6 q h1 h2)), fun q h1 h2 => ?_, ?_⟩
      · rw [← pr_qa_up]
        exact am_rs (f34 _ _ (by omega) j5)
      · by_cases c0 : q < 16 + 4 * i
        · exact fS _ _ (by omega) (f34 _ _ (by omega) (j7 q h1 c0))
        · by_cases c1 : q = 16 + 4 * i
          · subst c1
            rw [tc_fr (by omega), show b + (16 + 4 * i) = b + 16 + 4 * i by omega]
            exact fS _ _ (by omega) x4
          · rw [tc_sl ⟨by omega, by omega, by omega⟩ (by omega) (by omega)]
            by_cases c2 : q = 16 + 4 * i + 1
            · subst c2
              rw [show b + (16 + 4 * i + 1) = b + 16 + 4 * i + 1 by omega]
              exact fS _ _ (by omega) y1
            · by_cases c3 : q = 16 + 4 * i + 2
              · subst c3
                rw [show b + (16 + 4 * i + 2) = b + 16 + 4 * i + 1 + 1 by omega]
                exact fS _ _ (by omega) y2
              · have c4 : q = 16 + 4 * i + 3 := by omega
                subst c4
                rw [show b + (16 + 4 * i + 3) = b + 16 + 4 * i + 1 + 2 by omega]
                exact fS _ _ (by omega) y3
      · exact (j8.tr (f34.sub (by omega) (by omega))).tr (fS.sub (by omega) (by omega))
  have loop1 : ∀ (k i : Nat) (h3 : am_H), i + k = 4 → ti_1 h b c i h3 → am_Z X 27 [.ref b, .ref c, am_n i] [] h3 (2 + 3 * i) (7 + 12 * i) := by
    intro k
    induction k with
    | zero =>
      intro i h3 hi J
      have hi' : i = 4 := by omega
      subst hi'
      obtain ⟨j1, j2, j3, j4, j5, j6⟩ := J
      refine am_iload_n hB d_TR_init_27 rfl rfl ?_
      refine ai_const hB d_TR_init_28 ?_
      refine ai_jge (tgt := 52) hB d_TR_init_29 (by decide) (fun c1 => ?_) (fun c1 => ?_)
      · refine am_aload_n hB d_TR_init_52 rfl rfl rfl ?_
        refine ai_bipush hB d_TR_init_53 (by decide) ?_
        refine am_newA hB d_TR_init_55 ty_6 A_TR_25 am_aoFR (by decide) (N := 20) (by decide) (by decide) (by rw [hR.room]; decide) (by rw [hR.room]; decide) (q := b + 15) j1 rfl rfl rfl ?_
        refine am_putF hB d_TR_init_58 P_TR_27_9 (hR.name.trans rfl) (ap_old j2) (by simp) (am_fit.r rfl (Or.inr ⟨_, rfl⟩)) rfl ?_
        refine ai_const hB d_TR_init_61 ?_
        refine am_istore_n hB d_TR_init_62 rfl (by rw [hR.nL]; decide) rfl ?_
        refine loop2 20 0 _ (by omega) ⟨by rw [List.length_set, ap_len, j1], am_rs (ap_old j2), am_rn (by omega) (ap_old j3), am_rn (by omega) (ap_old j4), ?_, fun q h1 h2 => am_rn (by omega) (ap_old (j5 q h1 (by omega))), fun q h1 h2 => absurd h2 (by omega), (j6.tr ko.app).tr (ko.set _ _ (by omega) (by omega))⟩
        rw [← pr_qa_0]
        exact am_rn (by omega) (ap_nw j1.symm)
      · omega
    | succ k ih =>
      intro i h3 hi J
      obtain ⟨j1, j2, j3, j4, j5, j6⟩ := J
      refine am_iload_n hB d_TR_init_27 rfl rfl ?_
      refine ai_const hB d_TR_init_28 ?_
      refine ai_jge (tgt := 52) hB d_TR_init_29 (by decide) (fun c1 => ?_) (fun c1 => ?_)
      · omega
      refine am_aload_n hB d_TR_init_32 rfl rfl rfl ?_
      refine am_getf hB d_TR_init_33 F_TR_20_9 j2 rfl ?_
      refine am_iload_n hB d_TR_init_36 rfl rfl ?_
      refine am_new hB d_TR_init_37 N_TR_18 (by rw [hR.room]; show _ ≤ 95; omega) (by rw [hR.room]; show _ ≤ 355; omega) (q := b + 3 + 3 * i) j1 rfl rfl rfl ?_
      refine am_dup hB d_TR_init_40 rfl ?_
      refine am_aload_n hB d_TR_init_41 rfl rfl rfl ?_
      refine am_callI hB hR (as := [.ref c]) (m_HE_init (ap_nw j1.symm)) c_TR_24 rfl rfl d_TR_init_42 ⟨by decide, Nat.le_of_ble_eq_true rfl⟩ ⟨by show _ + 2 ≤ 95; omega, by show _ + 6 ≤ 355; omega⟩ rfl rfl (fun rr h4 hp => ?_)
      obtain ⟨rfl, l4, x4, ⟨y1, y2⟩, f4⟩ := hp
      rw [ap_len, j1] at l4 y1 y2 x4
      have f34 : ko (b + 3 + 3 * i) 1 h3 h4 := ko.app.tr f4
      show am_Z X 45 [.ref b, .ref c, am_n i] [.ref (b + 3 + 3 * i), am_n i, .ref (b + 2)] h4 _ _
      refine ai_aast hB d_TR_init_45 ty_5 (f34 _ _ (by omega) j4) x4 rfl rfl ?_
      refine ai_inc hB d_TR_init_46 rfl (by rw [hR.nL]; decide) rfl ?_
      refine am_goto (tgt := 27) hB d_TR_init_49 (by decide) (am_wide (k := 2 + 3 * (i + 1)) (n := 7 + 12 * (i + 1)) (by show 2 + 3 * i + 1 + 2 ≤ _; omega) (by show 7 + 12 * i + 6 + 6 ≤ _; omega) (ih (i + 1) _ (by omega) ?_))
      have fS : ko (b + 2) 1 h4 (h4.set (b + 2) (am_qa 5 4 (fun j => if j = (i : Int) then some (b + 3 + 3 * i) else (if j < (i : Int) then some (b + 3 + 3 * j.toNat) else none)))) := ko.set _ _ (by omega) (by omega)
      refine ⟨by rw [List.length_set, l4]; omega, fS _ _ (by omega) (f34 _ _ (by omega) j2), fS _ _ (by omega) (f34 _ _ (by omega) j3), ?_, fun q h1 h2 => ?_, ?_⟩
      · rw [← pr_qa_up]
        exact am_rs (f34 _ _ (by omega) j4)
      · by_cases c0 : q < 3 + 3 * i
        · exact fS _ _ (by omega) (f34 _ _ (by omega) (j5 q h1 c0))
        · by_cases c1 : q = 3 + 3 * i
          · subst c1
            rw [tc_he (by omega), show b + (3 + 3 * i) = b + 3 + 3 * i by omega]
            exact fS _ _ (by omega) x4
          · rw [tc_sl ⟨by omega, by omega, by omega⟩ (by omega) (by omega)]
            by_cases c2 : q = 3 + 3 * i + 1
            · subst c2
              rw [show b + (3 + 3 * i + 1) = b + 3 + 3 * i + 1 by omega]
              exact fS _ _ (by omega) y1
            · have c4 : q = 3 + 3 * i + 2 := by omega
              subst c4
              rw [show b + (3 + 3 * i + 2) = b + 3 + 3 * i + 1 + 1 by omega]
              exact fS _ _ (by omega) y2
      · exact (j6.tr (f34.sub (by omega) (by omega))).tr (fS.sub (by omega) (by omega))
  refine am_aload_n hB d_TR_init_0 rfl rfl rfl ?_
  refine am_aload_n hB d_TR_init_1 rfl rfl rfl ?_
  refine am_callI hB hR (as := [.ref c]) (m_FO_init (Or.inr rfl) r) c_TR_3 rfl rfl d_TR_init_2 ⟨by decide, Nat.le_of_ble_eq_true rfl⟩ ⟨by decide, by decide⟩ rfl rfl (fun rr h1 hp => ?_)
  obtain ⟨rfl, e1⟩ := hp
  have l1 : h1.length = b + 1 := by rw [e1, List.length_set, hl]
  have r1 : h1[b]? = some (.inr (9, [.ref c, .int 0, .int 0, .null, .null, .int 0, .int 0, .null])) := by rw [e1]; exact am_rs r
  have f1 : ko b 1 h h1 := by rw [e1]; exact ko.set _ _ (by omega) (by omega)
  show am_Z X 5 [.ref b, .ref c, am_u] [] h1 0 0
  refine am_aload_n hB d_TR_init_5 rfl rfl rfl ?_
  refine am_new hB d_TR_init_6 N_TR_9 (by rw [hR.room]; decide) (by rw [hR.room]; decide) (q := b + 1) l1 rfl rfl rfl ?_
  refine am_dup hB d_TR_init_9 rfl ?_
  refine am_aload_n hB d_TR_init_10 rfl rfl rfl ?_
  refine am_callI hB hR (as := [.ref c]) (m_SL_init (ap_nw l1.symm)) c_TR_11 rfl rfl d_TR_init_11 ⟨by decide, Nat.le_of_ble_eq_true rfl⟩ ⟨by decide, by decide⟩ rfl rfl (fun rr h2 hp => ?_)
  obtain ⟨rfl, e2⟩ := hp
  have e2 := ap_sl l1.symm e2
  have l2 : h2.length = b + 2 := by rw [e2, ap_len, l1]
  have f2 : ko b 96 h1 h2 := by rw [e2]; exact ko.app
  have f20 : ko 0 0 h1 h2 := by rw [e2]; exact ko.app
  have r2 := f20 _ _ (by omega) r1
  have x2 : h2[b + 1]? = some (ce_SL c 0 0) := by rw [e2]; exact ap_nw l1.symm
  show am_Z X 14 [.ref b, .ref c, am_u] [.ref (b + 1), .ref b] h2 1 3
  refine am_putF hB d_TR_init_14 P_TR_12_9 (hR.name.trans rfl) r2 (by simp) (am_fit.r rfl (Or.inl ⟨_, rfl⟩)) rfl ?_
  refine am_aload_n hB d_TR_init_17 rfl rfl rfl ?_
  refine ai_const hB d_TR_init_18 ?_
  refine am_newA hB d_TR_init_19 ty_5 A_TR_18 am_aoHE (by decide) (N := 4) (by decide) (by decide) (by rw [hR.room]; decide) (by rw [hR.room]; decide) (q := b + 2) (by rw [List.length_set]; exact l2) rfl rfl rfl ?_
  refine am_putF hB d_TR_init_22 P_TR_20_9 (hR.name.trans rfl) (ap_old (am_rs r2)) (by simp) (am_fit.r rfl (Or.inr ⟨_, rfl⟩)) rfl ?_
  refine ai_const hB d_TR_init_25 ?_
  refine am_istore_n hB d_TR_init_26 rfl (by rw [hR.nL]; decide) rfl ?_
  refine loop1 4 0 _ (by omega) ⟨by rw [List.length_set, ap_len, List.length_set, l2], am_rs (ap_old (am_rs r2)), am_rn (by omega) (ap_old (am_rn (by omega) x2)), ?_, fun q h1 h2 => absurd h2 (by omega), ((((f1.sub (by omega) (by omega)).tr f2).tr (ko.set _ _ (by omega) (by omega))).tr ko.app).tr (ko.set _ _ (by omega) (by omega))⟩
  rw [← pr_qa_0]
  exact am_rn (by omega) (ap_nw (by rw [List.length_set]; exact l2.symm))
