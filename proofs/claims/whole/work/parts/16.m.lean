/-! a mapping's cells by a file of numbers -/
theorem am_M.imp {l : Launch} {G : am_G} {M : am_D} {as : List Value} {h : am_H} {P P' : am_Y} (hM : am_M l G M as h P) (hi : ∀ r h', P r h' → P' r h') : am_M l G M as h P' := by
  intro ad av hS p e h1 h2 h3 s m args below h4 h5 h6 h7
  obtain ⟨n, o, k1, k2, k3, ⟨⟨ad', w, r, h', hP, k4⟩, k5⟩, k6⟩ := hM ad av hS p e h1 h2 h3 s m args below h4 h5 h6 h7
  exact ⟨n, o, k1, k2, k3, ⟨⟨ad', w, r, h', hi r h' hP, k4⟩, k5⟩, k6⟩
def am_w (s : Nat → Int) (r : Nat) (x : Int) : Nat → Int := fun q => if q = r then x else s q
theorem am_w_eq (s : Nat → Int) (r : Nat) (x : Int) : am_w s r x r = x := if_pos rfl
theorem am_w_ne (s : Nat → Int) {r q : Nat} (x : Int) (h : q ≠ r) : am_w s r x q = s q := if_neg h
/-- nothing outside a .. a + n changes -/
def am_rg (a n : Nat) (h h' : am_H) : Prop := h'.length = h.length ∧ ∀ q : Nat, (q < a ∨ a + n ≤ q) → h'[q]? = h[q]?
theorem am_rg.rf {a n : Nat} {h : am_H} : am_rg a n h h := ⟨rfl, fun _ _ => rfl⟩
theorem am_rg.tr {a n : Nat} {h h1 h2 : am_H} (x : am_rg a n h h1) (y : am_rg a n h1 h2) : am_rg a n h h2 := ⟨y.1.trans x.1, fun q hq => (y.2 q hq).trans (x.2 q hq)⟩
theorem am_rg.set {a n : Nat} {h : am_H} (k : Nat) (e : va_E) (h1 : a ≤ k) (h2 : k < a + n) : am_rg a n h (h.set k e) := ⟨List.length_set, fun q hq => List.getElem?_set_ne (by omega)⟩
abbrev ce_CL (r b : Nat) (fm em gc : Int) : va_E := .inr (0, [.ref r, .ref b, am_n fm, am_n em, am_n gc])
/-- a mapping's own fields: 0 here, 1 end, 2 class lines, 3 method lines, 4 groups, 5 the latest group -/
abbrev ce_MA (b : Nat) (s : Nat → Int) : va_E := ce_FO 4 (b + 1) (s 0) (s 1) [.ref (b + 3), .ref (b + 28), am_n (s 2), am_n (s 3), am_n (s 4), am_n (s 5), .ref (b + 2)]
def mp_C (h : am_H) (b : Nat) (s : Nat → Int) (i : Nat) : Prop := h[b + 4 + 3 * i]? = some (ce_CL (b + 5 + 3 * i) (b + 6 + 3 * i) (s (12 + 7 * i)) (s (13 + 7 * i)) (s (14 + 7 * i))) ∧ h[b + 5 + 3 * i]? = some (ce_SL (b + 1) (s (8 + 7 * i)) (s (9 + 7 * i))) ∧ h[b + 6 + 3 * i]? = some (ce_SL (b + 1) (s (10 + 7 * i)) (s (11 + 7 * i)))
def mp_L (h : am_H) (b : Nat) (s : Nat → Int) (i : Nat) : Prop := h[b + 29 + 4 * i]? = some (ce_ML (b + 30 + 4 * i) (b + 31 + 4 * i) (b + 32 + 4 * i) (s (70 + 12 * i)) (s (71 + 12 * i)) (s (72 + 12 * i)) (s (73 + 12 * i)) (s (74 + 12 * i)) (s (75 + 12 * i))) ∧ h[b + 30 + 4 * i]? = some (ce_SL (b + 1) (s (64 + 12 * i)) (s (65 + 12 * i))) ∧ h[b + 31 + 4 * i]? = some (ce_SL (b + 1) (s (66 + 12 * i)) (s (67 + 12 * i))) ∧ h[b + 32 + 4 * i]? = some (ce_SL (b + 1) (s (68 + 12 * i)) (s (69 + 12 * i)))
def mp_qC (b : Nat) : va_E := am_qa 3 8 (fun j => if j < 8 then some (b + 4 + 3 * j.toNat) else none)
def mp_qL (b : Nat) : va_E := am_qa 4 32 (fun j => if j < 32 then some (b + 29 + 4 * j.toNat) else none)
def am_map (h : am_H) (b : Nat) (g : Int → Int) (s : Nat → Int) : Prop := h[b]? = some (ce_MA b s) ∧ h[b + 1]? = some (am_ia 0 600 g) ∧ h[b + 2]? = some (ce_SL (b + 1) (s 6) (s 7)) ∧ h[b + 3]? = some (mp_qC b) ∧ h[b + 28]? = some (mp_qL b) ∧ (∀ i, i < 8 → mp_C h b s i) ∧ (∀ i, i < 32 → mp_L h b s i)
theorem mp_C.n {h : am_H} {b k : Nat} {s s' : Nat → Int} {e : va_E} {i : Nat} (c : mp_C h b s i) (hk : k ≠ b + 4 + 3 * i ∧ k ≠ b + 5 + 3 * i ∧ k ≠ b + 6 + 3 * i) (hs : ∀ r, 8 + 7 * i ≤ r → r ≤ 14 + 7 * i → s' r = s r) : mp_C (h.set k e) b s' i := by
  unfold mp_C
  rw [hs (8 + 7 * i) (by omega) (by omega), hs (9 + 7 * i) (by omega) (by omega), hs (10 + 7 * i) (by omega) (by omega), hs (11 + 7 * i) (by omega) (by omega), hs (12 + 7 * i) (by omega) (by omega), hs (13 + 7 * i) (by omega) (by omega), hs (14 + 7 * i) (by omega) (by omega)]
  exact ⟨am_rn hk.1 c.1, am_rn hk.2.1 c.2.1, am_rn hk.2.2 c.2.2⟩
theorem mp_L.n {h : am_H} {b k : Nat} {s s' : Nat → Int} {e : va_E} {i : Nat} (c : mp_L h b s i) (hk : k ≠ b + 29 + 4 * i ∧ k ≠ b + 30 + 4 * i ∧ k ≠ b + 31 + 4 * i ∧ k ≠ b + 32 + 4 * i) (hs : ∀ r, 64 + 12 * i ≤ r → r ≤ 75 + 12 * i → s' r = s r) : mp_L (h.set k e) b s' i := by
  unfold mp_L
  rw [hs (64 + 12 * i) (by omega) (by omega), hs (65 + 12 * i) (by omega) (by omega), hs (66 + 12 * i) (by omega) (by omega), hs (67 + 12 * i) (by omega) (by omega), hs (68 + 12 * i) (by omega) (by omega), hs (69 + 12 * i) (by omega) (by omega), hs (70 + 12 * i) (by omega) (by omega), hs (71 + 12 * i) (by omega) (by omega), hs (72 + 12 * i) (by omega) (by omega), hs (73 + 12 * i) (by omega) (by omega), hs (74 + 12 * i) (by omega) (by omega), hs (75 + 12 * i) (by omega) (by omega)]
  exact ⟨am_rn hk.1 c.1, am_rn hk.2.1 c.2.1, am_rn hk.2.2.1 c.2.2.1, am_rn hk.2.2.2 c.2.2.2⟩
/-- the mapping's own fields are written -/
theorem am_map.w0 {h : am_H} {b : Nat} {g : Int → Int} {s s' : Nat → Int} (m : am_map h b g s) (hs : ∀ r, 6 ≤ r → s' r = s r) : am_map (h.set b (ce_MA b s')) b g s' := by
  obtain ⟨m0, m1, m2, m3, m4, mC, mL⟩ := m
  refine ⟨am_rs m0, am_rn (by omega) m1, ?_, am_rn (by omega) m3, am_rn (by omega) m4, fun i hi => (mC i hi).n (by omega) (fun r _ _ => hs r (by omega)), fun i hi => (mL i hi).n (by omega) (fun r _ _ => hs r (by omega))⟩
  rw [hs 6 (by omega), hs 7 (by omega)]
  exact am_rn (by omega) m2
theorem am_map.w2 {h : am_H} {b : Nat} {g : Int → Int} {s s' : Nat → Int} (m : am_map h b g s) (hs : ∀ r, r ≠ 6 → r ≠ 7 → s' r = s r) : am_map (h.set (b + 2) (ce_SL (b + 1) (s' 6) (s' 7))) b g s' := by
  obtain ⟨m0, m1, m2, m3, m4, mC, mL⟩ := m
  refine ⟨?_, am_rn (by omega) m1, am_rs m2, am_rn (by omega) m3, am_rn (by omega) m4, fun i hi => (mC i hi).n (by omega) (fun r _ _ => hs r (by omega) (by omega)), fun i hi => (mL i hi).n (by omega) (fun r _ _ => hs r (by omega) (by omega))⟩
  unfold ce_MA
  rw [hs 0 (by omega) (by omega), hs 1 (by omega) (by omega), hs 2 (by omega) (by omega), hs 3 (by omega) (by omega), hs 4 (by omega) (by omega), hs 5 (by omega) (by omega)]
  exact am_rn (by omega) m0
theorem mp_own {b : Nat} {s s' : Nat → Int} (hs : ∀ r, r < 8 → s' r = s r) : ce_MA b s' = ce_MA b s := by
  unfold ce_MA
  rw [hs 0 (by omega), hs 1 (by omega), hs 2 (by omega), hs 3 (by omega), hs 4 (by omega), hs 5 (by omega)]
theorem am_map.wC {h : am_H} {b : Nat} {g : Int → Int} {s s' : Nat → Int} {i : Nat} (m : am_map h b g s) (hi : i < 8) (hs : ∀ r, (r < 12 + 7 * i ∨ 14 + 7 * i < r) → s' r = s r) : am_map (h.set (b + 4 + 3 * i) (ce_CL (b + 5 + 3 * i) (b + 6 + 3 * i) (s' (12 + 7 * i)) (s' (13 + 7 * i)) (s' (14 + 7 * i)))) b g s' := by
  obtain ⟨m0, m1, m2, m3, m4, mC, mL⟩ := m
  refine ⟨?_, am_rn (by omega) m1, ?_, am_rn (by omega) m3, am_rn (by omega) m4, fun j hj => ?_, fun j hj => (mL j hj).n (by omega) (fun r _ _ => hs r (by omega))⟩
  · rw [mp_own (fun r _ => hs r (by omega))]
    exact am_rn (by omega) m0
  · rw [hs 6 (by omega), hs 7 (by omega)]
    exact am_rn (by omega) m2
  · by_cases q : j = i
    · subst q
      obtain ⟨c1, c2, c3⟩ := mC j hj
      refine ⟨am_rs c1, ?_, ?_⟩
      · rw [hs (8 + 7 * j) (by omega), hs (9 + 7 * j) (by omega)]
        exact am_rn (by omega) c2
      · rw [hs (10 + 7 * j) (by omega), hs (11 + 7 * j) (by omega)]
        exact am_rn (by omega) c3
    · exact (mC j hj).n (by omega) (fun r _ _ => hs r (by omega))
theorem am_map.wR {h : am_H} {b : Nat} {g : Int → Int} {s s' : Nat → Int} {i : Nat} (m : am_map h b g s) (hi : i < 8) (hs : ∀ r, r ≠ 8 + 7 * i → r ≠ 9 + 7 * i → s' r = s r) : am_map (h.set (b + 5 + 3 * i) (ce_SL (b + 1) (s' (8 + 7 * i)) (s' (9 + 7 * i)))) b g s' := by
  obtain ⟨m0, m1, m2, m3, m4, mC, mL⟩ := m
  refine ⟨?_, am_rn (by omega) m1, ?_, am_rn (by omega) m3, am_rn (by omega) m4, fun j hj => ?_, fun j hj => (mL j hj).n (by omega) (fun r _ _ => hs r (by omega) (by omega))⟩
  · rw [mp_own (fun r _ => hs r (by omega) (by omega))]
    exact am_rn (by omega) m0
  · rw [hs 6 (by omega) (by omega), hs 7 (by omega) (by omega)]
    exact am_rn (by omega) m2
  · by_cases q : j = i
    · subst q
      obtain ⟨c1, c2, c3⟩ := mC j hj
      refine ⟨?_, am_rs c2, ?_⟩
      · rw [hs (12 + 7 * j) (by omega) (by omega), hs (13 + 7 * j) (by omega) (by omega), hs (14 + 7 * j) (by omega) (by omega)]
        exact am_rn (by omega) c1
      · rw [hs (10 + 7 * j) (by omega) (by omega), hs (11 + 7 * j) (by omega) (by omega)]
        exact am_rn (by omega) c3
    · exact (mC j hj).n (by omega) (fun r _ _ => hs r (by omega) (by omega))
theorem am_map.wB {h : am_H} {b : Nat} {g : Int → Int} {s s' : Nat → Int} {i : Nat} (m : am_map h b g s) (hi : i < 8) (hs : ∀ r, r ≠ 10 + 7 * i → r ≠ 11 + 7 * i → s' r = s r) : am_map (h.set (b + 6 + 3 * i) (ce_SL (b + 1) (s' (10 + 7 * i)) (s' (11 + 7 * i)))) b g s' := by
  obtain ⟨m0, m1, m2, m3, m4, mC, mL⟩ := m
  refine ⟨?_, am_rn (by omega) m1, ?_, am_rn (by omega) m3, am_rn (by omega) m4, fun j hj => ?_, fun j hj => (mL j hj).n (by omega) (fun r _ _ => hs r (by omega) (by omega))⟩
  · rw [mp_own (fun r _ => hs r (by omega) (by omega))]
    exact am_rn (by omega) m0
  · rw [hs 6 (by omega) (by omega), hs 7 (by omega) (by omega)]
    exact am_rn (by omega) m2
  · by_cases q : j = i
    · subst q
      obtain ⟨c1, c2, c3⟩ := mC j hj
      refine ⟨?_, ?_, am_rs c3⟩
      · rw [hs (12 + 7 * j) (by omega) (by omega), hs (13 + 7 * j) (by omega) (by omega), hs (14 + 7 * j) (by omega) (by omega)]
        exact am_rn (by omega) c1
      · rw [hs (8 + 7 * j) (by omega) (by omega), hs (9 + 7 * j) (by omega) (by omega)]
        exact am_rn (by omega) c2
    · exact (mC j hj).n (by omega) (fun r _ _ => hs r (by omega) (by omega))
theorem am_map.wL {h : am_H} {b : Nat} {g : Int → Int} {s s' : Nat → Int} {i : Nat} (m : am_map h b g s) (hi : i < 32) (hs : ∀ r, (r < 70 + 12 * i ∨ 75 + 12 * i < r) → s' r = s r) : am_map (h.set (b + 29 + 4 * i) (ce_ML (b + 30 + 4 * i) (b + 31 + 4 * i) (b + 32 + 4 * i) (s' (70 + 12 * i)) (s' (71 + 12 * i)) (s' (72 + 12 * i)) (s' (73 + 12 * i)) (s' (74 + 12 * i)) (s' (75 + 12 * i)))) b g s' := by
  obtain ⟨m0, m1, m2, m3, m4, mC, mL⟩ := m
  refine ⟨?_, am_rn (by omega) m1, ?_, am_rn (by omega) m3, am_rn (by omega) m4, fun j hj => (mC j hj).n (by omega) (fun r _ _ => hs r (by omega)), fun j hj => ?_⟩
  · rw [mp_own (fun r _ => hs r (by omega))]
    exact am_rn (by omega) m0
  · rw [hs 6 (by omega), hs 7 (by omega)]
    exact am_rn (by omega) m2
  · by_cases q : j = i
    · subst q
      obtain ⟨c1, c2, c3, c4⟩ := mL j hj
      refine ⟨am_rs c1, ?_, ?_, ?_⟩
      · rw [hs (64 + 12 * j) (by omega), hs (65 + 12 * j) (by omega)]
        exact am_rn (by omega) c2
      · rw [hs (66 + 12 * j) (by omega), hs (67 + 12 * j) (by omega)]
        exact am_rn (by omega) c3
      · rw [hs (68 + 12 * j) (by omega), hs (69 + 12 * j) (by omega)]
        exact am_rn (by omega) c4
    · exact (mL j hj).n (by omega) (fun r _ _ => hs r (by omega))
theorem am_map.wO {h : am_H} {b : Nat} {g : Int → Int} {s s' : Nat → Int} {i : Nat} (m : am_map h b g s) (hi : i < 32) (hs : ∀ r, r ≠ 64 + 12 * i → r ≠ 65 + 12 * i → s' r = s r) : am_map (h.set (b + 30 + 4 * i) (ce_SL (b + 1) (s' (64 + 12 * i)) (s' (65 + 12 * i)))) b g s' := by
  obtain ⟨m0, m1, m2, m3, m4, mC, mL⟩ := m
  refine ⟨?_, am_rn (by omega) m1, ?_, am_rn (by omega) m3, am_rn (by omega) m4, fun j hj => (mC j hj).n (by omega) (fun r _ _ => hs r (by omega) (by omega)), fun j hj => ?_⟩
  · rw [mp_own (fun r _ => hs r (by omega) (by omega))]
    exact am_rn (by omega) m0
  · rw [hs 6 (by omega) (by omega), hs 7 (by omega) (by omega)]
    exact am_rn (by omega) m2
  · by_cases q : j = i
    · subst q
      obtain ⟨c1, c2, c3, c4⟩ := mL j hj
      refine ⟨?_, am_rs c2, ?_, ?_⟩
      · rw [hs (70 + 12 * j) (by omega) (by omega), hs (71 + 12 * j) (by omega) (by omega), hs (72 + 12 * j) (by omega) (by omega), hs (73 + 12 * j) (by omega) (by omega), hs (74 + 12 * j) (by omega) (by omega), hs (75 + 12 * j) (by omega) (by omega)]
        exact am_rn (by omega) c1
      · rw [hs (66 + 12 * j) (by omega) (by omega), hs (67 + 12 * j) (by omega) (by omega)]
        exact am_rn (by omega) c3
      · rw [hs (68 + 12 * j) (by omega) (by omega), hs (69 + 12 * j) (by omega) (by omega)]
        exact am_rn (by omega) c4
    · exact (mL j hj).n (by omega) (fun r _ _ => hs r (by omega) (by omega))
theorem am_map.wM {h : am_H} {b : Nat} {g : Int → Int} {s s' : Nat → Int} {i : Nat} (m : am_map h b g s) (hi : i < 32) (hs : ∀ r, r ≠ 66 + 12 * i → r ≠ 67 + 12 * i → s' r = s r) : am_map (h.set (b + 31 + 4 * i) (ce_SL (b + 1) (s' (66 + 12 * i)) (s' (67 + 12 * i)))) b g s' := by
  obtain ⟨m0, m1, m2, m3, m4, mC, mL⟩ := m
  refine ⟨?_, am_rn (by omega) m1, ?_, am_rn (by omega) m3, am_rn (by omega) m4, fun j hj => (mC j hj).n (by omega) (fun r _ _ => hs r (by omega) (by omega)), fun j hj => ?_⟩
  · rw [mp_own (fun r _ => hs r (by omega) (by omega))]
    exact am_rn (by omega) m0
  · rw [hs 6 (by omega) (by omega), hs 7 (by omega) (by omega)]
    exact am_rn (by omega) m2
  · by_cases q : j = i
    · subst q
      obtain ⟨c1, c2, c3, c4⟩ := mL j hj
      refine ⟨?_, ?_, am_rs c3, ?_⟩
      · rw [hs (70 + 12 * j) (by omega) (by omega), hs (71 + 12 * j) (by omega) (by omega), hs (72 + 12 * j) (by omega) (by omega), hs (73 + 12 * j) (by omega) (by omega), hs (74 + 12 * j) (by omega) (by omega), hs (75 + 12 * j) (by omega) (by omega)]
        exact am_rn (by omega) c1
      · rw [hs (64 + 12 * j) (by omega) (by omega), hs (65 + 12 * j) (by omega) (by omega)]
        exact am_rn (by omega) c2
      · rw [hs (68 + 12 * j) (by omega) (by omega), hs (69 + 12 * j) (by omega) (by omega)]
        exact am_rn (by omega) c4
    · exact (mL j hj).n (by omega) (fun r _ _ => hs r (by omega) (by omega))
theorem am_map.wS {h : am_H} {b : Nat} {g : Int → Int} {s s' : Nat → Int} {i : Nat} (m : am_map h b g s) (hi : i < 32) (hs : ∀ r, r ≠ 68 + 12 * i → r ≠ 69 + 12 * i → s' r = s r) : am_map (h.set (b + 32 + 4 * i) (ce_SL (b + 1) (s' (68 + 12 * i)) (s' (69 + 12 * i)))) b g s' := by
  obtain ⟨m0, m1, m2, m3, m4, mC, mL⟩ := m
  refine ⟨?_, am_rn (by omega) m1, ?_, am_rn (by omega) m3, am_rn (by omega) m4, fun j hj => (mC j hj).n (by omega) (fun r _ _ => hs r (by omega) (by omega)), fun j hj => ?_⟩
  · rw [mp_own (fun r _ => hs r (by omega) (by omega))]
    exact am_rn (by omega) m0
  · rw [hs 6 (by omega) (by omega), hs 7 (by omega) (by omega)]
    exact am_rn (by omega) m2
  · by_cases q : j = i
    · subst q
      obtain ⟨c1, c2, c3, c4⟩ := mL j hj
      refine ⟨?_, ?_, ?_, am_rs c4⟩
      · rw [hs (70 + 12 * j) (by omega) (by omega), hs (71 + 12 * j) (by omega) (by omega), hs (72 + 12 * j) (by omega) (by omega), hs (73 + 12 * j) (by omega) (by omega), hs (74 + 12 * j) (by omega) (by omega), hs (75 + 12 * j) (by omega) (by omega)]
        exact am_rn (by omega) c1
      · rw [hs (64 + 12 * j) (by omega) (by omega), hs (65 + 12 * j) (by omega) (by omega)]
        exact am_rn (by omega) c2
      · rw [hs (66 + 12 * j) (by omega) (by omega), hs (67 + 12 * j) (by omega) (by omega)]
        exact am_rn (by omega) c3
    · exact (mL j hj).n (by omega) (fun r _ _ => hs r (by omega) (by omega))
/-- a mapping that is being read stands within its line -/
def mp_bd (g : Int → Int) (s : Nat → Int) : Prop := am_cok g ∧ 0 ≤ s 0 ∧ s 0 ≤ s 1 ∧ s 1 ≤ 600
theorem am_map.fo {h : am_H} {b : Nat} {g : Int → Int} {s : Nat → Int} (m : am_map h b g s) (d : mp_bd g s) : am_fo h b 4 (b + 1) (s 0) (s 1) [.ref (b + 3), .ref (b + 28), am_n (s 2), am_n (s 3), am_n (s 4), am_n (s 5), .ref (b + 2)] 600 g := ⟨Or.inl rfl, m.1, m.2.1, d.1, d.2.1, d.2.2.1, d.2.2.2, by omega⟩
theorem am_w0_set {b : Nat} {s : Nat → Int} (x : Int) : ce_FO 4 (b + 1) x (s 1) [.ref (b + 3), .ref (b + 28), am_n (s 2), am_n (s 3), am_n (s 4), am_n (s 5), .ref (b + 2)] = ce_MA b (am_w s 0 x) := rfl
theorem am_map.here {h : am_H} {b : Nat} {g : Int → Int} {s : Nat → Int} (m : am_map h b g s) (x : Int) : am_map (h.set b (ce_FO 4 (b + 1) x (s 1) [.ref (b + 3), .ref (b + 28), am_n (s 2), am_n (s 3), am_n (s 4), am_n (s 5), .ref (b + 2)])) b g (am_w s 0 x) := m.w0 (s' := am_w s 0 x) (fun r hr => am_w_ne s x (by omega))
theorem ma_takeWord {l : Launch} {G : am_G} {h : am_H} {b w : Nat} {g : Int → Int} {s : Nat → Int} (m : am_map h b g s) (d : mp_bd g s) (hw : w < 15) : am_M l G M_FO_takeWord [.ref b, .retAddr w] h (fun r h' => r = some (am_n (sp_i (sp_tw g w (s 0) (s 1)))) ∧ am_map h' b g (am_w s 0 (sp_th g w (s 0) (s 1))) ∧ am_rg b 157 h h') :=
  (m_FO_takeWord (m.fo d) hw).imp (fun r h' hp => ⟨hp.1, by rw [hp.2]; exact m.here _, by rw [hp.2]; exact am_rg.set _ _ (by omega) (by omega)⟩)
theorem ma_takeNumber {l : Launch} {G : am_G} {h : am_H} {b : Nat} {g : Int → Int} {s : Nat → Int} (m : am_map h b g s) (d : mp_bd g s) : am_M l G M_FO_takeNumber [.ref b] h (fun r h' => match sp_nu g (s 0) (s 1) with
    | none => r = some (am_n (-1)) ∧ h' = h
    | some (v, i) => r = some (am_n v) ∧ am_map h' b g (am_w s 0 i) ∧ am_rg b 157 h h') :=
  (m_FO_takeNumber (m.fo d)).imp (fun r h' hp => by
    cases e : sp_nu g (s 0) (s 1) with
    | none =>
      rw [e] at hp
      exact hp
    | some vi =>
      obtain ⟨v, i⟩ := vi
      rw [e] at hp
      exact ⟨hp.1, by rw [hp.2]; exact m.here _, by rw [hp.2]; exact am_rg.set _ _ (by omega) (by omega)⟩)
theorem sp_th_in {g : Int → Int} {w : Nat} {a e : Int} (h : a ≤ e) : a ≤ sp_th g w a e ∧ sp_th g w a e ≤ e := by
  unfold sp_th
  by_cases q : sp_tw g w a e = true
  · rw [if_pos q]
    unfold sp_tw at q
    rw [Bool.and_eq_true, decide_eq_true_eq] at q
    omega
  · rw [if_neg q]
    omega
theorem sp_nu_in {g : Int → Int} {a e v i : Int} (h : a ≤ e) (hn : sp_nu g a e = some (v, i)) : a < i ∧ i ≤ e ∧ 0 ≤ v ∧ v < 10000 := by
  unfold sp_nu at hn
  split at hn
  · rename_i q
    have h1 := sp_run_le g (e - a).toNat a
    have h2 := sp_val_in g a (sp_run g a (e - a).toNat) (fun j hj => sp_run_fig g (e - a).toNat a j hj)
    injection hn with hn
    injection hn with e1 e2
    have h3 : (10 : Int) ^ (sp_run g a (e - a).toNat) ≤ 10000 := by
      have : sp_run g a (e - a).toNat = 1 ∨ sp_run g a (e - a).toNat = 2 ∨ sp_run g a (e - a).toNat = 3 ∨ sp_run g a (e - a).toNat = 4 := by omega
      rcases this with z | z | z | z <;> rw [z] <;> decide
    omega
  · cases hn
theorem sp_tp_in (g : Int → Int) (mp : Int) : ∀ (n : Nat) (i ps q i' ps' : Int), ps ≤ i → sp_tp g mp n i ps q = some (i', ps') → i ≤ i' ∧ i' ≤ i + n ∧ ps ≤ ps' ∧ ps' ≤ i'
  | 0, i, ps, q, i', ps', hp, h => by
    simp only [sp_tp, Option.some.injEq, Prod.mk.injEq] at h
    omega
  | n + 1, i, ps, q, i', ps', hp, h => by
    unfold sp_tp at h
    split at h
    · have := sp_tp_in g mp n (i + 1) ps q i' ps' (by omega) h
      omega
    · split at h
      · simp only [Option.some.injEq, Prod.mk.injEq] at h
        omega
      · split at h
        · cases h
        · have := sp_tp_in g mp n (i + 1) (i + 1) (q + 1) i' ps' (by omega) h
          omega
theorem sp_take_in {g : Int → Int} {mp ms a e i : Int} (h : a ≤ e) (hs : sp_take g mp ms a e = some i) : a < i ∧ i ≤ e := by
  unfold sp_take at hs
  cases z : sp_tp g mp (e - a).toNat a a 1 with
  | none => rw [z] at hs; cases hs
  | some x =>
    obtain ⟨i', ps⟩ := x
    rw [z] at hs
    have h1 := sp_tp_in g mp (e - a).toNat a a 1 i' ps (by omega) z
    simp only at hs
    split at hs
    · cases hs
    · injection hs with hs
      omega
