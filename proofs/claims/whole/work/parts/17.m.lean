/-! single numbers of a mapping are written; the parts of a method line -/
theorem am_map.C {h : am_H} {b : Nat} {g : Int → Int} {s : Nat → Int} (m : am_map h b g s) {i : Nat} (hi : i < 8) : mp_C h b s i := m.2.2.2.2.2.1 i hi
theorem am_map.L {h : am_H} {b : Nat} {g : Int → Int} {s : Nat → Int} (m : am_map h b g s) {i : Nat} (hi : i < 32) : mp_L h b s i := m.2.2.2.2.2.2 i hi
theorem am_map.e0 {h : am_H} {b : Nat} {g : Int → Int} {s : Nat → Int} (m : am_map h b g s) (x : Int) : ∃ (h1 : am_H) (s1 : Nat → Int), h.set b (ce_FO 4 (b + 1) x (s 1) [.ref (b + 3), .ref (b + 28), am_n (s 2), am_n (s 3), am_n (s 4), am_n (s 5), .ref (b + 2)]) = h1 ∧ am_map h1 b g s1 ∧ am_rg b 157 h h1 ∧ s1 0 = x ∧ ∀ r, r ≠ 0 → s1 r = s r :=
  ⟨_, am_w s 0 x, rfl, m.w0 (s' := am_w s 0 x) (fun r hr => am_w_ne s x (by omega)), am_rg.set _ _ (by omega) (by omega), am_w_eq s 0 x, fun r hr => am_w_ne s x hr⟩
theorem am_map.e1 {h : am_H} {b : Nat} {g : Int → Int} {s : Nat → Int} (m : am_map h b g s) (x : Int) : ∃ (h1 : am_H) (s1 : Nat → Int), h.set b (ce_FO 4 (b + 1) (s 0) x [.ref (b + 3), .ref (b + 28), am_n (s 2), am_n (s 3), am_n (s 4), am_n (s 5), .ref (b + 2)]) = h1 ∧ am_map h1 b g s1 ∧ am_rg b 157 h h1 ∧ s1 1 = x ∧ ∀ r, r ≠ 1 → s1 r = s r :=
  ⟨_, am_w s 1 x, rfl, m.w0 (s' := am_w s 1 x) (fun r hr => am_w_ne s x (by omega)), am_rg.set _ _ (by omega) (by omega), am_w_eq s 1 x, fun r hr => am_w_ne s x hr⟩
theorem am_map.e2 {h : am_H} {b : Nat} {g : Int → Int} {s : Nat → Int} (m : am_map h b g s) (x : Int) : ∃ (h1 : am_H) (s1 : Nat → Int), h.set b (ce_FO 4 (b + 1) (s 0) (s 1) [.ref (b + 3), .ref (b + 28), am_n x, am_n (s 3), am_n (s 4), am_n (s 5), .ref (b + 2)]) = h1 ∧ am_map h1 b g s1 ∧ am_rg b 157 h h1 ∧ s1 2 = x ∧ ∀ r, r ≠ 2 → s1 r = s r :=
  ⟨_, am_w s 2 x, rfl, m.w0 (s' := am_w s 2 x) (fun r hr => am_w_ne s x (by omega)), am_rg.set _ _ (by omega) (by omega), am_w_eq s 2 x, fun r hr => am_w_ne s x hr⟩
theorem am_map.e3 {h : am_H} {b : Nat} {g : Int → Int} {s : Nat → Int} (m : am_map h b g s) (x : Int) : ∃ (h1 : am_H) (s1 : Nat → Int), h.set b (ce_FO 4 (b + 1) (s 0) (s 1) [.ref (b + 3), .ref (b + 28), am_n (s 2), am_n x, am_n (s 4), am_n (s 5), .ref (b + 2)]) = h1 ∧ am_map h1 b g s1 ∧ am_rg b 157 h h1 ∧ s1 3 = x ∧ ∀ r, r ≠ 3 → s1 r = s r :=
  ⟨_, am_w s 3 x, rfl, m.w0 (s' := am_w s 3 x) (fun r hr => am_w_ne s x (by omega)), am_rg.set _ _ (by omega) (by omega), am_w_eq s 3 x, fun r hr => am_w_ne s x hr⟩
theorem am_map.e4 {h : am_H} {b : Nat} {g : Int → Int} {s : Nat → Int} (m : am_map h b g s) (x : Int) : ∃ (h1 : am_H) (s1 : Nat → Int), h.set b (ce_FO 4 (b + 1) (s 0) (s 1) [.ref (b + 3), .ref (b + 28), am_n (s 2), am_n (s 3), am_n x, am_n (s 5), .ref (b + 2)]) = h1 ∧ am_map h1 b g s1 ∧ am_rg b 157 h h1 ∧ s1 4 = x ∧ ∀ r, r ≠ 4 → s1 r = s r :=
  ⟨_, am_w s 4 x, rfl, m.w0 (s' := am_w s 4 x) (fun r hr => am_w_ne s x (by omega)), am_rg.set _ _ (by omega) (by omega), am_w_eq s 4 x, fun r hr => am_w_ne s x hr⟩
theorem am_map.e5 {h : am_H} {b : Nat} {g : Int → Int} {s : Nat → Int} (m : am_map h b g s) (x : Int) : ∃ (h1 : am_H) (s1 : Nat → Int), h.set b (ce_FO 4 (b + 1) (s 0) (s 1) [.ref (b + 3), .ref (b + 28), am_n (s 2), am_n (s 3), am_n (s 4), am_n x, .ref (b + 2)]) = h1 ∧ am_map h1 b g s1 ∧ am_rg b 157 h h1 ∧ s1 5 = x ∧ ∀ r, r ≠ 5 → s1 r = s r :=
  ⟨_, am_w s 5 x, rfl, m.w0 (s' := am_w s 5 x) (fun r hr => am_w_ne s x (by omega)), am_rg.set _ _ (by omega) (by omega), am_w_eq s 5 x, fun r hr => am_w_ne s x hr⟩
theorem am_map.e12 {h : am_H} {b : Nat} {g : Int → Int} {s : Nat → Int} (m : am_map h b g s) {i : Nat} (hi : i < 8) (x : Int) : ∃ (h1 : am_H) (s1 : Nat → Int), h.set (b + 4 + 3 * i) (ce_CL (b + 5 + 3 * i) (b + 6 + 3 * i) x (s (13 + 7 * i)) (s (14 + 7 * i))) = h1 ∧ am_map h1 b g s1 ∧ am_rg b 157 h h1 ∧ s1 (12 + 7 * i) = x ∧ ∀ r, r ≠ 12 + 7 * i → s1 r = s r := by
  have q := m.wC (s' := am_w s (12 + 7 * i) x) hi (fun r hr => am_w_ne s x (by omega))
  rw [am_w_eq, am_w_ne s x (show 13 + 7 * i ≠ 12 + 7 * i by omega), am_w_ne s x (show 14 + 7 * i ≠ 12 + 7 * i by omega)] at q
  exact ⟨_, _, rfl, q, am_rg.set _ _ (by omega) (by omega), am_w_eq s _ x, fun r hr => am_w_ne s x hr⟩
theorem am_map.e13 {h : am_H} {b : Nat} {g : Int → Int} {s : Nat → Int} (m : am_map h b g s) {i : Nat} (hi : i < 8) (x : Int) : ∃ (h1 : am_H) (s1 : Nat → Int), h.set (b + 4 + 3 * i) (ce_CL (b + 5 + 3 * i) (b + 6 + 3 * i) (s (12 + 7 * i)) x (s (14 + 7 * i))) = h1 ∧ am_map h1 b g s1 ∧ am_rg b 157 h h1 ∧ s1 (13 + 7 * i) = x ∧ ∀ r, r ≠ 13 + 7 * i → s1 r = s r := by
  have q := m.wC (s' := am_w s (13 + 7 * i) x) hi (fun r hr => am_w_ne s x (by omega))
  rw [am_w_ne s x (show 12 + 7 * i ≠ 13 + 7 * i by omega), am_w_eq, am_w_ne s x (show 14 + 7 * i ≠ 13 + 7 * i by omega)] at q
  exact ⟨_, _, rfl, q, am_rg.set _ _ (by omega) (by omega), am_w_eq s _ x, fun r hr => am_w_ne s x hr⟩
theorem am_map.e14 {h : am_H} {b : Nat} {g : Int → Int} {s : Nat → Int} (m : am_map h b g s) {i : Nat} (hi : i < 8) (x : Int) : ∃ (h1 : am_H) (s1 : Nat → Int), h.set (b + 4 + 3 * i) (ce_CL (b + 5 + 3 * i) (b + 6 + 3 * i) (s (12 + 7 * i)) (s (13 + 7 * i)) x) = h1 ∧ am_map h1 b g s1 ∧ am_rg b 157 h h1 ∧ s1 (14 + 7 * i) = x ∧ ∀ r, r ≠ 14 + 7 * i → s1 r = s r := by
  have q := m.wC (s' := am_w s (14 + 7 * i) x) hi (fun r hr => am_w_ne s x (by omega))
  rw [am_w_ne s x (show 12 + 7 * i ≠ 14 + 7 * i by omega), am_w_ne s x (show 13 + 7 * i ≠ 14 + 7 * i by omega), am_w_eq] at q
  exact ⟨_, _, rfl, q, am_rg.set _ _ (by omega) (by omega), am_w_eq s _ x, fun r hr => am_w_ne s x hr⟩
theorem am_map.e70 {h : am_H} {b : Nat} {g : Int → Int} {s : Nat → Int} (m : am_map h b g s) {i : Nat} (hi : i < 32) (x : Int) : ∃ (h1 : am_H) (s1 : Nat → Int), h.set (b + 29 + 4 * i) (ce_ML (b + 30 + 4 * i) (b + 31 + 4 * i) (b + 32 + 4 * i) x (s (71 + 12 * i)) (s (72 + 12 * i)) (s (73 + 12 * i)) (s (74 + 12 * i)) (s (75 + 12 * i))) = h1 ∧ am_map h1 b g s1 ∧ am_rg b 157 h h1 ∧ s1 (70 + 12 * i) = x ∧ ∀ r, r ≠ 70 + 12 * i → s1 r = s r := by
  have q := m.wL (s' := am_w s (70 + 12 * i) x) hi (fun r hr => am_w_ne s x (by omega))
  rw [am_w_eq, am_w_ne s x (show 71 + 12 * i ≠ 70 + 12 * i by omega), am_w_ne s x (show 72 + 12 * i ≠ 70 + 12 * i by omega), am_w_ne s x (show 73 + 12 * i ≠ 70 + 12 * i by omega), am_w_ne s x (show 74 + 12 * i ≠ 70 + 12 * i by omega), am_w_ne s x (show 75 + 12 * i ≠ 70 + 12 * i by omega)] at q
  exact ⟨_, _, rfl, q, am_rg.set _ _ (by omega) (by omega), am_w_eq s _ x, fun r hr => am_w_ne s x hr⟩
theorem am_map.e71 {h : am_H} {b : Nat} {g : Int → Int} {s : Nat → Int} (m : am_map h b g s) {i : Nat} (hi : i < 32) (x : Int) : ∃ (h1 : am_H) (s1 : Nat → Int), h.set (b + 29 + 4 * i) (ce_ML (b + 30 + 4 * i) (b + 31 + 4 * i) (b + 32 + 4 * i) (s (70 + 12 * i)) x (s (72 + 12 * i)) (s (73 + 12 * i)) (s (74 + 12 * i)) (s (75 + 12 * i))) = h1 ∧ am_map h1 b g s1 ∧ am_rg b 157 h h1 ∧ s1 (71 + 12 * i) = x ∧ ∀ r, r ≠ 71 + 12 * i → s1 r = s r := by
  have q := m.wL (s' := am_w s (71 + 12 * i) x) hi (fun r hr => am_w_ne s x (by omega))
  rw [am_w_ne s x (show 70 + 12 * i ≠ 71 + 12 * i by omega), am_w_eq, am_w_ne s x (show 72 + 12 * i ≠ 71 + 12 * i by omega), am_w_ne s x (show 73 + 12 * i ≠ 71 + 12 * i by omega), am_w_ne s x (show 74 + 12 * i ≠ 71 + 12 * i by omega), am_w_ne s x (show 75 + 12 * i ≠ 71 + 12 * i by omega)] at q
  exact ⟨_, _, rfl, q, am_rg.set _ _ (by omega) (by omega), am_w_eq s _ x, fun r hr => am_w_ne s x hr⟩
theorem am_map.e72 {h : am_H} {b : Nat} {g : Int → Int} {s : Nat → Int} (m : am_map h b g s) {i : Nat} (hi : i < 32) (x : Int) : ∃ (h1 : am_H) (s1 : Nat → Int), h.set (b + 29 + 4 * i) (ce_ML (b + 30 + 4 * i) (b + 31 + 4 * i) (b + 32 + 4 * i) (s (70 + 12 * i)) (s (71 + 12 * i)) x (s (73 + 12 * i)) (s (74 + 12 * i)) (s (75 + 12 * i))) = h1 ∧ am_map h1 b g s1 ∧ am_rg b 157 h h1 ∧ s1 (72 + 12 * i) = x ∧ ∀ r, r ≠ 72 + 12 * i → s1 r = s r := by
  have q := m.wL (s' := am_w s (72 + 12 * i) x) hi (fun r hr => am_w_ne s x (by omega))
  rw [am_w_ne s x (show 70 + 12 * i ≠ 72 + 12 * i by omega), am_w_ne s x (show 71 + 12 * i ≠ 72 + 12 * i by omega), am_w_eq, am_w_ne s x (show 73 + 12 * i ≠ 72 + 12 * i by omega), am_w_ne s x (show 74 + 12 * i ≠ 72 + 12 * i by omega), am_w_ne s x (show 75 + 12 * i ≠ 72 + 12 * i by omega)] at q
  exact ⟨_, _, rfl, q, am_rg.set _ _ (by omega) (by omega), am_w_eq s _ x, fun r hr => am_w_ne s x hr⟩
theorem am_map.e73 {h : am_H} {b : Nat} {g : Int → Int} {s : Nat → Int} (m : am_map h b g s) {i : Nat} (hi : i < 32) (x : Int) : ∃ (h1 : am_H) (s1 : Nat → Int), h.set (b + 29 + 4 * i) (ce_ML (b + 30 + 4 * i) (b + 31 + 4 * i) (b + 32 + 4 * i) (s (70 + 12 * i)) (s (71 + 12 * i)) (s (72 + 12 * i)) x (s (74 + 12 * i)) (s (75 + 12 * i))) = h1 ∧ am_map h1 b g s1 ∧ am_rg b 157 h h1 ∧ s1 (73 + 12 * i) = x ∧ ∀ r, r ≠ 73 + 12 * i → s1 r = s r := by
  have q := m.wL (s' := am_w s (73 + 12 * i) x) hi (fun r hr => am_w_ne s x (by omega))
  rw [am_w_ne s x (show 70 + 12 * i ≠ 73 + 12 * i by omega), am_w_ne s x (show 71 + 12 * i ≠ 73 + 12 * i by omega), am_w_ne s x (show 72 + 12 * i ≠ 73 + 12 * i by omega), am_w_eq, am_w_ne s x (show 74 + 12 * i ≠ 73 + 12 * i by omega), am_w_ne s x (show 75 + 12 * i ≠ 73 + 12 * i by omega)] at q
  exact ⟨_, _, rfl, q, am_rg.set _ _ (by omega) (by omega), am_w_eq s _ x, fun r hr => am_w_ne s x hr⟩
theorem am_map.e74 {h : am_H} {b : Nat} {g : Int → Int} {s : Nat → Int} (m : am_map h b g s) {i : Nat} (hi : i < 32) (x : Int) : ∃ (h1 : am_H) (s1 : Nat → Int), h.set (b + 29 + 4 * i) (ce_ML (b + 30 + 4 * i) (b + 31 + 4 * i) (b + 32 + 4 * i) (s (70 + 12 * i)) (s (71 + 12 * i)) (s (72 + 12 * i)) (s (73 + 12 * i)) x (s (75 + 12 * i))) = h1 ∧ am_map h1 b g s1 ∧ am_rg b 157 h h1 ∧ s1 (74 + 12 * i) = x ∧ ∀ r, r ≠ 74 + 12 * i → s1 r = s r := by
  have q := m.wL (s' := am_w s (74 + 12 * i) x) hi (fun r hr => am_w_ne s x (by omega))
  rw [am_w_ne s x (show 70 + 12 * i ≠ 74 + 12 * i by omega), am_w_ne s x (show 71 + 12 * i ≠ 74 + 12 * i by omega), am_w_ne s x (show 72 + 12 * i ≠ 74 + 12 * i by omega), am_w_ne s x (show 73 + 12 * i ≠ 74 + 12 * i by omega), am_w_eq, am_w_ne s x (show 75 + 12 * i ≠ 74 + 12 * i by omega)] at q
  exact ⟨_, _, rfl, q, am_rg.set _ _ (by omega) (by omega), am_w_eq s _ x, fun r hr => am_w_ne s x hr⟩
theorem am_map.e75 {h : am_H} {b : Nat} {g : Int → Int} {s : Nat → Int} (m : am_map h b g s) {i : Nat} (hi : i < 32) (x : Int) : ∃ (h1 : am_H) (s1 : Nat → Int), h.set (b + 29 + 4 * i) (ce_ML (b + 30 + 4 * i) (b + 31 + 4 * i) (b + 32 + 4 * i) (s (70 + 12 * i)) (s (71 + 12 * i)) (s (72 + 12 * i)) (s (73 + 12 * i)) (s (74 + 12 * i)) x) = h1 ∧ am_map h1 b g s1 ∧ am_rg b 157 h h1 ∧ s1 (75 + 12 * i) = x ∧ ∀ r, r ≠ 75 + 12 * i → s1 r = s r := by
  have q := m.wL (s' := am_w s (75 + 12 * i) x) hi (fun r hr => am_w_ne s x (by omega))
  rw [am_w_ne s x (show 70 + 12 * i ≠ 75 + 12 * i by omega), am_w_ne s x (show 71 + 12 * i ≠ 75 + 12 * i by omega), am_w_ne s x (show 72 + 12 * i ≠ 75 + 12 * i by omega), am_w_ne s x (show 73 + 12 * i ≠ 75 + 12 * i by omega), am_w_ne s x (show 74 + 12 * i ≠ 75 + 12 * i by omega), am_w_eq] at q
  exact ⟨_, _, rfl, q, am_rg.set _ _ (by omega) (by omega), am_w_eq s _ x, fun r hr => am_w_ne s x hr⟩
theorem am_map.s2 {h : am_H} {b : Nat} {g : Int → Int} {s : Nat → Int} (m : am_map h b g s) (x y : Int) : ∃ (h1 : am_H) (s1 : Nat → Int), h.set (b + 2) (ce_SL (b + 1) x y) = h1 ∧ am_map h1 b g s1 ∧ am_rg b 157 h h1 ∧ s1 6 = x ∧ s1 7 = y ∧ ∀ r, r ≠ 6 → r ≠ 7 → s1 r = s r := by
  have q := m.w2 (s' := am_w (am_w s 6 x) 7 y) (fun r h1 h2 => by rw [am_w_ne _ y (by omega), am_w_ne s x (by omega)])
  rw [am_w_ne _ y (show 6 ≠ 7 by omega), am_w_eq, am_w_eq] at q
  exact ⟨_, _, rfl, q, am_rg.set _ _ (by omega) (by omega), by rw [am_w_ne _ y (by omega), am_w_eq], am_w_eq _ _ y, fun r h1 h2 => by rw [am_w_ne _ y h2, am_w_ne s x h1]⟩
theorem am_map.sR {h : am_H} {b : Nat} {g : Int → Int} {s : Nat → Int} (m : am_map h b g s) {i : Nat} (hi : i < 8) (x y : Int) : ∃ (h1 : am_H) (s1 : Nat → Int), h.set (b + 5 + 3 * i) (ce_SL (b + 1) x y) = h1 ∧ am_map h1 b g s1 ∧ am_rg b 157 h h1 ∧ s1 (8 + 7 * i) = x ∧ s1 (9 + 7 * i) = y ∧ ∀ r, r ≠ 8 + 7 * i → r ≠ 9 + 7 * i → s1 r = s r := by
  have q := m.wR (s' := am_w (am_w s (8 + 7 * i) x) (9 + 7 * i) y) hi (fun r h1 h2 => by rw [am_w_ne _ y (by omega), am_w_ne s x (by omega)])
  rw [am_w_ne _ y (show 8 + 7 * i ≠ 9 + 7 * i by omega), am_w_eq, am_w_eq] at q
  exact ⟨_, _, rfl, q, am_rg.set _ _ (by omega) (by omega), by rw [am_w_ne _ y (by omega), am_w_eq], am_w_eq _ _ y, fun r h1 h2 => by rw [am_w_ne _ y h2, am_w_ne s x h1]⟩
theorem am_map.sB {h : am_H} {b : Nat} {g : Int → Int} {s : Nat → Int} (m : am_map h b g s) {i : Nat} (hi : i < 8) (x y : Int) : ∃ (h1 : am_H) (s1 : Nat → Int), h.set (b + 6 + 3 * i) (ce_SL (b + 1) x y) = h1 ∧ am_map h1 b g s1 ∧ am_rg b 157 h h1 ∧ s1 (10 + 7 * i) = x ∧ s1 (11 + 7 * i) = y ∧ ∀ r, r ≠ 10 + 7 * i → r ≠ 11 + 7 * i → s1 r = s r := by
  have q := m.wB (s' := am_w (am_w s (10 + 7 * i) x) (11 + 7 * i) y) hi (fun r h1 h2 => by rw [am_w_ne _ y (by omega), am_w_ne s x (by omega)])
  rw [am_w_ne _ y (show 10 + 7 * i ≠ 11 + 7 * i by omega), am_w_eq, am_w_eq] at q
  exact ⟨_, _, rfl, q, am_rg.set _ _ (by omega) (by omega), by rw [am_w_ne _ y (by omega), am_w_eq], am_w_eq _ _ y, fun r h1 h2 => by rw [am_w_ne _ y h2, am_w_ne s x h1]⟩
theorem am_map.sO {h : am_H} {b : Nat} {g : Int → Int} {s : Nat → Int} (m : am_map h b g s) {i : Nat} (hi : i < 32) (x y : Int) : ∃ (h1 : am_H) (s1 : Nat → Int), h.set (b + 30 + 4 * i) (ce_SL (b + 1) x y) = h1 ∧ am_map h1 b g s1 ∧ am_rg b 157 h h1 ∧ s1 (64 + 12 * i) = x ∧ s1 (65 + 12 * i) = y ∧ ∀ r, r ≠ 64 + 12 * i → r ≠ 65 + 12 * i → s1 r = s r := by
  have q := m.wO (s' := am_w (am_w s (64 + 12 * i) x) (65 + 12 * i) y) hi (fun r h1 h2 => by rw [am_w_ne _ y (by omega), am_w_ne s x (by omega)])
  rw [am_w_ne _ y (show 64 + 12 * i ≠ 65 + 12 * i by omega), am_w_eq, am_w_eq] at q
  exact ⟨_, _, rfl, q, am_rg.set _ _ (by omega) (by omega), by rw [am_w_ne _ y (by omega), am_w_eq], am_w_eq _ _ y, fun r h1 h2 => by rw [am_w_ne _ y h2, am_w_ne s x h1]⟩
theorem am_map.sM {h : am_H} {b : Nat} {g : Int → Int} {s : Nat → Int} (m : am_map h b g s) {i : Nat} (hi : i < 32) (x y : Int) : ∃ (h1 : am_H) (s1 : Nat → Int), h.set (b + 31 + 4 * i) (ce_SL (b + 1) x y) = h1 ∧ am_map h1 b g s1 ∧ am_rg b 157 h h1 ∧ s1 (66 + 12 * i) = x ∧ s1 (67 + 12 * i) = y ∧ ∀ r, r ≠ 66 + 12 * i → r ≠ 67 + 12 * i → s1 r = s r := by
  have q := m.wM (s' := am_w (am_w s (66 + 12 * i) x) (67 + 12 * i) y) hi (fun r h1 h2 => by rw [am_w_ne _ y (by omega), am_w_ne s x (by omega)])
  rw [am_w_ne _ y (show 66 + 12 * i ≠ 67 + 12 * i by omega), am_w_eq, am_w_eq] at q
  exact ⟨_, _, rfl, q, am_rg.set _ _ (by omega) (by omega), by rw [am_w_ne _ y (by omega), am_w_eq], am_w_eq _ _ y, fun r h1 h2 => by rw [am_w_ne _ y h2, am_w_ne s x h1]⟩
theorem am_map.sS {h : am_H} {b : Nat} {g : Int → Int} {s : Nat → Int} (m : am_map h b g s) {i : Nat} (hi : i < 32) (x y : Int) : ∃ (h1 : am_H) (s1 : Nat → Int), h.set (b + 32 + 4 * i) (ce_SL (b + 1) x y) = h1 ∧ am_map h1 b g s1 ∧ am_rg b 157 h h1 ∧ s1 (68 + 12 * i) = x ∧ s1 (69 + 12 * i) = y ∧ ∀ r, r ≠ 68 + 12 * i → r ≠ 69 + 12 * i → s1 r = s r := by
  have q := m.wS (s' := am_w (am_w s (68 + 12 * i) x) (69 + 12 * i) y) hi (fun r h1 h2 => by rw [am_w_ne _ y (by omega), am_w_ne s x (by omega)])
  rw [am_w_ne _ y (show 68 + 12 * i ≠ 69 + 12 * i by omega), am_w_eq, am_w_eq] at q
  exact ⟨_, _, rfl, q, am_rg.set _ _ (by omega) (by omega), by rw [am_w_ne _ y (by omega), am_w_eq], am_w_eq _ _ y, fun r h1 h2 => by rw [am_w_ne _ y h2, am_w_ne s x h1]⟩
/-- what a method of a mapping leaves: the mapping with other numbers, nothing outside it changed -/
def mp_to (h : am_H) (b : Nat) (g : Int → Int) (h' : am_H) (s' : Nat → Int) : Prop := am_map h' b g s' ∧ am_rg b 157 h h'
theorem mp_to.tr {h h1 h2 : am_H} {b : Nat} {g : Int → Int} {s1 s2 : Nat → Int} (x : mp_to h b g h1 s1) (y : mp_to h1 b g h2 s2) : mp_to h b g h2 s2 := ⟨y.1, x.2.tr y.2⟩
theorem mb_takeWord {l : Launch} {G : am_G} {h : am_H} {b w : Nat} {g : Int → Int} {s : Nat → Int} (m : am_map h b g s) (d : mp_bd g s) (hw : w < 15) : am_M l G M_FO_takeWord [.ref b, .retAddr w] h (fun r h' => r = some (am_n (sp_i (sp_tw g w (s 0) (s 1)))) ∧ ∃ s', mp_to h b g h' s' ∧ s' 0 = sp_th g w (s 0) (s 1) ∧ ∀ r, r ≠ 0 → s' r = s r) :=
  (ma_takeWord m d hw).imp (fun r h' hp => ⟨hp.1, _, hp.2, am_w_eq s 0 _, fun r hr => am_w_ne s _ hr⟩)
/-- a number, or -1; where one stands behind it -/
def sp_nv (g : Int → Int) (a e : Int) : Int := match sp_nu g a e with
  | none => -1
  | some (v, _) => v
def sp_ni (g : Int → Int) (a e : Int) : Int := match sp_nu g a e with
  | none => a
  | some (_, i) => i
theorem sp_nv_in {g : Int → Int} {a e : Int} (h : a ≤ e) : -1 ≤ sp_nv g a e ∧ sp_nv g a e < 10000 ∧ a ≤ sp_ni g a e ∧ sp_ni g a e ≤ e := by
  unfold sp_nv sp_ni
  cases z : sp_nu g a e with
  | none => simp only; omega
  | some x =>
    obtain ⟨v, i⟩ := x
    have := sp_nu_in h z
    simp only
    omega
theorem mb_takeNumber {l : Launch} {G : am_G} {h : am_H} {b : Nat} {g : Int → Int} {s : Nat → Int} (m : am_map h b g s) (d : mp_bd g s) : am_M l G M_FO_takeNumber [.ref b] h (fun r h' => r = some (am_n (sp_nv g (s 0) (s 1))) ∧ ∃ s', mp_to h b g h' s' ∧ s' 0 = sp_ni g (s 0) (s 1) ∧ ∀ r, r ≠ 0 → s' r = s r) :=
  (ma_takeNumber m d).imp (fun r h' hp => by
    unfold sp_nv sp_ni
    cases e : sp_nu g (s 0) (s 1) with
    | none =>
      rw [e] at hp
      obtain ⟨hp1, rfl⟩ := hp
      exact ⟨hp1, s, ⟨m, am_rg.rf⟩, rfl, fun _ _ => rfl⟩
    | some vi =>
      obtain ⟨v, i⟩ := vi
      rw [e] at hp
      exact ⟨hp.1, _, hp.2, am_w_eq s 0 _, fun r hr => am_w_ne s _ hr⟩)
/-- a range: a and b, or none; none at all if it is wrong -/
def sp_rg (g : Int → Int) (a e : Int) : Option (Int × Int × Int) := if a < e ∧ sp_fig (g a) = true then
    (if sp_nv g a e ≠ -1 ∧ sp_tw g 1 (sp_ni g a e) e = true ∧ sp_nv g (sp_ni g a e + 1) e ≠ -1 ∧ sp_tw g 1 (sp_ni g (sp_ni g a e + 1) e) e = true ∧ sp_nv g a e ≤ sp_nv g (sp_ni g a e + 1) e then some (sp_ni g (sp_ni g a e + 1) e + 1, sp_nv g a e, sp_nv g (sp_ni g a e + 1) e) else none)
  else some (a, -1, -1)
theorem sp_th_1 {g : Int → Int} {a e : Int} (h : sp_tw g 1 a e = true) : sp_th g 1 a e = a + 1 := by
  unfold sp_th
  rw [if_pos h]
  rfl
theorem m_MA_takesRange {l : Launch} {G : am_G} {h : am_H} {b i : Nat} {g : Int → Int} {s : Nat → Int} (m : am_map h b g s) (d : mp_bd g s) (hi : i < 32) : am_M l G M_MA_takesRange [.ref b, .ref (b + 29 + 4 * i)] h (fun r h' => ∃ s', mp_to h b g h' s' ∧ (∀ r, r ≠ 0 → r ≠ 72 + 12 * i → r ≠ 73 + 12 * i → s' r = s r) ∧ match sp_rg g (s 0) (s 1) with
    | none => r = some (am_n 0)
    | some (a, x, y) => r = some (am_n 1) ∧ s' 0 = a ∧ s' (72 + 12 * i) = x ∧ s' (73 + 12 * i) = y) := by
  have dd := d
  obtain ⟨hg, d0, d1, d2⟩ := dd
  refine am_M.of (by decide) (Nat.le_of_ble_eq_true rfl) (fun X hB hR => ?_)
  show am_Z X 0 [.ref b, .ref (b + 29 + 4 * i)] [] h 0 0
  obtain ⟨h1, s1, e1, m1, g1, v1, o1⟩ := m.e72 hi (-1)
  obtain ⟨h2, s2, e2, m2, g2, v2, o2⟩ := m1.e73 hi (-1)
  have b2 : mp_bd g s2 := ⟨hg, by rw [o2 0 (by omega), o1 0 (by omega)]; exact d0, by rw [o2 0 (by omega), o2 1 (by omega), o1 0 (by omega), o1 1 (by omega)]; exact d1, by rw [o2 1 (by omega), o1 1 (by omega)]; exact d2⟩
  have q0 : s2 0 = s 0 := by rw [o2 0 (by omega), o1 0 (by omega)]
  have q1 : s2 1 = s 1 := by rw [o2 1 (by omega), o1 1 (by omega)]
  refine am_aload_n hB d_MA_takesRange_0 rfl rfl rfl ?_
  refine ai_const hB d_MA_takesRange_1 ?_
  refine am_putf hB d_MA_takesRange_2 P_MA_126_5 (m.L hi).1 (by simp) am_fit.i e1 ?_
  refine am_aload_n hB d_MA_takesRange_5 rfl rfl rfl ?_
  refine ai_const hB d_MA_takesRange_6 ?_
  refine am_putf hB d_MA_takesRange_7 P_MA_129_5 (m1.L hi).1 (by simp) am_fit.i e2 ?_
  refine am_aload_n hB d_MA_takesRange_10 rfl rfl rfl ?_
  refine am_callU hB hR (as := []) m2.1 (m_FO_isAtFigure (m2.fo b2)) c_MA_132_4 rfl rfl d_MA_takesRange_11 ⟨by decide, Nat.le_of_ble_eq_true rfl⟩ ⟨by decide, by decide⟩ rfl rfl (fun rr hh hp => ?_)
  obtain ⟨rfl, rfl⟩ := hp
  rw [q0, q1]
  by_cases hf : s 0 < s 1 ∧ sp_fig (g (s 0)) = true
  · rw [decide_eq_true hf.1, hf.2]
    show am_Z X 14 [.ref b, .ref (b + 29 + 4 * i)] [am_n 1] h2 0 0
    refine ai_zne (tgt := 19) hB d_MA_takesRange_14 (by decide) (fun hc => ?_) (fun hc => ?_)
    · have hrg : sp_rg g (s 0) (s 1) = if sp_nv g (s 0) (s 1) ≠ -1 ∧ sp_tw g 1 (sp_ni g (s 0) (s 1)) (s 1) = true ∧ sp_nv g (sp_ni g (s 0) (s 1) + 1) (s 1) ≠ -1 ∧ sp_tw g 1 (sp_ni g (sp_ni g (s 0) (s 1) + 1) (s 1)) (s 1) = true ∧ sp_nv g (s 0) (s 1) ≤ sp_nv g (sp_ni g (s 0) (s 1) + 1) (s 1) then some (sp_ni g (sp_ni g (s 0) (s 1) + 1) (s 1) + 1, sp_nv g (s 0) (s 1), sp_nv g (sp_ni g (s 0) (s 1) + 1) (s 1)) else none := if_pos hf
      have n1 := sp_nv_in (g := g) d1
      refine am_aload_n hB d_MA_takesRange_19 rfl rfl rfl ?_
      refine am_aload_n hB d_MA_takesRange_20 rfl rfl rfl ?_
      refine am_callU hB hR (as := []) m2.1 (mb_takeNumber m2 b2) c_MA_135_4 rfl rfl d_MA_takesRange_21 ⟨by decide, Nat.le_of_ble_eq_true rfl⟩ ⟨by decide, by decide⟩ rfl rfl (fun rr hh hp => ?_)
      obtain ⟨rfl, s3, ⟨m3, g3⟩, v3, o3⟩ := hp
      rw [q0, q1] at v3 ⊢
      obtain ⟨h4, s4, e4, m4, g4, v4, o4⟩ := m3.e72 hi (sp_nv g (s 0) (s 1))
      have p0 : s4 0 = sp_ni g (s 0) (s 1) := by rw [o4 0 (by omega), v3]
      have p1 : s4 1 = s 1 := by rw [o4 1 (by omega), o3 1 (by omega), q1]
      have b4 : mp_bd g s4 := ⟨hg, by rw [p0]; omega, by rw [p0, p1]; omega, by rw [p1]; exact d2⟩
      have k4 : ∀ r, r ≠ 0 → r ≠ 72 + 12 * i → r ≠ 73 + 12 * i → s4 r = s r := fun r h1 h2 h3 => by rw [o4 r h2, o3 r h1, o2 r h3, o1 r h2]
      have t4 : mp_to h b g h4 s4 := ⟨m4, ((g1.tr g2).tr g3).tr g4⟩
      refine am_putf hB d_MA_takesRange_24 P_MA_126_5 (m3.L hi).1 (by simp) am_fit.i e4 ?_
      refine am_aload_n hB d_MA_takesRange_27 rfl rfl rfl ?_
      refine am_getf hB d_MA_takesRange_28 F_MA_126_5 (m4.L hi).1 rfl ?_
      rw [v4]
      refine ai_const hB d_MA_takesRange_31 ?_
      have no : ∀ (h9 : am_H) (s9 : Nat → Int), mp_to h b g h9 s9 → (∀ r, r ≠ 0 → r ≠ 72 + 12 * i → r ≠ 73 + 12 * i → s9 r = s r) → sp_rg g (s 0) (s 1) = none → am_Z X 44 [.ref b, .ref (b + 29 + 4 * i)] [] h9 0 0 := by
        intro h9 s9 t9 k9 hz
        refine ai_const hB d_MA_takesRange_44 ?_
        refine am_iret hB hR d_MA_takesRange_45 rfl (by decide) ?_ (Nat.zero_le _) (Nat.zero_le _)
        refine ⟨s9, t9, k9, ?_⟩
        rw [hz]
      have no2 : ∀ (h9 : am_H) (s9 : Nat → Int), mp_to h b g h9 s9 → (∀ r, r ≠ 0 → r ≠ 72 + 12 * i → r ≠ 73 + 12 * i → s9 r = s r) → sp_rg g (s 0) (s 1) = none → am_Z X 86 [.ref b, .ref (b + 29 + 4 * i)] [] h9 0 0 := by
        intro h9 s9 t9 k9 hz
        refine ai_const hB d_MA_takesRange_86 ?_
        refine am_iret hB hR d_MA_takesRange_87 rfl (by decide) ?_ (Nat.zero_le _) (Nat.zero_le _)
        refine ⟨s9, t9, k9, ?_⟩
        rw [hz]
      refine ai_jeq (tgt := 44) hB d_MA_takesRange_32 (by decide) (fun c1 => ?_) (fun c1 => ?_)
      · exact no h4 s4 t4 k4 (by rw [hrg, if_neg (fun z => z.1 c1)])
      refine am_aload_n hB d_MA_takesRange_35 rfl rfl rfl ?_
      refine am_ldcS hB d_MA_takesRange_36 (List.mem_of_getElem? (i := 1) rfl) ?_
      refine am_callU hB hR (as := [.retAddr 1]) m4.1 (mb_takeWord m4 b4 (by decide)) c_MA_70_4 rfl rfl d_MA_takesRange_38 ⟨by decide, Nat.le_of_ble_eq_true rfl⟩ ⟨by decide, by decide⟩ rfl rfl (fun rr hh hp => ?_)
      obtain ⟨rfl, s5, ⟨m5, g5⟩, v5, o5⟩ := hp
      rw [p0, p1] at v5 ⊢
      have k5 : ∀ r, r ≠ 0 → r ≠ 72 + 12 * i → r ≠ 73 + 12 * i → s5 r = s r := fun r h1 h2 h3 => by rw [o5 r h1, k4 r h1 h2 h3]
      have t5 : mp_to h b g hh s5 := t4.tr ⟨m5, g5⟩
      cases w1 : sp_tw g 1 (sp_ni g (s 0) (s 1)) (s 1) with
      | false =>
        show am_Z X 41 [.ref b, .ref (b + 29 + 4 * i)] [am_n 0] hh 0 0
        refine ai_zne (tgt := 46) hB d_MA_takesRange_41 (by decide) (fun c2 => ?_) (fun c2 => ?_)
        · omega
        · exact no hh s5 t5 k5 (by rw [hrg, if_neg (fun z => by rw [w1] at z; cases z.2.1)])
      | true =>
        rw [sp_th_1 w1] at v5
        have w1' := w1
        unfold sp_tw at w1'
        rw [Bool.and_eq_true, decide_eq_true_eq] at w1'
        have w2 : sp_ni g (s 0) (s 1) + 1 ≤ s 1 := by
          have := w1'.1
          have e9 : ((am_len.getD 1 0 : Nat) : Int) = 1 := rfl
          omega
        have n2 := sp_nv_in (g := g) w2
        have r1 : s5 1 = s 1 := by rw [o5 1 (by omega), p1]
        have b5 : mp_bd g s5 := ⟨hg, by rw [v5]; omega, by rw [v5, r1]; exact w2, by rw [r1]; exact d2⟩
        show am_Z X 41 [.ref b, .ref (b + 29 + 4 * i)] [am_n 1] hh 0 0
        refine ai_zne (tgt := 46) hB d_MA_takesRange_41 (by decide) (fun c2 => ?_) (fun c2 => ?_)
        · refine am_aload_n hB d_MA_takesRange_46 rfl rfl rfl ?_
          refine am_aload_n hB d_MA_takesRange_47 rfl rfl rfl ?_
          refine am_callU hB hR (as := []) m5.1 (mb_takeNumber m5 b5) c_MA_135_4 rfl rfl d_MA_takesRange_48 ⟨by decide, Nat.le_of_ble_eq_true rfl⟩ ⟨by decide, by decide⟩ rfl rfl (fun rr hh hp => ?_)
          obtain ⟨rfl, s6, ⟨m6, g6⟩, v6, o6⟩ := hp
          rw [v5, r1] at v6 ⊢
          obtain ⟨h7, s7, e7, m7, g7, v7, o7⟩ := m6.e73 hi (sp_nv g (sp_ni g (s 0) (s 1) + 1) (s 1))
          have u0 : s7 0 = sp_ni g (sp_ni g (s 0) (s 1) + 1) (s 1) := by rw [o7 0 (by omega), v6]
          have u1 : s7 1 = s 1 := by rw [o7 1 (by omega), o6 1 (by omega), r1]
          have b7 : mp_bd g s7 := ⟨hg, by rw [u0]; omega, by rw [u0, u1]; omega, by rw [u1]; exact d2⟩
          have k7 : ∀ r, r ≠ 0 → r ≠ 72 + 12 * i → r ≠ 73 + 12 * i → s7 r = s r := fun r h1 h2 h3 => by rw [o7 r h3, o6 r h1, k5 r h1 h2 h3]
          have t7 : mp_to h b g h7 s7 := (t5.tr ⟨m6, g6⟩).tr ⟨m7, g7⟩
          have f7 : s7 (72 + 12 * i) = sp_nv g (s 0) (s 1) := by rw [o7 _ (by omega), o6 _ (by omega), o5 _ (by omega), v4]
          refine am_putf hB d_MA_takesRange_51 P_MA_129_5 (m6.L hi).1 (by simp) am_fit.i e7 ?_
          refine am_aload_n hB d_MA_takesRange_54 rfl rfl rfl ?_
          refine am_getf hB d_MA_takesRange_55 F_MA_129_5 (m7.L hi).1 rfl ?_
          rw [v7]
          refine ai_const hB d_MA_takesRange_58 ?_
          refine ai_jeq (tgt := 86) hB d_MA_takesRange_59 (by decide) (fun c3 => ?_) (fun c3 => ?_)
          · exact no2 h7 s7 t7 k7 (by rw [hrg, if_neg (fun z => z.2.2.1 c3)])
          refine am_aload_n hB d_MA_takesRange_62 rfl rfl rfl ?_
          refine am_ldcS hB d_MA_takesRange_63 (List.mem_of_getElem? (i := 1) rfl) ?_
          refine am_callU hB hR (as := [.retAddr 1]) m7.1 (mb_takeWord m7 b7 (by decide)) c_MA_70_4 rfl rfl d_MA_takesRange_65 ⟨by decide, Nat.le_of_ble_eq_true rfl⟩ ⟨by decide, by decide⟩ rfl rfl (fun rr hh hp => ?_)
          obtain ⟨rfl, s8, ⟨m8, g8⟩, v8, o8⟩ := hp
          rw [u0, u1] at v8 ⊢
          have k8 : ∀ r, r ≠ 0 → r ≠ 72 + 12 * i → r ≠ 73 + 12 * i → s8 r = s r := fun r h1 h2 h3 => by rw [o8 r h1, k7 r h1 h2 h3]
          have t8 : mp_to h b g hh s8 := t7.tr ⟨m8, g8⟩
          have f8 : s8 (72 + 12 * i) = sp_nv g (s 0) (s 1) := by rw [o8 _ (by omega), f7]
          have y8 : s8 (73 + 12 * i) = sp_nv g (sp_ni g (s 0) (s 1) + 1) (s 1) := by rw [o8 _ (by omega), v7]
          cases w3 : sp_tw g 1 (sp_ni g (sp_ni g (s 0) (s 1) + 1) (s 1)) (s 1) with
          | false =>
            show am_Z X 68 [.ref b, .ref (b + 29 + 4 * i)] [am_n 0] hh 0 0
            refine ai_zeq (tgt := 86) hB d_MA_takesRange_68 (by decide) (fun c4 => ?_) (fun c4 => ?_)
            · exact no2 hh s8 t8 k8 (by rw [hrg, if_neg (fun z => by rw [w3] at z; cases z.2.2.2.1)])
            · omega
          | true =>
            rw [sp_th_1 w3] at v8
            show am_Z X 68 [.ref b, .ref (b + 29 + 4 * i)] [am_n 1] hh 0 0
            refine ai_zeq (tgt := 86) hB d_MA_takesRange_68 (by decide) (fun c4 => ?_) (fun c4 => ?_)
            · omega
            refine am_aload_n hB d_MA_takesRange_71 rfl rfl rfl ?_
            refine am_getf hB d_MA_takesRange_72 F_MA_126_5 (m8.L hi).1 rfl ?_
            refine am_aload_n hB d_MA_takesRange_75 rfl rfl rfl ?_
            refine am_getf hB d_MA_takesRange_76 F_MA_129_5 (m8.L hi).1 rfl ?_
            rw [f8, y8]
            refine ai_jgt (tgt := 86) hB d_MA_takesRange_79 (by decide) (fun c5 => ?_) (fun c5 => ?_)
            · exact no2 hh s8 t8 k8 (by rw [hrg, if_neg (fun z => by have := z.2.2.2.2; omega)])
            · refine ai_const hB d_MA_takesRange_82 ?_
              refine am_goto (tgt := 87) hB d_MA_takesRange_83 (by decide) ?_
              refine am_iret hB hR d_MA_takesRange_87 rfl (by decide) ?_ (Nat.zero_le _) (Nat.zero_le _)
              refine ⟨s8, t8, k8, ?_⟩
              rw [hrg, if_pos ⟨c1, w1, c3, w3, c5⟩]
              exact ⟨rfl, v8, f8, y8⟩
        · omega
    · omega
  · have e0 : (decide (s 0 < s 1) && sp_fig (g (s 0))) = false := by
      by_cases z : s 0 < s 1
      · rw [decide_eq_true z, Bool.true_and]
        cases z2 : sp_fig (g (s 0)) with
        | false => rfl
        | true => exact absurd ⟨z, z2⟩ hf
      · rw [decide_eq_false z]
        rfl
    rw [e0]
    show am_Z X 14 [.ref b, .ref (b + 29 + 4 * i)] [am_n 0] h2 0 0
    refine ai_zne (tgt := 19) hB d_MA_takesRange_14 (by decide) (fun hc => ?_) (fun hc => ?_)
    · omega
    refine ai_const hB d_MA_takesRange_17 ?_
    refine am_iret hB hR d_MA_takesRange_18 rfl (by decide) ?_ (Nat.zero_le _) (Nat.zero_le _)
    refine ⟨s2, ⟨m2, g1.tr g2⟩, fun r h1 h2 h3 => by rw [o2 r h3, o1 r h2], ?_⟩
    have hrg : sp_rg g (s 0) (s 1) = some (s 0, -1, -1) := if_neg hf
    rw [hrg]
    exact ⟨rfl, q0, by rw [o2 _ (by omega), v1], v2⟩
