/-! a trace's cells by a file of numbers: cell q has the numbers 8q .. 8q+7 -/
abbrev ce_HE (ty me : Nat) (hm mo ff ef : Int) : va_E := .inr (3, [.ref ty, .ref me, am_n hm, am_n mo, am_n ff, am_n ef])
abbrev ce_FR (ow me pl : Nat) (hf li : Int) : va_E := .inr (2, [.ref ow, .ref me, .ref pl, am_n hf, am_n li])
abbrev tr_tl (b : Nat) (t : Nat → Int) : List Value := [.ref (b + 2), .ref (b + 15), am_n (t 2), am_n (t 3), .ref (b + 1)]
abbrev ce_TR (b c : Nat) (t : Nat → Int) : va_E := ce_FO 9 c (t 0) (t 1) (tr_tl b t)
def tr_qH (b : Nat) : va_E := am_qa 5 4 (fun j => if j < 4 then some (b + 3 + 3 * j.toNat) else none)
def tr_qF (b : Nat) : va_E := am_qa 6 20 (fun j => if j < 20 then some (b + 16 + 4 * j.toNat) else none)
def tr_cell (b c : Nat) (t : Nat → Int) (q : Nat) : va_E := if q = 0 then ce_TR b c t else if q = 2 then tr_qH b else if q = 15 then tr_qF b else if q < 15 ∧ q % 3 = 0 then ce_HE (b + q + 1) (b + q + 2) (t (8 * q)) (t (8 * q + 1)) (t (8 * q + 2)) (t (8 * q + 3)) else if 15 < q ∧ q % 4 = 0 then ce_FR (b + q + 1) (b + q + 2) (b + q + 3) (t (8 * q)) (t (8 * q + 1)) else ce_SL c (t (8 * q)) (t (8 * q + 1))
def am_tr (h : am_H) (b c : Nat) (g : Int → Int) (t : Nat → Int) : Prop := (∀ q, q < 96 → h[b + q]? = some (tr_cell b c t q)) ∧ h[c]? = some (am_ia 0 600 g) ∧ (c < b ∨ b + 96 ≤ c)
theorem tr_cell_cg {b c q : Nat} {t t' : Nat → Int} (h : ∀ r, 8 * q ≤ r → r ≤ 8 * q + 7 → t' r = t r) : tr_cell b c t' q = tr_cell b c t q := by
  unfold tr_cell
  by_cases z : q = 0
  · subst z
    rw [if_pos rfl, if_pos rfl]
    unfold ce_TR tr_tl
    rw [h 0 (by omega) (by omega), h 1 (by omega) (by omega), h 2 (by omega) (by omega), h 3 (by omega) (by omega)]
  · rw [if_neg z, if_neg z, h (8 * q) (by omega) (by omega), h (8 * q + 1) (by omega) (by omega), h (8 * q + 2) (by omega) (by omega), h (8 * q + 3) (by omega) (by omega)]
theorem am_tr.wr {h : am_H} {b c q : Nat} {g : Int → Int} {t t' : Nat → Int} {E : va_E} (m : am_tr h b c g t) (hq : q < 96) (ht : ∀ r, (r < 8 * q ∨ 8 * q + 7 < r) → t' r = t r) (hE : tr_cell b c t' q = E) : am_tr (h.set (b + q) E) b c g t' ∧ am_rg b 96 h (h.set (b + q) E) := by
  subst hE
  refine ⟨⟨fun p hp => ?_, am_rn (by have := m.2.2; omega) m.2.1, m.2.2⟩, am_rg.set _ _ (by omega) (by omega)⟩
  by_cases z : p = q
  · subst z
    exact am_rs (m.1 p hp)
  · rw [tr_cell_cg (q := p) (t := t) (fun r h1 h2 => ht r (by omega))]
    exact am_rn (by omega) (m.1 p hp)
theorem tr_c0 (b c : Nat) (t : Nat → Int) : tr_cell b c t 0 = ce_TR b c t := if_pos rfl
theorem tr_cS (b c : Nat) (t : Nat → Int) {q : Nat} (h : q ≠ 0 ∧ q ≠ 2 ∧ q ≠ 15 ∧ ¬ (q < 15 ∧ q % 3 = 0) ∧ ¬ (15 < q ∧ q % 4 = 0)) : tr_cell b c t q = ce_SL c (t (8 * q)) (t (8 * q + 1)) := by
  unfold tr_cell
  rw [if_neg h.1, if_neg h.2.1, if_neg h.2.2.1, if_neg h.2.2.2.1, if_neg h.2.2.2.2]
theorem tr_cH (b c : Nat) (t : Nat → Int) {i : Nat} (h : i < 4) : tr_cell b c t (3 + 3 * i) = ce_HE (b + 4 + 3 * i) (b + 5 + 3 * i) (t (24 + 24 * i)) (t (25 + 24 * i)) (t (26 + 24 * i)) (t (27 + 24 * i)) := by
  unfold tr_cell
  rw [if_neg (by omega), if_neg (by omega), if_neg (by omega), if_pos (by omega), show b + (3 + 3 * i) + 1 = b + 4 + 3 * i by omega, show b + (3 + 3 * i) + 2 = b + 5 + 3 * i by omega, show 8 * (3 + 3 * i) = 24 + 24 * i by omega, show 24 + 24 * i + 1 = 25 + 24 * i by omega, show 24 + 24 * i + 2 = 26 + 24 * i by omega, show 24 + 24 * i + 3 = 27 + 24 * i by omega]
theorem tr_cF (b c : Nat) (t : Nat → Int) {i : Nat} (h : i < 20) : tr_cell b c t (16 + 4 * i) = ce_FR (b + 17 + 4 * i) (b + 18 + 4 * i) (b + 19 + 4 * i) (t (128 + 32 * i)) (t (129 + 32 * i)) := by
  unfold tr_cell
  rw [if_neg (by omega), if_neg (by omega), if_neg (by omega), if_neg (by omega), if_pos (by omega), show b + (16 + 4 * i) + 1 = b + 17 + 4 * i by omega, show b + (16 + 4 * i) + 2 = b + 18 + 4 * i by omega, show b + (16 + 4 * i) + 3 = b + 19 + 4 * i by omega, show 8 * (16 + 4 * i) = 128 + 32 * i by omega, show 128 + 32 * i + 1 = 129 + 32 * i by omega]

theorem am_tr.o {h : am_H} {b c : Nat} {g : Int → Int} {t : Nat → Int} (m : am_tr h b c g t) : h[b]? = some (ce_TR b c t) := (m.1 0 (by omega)).trans (congrArg some (tr_c0 b c t))
theorem am_tr.qH {h : am_H} {b c : Nat} {g : Int → Int} {t : Nat → Int} (m : am_tr h b c g t) : h[b + 2]? = some (tr_qH b) := m.1 2 (by omega)
theorem am_tr.qF {h : am_H} {b c : Nat} {g : Int → Int} {t : Nat → Int} (m : am_tr h b c g t) : h[b + 15]? = some (tr_qF b) := m.1 15 (by omega)
theorem am_tr.H {h : am_H} {b c : Nat} {g : Int → Int} {t : Nat → Int} {i : Nat} (m : am_tr h b c g t) (hi : i < 4) : h[b + 3 + 3 * i]? = some (ce_HE (b + 4 + 3 * i) (b + 5 + 3 * i) (t (24 + 24 * i)) (t (25 + 24 * i)) (t (26 + 24 * i)) (t (27 + 24 * i))) := by
  have := m.1 (3 + 3 * i) (by omega)
  rw [tr_cH b c t hi, show b + (3 + 3 * i) = b + 3 + 3 * i by omega] at this
  exact this
theorem am_tr.F {h : am_H} {b c : Nat} {g : Int → Int} {t : Nat → Int} {i : Nat} (m : am_tr h b c g t) (hi : i < 20) : h[b + 16 + 4 * i]? = some (ce_FR (b + 17 + 4 * i) (b + 18 + 4 * i) (b + 19 + 4 * i) (t (128 + 32 * i)) (t (129 + 32 * i))) := by
  have := m.1 (16 + 4 * i) (by omega)
  rw [tr_cF b c t hi, show b + (16 + 4 * i) = b + 16 + 4 * i by omega] at this
  exact this
theorem tr_csC (b c : Nat) (t : Nat → Int)  : tr_cell b c t (1) = ce_SL c (t (8)) (t (9)) := by
  rw [tr_cS b c t (by omega), show 8 * (1) = 8 by omega, show 8 + 1 = 9 by omega]
theorem am_tr.SC {h : am_H} {b c : Nat} {g : Int → Int} {t : Nat → Int} (m : am_tr h b c g t)  : h[b + 1]? = some (ce_SL c (t (8)) (t (9))) := by
  have := m.1 (1) (by omega)
  rw [tr_csC b c t, show b + (1) = b + 1 by omega] at this
  exact this
theorem am_tr.sC {h : am_H} {b c : Nat} {g : Int → Int} {t : Nat → Int} (m : am_tr h b c g t)  (x y : Int) : ∃ (h1 : am_H) (t1 : Nat → Int), h.set (b + 1) (ce_SL c x y) = h1 ∧ am_tr h1 b c g t1 ∧ am_rg b 96 h h1 ∧ t1 (8) = x ∧ t1 (9) = y ∧ ∀ r, r ≠ 8 → r ≠ 9 → t1 r = t r := by
  have q := m.wr (q := 1) (t' := am_w (am_w t (8) x) (9) y) (E := ce_SL c x y) (by omega) (fun r hr => by rw [am_w_ne _ y (by omega), am_w_ne t x (by omega)]) (by rw [tr_csC b c _, am_w_ne _ y (show 8 ≠ 9 by omega), am_w_eq, am_w_eq])
  rw [show b + (1) = b + 1 by omega] at q
  exact ⟨_, _, rfl, q.1, q.2, by rw [am_w_ne _ y (show 8 ≠ 9 by omega), am_w_eq], am_w_eq _ _ y, fun r h1 h2 => by rw [am_w_ne _ y h2, am_w_ne t x h1]⟩
theorem tr_csT (b c : Nat) (t : Nat → Int) {i : Nat} (hi : i < 4) : tr_cell b c t (4 + 3 * i) = ce_SL c (t (32 + 24 * i)) (t (33 + 24 * i)) := by
  rw [tr_cS b c t (by omega), show 8 * (4 + 3 * i) = 32 + 24 * i by omega, show 32 + 24 * i + 1 = 33 + 24 * i by omega]
theorem am_tr.ST {h : am_H} {b c : Nat} {g : Int → Int} {t : Nat → Int} {i : Nat} (m : am_tr h b c g t) (hi : i < 4) : h[b + 4 + 3 * i]? = some (ce_SL c (t (32 + 24 * i)) (t (33 + 24 * i))) := by
  have := m.1 (4 + 3 * i) (by omega)
  rw [tr_csT b c t hi, show b + (4 + 3 * i) = b + 4 + 3 * i by omega] at this
  exact this
theorem am_tr.sT {h : am_H} {b c : Nat} {g : Int → Int} {t : Nat → Int} {i : Nat} (m : am_tr h b c g t) (hi : i < 4) (x y : Int) : ∃ (h1 : am_H) (t1 : Nat → Int), h.set (b + 4 + 3 * i) (ce_SL c x y) = h1 ∧ am_tr h1 b c g t1 ∧ am_rg b 96 h h1 ∧ t1 (32 + 24 * i) = x ∧ t1 (33 + 24 * i) = y ∧ ∀ r, r ≠ 32 + 24 * i → r ≠ 33 + 24 * i → t1 r = t r := by
  have q := m.wr (q := 4 + 3 * i) (t' := am_w (am_w t (32 + 24 * i) x) (33 + 24 * i) y) (E := ce_SL c x y) (by omega) (fun r hr => by rw [am_w_ne _ y (by omega), am_w_ne t x (by omega)]) (by rw [tr_csT b c _ hi, am_w_ne _ y (show 32 + 24 * i ≠ 33 + 24 * i by omega), am_w_eq, am_w_eq])
  rw [show b + (4 + 3 * i) = b + 4 + 3 * i by omega] at q
  exact ⟨_, _, rfl, q.1, q.2, by rw [am_w_ne _ y (show 32 + 24 * i ≠ 33 + 24 * i by omega), am_w_eq], am_w_eq _ _ y, fun r h1 h2 => by rw [am_w_ne _ y h2, am_w_ne t x h1]⟩
theorem tr_csG (b c : Nat) (t : Nat → Int) {i : Nat} (hi : i < 4) : tr_cell b c t (5 + 3 * i) = ce_SL c (t (40 + 24 * i)) (t (41 + 24 * i)) := by
  rw [tr_cS b c t (by omega), show 8 * (5 + 3 * i) = 40 + 24 * i by omega, show 40 + 24 * i + 1 = 41 + 24 * i by omega]
theorem am_tr.SG {h : am_H} {b c : Nat} {g : Int → Int} {t : Nat → Int} {i : Nat} (m : am_tr h b c g t) (hi : i < 4) : h[b + 5 + 3 * i]? = some (ce_SL c (t (40 + 24 * i)) (t (41 + 24 * i))) := by
  have := m.1 (5 + 3 * i) (by omega)
  rw [tr_csG b c t hi, show b + (5 + 3 * i) = b + 5 + 3 * i by omega] at this
  exact this
theorem am_tr.sG {h : am_H} {b c : Nat} {g : Int → Int} {t : Nat → Int} {i : Nat} (m : am_tr h b c g t) (hi : i < 4) (x y : Int) : ∃ (h1 : am_H) (t1 : Nat → Int), h.set (b + 5 + 3 * i) (ce_SL c x y) = h1 ∧ am_tr h1 b c g t1 ∧ am_rg b 96 h h1 ∧ t1 (40 + 24 * i) = x ∧ t1 (41 + 24 * i) = y ∧ ∀ r, r ≠ 40 + 24 * i → r ≠ 41 + 24 * i → t1 r = t r := by
  have q := m.wr (q := 5 + 3 * i) (t' := am_w (am_w t (40 + 24 * i) x) (41 + 24 * i) y) (E := ce_SL c x y) (by omega) (fun r hr => by rw [am_w_ne _ y (by omega), am_w_ne t x (by omega)]) (by rw [tr_csG b c _ hi, am_w_ne _ y (show 40 + 24 * i ≠ 41 + 24 * i by omega), am_w_eq, am_w_eq])
  rw [show b + (5 + 3 * i) = b + 5 + 3 * i by omega] at q
  exact ⟨_, _, rfl, q.1, q.2, by rw [am_w_ne _ y (show 40 + 24 * i ≠ 41 + 24 * i by omega), am_w_eq], am_w_eq _ _ y, fun r h1 h2 => by rw [am_w_ne _ y h2, am_w_ne t x h1]⟩
theorem tr_csO (b c : Nat) (t : Nat → Int) {i : Nat} (hi : i < 20) : tr_cell b c t (17 + 4 * i) = ce_SL c (t (136 + 32 * i)) (t (137 + 32 * i)) := by
  rw [tr_cS b c t (by omega), show 8 * (17 + 4 * i) = 136 + 32 * i by omega, show 136 + 32 * i + 1 = 137 + 32 * i by omega]
theorem am_tr.SO {h : am_H} {b c : Nat} {g : Int → Int} {t : Nat → Int} {i : Nat} (m : am_tr h b c g t) (hi : i < 20) : h[b + 17 + 4 * i]? = some (ce_SL c (t (136 + 32 * i)) (t (137 + 32 * i))) := by
  have := m.1 (17 + 4 * i) (by omega)
  rw [tr_csO b c t hi, show b + (17 + 4 * i) = b + 17 + 4 * i by omega] at this
  exact this
theorem am_tr.sO {h : am_H} {b c : Nat} {g : Int → Int} {t : Nat → Int} {i : Nat} (m : am_tr h b c g t) (hi : i < 20) (x y : Int) : ∃ (h1 : am_H) (t1 : Nat → Int), h.set (b + 17 + 4 * i) (ce_SL c x y) = h1 ∧ am_tr h1 b c g t1 ∧ am_rg b 96 h h1 ∧ t1 (136 + 32 * i) = x ∧ t1 (137 + 32 * i) = y ∧ ∀ r, r ≠ 136 + 32 * i → r ≠ 137 + 32 * i → t1 r = t r := by
  have q := m.wr (q := 17 + 4 * i) (t' := am_w (am_w t (136 + 32 * i) x) (137 + 32 * i) y) (E := ce_SL c x y) (by omega) (fun r hr => by rw [am_w_ne _ y (by omega), am_w_ne t x (by omega)]) (by rw [tr_csO b c _ hi, am_w_ne _ y (show 136 + 32 * i ≠ 137 + 32 * i by omega), am_w_eq, am_w_eq])
  rw [show b + (17 + 4 * i) = b + 17 + 4 * i by omega] at q
  exact ⟨_, _, rfl, q.1, q.2, by rw [am_w_ne _ y (show 136 + 32 * i ≠ 137 + 32 * i by omega), am_w_eq], am_w_eq _ _ y, fun r h1 h2 => by rw [am_w_ne _ y h2, am_w_ne t x h1]⟩
theorem tr_csM (b c : Nat) (t : Nat → Int) {i : Nat} (hi : i < 20) : tr_cell b c t (18 + 4 * i) = ce_SL c (t (144 + 32 * i)) (t (145 + 32 * i)) := by
  rw [tr_cS b c t (by omega), show 8 * (18 + 4 * i) = 144 + 32 * i by omega, show 144 + 32 * i + 1 = 145 + 32 * i by omega]
theorem am_tr.SM {h : am_H} {b c : Nat} {g : Int → Int} {t : Nat → Int} {i : Nat} (m : am_tr h b c g t) (hi : i < 20) : h[b + 18 + 4 * i]? = some (ce_SL c (t (144 + 32 * i)) (t (145 + 32 * i))) := by
  have := m.1 (18 + 4 * i) (by omega)
  rw [tr_csM b c t hi, show b + (18 + 4 * i) = b + 18 + 4 * i by omega] at this
  exact this
theorem am_tr.sM {h : am_H} {b c : Nat} {g : Int → Int} {t : Nat → Int} {i : Nat} (m : am_tr h b c g t) (hi : i < 20) (x y : Int) : ∃ (h1 : am_H) (t1 : Nat → Int), h.set (b + 18 + 4 * i) (ce_SL c x y) = h1 ∧ am_tr h1 b c g t1 ∧ am_rg b 96 h h1 ∧ t1 (144 + 32 * i) = x ∧ t1 (145 + 32 * i) = y ∧ ∀ r, r ≠ 144 + 32 * i → r ≠ 145 + 32 * i → t1 r = t r := by
  have q := m.wr (q := 18 + 4 * i) (t' := am_w (am_w t (144 + 32 * i) x) (145 + 32 * i) y) (E := ce_SL c x y) (by omega) (fun r hr => by rw [am_w_ne _ y (by omega), am_w_ne t x (by omega)]) (by rw [tr_csM b c _ hi, am_w_ne _ y (show 144 + 32 * i ≠ 145 + 32 * i by omega), am_w_eq, am_w_eq])
  rw [show b + (18 + 4 * i) = b + 18 + 4 * i by omega] at q
  exact ⟨_, _, rfl, q.1, q.2, by rw [am_w_ne _ y (show 144 + 32 * i ≠ 145 + 32 * i by omega), am_w_eq], am_w_eq _ _ y, fun r h1 h2 => by rw [am_w_ne _ y h2, am_w_ne t x h1]⟩
theorem tr_csP (b c : Nat) (t : Nat → Int) {i : Nat} (hi : i < 20) : tr_cell b c t (19 + 4 * i) = ce_SL c (t (152 + 32 * i)) (t (153 + 32 * i)) := by
  rw [tr_cS b c t (by omega), show 8 * (19 + 4 * i) = 152 + 32 * i by omega, show 152 + 32 * i + 1 = 153 + 32 * i by omega]
theorem am_tr.SP {h : am_H} {b c : Nat} {g : Int → Int} {t : Nat → Int} {i : Nat} (m : am_tr h b c g t) (hi : i < 20) : h[b + 19 + 4 * i]? = some (ce_SL c (t (152 + 32 * i)) (t (153 + 32 * i))) := by
  have := m.1 (19 + 4 * i) (by omega)
  rw [tr_csP b c t hi, show b + (19 + 4 * i) = b + 19 + 4 * i by omega] at this
  exact this
theorem am_tr.sP {h : am_H} {b c : Nat} {g : Int → Int} {t : Nat → Int} {i : Nat} (m : am_tr h b c g t) (hi : i < 20) (x y : Int) : ∃ (h1 : am_H) (t1 : Nat → Int), h.set (b + 19 + 4 * i) (ce_SL c x y) = h1 ∧ am_tr h1 b c g t1 ∧ am_rg b 96 h h1 ∧ t1 (152 + 32 * i) = x ∧ t1 (153 + 32 * i) = y ∧ ∀ r, r ≠ 152 + 32 * i → r ≠ 153 + 32 * i → t1 r = t r := by
  have q := m.wr (q := 19 + 4 * i) (t' := am_w (am_w t (152 + 32 * i) x) (153 + 32 * i) y) (E := ce_SL c x y) (by omega) (fun r hr => by rw [am_w_ne _ y (by omega), am_w_ne t x (by omega)]) (by rw [tr_csP b c _ hi, am_w_ne _ y (show 152 + 32 * i ≠ 153 + 32 * i by omega), am_w_eq, am_w_eq])
  rw [show b + (19 + 4 * i) = b + 19 + 4 * i by omega] at q
  exact ⟨_, _, rfl, q.1, q.2, by rw [am_w_ne _ y (show 152 + 32 * i ≠ 153 + 32 * i by omega), am_w_eq], am_w_eq _ _ y, fun r h1 h2 => by rw [am_w_ne _ y h2, am_w_ne t x h1]⟩
theorem am_tr.e0 {h : am_H} {b c : Nat} {g : Int → Int} {t : Nat → Int} (m : am_tr h b c g t) (x : Int) : ∃ (h1 : am_H) (t1 : Nat → Int), h.set b (ce_FO 9 c (x) (t 1) [.ref (b + 2), .ref (b + 15), am_n (t 2), am_n (t 3), .ref (b + 1)]) = h1 ∧ am_tr h1 b c g t1 ∧ am_rg b 96 h h1 ∧ t1 0 = x ∧ ∀ r, r ≠ 0 → t1 r = t r :=
  have q := m.wr (q := 0) (t' := am_w t 0 x) (by omega) (fun r hr => am_w_ne t x (by omega)) (tr_c0 b c _)
  ⟨_, am_w t 0 x, rfl, q.1, q.2, am_w_eq t 0 x, fun r hr => am_w_ne t x hr⟩
theorem am_tr.e1 {h : am_H} {b c : Nat} {g : Int → Int} {t : Nat → Int} (m : am_tr h b c g t) (x : Int) : ∃ (h1 : am_H) (t1 : Nat → Int), h.set b (ce_FO 9 c (t 0) (x) [.ref (b + 2), .ref (b + 15), am_n (t 2), am_n (t 3), .ref (b + 1)]) = h1 ∧ am_tr h1 b c g t1 ∧ am_rg b 96 h h1 ∧ t1 1 = x ∧ ∀ r, r ≠ 1 → t1 r = t r :=
  have q := m.wr (q := 0) (t' := am_w t 1 x) (by omega) (fun r hr => am_w_ne t x (by omega)) (tr_c0 b c _)
  ⟨_, am_w t 1 x, rfl, q.1, q.2, am_w_eq t 1 x, fun r hr => am_w_ne t x hr⟩
theorem am_tr.e2 {h : am_H} {b c : Nat} {g : Int → Int} {t : Nat → Int} (m : am_tr h b c g t) (x : Int) : ∃ (h1 : am_H) (t1 : Nat → Int), h.set b (ce_FO 9 c (t 0) (t 1) [.ref (b + 2), .ref (b + 15), am_n (x), am_n (t 3), .ref (b + 1)]) = h1 ∧ am_tr h1 b c g t1 ∧ am_rg b 96 h h1 ∧ t1 2 = x ∧ ∀ r, r ≠ 2 → t1 r = t r :=
  have q := m.wr (q := 0) (t' := am_w t 2 x) (by omega) (fun r hr => am_w_ne t x (by omega)) (tr_c0 b c _)
  ⟨_, am_w t 2 x, rfl, q.1, q.2, am_w_eq t 2 x, fun r hr => am_w_ne t x hr⟩
theorem am_tr.e3 {h : am_H} {b c : Nat} {g : Int → Int} {t : Nat → Int} (m : am_tr h b c g t) (x : Int) : ∃ (h1 : am_H) (t1 : Nat → Int), h.set b (ce_FO 9 c (t 0) (t 1) [.ref (b + 2), .ref (b + 15), am_n (t 2), am_n (x), .ref (b + 1)]) = h1 ∧ am_tr h1 b c g t1 ∧ am_rg b 96 h h1 ∧ t1 3 = x ∧ ∀ r, r ≠ 3 → t1 r = t r :=
  have q := m.wr (q := 0) (t' := am_w t 3 x) (by omega) (fun r hr => am_w_ne t x (by omega)) (tr_c0 b c _)
  ⟨_, am_w t 3 x, rfl, q.1, q.2, am_w_eq t 3 x, fun r hr => am_w_ne t x hr⟩
theorem am_tr.eHm {h : am_H} {b c : Nat} {g : Int → Int} {t : Nat → Int} {i : Nat} (m : am_tr h b c g t) (hi : i < 4) (x : Int) : ∃ (h1 : am_H) (t1 : Nat → Int), h.set (b + 3 + 3 * i) (ce_HE (b + 4 + 3 * i) (b + 5 + 3 * i) (x) (t (25 + 24 * i)) (t (26 + 24 * i)) (t (27 + 24 * i))) = h1 ∧ am_tr h1 b c g t1 ∧ am_rg b 96 h h1 ∧ t1 (24 + 24 * i) = x ∧ ∀ r, r ≠ 24 + 24 * i → t1 r = t r := by
  have q := m.wr (q := 3 + 3 * i) (t' := am_w t (24 + 24 * i) x) (by omega) (fun r hr => am_w_ne t x (by omega)) (tr_cH b c _ hi)
  rw [show b + (3 + 3 * i) = b + 3 + 3 * i by omega, am_w_eq, am_w_ne t x (show 25 + 24 * i ≠ 24 + 24 * i by omega), am_w_ne t x (show 26 + 24 * i ≠ 24 + 24 * i by omega), am_w_ne t x (show 27 + 24 * i ≠ 24 + 24 * i by omega)] at q
  exact ⟨_, am_w t (24 + 24 * i) x, rfl, q.1, q.2, am_w_eq t _ x, fun r hr => am_w_ne t x hr⟩
theorem am_tr.eHo {h : am_H} {b c : Nat} {g : Int → Int} {t : Nat → Int} {i : Nat} (m : am_tr h b c g t) (hi : i < 4) (x : Int) : ∃ (h1 : am_H) (t1 : Nat → Int), h.set (b + 3 + 3 * i) (ce_HE (b + 4 + 3 * i) (b + 5 + 3 * i) (t (24 + 24 * i)) (x) (t (26 + 24 * i)) (t (27 + 24 * i))) = h1 ∧ am_tr h1 b c g t1 ∧ am_rg b 96 h h1 ∧ t1 (25 + 24 * i) = x ∧ ∀ r, r ≠ 25 + 24 * i → t1 r = t r := by
  have q := m.wr (q := 3 + 3 * i) (t' := am_w t (25 + 24 * i) x) (by omega) (fun r hr => am_w_ne t x (by omega)) (tr_cH b c _ hi)
  rw [show b + (3 + 3 * i) = b + 3 + 3 * i by omega, am_w_ne t x (show 24 + 24 * i ≠ 25 + 24 * i by omega), am_w_eq, am_w_ne t x (show 26 + 24 * i ≠ 25 + 24 * i by omega), am_w_ne t x (show 27 + 24 * i ≠ 25 + 24 * i by omega)] at q
  exact ⟨_, am_w t (25 + 24 * i) x, rfl, q.1, q.2, am_w_eq t _ x, fun r hr => am_w_ne t x hr⟩
theorem am_tr.eHf {h : am_H} {b c : Nat} {g : Int → Int} {t : Nat → Int} {i : Nat} (m : am_tr h b c g t) (hi : i < 4) (x : Int) : ∃ (h1 : am_H) (t1 : Nat → Int), h.set (b + 3 + 3 * i) (ce_HE (b + 4 + 3 * i) (b + 5 + 3 * i) (t (24 + 24 * i)) (t (25 + 24 * i)) (x) (t (27 + 24 * i))) = h1 ∧ am_tr h1 b c g t1 ∧ am_rg b 96 h h1 ∧ t1 (26 + 24 * i) = x ∧ ∀ r, r ≠ 26 + 24 * i → t1 r = t r := by
  have q := m.wr (q := 3 + 3 * i) (t' := am_w t (26 + 24 * i) x) (by omega) (fun r hr => am_w_ne t x (by omega)) (tr_cH b c _ hi)
  rw [show b + (3 + 3 * i) = b + 3 + 3 * i by omega, am_w_ne t x (show 24 + 24 * i ≠ 26 + 24 * i by omega), am_w_ne t x (show 25 + 24 * i ≠ 26 + 24 * i by omega), am_w_eq, am_w_ne t x (show 27 + 24 * i ≠ 26 + 24 * i by omega)] at q
  exact ⟨_, am_w t (26 + 24 * i) x, rfl, q.1, q.2, am_w_eq t _ x, fun r hr => am_w_ne t x hr⟩
theorem am_tr.eHe {h : am_H} {b c : Nat} {g : Int → Int} {t : Nat → Int} {i : Nat} (m : am_tr h b c g t) (hi : i < 4) (x : Int) : ∃ (h1 : am_H) (t1 : Nat → Int), h.set (b + 3 + 3 * i) (ce_HE (b + 4 + 3 * i) (b + 5 + 3 * i) (t (24 + 24 * i)) (t (25 + 24 * i)) (t (26 + 24 * i)) (x)) = h1 ∧ am_tr h1 b c g t1 ∧ am_rg b 96 h h1 ∧ t1 (27 + 24 * i) = x ∧ ∀ r, r ≠ 27 + 24 * i → t1 r = t r := by
  have q := m.wr (q := 3 + 3 * i) (t' := am_w t (27 + 24 * i) x) (by omega) (fun r hr => am_w_ne t x (by omega)) (tr_cH b c _ hi)
  rw [show b + (3 + 3 * i) = b + 3 + 3 * i by omega, am_w_ne t x (show 24 + 24 * i ≠ 27 + 24 * i by omega), am_w_ne t x (show 25 + 24 * i ≠ 27 + 24 * i by omega), am_w_ne t x (show 26 + 24 * i ≠ 27 + 24 * i by omega), am_w_eq] at q
  exact ⟨_, am_w t (27 + 24 * i) x, rfl, q.1, q.2, am_w_eq t _ x, fun r hr => am_w_ne t x hr⟩
theorem am_tr.eFh {h : am_H} {b c : Nat} {g : Int → Int} {t : Nat → Int} {i : Nat} (m : am_tr h b c g t) (hi : i < 20) (x : Int) : ∃ (h1 : am_H) (t1 : Nat → Int), h.set (b + 16 + 4 * i) (ce_FR (b + 17 + 4 * i) (b + 18 + 4 * i) (b + 19 + 4 * i) (x) (t (129 + 32 * i))) = h1 ∧ am_tr h1 b c g t1 ∧ am_rg b 96 h h1 ∧ t1 (128 + 32 * i) = x ∧ ∀ r, r ≠ 128 + 32 * i → t1 r = t r := by
  have q := m.wr (q := 16 + 4 * i) (t' := am_w t (128 + 32 * i) x) (by omega) (fun r hr => am_w_ne t x (by omega)) (tr_cF b c _ hi)
  rw [show b + (16 + 4 * i) = b + 16 + 4 * i by omega, am_w_eq, am_w_ne t x (show 129 + 32 * i ≠ 128 + 32 * i by omega)] at q
  exact ⟨_, am_w t (128 + 32 * i) x, rfl, q.1, q.2, am_w_eq t _ x, fun r hr => am_w_ne t x hr⟩
theorem am_tr.eFl {h : am_H} {b c : Nat} {g : Int → Int} {t : Nat → Int} {i : Nat} (m : am_tr h b c g t) (hi : i < 20) (x : Int) : ∃ (h1 : am_H) (t1 : Nat → Int), h.set (b + 16 + 4 * i) (ce_FR (b + 17 + 4 * i) (b + 18 + 4 * i) (b + 19 + 4 * i) (t (128 + 32 * i)) (x)) = h1 ∧ am_tr h1 b c g t1 ∧ am_rg b 96 h h1 ∧ t1 (129 + 32 * i) = x ∧ ∀ r, r ≠ 129 + 32 * i → t1 r = t r := by
  have q := m.wr (q := 16 + 4 * i) (t' := am_w t (129 + 32 * i) x) (by omega) (fun r hr => am_w_ne t x (by omega)) (tr_cF b c _ hi)
  rw [show b + (16 + 4 * i) = b + 16 + 4 * i by omega, am_w_ne t x (show 128 + 32 * i ≠ 129 + 32 * i by omega), am_w_eq] at q
  exact ⟨_, am_w t (129 + 32 * i) x, rfl, q.1, q.2, am_w_eq t _ x, fun r hr => am_w_ne t x hr⟩
def tr_to (h : am_H) (b c : Nat) (g : Int → Int) (h' : am_H) (t' : Nat → Int) : Prop := am_tr h' b c g t' ∧ am_rg b 96 h h'
theorem tr_to.tr {h h1 h2 : am_H} {b c : Nat} {g : Int → Int} {t1 t2 : Nat → Int} (x : tr_to h b c g h1 t1) (y : tr_to h1 b c g h2 t2) : tr_to h b c g h2 t2 := ⟨y.1, x.2.tr y.2⟩
theorem am_tr.fo {h : am_H} {b c : Nat} {g : Int → Int} {t : Nat → Int} (m : am_tr h b c g t) (d : mp_bd g t) : am_fo h b 9 c (t 0) (t 1) (tr_tl b t) 600 g := ⟨Or.inr rfl, m.o, m.2.1, d.1, d.2.1, d.2.2.1, d.2.2.2, by omega⟩
theorem mt_takeWord {l : Launch} {G : am_G} {h : am_H} {b c : Nat} {g : Int → Int} {t : Nat → Int} {w : Nat} (m : am_tr h b c g t) (d : mp_bd g t) (hw : w < 15) : am_M l G M_FO_takeWord [.ref b, .retAddr w] h (fun r h' => r = some (am_n (sp_i (sp_tw g w (t 0) (t 1)))) ∧ ∃ t', tr_to h b c g h' t' ∧ t' 0 = sp_th g w (t 0) (t 1) ∧ ∀ r, r ≠ 0 → t' r = t r) :=
  (m_FO_takeWord (m.fo d) hw).imp (fun r h' hp => by
    obtain ⟨h1, t1, e1, m1, g1, v1, o1⟩ := m.e0 (sp_th g w (t 0) (t 1))
    refine ⟨hp.1, t1, ?_, v1, o1⟩
    rw [hp.2]
    rw [show h.set b (ce_FO 9 c (sp_th g w (t 0) (t 1)) (t 1) (tr_tl b t)) = h1 from e1]
    exact ⟨m1, g1⟩)
theorem mt_takeNumber {l : Launch} {G : am_G} {h : am_H} {b c : Nat} {g : Int → Int} {t : Nat → Int} (m : am_tr h b c g t) (d : mp_bd g t) : am_M l G M_FO_takeNumber [.ref b] h (fun r h' => r = some (am_n (sp_nv g (t 0) (t 1))) ∧ ∃ t', tr_to h b c g h' t' ∧ t' 0 = sp_ni g (t 0) (t 1) ∧ ∀ r, r ≠ 0 → t' r = t r) :=
  (m_FO_takeNumber (m.fo d)).imp (fun r h' hp => by
    unfold sp_nv sp_ni
    cases e : sp_nu g (t 0) (t 1) with
    | none =>
      rw [e] at hp
      obtain ⟨hp1, rfl⟩ := hp
      exact ⟨hp1, t, ⟨m, am_rg.rf⟩, rfl, fun _ _ => rfl⟩
    | some vi =>
      obtain ⟨v, i⟩ := vi
      rw [e] at hp
      obtain ⟨h1, t1, e1, m1, g1, v1, o1⟩ := m.e0 i
      refine ⟨hp.1, t1, ?_, v1, o1⟩
      rw [hp.2]
      rw [show h.set b (ce_FO 9 c i (t 1) (tr_tl b t)) = h1 from e1]
      exact ⟨m1, g1⟩)
theorem mt_takeC {l : Launch} {G : am_G} {h : am_H} {b c : Nat} {g : Int → Int} {t : Nat → Int} {mp ms : Int} (m : am_tr h b c g t) (d : mp_bd g t)  (hmp : 0 ≤ mp ∧ mp < 1000000) (hms : 0 ≤ ms ∧ ms < 1000000) : am_M l G M_FO_takeParts [.ref b, .ref (b + 1), am_n mp, am_n ms] h (fun r h' => match sp_take g mp ms (t 0) (t 1) with
    | none => r = some (am_n 0) ∧ h = h'
    | some j => r = some (am_n 1) ∧ ∃ t', tr_to h b c g h' t' ∧ t' 0 = j ∧ t' (8) = t 0 ∧ t' (9) = j ∧ ∀ r, r ≠ 0 → r ≠ 8 → r ≠ 9 → t' r = t r) :=
  (m_FO_takeParts (m.fo d) (m.SC) hmp hms).imp (fun r h' hp => by
    cases e : sp_take g mp ms (t 0) (t 1) with
    | none =>
      rw [e] at hp
      exact ⟨hp.1, hp.2.symm⟩
    | some j =>
      rw [e] at hp
      obtain ⟨hp1, hp2⟩ := hp
      obtain ⟨h1, t1, e1, m1, g1, v1, v2, o1⟩ := m.sC (t 0) j
      obtain ⟨h2, t2, e2, m2, g2, v3, o2⟩ := m1.e0 j
      rw [o1 1 (by omega) (by omega), o1 2 (by omega) (by omega), o1 3 (by omega) (by omega), ← e1] at e2
      rw [show (h.set (b + 1) (ce_SL c (t 0) j)).set b (ce_FO 9 c j (t 1) (tr_tl b t)) = h2 from e2] at hp2
      subst hp2
      exact ⟨hp1, t2, ⟨m2, g1.tr g2⟩, v3, by rw [o2 _ (by omega), v1], by rw [o2 _ (by omega), v2], fun r h1 h2 h3 => by rw [o2 r h1, o1 r h2 h3]⟩)
theorem mt_takeT {l : Launch} {G : am_G} {h : am_H} {b c : Nat} {g : Int → Int} {t : Nat → Int} {i : Nat} {mp ms : Int} (m : am_tr h b c g t) (d : mp_bd g t) (hi : i < 4) (hmp : 0 ≤ mp ∧ mp < 1000000) (hms : 0 ≤ ms ∧ ms < 1000000) : am_M l G M_FO_takeParts [.ref b, .ref (b + 4 + 3 * i), am_n mp, am_n ms] h (fun r h' => match sp_take g mp ms (t 0) (t 1) with
    | none => r = some (am_n 0) ∧ h = h'
    | some j => r = some (am_n 1) ∧ ∃ t', tr_to h b c g h' t' ∧ t' 0 = j ∧ t' (32 + 24 * i) = t 0 ∧ t' (33 + 24 * i) = j ∧ ∀ r, r ≠ 0 → r ≠ 32 + 24 * i → r ≠ 33 + 24 * i → t' r = t r) :=
  (m_FO_takeParts (m.fo d) (m.ST hi) hmp hms).imp (fun r h' hp => by
    cases e : sp_take g mp ms (t 0) (t 1) with
    | none =>
      rw [e] at hp
      exact ⟨hp.1, hp.2.symm⟩
    | some j =>
      rw [e] at hp
      obtain ⟨hp1, hp2⟩ := hp
      obtain ⟨h1, t1, e1, m1, g1, v1, v2, o1⟩ := m.sT hi (t 0) j
      obtain ⟨h2, t2, e2, m2, g2, v3, o2⟩ := m1.e0 j
      rw [o1 1 (by omega) (by omega), o1 2 (by omega) (by omega), o1 3 (by omega) (by omega), ← e1] at e2
      rw [show (h.set (b + 4 + 3 * i) (ce_SL c (t 0) j)).set b (ce_FO 9 c j (t 1) (tr_tl b t)) = h2 from e2] at hp2
      subst hp2
      exact ⟨hp1, t2, ⟨m2, g1.tr g2⟩, v3, by rw [o2 _ (by omega), v1], by rw [o2 _ (by omega), v2], fun r h1 h2 h3 => by rw [o2 r h1, o1 r h2 h3]⟩)
theorem mt_takeP {l : Launch} {G : am_G} {h : am_H} {b c : Nat} {g : Int → Int} {t : Nat → Int} {i : Nat} {mp ms : Int} (m : am_tr h b c g t) (d : mp_bd g t) (hi : i < 20) (hmp : 0 ≤ mp ∧ mp < 1000000) (hms : 0 ≤ ms ∧ ms < 1000000) : am_M l G M_FO_takeParts [.ref b, .ref (b + 19 + 4 * i), am_n mp, am_n ms] h (fun r h' => match sp_take g mp ms (t 0) (t 1) with
    | none => r = some (am_n 0) ∧ h = h'
    | some j => r = some (am_n 1) ∧ ∃ t', tr_to h b c g h' t' ∧ t' 0 = j ∧ t' (152 + 32 * i) = t 0 ∧ t' (153 + 32 * i) = j ∧ ∀ r, r ≠ 0 → r ≠ 152 + 32 * i → r ≠ 153 + 32 * i → t' r = t r) :=
  (m_FO_takeParts (m.fo d) (m.SP hi) hmp hms).imp (fun r h' hp => by
    cases e : sp_take g mp ms (t 0) (t 1) with
    | none =>
      rw [e] at hp
      exact ⟨hp.1, hp.2.symm⟩
    | some j =>
      rw [e] at hp
      obtain ⟨hp1, hp2⟩ := hp
      obtain ⟨h1, t1, e1, m1, g1, v1, v2, o1⟩ := m.sP hi (t 0) j
      obtain ⟨h2, t2, e2, m2, g2, v3, o2⟩ := m1.e0 j
      rw [o1 1 (by omega) (by omega), o1 2 (by omega) (by omega), o1 3 (by omega) (by omega), ← e1] at e2
      rw [show (h.set (b + 19 + 4 * i) (ce_SL c (t 0) j)).set b (ce_FO 9 c j (t 1) (tr_tl b t)) = h2 from e2] at hp2
      subst hp2
      exact ⟨hp1, t2, ⟨m2, g1.tr g2⟩, v3, by rw [o2 _ (by omega), v1], by rw [o2 _ (by omega), v2], fun r h1 h2 h3 => by rw [o2 r h1, o1 r h2 h3]⟩)
theorem mt_wordInto {l : Launch} {G : am_G} {h : am_H} {b c : Nat} {g : Int → Int} {t : Nat → Int} {i : Nat} {w : Nat} (m : am_tr h b c g t) (d : mp_bd g t) (hi : i < 20) (hw : w < 15) : am_M l G M_FO_takeWordInto [.ref b, .retAddr w, .ref (b + 19 + 4 * i)] h (fun r h' => r = some (am_n (sp_i (sp_tw g w (t 0) (t 1)))) ∧ ∃ t', tr_to h b c g h' t' ∧ t' 0 = sp_th g w (t 0) (t 1) ∧ t' (152 + 32 * i) = t 0 ∧ t' (153 + 32 * i) = sp_mi w (t 0) (t 1) ∧ ∀ r, r ≠ 0 → r ≠ 152 + 32 * i → r ≠ 153 + 32 * i → t' r = t r) :=
  (m_FO_takeWordInto (m.fo d) (m.SP hi) hw).imp (fun r h' hp => by
      obtain ⟨hp1, hp2⟩ := hp
      obtain ⟨h1, t1, e1, m1, g1, v1, v2, o1⟩ := m.sP hi (t 0) (sp_mi w (t 0) (t 1))
      obtain ⟨h2, t2, e2, m2, g2, v3, o2⟩ := m1.e0 (sp_th g w (t 0) (t 1))
      rw [o1 1 (by omega) (by omega), o1 2 (by omega) (by omega), o1 3 (by omega) (by omega), ← e1] at e2
      rw [show (h.set (b + 19 + 4 * i) (ce_SL c (t 0) (sp_mi w (t 0) (t 1)))).set b (ce_FO 9 c (sp_th g w (t 0) (t 1)) (t 1) (tr_tl b t)) = h2 from e2] at hp2
      subst hp2
      exact ⟨hp1, t2, ⟨m2, g1.tr g2⟩, v3, by rw [o2 _ (by omega), v1], by rw [o2 _ (by omega), v2], fun r h1 h2 h3 => by rw [o2 r h1, o1 r h2 h3]⟩)
theorem mt_takeRest {l : Launch} {G : am_G} {h : am_H} {b c : Nat} {g : Int → Int} {t : Nat → Int} {i : Nat} (m : am_tr h b c g t) (d : mp_bd g t) (hi : i < 4) : am_M l G M_FO_takeRest [.ref b, .ref (b + 5 + 3 * i)] h (fun r h' => r = none ∧ ∃ t', tr_to h b c g h' t' ∧ t' (40 + 24 * i) = t 0 ∧ t' (41 + 24 * i) = t 1 ∧ ∀ r, r ≠ 0 → r ≠ 40 + 24 * i → r ≠ 41 + 24 * i → t' r = t r) :=
  (m_FO_takeRest (m.fo d) (m.SG hi)).imp (fun r h' hp => by
      obtain ⟨hp1, hp2⟩ := hp
      obtain ⟨h1, t1, e1, m1, g1, v1, v2, o1⟩ := m.sG hi (t 0) (t 1)
      obtain ⟨h2, t2, e2, m2, g2, v3, o2⟩ := m1.e0 (t 1)
      rw [o1 1 (by omega) (by omega), o1 2 (by omega) (by omega), o1 3 (by omega) (by omega), ← e1] at e2
      rw [show (h.set (b + 5 + 3 * i) (ce_SL c (t 0) (t 1))).set b (ce_FO 9 c (t 1) (t 1) (tr_tl b t)) = h2 from e2] at hp2
      subst hp2
      exact ⟨hp1, t2, ⟨m2, g1.tr g2⟩, by rw [o2 _ (by omega), v1], by rw [o2 _ (by omega), v2], fun r h1 h2 h3 => by rw [o2 r h1, o1 r h2 h3]⟩)
