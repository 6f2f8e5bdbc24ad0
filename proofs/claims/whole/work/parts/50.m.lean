/-! codes that lie elsewhere -/
def sp_ag (g' g : Int → Int) (o lo hi : Int) : Prop := ∀ i, lo ≤ i → i < hi → g' (i + o) = g i
theorem sp_tp_sh {g' g : Int → Int} {o : Int} (mp : Int) : ∀ (n : Nat) (i ps q : Int), sp_ag g' g o i (i + n) → sp_tp g' mp n (i + o) (ps + o) q = (sp_tp g mp n i ps q).map (fun p => (p.1 + o, p.2 + o))
  | 0, i, ps, q, _ => rfl
  | n + 1, i, ps, q, h => by
    have h0 : g' (i + o) = g i := h i (by omega) (by omega)
    have h1 : sp_ag g' g o (i + 1) (i + 1 + n) := fun j a b => h j (by omega) (by omega)
    have e1 := sp_tp_sh mp n (i + 1) ps q h1
    have e2 := sp_tp_sh mp n (i + 1) (i + 1) (q + 1) h1
    rw [show i + 1 + o = i + o + 1 by omega] at e1 e2
    unfold sp_tp
    rw [h0, e1, e2]
    have d1 : decide (ps + o < i + o) = decide (ps < i) := decide_eq_decide.mpr (by omega)
    rw [d1]
    by_cases c1 : (sp_let (g i) || (sp_fig (g i) && decide (ps < i))) = true
    · rw [if_pos c1, if_pos c1]
    · rw [if_neg c1, if_neg c1]
      by_cases c2 : g i ≠ 46 ∨ i = ps ∨ q = mp
      · rw [if_pos c2, if_pos (by rcases c2 with c | c | c; exact Or.inl c; exact Or.inr (Or.inl (by omega)); exact Or.inr (Or.inr c))]
        rfl
      · rw [if_neg c2, if_neg (by rintro (c | c | c); exact c2 (Or.inl c); exact c2 (Or.inr (Or.inl (by omega))); exact c2 (Or.inr (Or.inr c)))]
        by_cases c3 : 40 < i - ps
        · rw [if_pos c3, if_pos (by omega)]
          rfl
        · rw [if_neg c3, if_neg (by omega)]
theorem sp_take_sh {g' g : Int → Int} {o : Int} {mp ms a e : Int} (h : sp_ag g' g o a e) : sp_take g' mp ms (a + o) (e + o) = (sp_take g mp ms a e).map (fun x => x + o) := by
  unfold sp_take
  rw [show e + o - (a + o) = e - a by omega, sp_tp_sh mp (e - a).toNat a a 1 (fun j x y => h j x (by omega))]
  cases sp_tp g mp (e - a).toNat a a 1 with
  | none => rfl
  | some p =>
    obtain ⟨i, ps⟩ := p
    simp only [Option.map_some]
    by_cases c : i = ps ∨ 40 < i - ps ∨ ms < i - a
    · rw [if_pos c, if_pos (by omega)]
      rfl
    · rw [if_neg c, if_neg (by omega)]
      rfl
theorem sp_same_sh {g' g w : Int → Int} {o : Int} : ∀ (n : Nat) (a b : Int), sp_ag g' g o a (a + n) → sp_same g' w (a + o) b n = sp_same g w a b n
  | 0, _, _, _ => rfl
  | n + 1, a, b, h => by
    have := sp_same_sh (w := w) n (a + 1) (b + 1) (fun j x y => h j (by omega) (by omega))
    rw [show a + 1 + o = a + o + 1 by omega] at this
    rw [sp_same, sp_same, this, h a (by omega) (by omega)]
theorem sp_tw_sh {g' g : Int → Int} {o : Int} {w : Nat} {a e : Int} (h : sp_ag g' g o a e) : sp_tw g' w (a + o) (e + o) = sp_tw g w a e := by
  unfold sp_tw
  rw [show e + o - (a + o) = e - a by omega]
  by_cases c : ((am_len.getD w 0 : Nat) : Int) ≤ e - a
  · rw [sp_same_sh _ _ _ (fun j x y => h j x (by omega))]
  · rw [decide_eq_false c, Bool.false_and, Bool.false_and]
theorem sp_run_sh {g' g : Int → Int} {o : Int} : ∀ (n : Nat) (a : Int), sp_ag g' g o a (a + n) → sp_run g' (a + o) n = sp_run g a n
  | 0, _, _ => rfl
  | n + 1, a, h => by
    have := sp_run_sh n (a + 1) (fun j x y => h j (by omega) (by omega))
    rw [show a + 1 + o = a + o + 1 by omega] at this
    rw [sp_run, sp_run, this, h a (by omega) (by omega)]
theorem sp_val_sh {g' g : Int → Int} {o a : Int} : ∀ (n : Nat), sp_ag g' g o a (a + n) → sp_val g' (a + o) n = sp_val g a n
  | 0, _ => rfl
  | n + 1, h => by
    have := sp_val_sh n (fun j x y => h j x (by omega))
    have h0 := h (a + n) (by omega) (by omega)
    rw [show a + (n : Int) + o = a + o + n by omega] at h0
    rw [sp_val, sp_val, this, h0]
theorem sp_nu_sh {g' g : Int → Int} {o a e : Int} (h : sp_ag g' g o a e) : sp_nu g' (a + o) (e + o) = (sp_nu g a e).map (fun p => (p.1, p.2 + o)) := by
  unfold sp_nu
  rw [show e + o - (a + o) = e - a by omega, sp_run_sh _ a (fun j x y => h j x (by omega))]
  by_cases z : 1 ≤ sp_run g a (e - a).toNat
  · have hl := sp_run_le g (e - a).toNat a
    have h0 : g' (a + o) = g a := h a (by omega) (by omega)
    rw [h0, sp_val_sh _ (fun j x y => h j x (by omega))]
    by_cases c : 1 ≤ sp_run g a (e - a).toNat ∧ sp_run g a (e - a).toNat ≤ 4 ∧ (sp_run g a (e - a).toNat = 1 ∨ g a ≠ 48)
    · rw [if_pos c, if_pos c]
      simp only [Option.map_some, Option.some.injEq, Prod.mk.injEq, true_and]
      omega
    · rw [if_neg c, if_neg c]
      rfl
  · rw [if_neg (fun c => z c.1), if_neg (fun c => z c.1)]
    rfl
theorem sp_nv_sh {g' g : Int → Int} {o a e : Int} (h : sp_ag g' g o a e) : sp_nv g' (a + o) (e + o) = sp_nv g a e := by
  unfold sp_nv
  rw [sp_nu_sh h]
  cases sp_nu g a e with
  | none => rfl
  | some p => rfl
theorem sp_ni_sh {g' g : Int → Int} {o a e : Int} (h : sp_ag g' g o a e) : sp_ni g' (a + o) (e + o) = sp_ni g a e + o := by
  unfold sp_ni
  rw [sp_nu_sh h]
  cases sp_nu g a e with
  | none => rfl
  | some p => rfl
theorem sp_lpo {g' g : Int → Int} {o a : Int} {n : Nat} (h : sp_ag g' g o a (a + n)) : (sp_lp g a n = -1 ∧ sp_lp g' (a + o) n = -1) ∨ (∃ i : Nat, i < n ∧ sp_lp g a n = a + i ∧ sp_lp g' (a + o) n = a + i + o) := by
  rcases sp_lp_sh g g' a (a + o) n (fun i hi => by rw [show a + o + (i : Int) = a + i + o by omega]; exact (h _ (by omega) (by omega)).symm) with q | ⟨i, h1, h2, h3⟩
  · exact Or.inl q
  · exact Or.inr ⟨i, h1, h2, by omega⟩
theorem sp_ix_sh {g' g : Int → Int} {o x : Int} : ∀ (n : Nat) (a : Int), sp_ag g' g o a (a + n) → sp_ix g' x (a + o) n = sp_ix g x a n + o
  | 0, _, _ => rfl
  | n + 1, a, h => by
    have := sp_ix_sh (x := x) n (a + 1) (fun j p q => h j (by omega) (by omega))
    rw [show a + 1 + o = a + o + 1 by omega] at this
    rw [sp_ix, sp_ix, this, h a (by omega) (by omega)]
    split <;> rfl
theorem nm_sh {g' g : Int → Int} {o a b : Int} (h : sp_ag g' g o a b) : nm g' (a + o) (b + o) = nm g a b := by
  unfold nm
  rw [show b + o - (a + o) = b - a by omega]
  exact sp_sp_cg _ _ _ _ _ (fun i hi => by rw [show a + o + (i : Int) = a + i + o by omega]; exact h _ (by omega) (by omega))
theorem sp_ag.sub {g' g : Int → Int} {o a b c d : Int} (h : sp_ag g' g o a b) (h1 : a ≤ c) (h2 : d ≤ b) : sp_ag g' g o c d := fun i x y => h i (by omega) (by omega)
theorem sp_hd_sh {g' g : Int → Int} {o a e : Int} (hae : a ≤ e) (h : sp_ag g' g o a e) : sp_hd g' (a + o) (e + o) = (sp_hd g a e).map (fun p => (p.1 + o, p.2.1, p.2.2 + o)) := by
  unfold sp_hd
  rw [sp_take_sh h]
  cases e1 : sp_take g 40 40 a e with
  | none => rfl
  | some j =>
    have r := sp_take_in hae e1
    simp only [Option.map_some]
    rw [sp_tw_sh (h.sub (by omega) (Int.le_refl e))]
    by_cases c : sp_tw g 4 j e = true
    · rw [if_pos c, if_pos c]
      simp only [Option.map_some, Option.some.injEq, Prod.mk.injEq, true_and]
      omega
    · rw [if_neg c, if_neg c]
      by_cases c2 : e ≤ j
      · rw [if_pos c2, if_pos (by omega)]
        rfl
      · rw [if_neg c2, if_neg (by omega)]
        rfl
theorem sp_more_sh {g' g : Int → Int} {o a e : Int} (h : sp_ag g' g o a e) : sp_more g' (a + o) (e + o) = sp_more g a e := by
  unfold sp_more
  rw [sp_tw_sh h]
  by_cases c : sp_tw g 6 a e = true
  · rw [if_pos c, if_pos c]
    have c1 : a + 5 ≤ e := (sp_twl 5 rfl c).1
    have n1 := sp_nv_in (g := g) c1
    rw [show a + o + 5 = a + 5 + o by omega, sp_nv_sh (h.sub (by omega) (Int.le_refl e)), sp_ni_sh (h.sub (by omega) (Int.le_refl e)), sp_tw_sh (h.sub (by omega) (Int.le_refl e))]
    by_cases c2 : sp_nv g (a + 5) e ≠ -1 ∧ sp_tw g 7 (sp_ni g (a + 5) e) e = true ∧ e ≤ sp_ni g (a + 5) e + 5
    · rw [if_pos c2, if_pos ⟨c2.1, c2.2.1, by omega⟩]
    · rw [if_neg c2, if_neg (fun z => c2 ⟨z.1, z.2.1, by omega⟩)]
  · rw [if_neg c, if_neg c]
theorem sp_call_sh {g' g : Int → Int} {o a e : Int} (h0 : 0 ≤ a) (ho : 0 ≤ o) (hae : a ≤ e) (h : sp_ag g' g o a e) : sp_call g' (a + o) (e + o) = (sp_call g a e).map (fun p => (p.1 + o, p.2 + o)) := by
  unfold sp_call
  rw [sp_take_sh h]
  cases e1 : sp_take g 40 40 a e with
  | none => rfl
  | some j =>
    have r := sp_take_in hae e1
    simp only [Option.map_some]
    rw [show j + o - (a + o) = j - a by omega]
    rcases sp_lpo (n := (j - a).toNat) (h.sub (Int.le_refl a) (by omega)) with ⟨q1, q2⟩ | ⟨i, i1, i2, i3⟩
    · rw [q1, q2, if_pos rfl, if_pos rfl]
      rfl
    · rw [i2, i3, if_neg (by omega), if_neg (by omega)]
      rfl
theorem sp_pl_sh {g' g : Int → Int} {o a e : Int} (hae : a ≤ e) (h : sp_ag g' g o a e) : sp_pl g' (a + o) (e + o) = (sp_pl g a e).map (fun p => (p.1 + o, p.2.1 + o, p.2.2.1, p.2.2.2.1, p.2.2.2.2 + o)) := by
  unfold sp_pl
  rw [sp_tw_sh h]
  by_cases c : sp_tw g 8 a e = true
  · rw [if_pos c, if_pos c]
    have c1 : a + 1 ≤ e := (sp_twl 1 rfl c).1
    rw [show a + o + 1 = a + 1 + o by omega, sp_tw_sh (h.sub (by omega) (Int.le_refl e)), sp_tw_sh (h.sub (by omega) (Int.le_refl e)), sp_take_sh (h.sub (by omega) (Int.le_refl e))]
    by_cases c9 : sp_tw g 9 (a + 1) e = true
    · rw [if_pos c9, if_pos c9, show a + o + 15 = a + 15 + o by omega, sp_tw_sh (h.sub (by omega) (Int.le_refl e))]
      by_cases c11 : sp_tw g 11 (a + 15) e = true
      · rw [if_pos c11, if_pos c11]
        simp only [Option.map_some, Option.some.injEq, Prod.mk.injEq, true_and]
        omega
      · rw [if_neg c11, if_neg c11]
        rfl
    · rw [if_neg c9, if_neg c9]
      by_cases c10 : sp_tw g 10 (a + 1) e = true
      · rw [if_pos c10, if_pos c10, show a + o + 14 = a + 14 + o by omega, sp_tw_sh (h.sub (by omega) (Int.le_refl e))]
        by_cases c11 : sp_tw g 11 (a + 14) e = true
        · rw [if_pos c11, if_pos c11]
          simp only [Option.map_some, Option.some.injEq, Prod.mk.injEq, true_and]
          omega
        · rw [if_neg c11, if_neg c11]
          rfl
      · rw [if_neg c10, if_neg c10]
        cases e1 : sp_take g 2 81 (a + 1) e with
        | none => rfl
        | some k =>
          have r := sp_take_in c1 e1
          simp only [Option.map_some]
          rw [sp_tw_sh (h.sub (by omega) (Int.le_refl e)), sp_tw_sh (w := 11) (a := k) (h.sub (by omega) (Int.le_refl e))]
          by_cases c12 : sp_tw g 1 k e = true
          · rw [if_pos c12, if_pos c12]
            have c13 : k + 1 ≤ e := (sp_twl 1 rfl c12).1
            have n1 := sp_nv_in (g := g) c13
            rw [show k + o + 1 = k + 1 + o by omega, sp_nv_sh (h.sub (by omega) (Int.le_refl e)), sp_ni_sh (h.sub (by omega) (Int.le_refl e)), sp_tw_sh (h.sub (by omega) (Int.le_refl e))]
            by_cases c14 : sp_nv g (k + 1) e ≠ -1 ∧ sp_tw g 11 (sp_ni g (k + 1) e) e = true
            · rw [if_pos c14, if_pos c14]
              simp only [Option.map_some, Option.some.injEq, Prod.mk.injEq, true_and]
              omega
            · rw [if_neg c14, if_neg c14]
              rfl
          · rw [if_neg c12, if_neg c12]
            by_cases c15 : sp_tw g 11 k e = true
            · rw [if_pos c15, if_pos c15]
              simp only [Option.map_some, Option.some.injEq, Prod.mk.injEq, true_and]
              omega
            · rw [if_neg c15, if_neg c15]
              rfl
  · rw [if_neg c, if_neg c]
    rfl
theorem pt_hd_sh {g' g : Int → Int} {o a e : Int} {S : pt_S} (hae : a ≤ e) (h : sp_ag g' g o a e) : pt_hd g' S (a + o) (e + o) = pt_hd g S a e := by
  unfold pt_hd
  rw [sp_hd_sh hae h]
  by_cases c : S.1.length = 4
  · rw [if_pos c, if_pos c]
  · rw [if_neg c, if_neg c]
    cases e1 : sp_hd g a e with
    | none => rfl
    | some p =>
      obtain ⟨j, mb, k⟩ := p
      have r := sp_hd_in hae e1
      simp only [Option.map_some]
      rw [nm_sh (h.sub (Int.le_refl a) (by omega)), nm_sh (h.sub (by omega) (Int.le_refl e))]
theorem pt_fr_sh {g' g : Int → Int} {o a e : Int} (h0 : 0 ≤ a) (ho : 0 ≤ o) (hae : a ≤ e) (h : sp_ag g' g o a e) : pt_fr g' (a + o) (e + o) = pt_fr g a e := by
  unfold pt_fr
  rw [sp_call_sh h0 ho hae h]
  cases e1 : sp_call g a e with
  | none => rfl
  | some p =>
    obtain ⟨j, q⟩ := p
    have r := sp_call_in h0 hae e1
    simp only [Option.map_some]
    rw [sp_pl_sh (by omega) (h.sub (by omega) (Int.le_refl e))]
    cases e2 : sp_pl g j e with
    | none => rfl
    | some p2 =>
      obtain ⟨pf, pt, hf, ln, q2⟩ := p2
      have r2 := sp_pl_in (by omega) e2
      simp only [Option.map_some]
      rw [nm_sh (h.sub (Int.le_refl a) (by omega)), show q + o + 1 = q + 1 + o by omega, nm_sh (h.sub (by omega) (by omega)), nm_sh (h.sub (by omega) (by omega))]
      by_cases c : e ≤ q2
      · rw [if_pos c, if_pos (by omega)]
      · rw [if_neg c, if_neg (by omega)]
theorem pt_step_sh {g' g : Int → Int} {o a e : Int} {S : pt_S} (h0 : 0 ≤ a) (ho : 0 ≤ o) (hae : a ≤ e) (h : sp_ag g' g o a e) : pt_step g' S (a + o) (e + o) = pt_step g S a e := by
  unfold pt_step
  cases hl : S.1.getLast? with
  | none => exact pt_hd_sh hae h
  | some x =>
    simp only
    rw [sp_tw_sh h, sp_tw_sh (w := 5) h, sp_more_sh h]
    by_cases c3 : sp_tw g 3 a e = true
    · have c4 : a + 11 ≤ e := (sp_twl 11 rfl c3).1
      rw [if_pos c3, if_pos c3, show a + o + 11 = a + 11 + o by omega, pt_hd_sh (by omega) (h.sub (by omega) (Int.le_refl e))]
    · rw [if_neg c3, if_neg c3]
      by_cases cm : x.2.1 ≠ -1
      · rw [if_pos cm, if_pos cm]
      · rw [if_neg cm, if_neg cm]
        by_cases c5 : sp_tw g 5 a e = true
        · have c6 : a + 4 ≤ e := (sp_twl 4 rfl c5).1
          rw [if_pos c5, if_pos c5, show a + o + 4 = a + 4 + o by omega, pt_fr_sh (by omega) ho (by omega) (h.sub (by omega) (Int.le_refl e))]
        · rw [if_neg c5, if_neg c5]
theorem pm_run_sh {α : Type} {st' st : α → Int → Int → Option α} {g' g : Int → Int} {o n : Int} (hst : ∀ S a e, 0 ≤ a → a ≤ e → e ≤ n → st' S (a + o) (e + o) = st S a e) (h : sp_ag g' g o 0 n) : ∀ (f : Nat) (a row : Int) (S : α), 0 ≤ a → pm_run st' g' (n + o) f (a + o) row S = pm_run st g n f a row S
  | 0, _, _, _, _ => rfl
  | f + 1, a, row, S, h0 => by
    unfold pm_run
    by_cases c : a ≤ n
    · rw [if_pos c, if_pos (by omega), show n + o - (a + o) = n - a by omega, sp_ix_sh _ a (h.sub (by omega) (by omega))]
      have hin := sp_ix_in g 10 (n - a).toNat a
      rw [hst S a _ h0 (by omega) (by omega)]
      cases st S a (sp_ix g 10 a (n - a).toNat) with
      | none => rfl
      | some S' =>
        simp only
        have := pm_run_sh hst h f (sp_ix g 10 a (n - a).toNat + 1) (row + 1) S' (by omega)
        rw [show sp_ix g 10 a (n - a).toNat + 1 + o = sp_ix g 10 a (n - a).toNat + o + 1 by omega] at this
        exact this
    · rw [if_neg c, if_neg (by omega)]
