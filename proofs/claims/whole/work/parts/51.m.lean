/-! a mapping and a trace, read off a text -/
theorem sp_take_cg {g' g : Int → Int} {mp ms a e : Int} (h : sp_ag g' g 0 a e) : sp_take g' mp ms a e = sp_take g mp ms a e := by
  have := sp_take_sh (mp := mp) (ms := ms) h
  simpa using this
theorem sp_tw_cg {g' g : Int → Int} {w : Nat} {a e : Int} (h : sp_ag g' g 0 a e) : sp_tw g' w a e = sp_tw g w a e := by
  have := sp_tw_sh (w := w) h
  simpa using this
theorem sp_nv_cg {g' g : Int → Int} {a e : Int} (h : sp_ag g' g 0 a e) : sp_nv g' a e = sp_nv g a e := by
  have := sp_nv_sh h
  simpa using this
theorem sp_ni_cg {g' g : Int → Int} {a e : Int} (h : sp_ag g' g 0 a e) : sp_ni g' a e = sp_ni g a e := by
  have := sp_ni_sh h
  simpa using this
theorem nm_cg {g' g : Int → Int} {a b : Int} (h : sp_ag g' g 0 a b) : nm g' a b = nm g a b := by
  have := nm_sh h
  simpa using this
theorem sp_lp_cg {g' g : Int → Int} {a : Int} {n : Nat} (h : sp_ag g' g 0 a (a + n)) : sp_lp g' a n = sp_lp g a n := by
  rcases sp_lpo h with ⟨q1, q2⟩ | ⟨i, i1, i2, i3⟩
  · rw [Int.add_zero] at q2
    rw [q1, q2]
  · rw [Int.add_zero] at i3
    rw [i2, i3, Int.add_zero]
theorem sp_rg_cg {g' g : Int → Int} {a e : Int} (hae : a ≤ e) (h : sp_ag g' g 0 a e) : sp_rg g' a e = sp_rg g a e := by
  unfold sp_rg
  by_cases c : a < e
  · have h0 : g' a = g a := by have := h a (by omega) c; rwa [Int.add_zero] at this
    have n1 := sp_nv_in (g := g) hae
    rw [h0, sp_nv_cg h, sp_ni_cg h, sp_tw_cg (h.sub n1.2.2.1 (Int.le_refl e))]
    by_cases c1 : sp_tw g 1 (sp_ni g a e) e = true
    · have c2 := sp_tw_1 c1
      have n2 := sp_nv_in (g := g) c2
      rw [sp_nv_cg (h.sub (by omega) (Int.le_refl e)), sp_ni_cg (h.sub (by omega) (Int.le_refl e)), sp_tw_cg (h.sub (by omega) (Int.le_refl e))]
    · by_cases c3 : a < e ∧ sp_fig (g a) = true
      · rw [if_pos c3, if_pos c3, if_neg (fun z => c1 z.2.1), if_neg (fun z => c1 z.2.1)]
      · rw [if_neg c3, if_neg c3]
  · rw [if_neg (fun z => c z.1), if_neg (fun z => c z.1)]
theorem sp_rr_cg {g' g : Int → Int} {a e fi la : Int} (h : sp_ag g' g 0 a e) : sp_rr g' a e fi la = sp_rr g a e fi la := by
  unfold sp_rr
  rw [sp_tw_cg h]
  by_cases c : fi = -1 ∨ sp_tw g 1 a e = false
  · rw [if_pos c, if_pos c]
  · rw [if_neg c, if_neg c]
    have c1 : sp_tw g 1 a e = true := by
      cases z : sp_tw g 1 a e with
      | true => rfl
      | false => exact absurd (Or.inr z) c
    have c2 := sp_tw_1 c1
    have n1 := sp_nv_in (g := g) c2
    rw [sp_nv_cg (h.sub (by omega) (Int.le_refl e)), sp_ni_cg (h.sub (by omega) (Int.le_refl e)), sp_tw_cg (h.sub (by omega) (Int.le_refl e))]
    by_cases c3 : sp_nv g (a + 1) e = -1
    · rw [if_pos c3, if_pos c3]
    · rw [if_neg c3, if_neg c3]
      by_cases c4 : sp_tw g 1 (sp_ni g (a + 1) e) e = true
      · have c5 := sp_tw_1 c4
        have n2 := sp_nv_in (g := g) c5
        rw [if_pos c4, if_pos c4, sp_nv_cg (h.sub (by omega) (Int.le_refl e)), sp_ni_cg (h.sub (by omega) (Int.le_refl e))]
      · rw [if_neg c4, if_neg c4]
theorem sp_mline_cg {g' g : Int → Int} {a e x y : Int} (hae : a ≤ e) (h : sp_ag g' g 0 a e) : sp_mline g' a e x y = sp_mline g a e x y := by
  unfold sp_mline
  rw [sp_rg_cg hae h]
  cases e1 : sp_rg g a e with
  | none => rfl
  | some w1 =>
    obtain ⟨a1, fi, la⟩ := w1
    have r1 := sp_rg_in hae e1
    simp only
    rw [sp_take_cg (h.sub (by omega) (Int.le_refl e))]
    cases e2 : sp_take g 40 40 a1 e with
    | none => rfl
    | some j =>
      have r2 := sp_take_in r1.2.1 e2
      simp only
      rw [sp_rr_cg (h.sub (by omega) (Int.le_refl e))]
      cases e3 : sp_rr g j e fi la with
      | none => rfl
      | some w3 =>
        obtain ⟨a3, rf, rl⟩ := w3
        have r3 := sp_rr_in (by omega) ⟨r1.2.2.1, r1.2.2.2.1⟩ r1.2.2.2.2 e3
        simp only
        rw [sp_tw_cg (h.sub (by omega) (Int.le_refl e))]
        by_cases c : sp_tw g 2 a3 e = true
        · have c2 := sp_tw_2 c
          have hl : sp_lp g' a1 (j - a1).toNat = sp_lp g a1 (j - a1).toNat := sp_lp_cg (h.sub (by omega) (by omega))
          rw [if_pos c, if_pos c, sp_take_cg (h.sub (by omega) (Int.le_refl e))]
          unfold sp_of sp_ot sp_mf
          rw [hl]
        · rw [if_neg c, if_neg c]
theorem sp_mline_in {g : Int → Int} {a e x y : Int} {v : Int × Int × Int × Int × Int × Int × Int × Int × Int × Int} (ha : 0 ≤ a) (hae : a ≤ e) (hx : x = -1 ∧ y = -1) (hs : sp_mline g a e x y = some v) : ((v.1 = -1) ∨ (a ≤ v.1 ∧ v.1 ≤ v.2.1 ∧ v.2.1 ≤ e)) ∧ (a ≤ v.2.2.1 ∧ v.2.2.1 ≤ v.2.2.2.1 ∧ v.2.2.2.1 ≤ e) ∧ (a ≤ v.2.2.2.2.1 ∧ v.2.2.2.2.1 ≤ v.2.2.2.2.2.1 ∧ v.2.2.2.2.2.1 ≤ e) ∧ pm_lok (([], [], []), (v.2.2.2.2.2.2.1, v.2.2.2.2.2.2.2.1, v.2.2.2.2.2.2.2.2.1, v.2.2.2.2.2.2.2.2.2), 0, true) := by
  unfold sp_mline at hs
  cases e1 : sp_rg g a e with
  | none => rw [e1] at hs; cases hs
  | some w1 =>
    obtain ⟨a1, fi, la⟩ := w1
    have r1 := sp_rg_in hae e1
    rw [e1] at hs
    simp only at hs
    cases e2 : sp_take g 40 40 a1 e with
    | none => rw [e2] at hs; cases hs
    | some j =>
      have r2 := sp_take_in r1.2.1 e2
      have hlp := sp_lp_in g a1 (by omega) (j - a1).toNat
      rw [e2] at hs
      simp only at hs
      cases e3 : sp_rr g j e fi la with
      | none => rw [e3] at hs; cases hs
      | some w3 =>
        obtain ⟨a3, rf, rl⟩ := w3
        have r3 := sp_rr_in (by omega) ⟨r1.2.2.1, r1.2.2.2.1⟩ r1.2.2.2.2 e3
        rw [e3] at hs
        simp only at hs
        by_cases c : sp_tw g 2 a3 e = true
        · have c2 := sp_tw_2 c
          rw [if_pos c] at hs
          cases e4 : sp_take g 1 40 (a3 + 4) e with
          | none => rw [e4] at hs; cases hs
          | some k =>
            have r4 := sp_take_in c2 e4
            rw [e4] at hs
            simp only at hs
            by_cases c5 : e ≤ k
            · rw [if_pos c5] at hs
              cases hs
              simp only
              refine ⟨?_, ?_, ?_, ?_⟩
              · unfold sp_of sp_ot
                by_cases z : sp_lp g a1 (j - a1).toNat = -1
                · rw [if_pos z]
                  exact Or.inl hx.1
                · rw [if_neg z, if_neg z]
                  exact Or.inr ⟨by omega, by omega, by omega⟩
              · unfold sp_mf
                by_cases z : sp_lp g a1 (j - a1).toNat = -1
                · rw [if_pos z]
                  omega
                · rw [if_neg z]
                  omega
              · omega
              · have hrg : (fi = -1 ∧ la = -1) ∨ (0 ≤ fi ∧ fi ≤ la ∧ la < 10000) := by
                  unfold sp_rg at e1
                  split at e1
                  · split at e1
                    · rename_i q
                      simp only [Option.some.injEq, Prod.mk.injEq] at e1
                      have n1 := sp_nv_in (g := g) hae
                      have n2 := sp_nv_in (g := g) (sp_tw_1 q.2.1)
                      omega
                    · cases e1
                  · simp only [Option.some.injEq, Prod.mk.injEq] at e1
                    omega
                unfold pm_lok
                simp only
                unfold sp_rr at e3
                split at e3
                · simp only [Option.some.injEq, Prod.mk.injEq] at e3
                  omega
                · rename_i q
                  have hfi : fi ≠ -1 := fun z => q (Or.inl z)
                  split at e3
                  · cases e3
                  · split at e3
                    · split at e3
                      · simp only [Option.some.injEq, Prod.mk.injEq] at e3
                        omega
                      · cases e3
                    · simp only [Option.some.injEq, Prod.mk.injEq] at e3
                      omega
            · rw [if_neg c5] at hs
              cases hs
        · rw [if_neg c] at hs
          cases hs
theorem pm_ml_cg {g' g : Int → Int} {real : List Int} {a e : Int} (ha : 0 ≤ a) (hae : a ≤ e) (h : sp_ag g' g 0 a e) : pm_ml g' real a e = pm_ml g real a e := by
  unfold pm_ml
  rw [sp_mline_cg hae h]
  cases e1 : sp_mline g a e (-1) (-1) with
  | none => rfl
  | some v =>
    have r := sp_mline_in ha hae ⟨rfl, rfl⟩ e1
    simp only
    rw [nm_cg (a := v.2.2.1) (b := v.2.2.2.1) (h.sub (by omega) (by omega)), nm_cg (a := v.2.2.2.2.1) (b := v.2.2.2.2.2.1) (h.sub (by omega) (by omega))]
    by_cases z : v.1 = -1
    · simp only [if_pos z]
    · simp only [if_neg z]
      rw [nm_cg (a := v.1) (b := v.2.1) (h.sub (by omega) (by omega))]
theorem sp_cline_cg {g' g : Int → Int} {a e : Int} (hae : a ≤ e) (h : sp_ag g' g 0 a e) : sp_cline g' a e = sp_cline g a e := by
  unfold sp_cline
  rw [sp_take_cg h]
  cases e1 : sp_take g 40 40 a e with
  | none => rfl
  | some j =>
    have r1 := sp_take_in hae e1
    simp only
    rw [sp_tw_cg (h.sub (by omega) (Int.le_refl e))]
    by_cases c : sp_tw g 2 j e = true
    · have c2 := sp_tw_2 c
      rw [if_pos c, if_pos c, sp_take_cg (h.sub (by omega) (Int.le_refl e))]
      cases e2 : sp_take g 40 40 (j + 4) e with
      | none => rfl
      | some k =>
        have r2 := sp_take_in c2 e2
        simp only
        rw [sp_tw_cg (h.sub (by omega) (Int.le_refl e))]
    · rw [if_neg c, if_neg c]
theorem pm_step_cg {g' g : Int → Int} {a e : Int} {S : pm_S} (ha : 0 ≤ a) (hae : a ≤ e) (h : sp_ag g' g 0 a e) : pm_step g' S a e = pm_step g S a e := by
  unfold pm_step
  by_cases c : a = e
  · rw [if_pos (Or.inl c), if_pos (Or.inl c)]
  · have h0 : g' a = g a := by have := h a (by omega) (by omega); rwa [Int.add_zero] at this
    rw [h0]
    by_cases c1 : a = e ∨ g a = 35
    · rw [if_pos c1, if_pos c1]
    · rw [if_neg c1, if_neg c1, sp_tw_cg h]
      by_cases c2 : sp_tw g 0 a e = true
      · have c3 := sp_tw_0 c2
        rw [if_pos c2, if_pos c2]
        cases S.1.getLast? with
        | none => rfl
        | some x =>
          simp only
          rw [pm_ml_cg (by omega) (by omega) (h.sub (by omega) (Int.le_refl e))]
      · rw [if_neg c2, if_neg c2, sp_cline_cg hae h]
        by_cases c4 : S.1.length = 8
        · rw [if_pos c4, if_pos c4]
        · rw [if_neg c4, if_neg c4]
          cases e1 : sp_cline g a e with
          | none => rfl
          | some p =>
            obtain ⟨j, k⟩ := p
            have r := sp_cline_in hae e1
            simp only
            rw [nm_cg (h.sub (Int.le_refl a) (by omega)), nm_cg (a := j + 4) (h.sub (by omega) (by omega))]
def pm_parse (dr : List Int) : Int ⊕ pm_S := pm_run (pm_step (fl dr)) (fl dr) dr.length (dr.length + 1) 0 1 ([], [])
def pt_parse (dr : List Int) : Int ⊕ pt_S := pm_run (pt_step (fl dr)) (fl dr) dr.length (dr.length + 1) 0 1 ([], [])
theorem pm_run_parse {g : Int → Int} {dr : List Int} (h : ∀ j : Nat, j < dr.length → g j = dr.getD j 0) : pm_run (pm_step g) g dr.length ((dr.length : Int) + 1).toNat 0 1 ([], []) = pm_parse dr := by
  have hag : sp_ag g (fl dr) 0 0 dr.length := fun i h1 h2 => by
    have := h i.toNat (by omega)
    rw [Int.add_zero, show i = ((i.toNat : Nat) : Int) by omega, this]
    rfl
  have := pm_run_sh (o := 0) (n := dr.length) (st' := pm_step g) (st := pm_step (fl dr)) (g' := g) (g := fl dr) (fun S a e h1 h2 h3 => by rw [Int.add_zero, Int.add_zero]; exact pm_step_cg h1 h2 (hag.sub h1 h3)) hag (dr.length + 1) 0 1 ([], []) (Int.le_refl 0)
  rw [Int.add_zero, Int.add_zero] at this
  rw [show ((dr.length : Int) + 1).toNat = dr.length + 1 by omega]
  exact this
theorem pt_run_parse {g : Int → Int} {dr : List Int} (h : ∀ j : Nat, j < dr.length → g j = dr.getD j 0) : pm_run (pt_step g) g dr.length ((dr.length : Int) + 1).toNat 0 1 ([], []) = pt_parse dr := by
  have hag : sp_ag g (fl dr) 0 0 dr.length := fun i h1 h2 => by
    have := h i.toNat (by omega)
    rw [Int.add_zero, show i = ((i.toNat : Nat) : Int) by omega, this]
    rfl
  have := pm_run_sh (o := 0) (n := dr.length) (st' := pt_step g) (st := pt_step (fl dr)) (g' := g) (g := fl dr) (fun S a e h1 h2 h3 => pt_step_sh h1 (Int.le_refl 0) h2 (hag.sub h1 h3)) hag (dr.length + 1) 0 1 ([], []) (Int.le_refl 0)
  rw [Int.add_zero, Int.add_zero] at this
  rw [show ((dr.length : Int) + 1).toNat = dr.length + 1 by omega]
  exact this
theorem sp_ix_no (g : Int → Int) (x : Int) : ∀ (n : Nat) (a i : Int), a ≤ i → i < sp_ix g x a n → g i ≠ x
  | 0, a, i, h1, h2 => by
    unfold sp_ix at h2
    omega
  | n + 1, a, i, h1, h2 => by
    unfold sp_ix at h2
    by_cases c : g a = x
    · rw [if_pos c] at h2
      omega
    · rw [if_neg c] at h2
      by_cases z : i = a
      · rw [z]; exact c
      · exact sp_ix_no g x n (a + 1) i (by omega) h2
/-- what a run of steps keeps -/
theorem pm_run_inv {α : Type} {st : α → Int → Int → Option α} {g : Int → Int} {n : Int} {I : α → Prop} (hst : ∀ S a e S', 0 ≤ a → a ≤ e → e ≤ n → (∀ i, a ≤ i → i < e → g i ≠ 10) → I S → st S a e = some S' → I S') : ∀ (f : Nat) (a row : Int) (S S' : α), 0 ≤ a → I S → pm_run st g n f a row S = .inr S' → I S'
  | 0, _, _, S, S', _, hI, h => by
    unfold pm_run at h
    cases h
    exact hI
  | f + 1, a, row, S, S', h0, hI, h => by
    unfold pm_run at h
    by_cases c : a ≤ n
    · rw [if_pos c] at h
      have hin := sp_ix_in g 10 (n - a).toNat a
      have hno : ∀ i, a ≤ i → i < sp_ix g 10 a (n - a).toNat → g i ≠ 10 := sp_ix_no g 10 _ a
      cases e1 : st S a (sp_ix g 10 a (n - a).toNat) with
      | none => rw [e1] at h; cases h
      | some S1 =>
        rw [e1] at h
        exact pm_run_inv hst f _ _ S1 S' (by omega) (hst S a _ S1 h0 (by omega) (by omega) hno hI e1) h
    · rw [if_neg c] at h
      cases h
      exact hI
theorem pm_parse_ok {dr : List Int} {S : pm_S} (h : pm_parse dr = .inr S) : pm_ok S := by
  refine pm_run_inv (I := pm_ok) (fun S a e S' ha hae _ _ hI hs => ?_) _ 0 1 _ S (Int.le_refl 0) (fun i x hx => by cases hx) h
  unfold pm_step at hs
  by_cases c1 : a = e ∨ fl dr a = 35
  · rw [if_pos c1] at hs
    cases hs
    exact hI
  · rw [if_neg c1] at hs
    by_cases c2 : sp_tw (fl dr) 0 a e = true
    · have c3 := sp_tw_0 c2
      rw [if_pos c2] at hs
      cases hl : S.1.getLast? with
      | none => rw [hl] at hs; cases hs
      | some c =>
        rw [hl] at hs
        simp only at hs
        by_cases c4 : S.2.length = 32
        · rw [if_pos c4] at hs
          cases hs
        · rw [if_neg c4] at hs
          cases hm : pm_ml (fl dr) c.1 (a + 4) e with
          | none => rw [hm] at hs; cases hs
          | some w =>
            rw [hm] at hs
            simp only [Option.some.injEq] at hs
            subst hs
            have hw : pm_lok (([], [], []), w.2, 0, true) := by
              unfold pm_ml at hm
              cases e1 : sp_mline (fl dr) (a + 4) e (-1) (-1) with
              | none => rw [e1] at hm; cases hm
              | some v =>
                rw [e1] at hm
                simp only [Option.some.injEq] at hm
                rw [← hm]
                exact (sp_mline_in (by omega) (by omega) ⟨rfl, rfl⟩ e1).2.2.2
            intro i x hx
            simp only at hx
            rcases pm_get hx with ⟨hi, hx⟩ | ⟨hi, rfl⟩
            · refine ⟨(hI i x hx).1, fun hf => ?_⟩
              obtain ⟨h1, h2⟩ := (hI i x hx).2 hf
              refine ⟨h1, fun y hy => h2 y ?_⟩
              rcases pm_get hy with ⟨-, hy⟩ | ⟨hk, -⟩
              · exact hy
              · omega
            · refine ⟨hw, fun hf => ?_⟩
              simp only [Bool.not_eq_false'] at hf
              unfold pm_on at hf
              cases hz : S.2.getLast? with
              | none => rw [hz] at hf; cases hf
              | some z =>
                rw [hz] at hf
                have hd := of_decide_eq_true hf
                rw [List.getLast?_eq_getElem?] at hz
                have zl := pm_lt hz
                refine ⟨by omega, fun y hy => ?_⟩
                rcases pm_get hy with ⟨-, hy⟩ | ⟨hk, -⟩
                · rw [hi] at hy
                  have : z = y := Option.some.inj (hz.symm.trans hy)
                  subst this
                  exact hd
                · omega
    · rw [if_neg c2] at hs
      by_cases c4 : S.1.length = 8
      · rw [if_pos c4] at hs
        cases hs
      · rw [if_neg c4] at hs
        cases e1 : sp_cline (fl dr) a e with
        | none => rw [e1] at hs; cases hs
        | some p =>
          obtain ⟨j, k⟩ := p
          rw [e1] at hs
          simp only at hs
          split at hs
          · cases hs
          · cases hs
            exact hI
