/-! what names hold -/
def nch (c : Int) : Prop := c ≠ 9 ∧ c ≠ 10 ∧ c ≠ 32 ∧ c ≠ 40 ∧ c ≠ 58
def nmo (n : List Int) : Prop := ∀ c ∈ n, nch c
def no10 (n : List Int) : Prop := ∀ c ∈ n, c ≠ 10
theorem nmo.no {n : List Int} (h : nmo n) : no10 n := fun c hc => (h c hc).2.1
theorem nm_mem {g : Int → Int} {a b c : Int} (h : c ∈ nm g a b) : ∃ k, a ≤ k ∧ k < b ∧ c = g k := by
  unfold nm sp_sp at h
  rw [List.mem_map] at h
  obtain ⟨i, hi, rfl⟩ := h
  rw [List.mem_range] at hi
  exact ⟨a + (i : Nat), by omega, by omega, rfl⟩
theorem nm_nmo {g : Int → Int} {a b : Int} (h : ∀ k, a ≤ k → k < b → nch (g k)) : nmo (nm g a b) := fun c hc => by
  obtain ⟨k, k1, k2, rfl⟩ := nm_mem hc
  exact h k k1 k2
theorem nm_no10 {g : Int → Int} {a b : Int} (h : ∀ k, a ≤ k → k < b → g k ≠ 10) : no10 (nm g a b) := fun c hc => by
  obtain ⟨k, k1, k2, rfl⟩ := nm_mem hc
  exact h k k1 k2
theorem nm_fn {g : Int → Int} {a b : Int} (h : a < b) (hg : g (b - 1) ≠ 46) : fn_ok (nm g a b) := by
  refine ⟨?_, ?_⟩
  · rw [nm_cons g h]
    exact List.cons_ne_nil _ _
  · rw [nm_last h]
    exact fun z => hg (Option.some.inj z)
theorem let_nch {c : Int} {b : Bool} (h : (sp_let c || (sp_fig c && b)) = true) : nch c ∧ c ≠ 46 := by
  unfold sp_let sp_fig at h
  simp only [Bool.or_eq_true, Bool.and_eq_true, decide_eq_true_eq] at h
  unfold nch
  omega
theorem sp_tp_nm {g : Int → Int} {a : Int} (mp : Int) : ∀ (n : Nat) (i ps q i' ps' : Int), a ≤ ps → ps ≤ i → (∀ k, a ≤ k → k < i → nch (g k) ∧ (g k = 46 → a < k ∧ g (k - 1) ≠ 46)) → (∀ k, ps ≤ k → k < i → g k ≠ 46) → sp_tp g mp n i ps q = some (i', ps') → (∀ k, a ≤ k → k < i' → nch (g k) ∧ (g k = 46 → a < k ∧ g (k - 1) ≠ 46)) ∧ (∀ k, ps' ≤ k → k < i' → g k ≠ 46)
  | 0, i, ps, q, i', ps', _, _, h1, h2, hs => by
    unfold sp_tp at hs
    cases hs
    exact ⟨h1, h2⟩
  | n + 1, i, ps, q, i', ps', ha, hp, h1, h2, hs => by
    unfold sp_tp at hs
    by_cases c1 : (sp_let (g i) || (sp_fig (g i) && decide (ps < i))) = true
    · rw [if_pos c1] at hs
      have := let_nch c1
      refine sp_tp_nm mp n (i + 1) ps q i' ps' ha (by omega) (fun k k1 k2 => ?_) (fun k k1 k2 => ?_) hs
      · by_cases z : k = i
        · rw [z]
          exact ⟨this.1, fun z => absurd z this.2⟩
        · exact h1 k k1 (by omega)
      · by_cases z : k = i
        · rw [z]
          exact this.2
        · exact h2 k k1 (by omega)
    · rw [if_neg c1] at hs
      by_cases c2 : g i ≠ 46 ∨ i = ps ∨ q = mp
      · rw [if_pos c2] at hs
        cases hs
        exact ⟨h1, h2⟩
      · rw [if_neg c2] at hs
        by_cases c3 : 40 < i - ps
        · rw [if_pos c3] at hs
          cases hs
        · rw [if_neg c3] at hs
          have g46 : g i = 46 := by omega
          refine sp_tp_nm mp n (i + 1) (i + 1) (q + 1) i' ps' (by omega) (by omega) (fun k k1 k2 => ?_) (fun k k1 k2 => by omega) hs
          by_cases z : k = i
          · rw [z]
            refine ⟨by rw [g46]; unfold nch; omega, fun _ => ⟨by omega, h2 (i - 1) (by omega) (by omega)⟩⟩
          · exact h1 k k1 (by omega)
theorem sp_take_nm {g : Int → Int} {mp ms a e j : Int} (h : a ≤ e) (hs : sp_take g mp ms a e = some j) : (a < j ∧ j ≤ e) ∧ (∀ k, a ≤ k → k < j → nch (g k) ∧ (g k = 46 → a < k ∧ g (k - 1) ≠ 46)) ∧ g (j - 1) ≠ 46 := by
  refine ⟨sp_take_in h hs, ?_⟩
  unfold sp_take at hs
  cases e1 : sp_tp g mp (e - a).toNat a a 1 with
  | none => rw [e1] at hs; cases hs
  | some p =>
    obtain ⟨i, ps⟩ := p
    have k := sp_tp_nm mp _ a a 1 i ps (Int.le_refl a) (Int.le_refl a) (fun k k1 k2 => by omega) (fun k k1 k2 => by omega) e1
    have k3 := sp_tp_in g mp _ a a 1 i ps (Int.le_refl a) e1
    rw [e1] at hs
    simp only at hs
    split at hs
    · cases hs
    · rename_i c
      simp only [Option.some.injEq] at hs
      subst hs
      exact ⟨k.1, k.2 (i - 1) (by omega) (by omega)⟩
/-- the names of a mapping -/
def pm_nm (S : pm_S) : Prop := (∀ c ∈ S.1, fn_ok c.1 ∧ nmo c.1 ∧ c.2 ≠ [] ∧ nmo c.2) ∧ (∀ x ∈ S.2, (fn_ok x.1.1 ∧ nmo x.1.1 ∧ nmo x.1.2.1 ∧ nmo x.1.2.2) ∧ x.2.2.1 < S.1.length)
theorem pm_nm.fn {S : pm_S} (h : pm_nm S) : pm_fn S := ⟨fun _ c hc => (h.1 c (List.mem_of_getElem? hc)).1, fun _ x hx => (h.2 x (List.mem_of_getElem? hx)).1.1⟩
theorem pm_nm.cx {S : pm_S} (h : pm_nm S) : pm_cx S := fun _ x hx => (h.2 x (List.mem_of_getElem? hx)).2
theorem pm_ml_nm {g : Int → Int} {real : List Int} {a e : Int} {w : pm_W} (ha : 0 ≤ a) (hae : a ≤ e) (hr : fn_ok real ∧ nmo real) (hm : pm_ml g real a e = some w) : fn_ok w.1.1 ∧ nmo w.1.1 ∧ nmo w.1.2.1 ∧ nmo w.1.2.2 := by
  unfold pm_ml at hm
  cases e1 : sp_mline g a e (-1) (-1) with
  | none => rw [e1] at hm; cases hm
  | some v =>
    rw [e1] at hm
    simp only [Option.some.injEq] at hm
    rw [← hm]
    unfold sp_mline at e1
    cases d1 : sp_rg g a e with
    | none => rw [d1] at e1; cases e1
    | some p1 =>
      obtain ⟨a1, fi, la⟩ := p1
      have r1 := sp_rg_in hae d1
      rw [d1] at e1
      simp only at e1
      cases d2 : sp_take g 40 40 a1 e with
      | none => rw [d2] at e1; cases e1
      | some j =>
        have r2 := sp_take_nm r1.2.1 d2
        rw [d2] at e1
        simp only at e1
        cases d3 : sp_rr g j e fi la with
        | none => rw [d3] at e1; cases e1
        | some p3 =>
          obtain ⟨a3, rf, rl⟩ := p3
          rw [d3] at e1
          simp only at e1
          split at e1
          · rename_i w2
            have w3 := sp_tw_2 w2
            cases d4 : sp_take g 1 40 (a3 + 4) e with
            | none => rw [d4] at e1; cases e1
            | some k =>
              have r4 := sp_take_nm w3 d4
              rw [d4] at e1
              simp only at e1
              split at e1
              · simp only [Option.some.injEq] at e1
                rw [← e1]
                simp only
                have lp := sp_lp_in g a1 (by omega) (j - a1).toNat
                have lpp := sp_lp_pt g a1 (j - a1).toNat
                refine ⟨?_, ?_, ?_, nm_nmo (fun k k1 k2 => (r4.2.1 k k1 k2).1)⟩
                · unfold sp_of sp_ot
                  by_cases z : sp_lp g a1 (j - a1).toNat = -1
                  · rw [if_pos z, if_pos rfl]
                    exact hr.1
                  · rw [if_neg z, if_neg (by omega), if_neg z]
                    have := (r2.2.1 _ (by omega) (by omega)).2 (lpp z)
                    exact nm_fn this.1 this.2
                · unfold sp_of sp_ot
                  by_cases z : sp_lp g a1 (j - a1).toNat = -1
                  · rw [if_pos z, if_pos rfl]
                    exact hr.2
                  · rw [if_neg z, if_neg (by omega), if_neg z]
                    exact nm_nmo (fun k k1 k2 => (r2.2.1 k (by omega) (by omega)).1)
                · unfold sp_mf
                  by_cases z : sp_lp g a1 (j - a1).toNat = -1
                  · rw [if_pos z]
                    exact nm_nmo (fun k k1 k2 => (r2.2.1 k (by omega) (by omega)).1)
                  · rw [if_neg z]
                    exact nm_nmo (fun k k1 k2 => (r2.2.1 k (by omega) (by omega)).1)
              · cases e1
          · cases e1
theorem pm_parse_nm {dr : List Int} {S : pm_S} (h : pm_parse dr = .inr S) : pm_nm S := by
  refine pm_run_inv (I := pm_nm) (fun S a e S' ha hae _ _ hI hs => ?_) _ 0 1 _ S (Int.le_refl 0) ⟨fun c hc => absurd hc List.not_mem_nil, fun c hc => absurd hc List.not_mem_nil⟩ h
  unfold pm_step at hs
  by_cases c1 : a = e ∨ fl dr a = 35
  · rw [if_pos c1] at hs
    cases hs
    exact hI
  · rw [if_neg c1] at hs
    by_cases c2 : sp_tw (fl dr) 0 a e = true
    · have c3 := sp_tw_0 c2
      rw [if_pos c2] at hs
      cases hl : S.1.getLast? with
      | none => rw [hl] at hs; cases hs
      | some c =>
        have hcm := hI.1 c (List.mem_of_getLast? hl)
        have hlen : S.1.length ≠ 0 := fun z => by
          rw [List.length_eq_zero_iff.mp z] at hl
          cases hl
        rw [hl] at hs
        simp only at hs
        by_cases c4 : S.2.length = 32
        · rw [if_pos c4] at hs
          cases hs
        · rw [if_neg c4] at hs
          cases hm : pm_ml (fl dr) c.1 (a + 4) e with
          | none => rw [hm] at hs; cases hs
          | some w =>
            rw [hm] at hs
            simp only [Option.some.injEq] at hs
            subst hs
            have hw := pm_ml_nm (by omega) (by omega) ⟨hcm.1, hcm.2.1⟩ hm
            refine ⟨hI.1, fun x hx => ?_⟩
            simp only [List.mem_append, List.mem_singleton] at hx
            rcases hx with hx | rfl
            · exact hI.2 x hx
            · exact ⟨hw, by simp only; omega⟩
    · rw [if_neg c2] at hs
      split at hs
      · cases hs
      · cases e1 : sp_cline (fl dr) a e with
        | none => rw [e1] at hs; cases hs
        | some p =>
          obtain ⟨j, k⟩ := p
          rw [e1] at hs
          simp only at hs
          split at hs
          · cases hs
          · simp only [Option.some.injEq] at hs
            subst hs
            have hn : fn_ok (nm (fl dr) a j) ∧ nmo (nm (fl dr) a j) ∧ nm (fl dr) (j + 4) k ≠ [] ∧ nmo (nm (fl dr) (j + 4) k) := by
              unfold sp_cline at e1
              cases d1 : sp_take (fl dr) 40 40 a e with
              | none => rw [d1] at e1; cases e1
              | some j1 =>
                have r1 := sp_take_nm hae d1
                rw [d1] at e1
                simp only at e1
                split at e1
                · rename_i w2
                  have w3 := sp_tw_2 w2
                  cases d2 : sp_take (fl dr) 40 40 (j1 + 4) e with
                  | none => rw [d2] at e1; cases e1
                  | some k1 =>
                    have r2 := sp_take_nm w3 d2
                    rw [d2] at e1
                    simp only at e1
                    split at e1
                    · simp only [Option.some.injEq, Prod.mk.injEq] at e1
                      obtain ⟨rfl, rfl⟩ := e1
                      refine ⟨nm_fn r1.1.1 r1.2.2, nm_nmo (fun k k1 k2 => (r1.2.1 k k1 k2).1), ?_, nm_nmo (fun k k1 k2 => (r2.2.1 k k1 k2).1)⟩
                      rw [nm_cons _ r2.1.1]
                      exact List.cons_ne_nil _ _
                    · cases e1
                · cases e1
            refine ⟨fun c hc => ?_, fun x hx => ⟨(hI.2 x hx).1, ?_⟩⟩
            · simp only [List.mem_append, List.mem_singleton] at hc
              rcases hc with hc | rfl
              · exact hI.1 c hc
              · exact hn
            · have := (hI.2 x hx).2
              simp only [List.length_append, List.length_singleton]
              omega
/-- the names of a trace -/
def pt_nm (T : pt_S) : Prop := (∀ x ∈ T.1, x.1.1 ≠ [] ∧ nmo x.1.1 ∧ no10 x.1.2.2) ∧ (∀ f ∈ T.2, nmo f.1.1 ∧ nmo f.1.2.1 ∧ no10 f.1.2.2)
theorem pt_hd_nm {g : Int → Int} {S S' : pt_S} {a e : Int} (hae : a ≤ e) (hg : ∀ i, a ≤ i → i < e → g i ≠ 10) (hI : pt_nm S) (hs : pt_hd g S a e = some S') : pt_nm S' := by
  unfold pt_hd at hs
  split at hs
  · cases hs
  · cases e1 : sp_hd g a e with
    | none => rw [e1] at hs; cases hs
    | some p =>
      obtain ⟨j, mb, k⟩ := p
      rw [e1] at hs
      simp only [Option.some.injEq] at hs
      subst hs
      have hin := sp_hd_in hae e1
      refine ⟨fun x hx => ?_, hI.2⟩
      simp only [List.mem_append, List.mem_singleton] at hx
      rcases hx with hx | rfl
      · exact hI.1 x hx
      · have r : nmo (nm g a j) := by
          unfold sp_hd at e1
          cases d1 : sp_take g 40 40 a e with
          | none => rw [d1] at e1; cases e1
          | some j1 =>
            have r1 := sp_take_nm hae d1
            have : j1 = j := by
              rw [d1] at e1
              simp only at e1
              split at e1
              · simp only [Option.some.injEq, Prod.mk.injEq] at e1
                exact e1.1
              · split at e1
                · simp only [Option.some.injEq, Prod.mk.injEq] at e1
                  exact e1.1
                · cases e1
            rw [← this]
            exact nm_nmo (fun k k1 k2 => (r1.2.1 k k1 k2).1)
        refine ⟨?_, r, nm_no10 (fun i i1 i2 => hg i (by omega) i2)⟩
        simp only
        rw [nm_cons _ hin.1]
        exact List.cons_ne_nil _ _
theorem pt_parse_nm {dr : List Int} {T : pt_S} (h : pt_parse dr = .inr T) : pt_nm T := by
  refine pm_run_inv (I := pt_nm) (fun S a e S' ha hae _ hg hI hs => ?_) _ 0 1 _ T (Int.le_refl 0) ⟨fun c hc => absurd hc List.not_mem_nil, fun c hc => absurd hc List.not_mem_nil⟩ h
  unfold pt_step at hs
  cases hl : S.1.getLast? with
  | none =>
    rw [hl] at hs
    exact pt_hd_nm hae hg hI hs
  | some x =>
    rw [hl] at hs
    simp only at hs
    have hx := hI.1 x (List.mem_of_getLast? hl)
    have hdl : ∀ (y : pt_H), y.1 = x.1 → ∀ z ∈ S.1.dropLast ++ [y], z.1.1 ≠ [] ∧ nmo z.1.1 ∧ no10 z.1.2.2 := fun y hy z hz => by
      simp only [List.mem_append, List.mem_singleton] at hz
      rcases hz with hz | rfl
      · exact hI.1 z ((List.dropLast_sublist S.1).subset hz)
      · rw [hy]
        exact hx
    by_cases c1 : sp_tw (fl dr) 3 a e = true
    · have c2 : a + 11 ≤ e := sp_tw_le c1
      rw [if_pos c1] at hs
      exact pt_hd_nm c2 (fun i i1 i2 => hg i (by omega) i2) hI hs
    · rw [if_neg c1] at hs
      split at hs
      · cases hs
      · by_cases c2 : sp_tw (fl dr) 5 a e = true
        · have c3 : a + 4 ≤ e := sp_tw_le c2
          rw [if_pos c2] at hs
          split at hs
          · cases hs
          · cases hf : pt_fr (fl dr) (a + 4) e with
            | none => rw [hf] at hs; cases hs
            | some f =>
              rw [hf] at hs
              simp only [Option.some.injEq] at hs
              subst hs
              refine ⟨hdl _ rfl, fun y hy => ?_⟩
              simp only [List.mem_append, List.mem_singleton] at hy
              rcases hy with hy | rfl
              · exact hI.2 y hy
              · unfold pt_fr at hf
                cases d1 : sp_call (fl dr) (a + 4) e with
                | none => rw [d1] at hf; cases hf
                | some p =>
                  obtain ⟨j, q⟩ := p
                  have r0 := sp_call_in (by omega) c3 d1
                  rw [d1] at hf
                  simp only at hf
                  cases d2 : sp_pl (fl dr) j e with
                  | none => rw [d2] at hf; cases hf
                  | some v =>
                    obtain ⟨pf, pt, hb, ln, q2⟩ := v
                    have r1 := sp_pl_in (by omega) d2
                    rw [d2] at hf
                    simp only at hf
                    split at hf
                    · simp only [Option.some.injEq] at hf
                      rw [← hf]
                      have r2 : ∀ k, a + 4 ≤ k → k < j → nch (fl dr k) := by
                        unfold sp_call at d1
                        cases d3 : sp_take (fl dr) 40 40 (a + 4) e with
                        | none => rw [d3] at d1; cases d1
                        | some j1 =>
                          have r3 := sp_take_nm c3 d3
                          rw [d3] at d1
                          simp only at d1
                          split at d1
                          · cases d1
                          · simp only [Option.some.injEq, Prod.mk.injEq] at d1
                            rw [← d1.1]
                            exact fun k k1 k2 => (r3.2.1 k k1 k2).1
                      exact ⟨nm_nmo (fun k k1 k2 => r2 k k1 (by omega)), nm_nmo (fun k k1 k2 => r2 k (by omega) k2), nm_no10 (fun i i1 i2 => hg i (by omega) (by omega))⟩
                    · cases hf
        · rw [if_neg c2] at hs
          cases hm : sp_more (fl dr) a e with
          | none => rw [hm] at hs; cases hs
          | some v =>
            rw [hm] at hs
            simp only [Option.some.injEq] at hs
            subst hs
            exact ⟨hdl _ rfl, hI.2⟩
