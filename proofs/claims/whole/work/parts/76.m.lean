/-! a frame line's text -/
theorem sp_lp_pt (g : Int → Int) (a : Int) : ∀ n : Nat, sp_lp g a n ≠ -1 → g (sp_lp g a n) = 46
  | 0, h => absurd rfl h
  | n + 1, h => by
    unfold sp_lp at h ⊢
    by_cases c : g (a + n) = 46
    · rw [if_pos c]
      exact c
    · rw [if_neg c] at h ⊢
      exact sp_lp_pt g a n h
theorem pl_q {g : Int → Int} {j e pf pt ln q : Int} {hf : Bool} (h : sp_pl g j e = some (pf, pt, hf, ln, q)) (hq : e ≤ q) : g (e - 1) = 41 := by
  have key : ∀ i, sp_tw g 11 i e = true → i + 1 = q → g (e - 1) = 41 := fun i hi hiq => by
    have := sp_tw_41.mp hi
    rw [show e - 1 = i by omega]
    exact this.2
  unfold sp_pl at h
  split at h
  · split at h
    · split at h
      · rename_i c
        simp only [Option.some.injEq, Prod.mk.injEq] at h
        exact key _ c (by omega)
      · cases h
    · split at h
      · split at h
        · rename_i c
          simp only [Option.some.injEq, Prod.mk.injEq] at h
          exact key _ c (by omega)
        · cases h
      · split at h
        · cases h
        · split at h
          · split at h
            · rename_i c
              simp only [Option.some.injEq, Prod.mk.injEq] at h
              exact key _ c.2 (by omega)
            · cases h
          · split at h
            · rename_i c
              simp only [Option.some.injEq, Prod.mk.injEq] at h
              exact key _ c (by omega)
            · cases h
  · cases h
def fr_of (g : Int → Int) (a e : Int) (x : Int × Int × Int × Int) : pt_F := ((nm g (a + 4) x.1, nm g (x.1 + 1) x.2.1, nm g (x.2.1 + 1) (if nw_is g (x.2.1 + 1) (e - 1) = true then e - 1 else x.2.2.1)), !nw_is g (x.2.1 + 1) (e - 1), x.2.2.2)
theorem pr_nw {g : Int → Int} {a t : Int} {x : Int × Int} (h : pr_pl g a t = some x) (hn : nw_is g a t = true) : x = (a, -1) := by
  unfold pr_pl at h
  rw [if_pos hn] at h
  exact (Option.some.inj h).symm
theorem fr_eq {g : Int → Int} {a e : Int} (h0 : 0 ≤ a) (t5 : sp_tw g 5 a e = true) : pt_fr g (a + 4) e = (fr_ps g a e).map (fr_of g a e) := by
  have h4 : a + 4 ≤ e := sp_tw_le t5
  unfold pt_fr fr_ps sp_call
  rw [if_pos t5]
  cases e1 : sp_take g 40 40 (a + 4) e with
  | none => rfl
  | some j =>
    have hj := sp_take_in h4 e1
    simp only
    by_cases hlp : sp_lp g (a + 4) (j - (a + 4)).toNat = -1
    · rw [if_pos hlp, if_pos hlp]
      rfl
    · rw [if_neg hlp, if_neg hlp]
      simp only
      generalize sp_lp g (a + 4) (j - (a + 4)).toNat = p at *
      by_cases c : j + 1 < e ∧ g j = 40 ∧ g (e - 1) = 41
      · rw [if_pos c]
        have pe := pl_eq (g := g) (a := j + 1) (t := e - 1) (by omega) (by omega) (by rw [show j + 1 - 1 = j by omega]; exact c.2.1) c.2.2
        rw [show j + 1 - 1 = j by omega, show e - 1 + 1 = e by omega] at pe
        unfold pl_out at pe
        cases e2 : pr_pl g (j + 1) (e - 1) with
        | none =>
          rw [e2] at pe
          cases e3 : sp_pl g j e with
          | none => rfl
          | some y =>
            obtain ⟨pf, pt, hf, ln, q⟩ := y
            rw [e3] at pe
            simp only [Option.map_none] at pe ⊢
            by_cases cq : e ≤ q
            · rw [if_pos cq] at pe
              cases pe
            · rw [if_neg cq]
        | some y =>
          obtain ⟨k, ln⟩ := y
          rw [e2] at pe
          cases e3 : sp_pl g j e with
          | none =>
            rw [e3] at pe
            simp only at pe
            split at pe <;> cases pe
          | some z =>
            obtain ⟨pf, pt, hf, ln', q⟩ := z
            rw [e3] at pe
            simp only at pe ⊢
            by_cases cq : e ≤ q
            · rw [if_pos cq] at pe ⊢
              unfold fr_of
              simp only [Option.map_some]
              cases nw : nw_is g (j + 1) (e - 1) with
              | true =>
                rw [nw, if_pos rfl] at pe
                simp only [Option.map_some, Option.some.injEq, Prod.mk.injEq] at pe
                obtain ⟨q1, q2, q3, q4⟩ := pe
                have := pr_nw e2 nw
                simp only [Prod.mk.injEq] at this
                rw [q1, q2, q3, q4, this.2]
                rfl
              | false =>
                rw [nw, if_neg (by decide)] at pe
                simp only [Option.map_some, Option.some.injEq, Prod.mk.injEq] at pe
                obtain ⟨q1, q2, q3, q4⟩ := pe
                rw [q1, q2, q3, q4]
                rfl
            · rw [if_neg cq] at pe
              split at pe <;> cases pe
      · rw [if_neg c]
        simp only [Option.map_none]
        cases e3 : sp_pl g j e with
        | none => rfl
        | some z =>
          obtain ⟨pf, pt, hf, ln', q⟩ := z
          simp only
          by_cases cq : e ≤ q
          · exfalso
            have q41 := pl_q e3 cq
            have q40 : sp_tw g 8 j e = true := by
              cases z8 : sp_tw g 8 j e with
              | true => rfl
              | false =>
                unfold sp_pl at e3
                rw [z8, if_neg (by decide)] at e3
                cases e3
            have q40 := sp_tw_40.mp q40
            refine c ⟨?_, q40.2, q41⟩
            rcases Int.lt_or_le (j + 1) e with w | w
            · exact w
            · have : e - 1 = j := by omega
              rw [this, q40.2] at q41
              omega
          · rw [if_neg cq]
theorem fr_in {g : Int → Int} {a e p j k ln : Int} (h0 : 0 ≤ a) (h : fr_ps g a e = some (p, j, k, ln)) : sp_tw g 5 a e = true ∧ (a + 4 < p ∨ a + 4 = p) ∧ p < j ∧ g p = 46 ∧ j + 1 < e ∧ g j = 40 ∧ g (e - 1) = 41 ∧ pr_pl g (j + 1) (e - 1) = some (k, ln) := by
  unfold fr_ps at h
  split at h
  · rename_i t5
    have h4 : a + 4 ≤ e := sp_tw_le t5
    split at h
    · cases h
    · rename_i j' e1
      have hj := sp_take_in h4 e1
      split at h
      · cases h
      · rename_i hlp
        split at h
        · rename_i c
          split at h
          · cases h
          · rename_i k' ln' e2
            simp only [Option.some.injEq, Prod.mk.injEq] at h
            obtain ⟨h1, h2, h3, h4'⟩ := h
            subst h2
            subst h3
            subst h4'
            have lin := sp_lp_in g (a + 4) (by omega) (j' - (a + 4)).toNat
            have lpt := sp_lp_pt g (a + 4) (j' - (a + 4)).toNat hlp
            rw [h1] at lin lpt hlp
            exact ⟨t5, by omega, by omega, lpt, c.1, c.2.1, c.2.2, e2⟩
        · cases h
  · cases h
theorem pr_in {g : Int → Int} {a t k ln : Int} (h0 : 0 ≤ a) (hat : a ≤ t) (h : pr_pl g a t = some (k, ln)) : (nw_is g a t = true ∧ k = a ∧ ln = -1) ∨ (nw_is g a t = false ∧ a < k ∧ k ≤ t ∧ ((k = t ∧ ln = -1) ∨ (k < t ∧ g k = 58 ∧ sp_nu g (k + 1) t = some (ln, t) ∧ 0 ≤ ln ∧ ln < 10000))) := by
  have fin : pf_end2 g a t = -1 ∨ (a < pf_end2 g a t ∧ pf_end2 g a t ≤ t) := by
    have pin := sp_pe_in g h0 hat
    unfold pf_end2
    split
    · rename_i z
      have := sp_pe_in g (a := sp_pe g a t + 1) (e := t) (by omega) (by omega)
      omega
    · omega
  unfold pr_pl at h
  cases nw : nw_is g a t with
  | true =>
    rw [nw, if_pos rfl] at h
    simp only [Option.some.injEq, Prod.mk.injEq] at h
    exact Or.inl ⟨rfl, h.1.symm, h.2.symm⟩
  | false =>
    rw [nw, if_neg (by decide)] at h
    refine Or.inr ⟨rfl, ?_⟩
    split at h
    · cases h
    · rename_i k1
      have fin := fin.resolve_left k1
      split at h
      · rename_i c
        split at h
        · rename_i c2
          simp only [Option.some.injEq, Prod.mk.injEq] at h
          obtain ⟨h1, h2⟩ := h
          rw [h1] at fin c c2 h2
          rcases nu_cases g (show k + 1 ≤ t by omega) with ⟨o1, o2, o3, o4⟩ | ⟨v', i, o1, o2, o3, o4, o5, o6, o7, o8⟩
          · omega
          · refine ⟨fin.1, fin.2, Or.inr ⟨c.1, c.2, ?_, by omega, by omega⟩⟩
            rw [o1, ← h2, o3, ← c2, o2]
        · cases h
      · split at h
        · rename_i c2
          simp only [Option.some.injEq, Prod.mk.injEq] at h
          obtain ⟨h1, h2⟩ := h
          rw [h1] at fin c2
          exact ⟨fin.1, fin.2, Or.inl ⟨c2, h2.symm⟩⟩
        · cases h
/-- behind the file -/
theorem fr_tail {g : Int → Int} {a e p j k ln : Int} (h0 : 0 ≤ a) (h : fr_ps g a e = some (p, j, k, ln)) : nm g k e ++ [10] = (if (fr_of g a e (p, j, k, ln)).2.1 = true then [] else (fr_of g a e (p, j, k, ln)).1.2.2) ++ w_close ln ∧ (j + 1 < k ↔ (fr_of g a e (p, j, k, ln)).2.1 = true) ∧ j + 1 ≤ k ∧ k ≤ e - 1 ∧ (-1 ≤ ln ∧ ln < 10000) := by
  obtain ⟨t5, hp, hpj, gp, hje, gj, ge, hpr⟩ := fr_in h0 h
  have wd12 : sp_wd 12 = [41, 10] := rfl
  have one : nm g (e - 1) e = [41] := by
    rw [nm_cons g (by omega), nm_nil g (by omega), ge]
  rcases pr_in (by omega) (by omega) hpr with ⟨nw, hk, hln⟩ | ⟨nw, k1, k2, hk⟩
  · refine ⟨?_, ?_, by omega, by omega, by omega⟩
    · unfold fr_of
      simp only [nw, if_true, Bool.not_true, Bool.false_eq_true, if_false]
      rw [hk, hln, ← nm_app g (show j + 1 ≤ e - 1 by omega) (show e - 1 ≤ e by omega), one]
      show nm g (j + 1) (e - 1) ++ [41] ++ [10] = nm g (j + 1) (e - 1) ++ ((if (-1 : Int) = -1 then [] else 58 :: sp_num (-1)) ++ sp_wd 12)
      rw [if_pos rfl, wd12]
      simp
    · unfold fr_of
      simp only [nw, Bool.not_true]
      exact ⟨fun z => by omega, fun z => by cases z⟩
  · refine ⟨?_, ?_, by omega, by omega, by omega⟩
    · unfold fr_of
      simp only [nw, Bool.not_false, if_true, Bool.false_eq_true, if_false, List.nil_append]
      unfold w_close
      rcases hk with ⟨hk, hln⟩ | ⟨hk, g58, hnu, l1, l2⟩
      · rw [hk, one, hln, if_pos rfl, wd12]
        rfl
      · rw [nm_cons g (show k < e by omega), g58, ← nm_app g (show k + 1 ≤ e - 1 by omega) (show e - 1 ≤ e by omega), nm_num hnu, one, if_neg (by omega), wd12]
        simp
    · unfold fr_of
      simp only [nw, Bool.not_false]
      exact ⟨fun _ => trivial, fun _ => by omega⟩
theorem fr_text {g : Int → Int} {a e p j k ln : Int} (h0 : 0 ≤ a) (h : fr_ps g a e = some (p, j, k, ln)) : nm g a e ++ [10] = w_same (fr_of g a e (p, j, k, ln)) := by
  obtain ⟨tl, -, hk1, hk2, -⟩ := fr_tail h0 h
  obtain ⟨t5, hp, hpj, gp, hje, gj, ge, hpr⟩ := fr_in h0 h
  have w5 : nm g a (a + 4) = sp_wd 5 := nm_tw (by decide) t5
  have d1 : nm g a e = sp_wd 5 ++ nm g (a + 4) p ++ [46] ++ nm g (p + 1) j ++ [40] ++ nm g (j + 1) k ++ nm g k e := by
    rw [← nm_app g (show a ≤ a + 4 by omega) (show a + 4 ≤ e by have := hp; omega), w5, ← nm_app g (show a + 4 ≤ p by omega) (show p ≤ e by omega), nm_cons g (show p < e by omega), gp, ← nm_app g (show p + 1 ≤ j by omega) (show j ≤ e by omega), nm_cons g (show j < e by omega), gj, ← nm_app g (show j + 1 ≤ k by omega) (show k ≤ e by omega)]
    simp
  rw [d1, List.append_assoc, tl]
  unfold w_same w_open fr_of
  rcases pr_in (by omega) (by omega) hpr with ⟨nw, hk, hln⟩ | ⟨nw, k1, k2, hk⟩
  · simp only [nw, if_true, Bool.not_true, Bool.false_eq_true, if_false]
    rw [hk, nm_nil g (Int.le_refl (j + 1))]
    simp
  · simp only [nw, Bool.not_false, if_true, Bool.false_eq_true, if_false]
    simp
