/-! the model shortens: the best group -/
def sb_P (S : pm_S) (F : List pt_F) (i : Nat) (b : Int × Int × Int) : Prop := (∀ j : Nat, j < i → sf_fit S F j ≠ -1 → sf_sz S j ≤ b.2.1) ∧ (∀ j : Nat, (j : Int) < b.1 → sf_fit S F j ≠ -1 → sf_sz S j < b.2.1) ∧ b.1 < i
theorem sb_all {S : pm_S} {F : List pt_F} : ∀ (k i : Nat) (b : Int × Int × Int), sb_P S F i b → sb_P S F (i + k) (sf_best S F k i b)
  | 0, _, _, h => h
  | k + 1, i, b, h => by
    unfold sf_best
    have : sb_P S F (i + 1) (if b.2.1 < sf_sz S i ∧ sf_fit S F i ≠ -1 then ((i : Int), sf_sz S i, sf_fit S F i) else b) := by
      obtain ⟨h1, h2, h3⟩ := h
      by_cases c : b.2.1 < sf_sz S i ∧ sf_fit S F i ≠ -1
      · rw [if_pos c]
        refine ⟨fun j hj hf => ?_, fun j hj hf => ?_, by simp only; omega⟩
        · show sf_sz S j ≤ sf_sz S i
          by_cases e : j = i
          · rw [e]; exact Int.le_refl _
          · have := h1 j (by omega) hf; omega
        · show sf_sz S j < sf_sz S i
          have := h1 j (by simp only at hj; omega) hf
          omega
      · rw [if_neg c]
        refine ⟨fun j hj hf => ?_, h2, by omega⟩
        by_cases e : j = i
        · subst e
          rcases Int.lt_or_le b.2.1 (sf_sz S j) with z | z
          · exact absurd ⟨z, hf⟩ c
          · exact z
        · exact h1 j (by omega) hf
    have z := sb_all k (i + 1) _ this
    rw [show i + 1 + k = i + (k + 1) by omega] at z
    exact z
theorem ld_prev {L : List pm_L} {g : Nat} : ∀ e : Nat, e ≤ L.length → pm_ld L e = g + 1 → ∃ (i : Nat) (x : pm_L), i < e ∧ L[i]? = some x ∧ x.2.2.2 = true ∧ pm_ld L i = g ∧ ∀ (j : Nat) y, i < j → j < e → L[j]? = some y → y.2.2.2 = false
  | 0, _, h => by
    have : pm_ld L 0 = 0 := rfl
    omega
  | e + 1, he, h => by
    have hx := List.getElem?_eq_getElem (show e < L.length by omega)
    have hs := pm_ld_s hx
    cases c : (L[e]'(by omega)).2.2.2 with
    | true =>
      rw [if_pos c] at hs
      exact ⟨e, _, by omega, hx, c, by omega, fun j y h1 h2 => by omega⟩
    | false =>
      rw [if_neg (by rw [c]; decide)] at hs
      obtain ⟨i, x, q1, q2, q3, q4, q5⟩ := ld_prev (L := L) (g := g) e (by omega) (by omega)
      refine ⟨i, x, by omega, q2, q3, q4, fun j y h1 h2 h3 => ?_⟩
      by_cases z : j = e
      · subst z
        rw [hx] at h3
        cases h3
        exact c
      · exact q5 j y h1 (by omega) h3
/-- the best group among those that begin at i or behind it -/
def sq_P (S : pm_S) (F : List pt_F) (i : Nat) : Option Nat → Prop
  | none => ∀ (j : Nat) y, i ≤ j → S.2[j]? = some y → y.2.2.2 = true → sf_fit S F j = -1
  | some b => ∃ x, S.2[b]? = some x ∧ x.2.2.2 = true ∧ i ≤ b ∧ sf_fit S F b ≠ -1 ∧ (∀ (j : Nat) y, i ≤ j → S.2[j]? = some y → y.2.2.2 = true → sf_fit S F j ≠ -1 → sf_sz S j ≤ sf_sz S b) ∧ (∀ (j : Nat) y, i ≤ j → j < b → S.2[j]? = some y → y.2.2.2 = true → sf_fit S F j ≠ -1 → sf_sz S j < sf_sz S b)
theorem sf_sz_lead {S : pm_S} {i : Nat} {x : pm_L} (hx : S.2[i]? = some x) (hl : x.2.2.2 = true) : sf_sz S i = (pf_end S i : Nat) - i ∧ 1 ≤ sf_sz S i := by
  have e := pf_end_le (S := S) (am_lt hx)
  unfold sf_sz
  rw [pm_ln_eq hx, hl, if_pos rfl]
  omega
theorem best_eq {S : pm_S} {F : List pt_F} {o : Option Nat} (q : sq_P S F 0 o) : (sf_best S F S.2.length 0 (-1, 0, 0)).1 = sp_oi o ∧ (∀ b, o = some b → (sf_best S F S.2.length 0 (-1, 0, 0)).2.1 = (pf_end S b : Nat) - b ∧ (sf_best S F S.2.length 0 (-1, 0, 0)).2.2 = sf_fit S F b) := by
  have okb := sf_best_ok (S := S) (F := F) S.2.length 0 (-1, 0, 0) (by omega) (Or.inl rfl)
  have pb := sb_all (S := S) (F := F) S.2.length 0 (-1, 0, 0) ⟨fun j hj => by omega, fun j hj => by simp only at hj; omega, by simp⟩
  rw [Nat.zero_add] at pb
  generalize sf_best S F S.2.length 0 (-1, 0, 0) = B at okb pb
  cases o with
  | none =>
    rcases okb with z | ⟨i, x, h1, h2, h3, h4, h5, h6⟩
    · rw [z]
      exact ⟨rfl, fun b hb => by cases hb⟩
    · exact absurd (q i x (Nat.zero_le i) h1 h2) h6
  | some b =>
    obtain ⟨y, q1, q2, -, q3, q4, q5⟩ := q
    have bl := am_lt q1
    have sb := sf_sz_lead q1 q2
    have hb := pb.1 b bl q3
    rcases okb with z | ⟨i, x, h1, h2, h3, h4, h5, h6⟩
    · rw [z] at hb
      simp only at hb
      omega
    · have si := sf_sz_lead h1 h2
      have hi := q4 i x (Nat.zero_le i) h1 h2 h6
      have hib : i = b := by
        rcases Nat.lt_trichotomy i b with z | z | z
        · have := q5 i x (Nat.zero_le i) z h1 h2 h6
          omega
        · exact z
        · have := pb.2.1 b (by omega) q3
          omega
      subst hib
      refine ⟨h3, fun b' hb' => ?_⟩
      cases hb'
      exact ⟨h4, h5⟩
