/-! a mapping in words: names as lists of codes -/
def nm (g : Int → Int) (a b : Int) : List Int := sp_sp g a (b - a).toNat
theorem sp_sp_cons (f : Int → Int) (a : Int) (n : Nat) : sp_sp f a (n + 1) = f a :: sp_sp f (a + 1) n := by
  unfold sp_sp
  rw [List.range_succ_eq_map, List.map_cons, List.map_map]
  congr 1
  · rw [show a + ((0 : Nat) : Int) = a by omega]
  · apply List.map_congr_left
    intro i _
    show f (a + ((i + 1 : Nat) : Int)) = f (a + 1 + (i : Int))
    congr 1
    omega
theorem sp_same_iff (g1 g2 : Int → Int) : ∀ (n : Nat) (a b : Int), sp_same g1 g2 a b n = decide (sp_sp g1 a n = sp_sp g2 b n)
  | 0, a, b => by rw [sp_same]; exact (decide_eq_true rfl).symm
  | n + 1, a, b => by
    rw [sp_same, sp_same_iff g1 g2 n, sp_sp_cons, sp_sp_cons]
    by_cases h1 : g1 a = g2 b
    · by_cases h2 : sp_sp g1 (a + 1) n = sp_sp g2 (b + 1) n
      · simp [h1, h2]
      · simp [h1, h2]
    · simp [h1]
theorem nm_len (g : Int → Int) (a b : Int) : (nm g a b).length = (b - a).toNat := sp_sp_len g a _
theorem sp_eq_nm {g1 g2 : Int → Int} {f1 t1 f2 t2 : Int} (h1 : f1 ≤ t1) (h2 : f2 ≤ t2) : sp_eq g1 f1 t1 g2 f2 t2 = decide (nm g1 f1 t1 = nm g2 f2 t2) := by
  unfold sp_eq
  by_cases e : t2 - f2 = t1 - f1
  · rw [decide_eq_true e, Bool.true_and, sp_same_iff]
    unfold nm
    rw [e]
  · rw [decide_eq_false e, Bool.false_and]
    refine (decide_eq_false (fun z => e ?_)).symm
    have := congrArg List.length z
    rw [nm_len, nm_len] at this
    omega
abbrev pm_C : Type := List Int × List Int
abbrev pm_W : Type := (List Int × List Int × List Int) × (Int × Int × Int × Int)
/-- a method line: owner, method, short name; range, real range; its class line; does it begin a group -/
abbrev pm_L : Type := (List Int × List Int × List Int) × (Int × Int × Int × Int) × Nat × Bool
abbrev pm_S : Type := List pm_C × List pm_L
def pm_ml (g : Int → Int) (real : List Int) (a e : Int) : Option pm_W := match sp_mline g a e (-1) (-1) with
  | none => none
  | some v => some ((if v.1 = -1 then real else nm g v.1 v.2.1, nm g v.2.2.1 v.2.2.2.1, nm g v.2.2.2.2.1 v.2.2.2.2.2.1), (v.2.2.2.2.2.2.1, v.2.2.2.2.2.2.2.1, v.2.2.2.2.2.2.2.2.1, v.2.2.2.2.2.2.2.2.2))
def pm_on (L : List pm_L) (w : pm_W) (p : Nat) : Bool := match L.getLast? with
  | none => false
  | some x => decide (w.2.1 ≠ -1 ∧ x.2.2.1 = p ∧ x.2.1.1 = w.2.1 ∧ x.2.1.2.1 = w.2.2.1 ∧ x.1.2.2 = w.1.2.2)
def pm_step (g : Int → Int) (S : pm_S) (a e : Int) : Option pm_S :=
  if a = e ∨ g a = 35 then some S
  else if sp_tw g 0 a e = true then (match S.1.getLast? with
    | none => none
    | some c => if S.2.length = 32 then none else (match pm_ml g c.1 (a + 4) e with
      | none => none
      | some w => some (S.1, S.2 ++ [(w.1, w.2, S.1.length - 1, !pm_on S.2 w (S.1.length - 1))])))
  else if S.1.length = 8 then none else (match sp_cline g a e with
    | none => none
    | some (j, k) => if S.1.any (fun c => decide (c.1 = nm g a j) || decide (c.2 = nm g (j + 4) k)) = true then none else some (S.1 ++ [(nm g a j, nm g (j + 4) k)], S.2))
def rp_C (g : Int → Int) (s : Nat → Int) (S : pm_S) (i : Nat) (c : pm_C) : Prop := (0 ≤ s (8 + 7 * i) ∧ s (8 + 7 * i) ≤ s (9 + 7 * i) ∧ s (9 + 7 * i) ≤ 600) ∧ (0 ≤ s (10 + 7 * i) ∧ s (10 + 7 * i) ≤ s (11 + 7 * i) ∧ s (11 + 7 * i) ≤ 600) ∧ nm g (s (8 + 7 * i)) (s (9 + 7 * i)) = c.1 ∧ nm g (s (10 + 7 * i)) (s (11 + 7 * i)) = c.2 ∧
  (0 ≤ s (12 + 7 * i) ∧ s (12 + 7 * i) ≤ s (13 + 7 * i) ∧ s (13 + 7 * i) ≤ S.2.length) ∧ (∀ (j : Nat) x, S.2[j]? = some x → (x.2.2.1 = i ↔ s (12 + 7 * i) ≤ j ∧ j < s (13 + 7 * i))) ∧ s (14 + 7 * i) = ((S.2.filter (fun x => x.2.2.2 && decide (x.2.2.1 = i))).length : Nat) ∧ (i + 1 = S.1.length → s (13 + 7 * i) = S.2.length)
def rp_L (g : Int → Int) (s : Nat → Int) (S : pm_S) (i : Nat) (x : pm_L) : Prop := mp_lv s i ∧ (nm g (s (64 + 12 * i)) (s (65 + 12 * i)) = x.1.1 ∧ nm g (s (66 + 12 * i)) (s (67 + 12 * i)) = x.1.2.1 ∧ nm g (s (68 + 12 * i)) (s (69 + 12 * i)) = x.1.2.2) ∧ (s (72 + 12 * i) = x.2.1.1 ∧ s (73 + 12 * i) = x.2.1.2.1 ∧ s (74 + 12 * i) = x.2.1.2.2.1 ∧ s (75 + 12 * i) = x.2.1.2.2.2) ∧ s (70 + 12 * i) = x.2.2.1 ∧ x.2.2.1 < S.1.length ∧
  (x.2.2.2 = false → s (71 + 12 * i) = 0 ∧ 0 < i ∧ ∀ y, S.2[i - 1]? = some y → x.2.1.1 ≠ -1 ∧ y.2.2.1 = x.2.2.1 ∧ y.2.1.1 = x.2.1.1 ∧ y.2.1.2.1 = x.2.1.2.1 ∧ y.1.2.2 = x.1.2.2) ∧
  (x.2.2.2 = true → ∃ m : Nat, s (71 + 12 * i) = m ∧ 1 ≤ m ∧ i + m ≤ S.2.length ∧ (∀ (j : Nat) y, i < j → j < i + m → S.2[j]? = some y → y.2.2.2 = false) ∧ (∀ y, S.2[i + m]? = some y → y.2.2.2 = true))
def rp_q (s : Nat → Int) (S : pm_S) : Prop := (S.2 = [] ∧ s 5 = -1) ∨ ∃ (q : Nat) (y : pm_L), s 5 = q ∧ q < S.2.length ∧ S.2[q]? = some y ∧ y.2.2.2 = true ∧ s (71 + 12 * q) = S.2.length - q ∧ ∀ z, S.2.getLast? = some z → z.2.2.1 = y.2.2.1 ∧ z.2.1.1 = y.2.1.1 ∧ z.2.1.2.1 = y.2.1.2.1 ∧ z.1.2.2 = y.1.2.2
def mp_rep (g : Int → Int) (s : Nat → Int) (S : pm_S) : Prop := s 2 = (S.1.length : Nat) ∧ S.1.length ≤ 8 ∧ s 3 = (S.2.length : Nat) ∧ S.2.length ≤ 32 ∧ s 4 = ((S.2.filter (fun x => x.2.2.2)).length : Nat) ∧ (∀ (i : Nat) c, S.1[i]? = some c → rp_C g s S i c) ∧ (∀ (i : Nat) x, S.2[i]? = some x → rp_L g s S i x) ∧ rp_q s S
theorem pm_get {α : Type} {L : List α} {x y : α} {j : Nat} (h : (L ++ [x])[j]? = some y) : (j < L.length ∧ L[j]? = some y) ∨ (j = L.length ∧ y = x) := by
  by_cases hj : j < L.length
  · rw [List.getElem?_append_left hj] at h
    exact Or.inl ⟨hj, h⟩
  · rw [List.getElem?_append_right (by omega)] at h
    have : j - L.length = 0 := by
      by_cases z : j - L.length = 0
      · exact z
      · obtain ⟨k, hk⟩ : ∃ k, j - L.length = k + 1 := ⟨j - L.length - 1, by omega⟩
        rw [hk] at h
        simp at h
    rw [this] at h
    exact Or.inr ⟨by omega, (Option.some.inj h).symm⟩
theorem pm_lt {α : Type} {L : List α} {y : α} {j : Nat} (h : L[j]? = some y) : j < L.length := by
  by_cases hj : j < L.length
  · exact hj
  · rw [List.getElem?_eq_none (by omega)] at h
    cases h
theorem pm_ml_of {g : Int → Int} {a e x y : Int} (ha : 0 ≤ a) (hae : a ≤ e) : pm_ml g (nm g x y) a e = (sp_mline g a e x y).map (fun v => ((nm g v.1 v.2.1, nm g v.2.2.1 v.2.2.2.1, nm g v.2.2.2.2.1 v.2.2.2.2.2.1), (v.2.2.2.2.2.2.1, v.2.2.2.2.2.2.2.1, v.2.2.2.2.2.2.2.2.1, v.2.2.2.2.2.2.2.2.2))) := by
  unfold pm_ml sp_mline
  cases e1 : sp_rg g a e with
  | none => rfl
  | some w1 =>
    obtain ⟨a1, fi, la⟩ := w1
    have r1 := sp_rg_in hae e1
    simp only
    cases e2 : sp_take g 40 40 a1 e with
    | none => rfl
    | some j =>
      simp only
      cases e3 : sp_rr g j e fi la with
      | none => rfl
      | some w3 =>
        obtain ⟨a3, rf, rl⟩ := w3
        simp only
        by_cases e4 : sp_tw g 2 a3 e = true
        · rw [if_pos e4, if_pos e4]
          cases e5 : sp_take g 1 40 (a3 + 4) e with
          | none => rfl
          | some k =>
            simp only
            by_cases e6 : e ≤ k
            · rw [if_pos e6, if_pos e6]
              simp only [Option.map_some, Option.some.injEq, Prod.mk.injEq, and_true]
              unfold sp_of sp_ot
              by_cases z : sp_lp g a1 (j - a1).toNat = -1
              · simp only [if_pos z]
                exact if_pos trivial
              · simp only [if_neg z]
                exact if_neg (by omega)
            · rw [if_neg e6, if_neg e6]
              rfl
        · rw [if_neg e4, if_neg e4]
          rfl
