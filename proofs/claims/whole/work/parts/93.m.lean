/-! how many frames a print shows; the key of a print, line by line -/
def kp : Bool → List Int → Int
  | _, [] => 0
  | b, c :: r => (if b = true ∧ c = 9 ∧ r.head? = some 97 then 1 else 0) + kp (decide (c = 10)) r
theorem kp_skip {R : List Int} : ∀ L : List Int, no10 L → kp false (L ++ ([10] ++ R)) = kp true R
  | [], _ => by
    show kp false (10 :: R) = kp true R
    rw [kp, if_neg (fun z => Bool.false_ne_true z.1), Int.zero_add]
    rfl
  | c :: L, h => by
    rw [List.cons_append, kp, if_neg (fun z => Bool.false_ne_true z.1), Int.zero_add, decide_eq_false (h c List.mem_cons_self)]
    exact kp_skip L (fun y hy => h y (List.mem_cons_of_mem _ hy))
theorem kp_no {c : Int} {L R : List Int} (hc : c ≠ 9) (h : no10 (c :: L)) : kp true (c :: L ++ ([10] ++ R)) = kp true R := by
  rw [List.cons_append, kp, if_neg (fun z => hc z.2.1), Int.zero_add, decide_eq_false (h c List.mem_cons_self)]
  exact kp_skip L (fun y hy => h y (List.mem_cons_of_mem _ hy))
theorem kv_no10 {x : kv_L} (h : kv_ok x) : no10 (kv_t x) := by
  rcases x with ⟨c, X⟩ | ⟨A, B⟩ | X
  · unfold kv_t
    refine no10.app ?_ h.2.1
    split
    · exact no10_wd 3 (by decide) (by decide)
    · exact no10_nil
  · exact no10.app (no10_wd 5 (by decide) (by decide)) (h.1.no.app (no10.app (fun c hc => by rw [List.mem_singleton.mp hc]; decide) h.2))
  · exact no10.app (no10_wd 6 (by decide) (by decide)) h
theorem kp_line {x : kv_L} {R : List Int} (h : kv_ok x) : kp true (kv_t x ++ ([10] ++ R)) = kv_c x + kp true R := by
  have hn := kv_no10 h
  rcases x with ⟨c, X⟩ | ⟨A, B⟩ | X
  · obtain ⟨rfl, -⟩ := h
    exact (kp_no (c := 67) (by decide) hn).trans (Int.zero_add _).symm
  · show kp true (9 :: 97 :: 116 :: 32 :: (A ++ ([40] ++ B)) ++ ([10] ++ R)) = 1 + kp true R
    rw [List.cons_append, kp, if_pos ⟨rfl, rfl, rfl⟩, show decide ((9 : Int) = 10) = false from rfl]
    congr 1
    exact kp_skip _ (fun y hy => hn y (List.mem_cons_of_mem _ hy))
  · show kp true (9 :: 46 :: 46 :: 46 :: 32 :: X ++ ([10] ++ R)) = 0 + kp true R
    rw [List.cons_append, kp, if_neg (fun z => absurd z.2.2 (by show ¬ some (46 : Int) = some 97; decide)), show decide ((9 : Int) = 10) = false from rfl]
    congr 1
    exact kp_skip _ (fun y hy => hn y (List.mem_cons_of_mem _ hy))
theorem kp_lines : ∀ K : List kv_L, (∀ x ∈ K, kv_ok x) → kp true (kv_x K) = sm (K.map kv_c)
  | [], _ => rfl
  | x :: K, h => by
    rw [kv_x_cons, kp_line (h x List.mem_cons_self), kp_lines K (fun y hy => h y (List.mem_cons_of_mem _ hy))]
    rfl
theorem kp_kw0 {X : List Int} {z : Int} (h : kw0 X z) : kp true X = z := by
  rcases h with ⟨rfl, rfl⟩ | ⟨Y, K, rfl, hY, hK, rfl⟩
  · rfl
  · rw [kv_x_cons, ← kp_lines K hK]
    obtain ⟨hn, n, r, rfl, n1, n2, -⟩ := hY
    cases n with
    | nil => exact absurd rfl n1
    | cons c n => exact kp_no (n2 c List.mem_cons_self).1 hn
/-! where a text stands -/
def la (g : Int → Int) : Int → List Int → Prop
  | _, [] => True
  | p, c :: X => g p = c ∧ la g (p + 1) X
theorem la_app {g : Int → Int} : ∀ {X Y : List Int} {p : Int}, la g p (X ++ Y) ↔ la g p X ∧ la g (p + X.length) Y
  | [], Y, p => by
    show la g p Y ↔ True ∧ la g (p + ((0 : Nat) : Int)) Y
    rw [show p + ((0 : Nat) : Int) = p by omega]
    exact ⟨fun h => ⟨trivial, h⟩, fun h => h.2⟩
  | c :: X, Y, p => by
    show (g p = c ∧ la g (p + 1) (X ++ Y)) ↔ (g p = c ∧ la g (p + 1) X) ∧ la g (p + ((X.length + 1 : Nat) : Int)) Y
    rw [la_app (X := X) (Y := Y), show p + ((X.length + 1 : Nat) : Int) = p + 1 + (X.length : Nat) by omega]
    exact ⟨fun h => ⟨⟨h.1, h.2.1⟩, h.2.2⟩, fun h => ⟨h.1.1, h.1.2, h.2⟩⟩
theorem la_of {g : Int → Int} : ∀ (X : List Int) (p : Int), (∀ j : Nat, j < X.length → g (p + j) = X.getD j 0) → la g p X
  | [], _, _ => trivial
  | c :: X, p, h => by
    refine ⟨?_, la_of X (p + 1) (fun j hj => ?_)⟩
    · have := h 0 (by simp)
      rw [show p + ((0 : Nat) : Int) = p by omega] at this
      exact this
    · have := h (j + 1) (by simp; omega)
      rw [show p + ((j + 1 : Nat) : Int) = p + 1 + (j : Nat) by omega] at this
      exact this
theorem la_rl {g : Int → Int} {X : List Int} (h : rl g X) : la g 0 X := la_of X 0 (fun j hj => by rw [Int.zero_add]; exact h j hj)
theorem la_no {g : Int → Int} {P : Int → Prop} : ∀ {X : List Int} {p : Int}, la g p X → (∀ c ∈ X, P c) → ∀ i, p ≤ i → i < p + X.length → P (g i)
  | [], p, _, _, i, h1, h2 => by
    simp only [List.length_nil] at h2
    omega
  | c :: X, p, h, hP, i, h1, h2 => by
    by_cases z : i = p
    · rw [z, h.1]
      exact hP c List.mem_cons_self
    · simp only [List.length_cons] at h2
      exact la_no h.2 (fun y hy => hP y (List.mem_cons_of_mem _ hy)) i (by omega) (by omega)
theorem sp_ix_at {g : Int → Int} {x : Int} : ∀ (n : Nat) (a e : Int), a ≤ e → e < a + n → g e = x → (∀ i, a ≤ i → i < e → g i ≠ x) → sp_ix g x a n = e
  | 0, a, e, h1, h2, _, _ => by omega
  | n + 1, a, e, h1, h2, he, hn => by
    unfold sp_ix
    by_cases z : a = e
    · rw [z, if_pos he]
    · rw [if_neg (hn a (Int.le_refl a) (by omega))]
      exact sp_ix_at n (a + 1) e (by omega) (by omega) he (fun i i1 i2 => hn i (by omega) i2)
theorem kx_run_la {α : Type} {mx : α → Int → α} {g : Int → Int} : ∀ (A : List Int) (p : Int) (k : α), la g p A → kx_run mx g A.length p k = A.foldl mx k
  | [], _, _, _ => rfl
  | c :: A, p, k, h => by
    rw [List.length_cons, kx_run, h.1, List.foldl_cons]
    exact kx_run_la A (p + 1) _ h.2
theorem kx_same_la {g : Int → Int} : ∀ (A B : List Int) (n : Nat) (p q : Int), la g p (A ++ [40]) → la g q (B ++ [40]) → nmo A → nmo B → B.length < n → kx_same g n p q = decide (A = B)
  | [], [], n + 1, p, q, hA, hB, _, _, _ => by
    rw [kx_same, hA.1, hB.1, if_pos rfl, if_pos rfl]
    rfl
  | [], b :: B, n + 1, p, q, hA, hB, _, nB, _ => by
    have := (nB b List.mem_cons_self).2.2.2.1
    rw [kx_same, hA.1, hB.1, if_neg (fun z => this z.symm)]
    exact (decide_eq_false (by simp)).symm
  | a :: A, [], n + 1, p, q, hA, hB, nA, _, _ => by
    have := (nA a List.mem_cons_self).2.2.2.1
    rw [kx_same, hA.1, hB.1, if_neg this]
    exact (decide_eq_false (by simp)).symm
  | a :: A, b :: B, n + 1, p, q, hA, hB, nA, nB, hn => by
    have := (nB b List.mem_cons_self).2.2.2.1
    rw [kx_same, hA.1, hB.1]
    by_cases z : a = b
    · rw [if_pos z, z, if_neg this, kx_same_la A B n (p + 1) (q + 1) hA.2 hB.2 (fun y hy => nA y (List.mem_cons_of_mem _ hy)) (fun y hy => nB y (List.mem_cons_of_mem _ hy)) (by simp only [List.length_cons] at hn; omega)]
      simp
    · rw [if_neg z]
      exact (decide_eq_false (fun w => z (by cases w; rfl))).symm
/-- one line more -/
def kl_1 {α : Type} (mx : α → Int → α) (g : Int → Int) (a : Int) : kv_L → α × Int × Option (List Int) → α × Int × Option (List Int)
  | .inl (c, X), s => (kx_head mx g s.1 (if c = true then a + 11 else a) (a + (kv_t (.inl (c, X))).length), 0, none)
  | .inr (.inl (A, _)), s => if s.2.2 = some A then s else ((if s.2.1 < 6 then mx (A.foldl mx s.1) 10 else s.1), s.2.1 + 1, some A)
  | .inr (.inr _), s => s
def kl {α : Type} (mx : α → Int → α) (g : Int → Int) : List kv_L → Int → α × Int × Option (List Int) → α
  | [], _, s => s.1
  | x :: K, a, s => kl mx g K (a + (kv_t x).length + 1) (kl_1 mx g a x s)
/-- where the last call stands -/
def kl_at (g : Int → Int) (lt : Int) : Option (List Int) → Prop
  | none => lt = -1
  | some A => 0 ≤ lt ∧ la g lt (A ++ [40]) ∧ nmo A
theorem kx_go_skip {α : Type} {mx : α → Int → α} {g : Int → Int} {N : Int} {s : α × Int × Int × Int} : ∀ (d n : Nat) (i : Int), (∀ j, i ≤ j → j < i + d → g j ≠ 10) → kx_go mx g N (d + n) i s = kx_go mx g N n (i + d) s
  | 0, n, i, _ => by
    rw [Nat.zero_add, show i + ((0 : Nat) : Int) = i by omega]
  | d + 1, n, i, h => by
    rw [show d + 1 + n = (d + n) + 1 by omega, kx_go, if_neg (h i (Int.le_refl i) (by omega)), kx_go_skip d n (i + 1) (fun j j1 j2 => h j (by omega) (by omega)), show i + 1 + (d : Int) = i + ((d + 1 : Nat) : Int) by omega]
theorem kx_has5 {g : Int → Int} {N a : Int} : kx_has g N a 5 = decide (4 ≤ N - a ∧ g a = 9 ∧ g (a + 1) = 97 ∧ g (a + 1 + 1) = 116 ∧ g (a + 1 + 1 + 1) = 32) := by
  unfold kx_has
  rw [show (am_len.getD 5 0) = 4 from rfl]
  simp only [sp_same]
  rw [show sp_ch 5 0 = 9 from rfl, show sp_ch 5 (0 + 1) = 97 from rfl, show sp_ch 5 (0 + 1 + 1) = 116 from rfl, show sp_ch 5 (0 + 1 + 1 + 1) = 32 from rfl]
  simp
theorem kx_has6 {g : Int → Int} {N a : Int} : kx_has g N a 6 = decide (5 ≤ N - a ∧ g a = 9 ∧ g (a + 1) = 46 ∧ g (a + 1 + 1) = 46 ∧ g (a + 1 + 1 + 1) = 46 ∧ g (a + 1 + 1 + 1 + 1) = 32) := by
  unfold kx_has
  rw [show (am_len.getD 6 0) = 5 from rfl]
  simp only [sp_same]
  rw [show sp_ch 6 0 = 9 from rfl, show sp_ch 6 (0 + 1) = 46 from rfl, show sp_ch 6 (0 + 1 + 1) = 46 from rfl, show sp_ch 6 (0 + 1 + 1 + 1) = 46 from rfl, show sp_ch 6 (0 + 1 + 1 + 1 + 1) = 32 from rfl]
  simp
theorem kx_call_la {α : Type} {mx : α → Int → α} {g : Int → Int} {N a : Int} {k : α} {A : List Int} (h : la g a (A ++ [40])) (nA : nmo A) (hN : a + A.length < N) : kx_call mx g N k a = mx (A.foldl mx k) 10 := by
  have h2 := la_app.mp h
  have e : sp_ix g 40 a (N - a).toNat = a + A.length := sp_ix_at _ a _ (by omega) (by omega) h2.2.1 (fun i i1 i2 => la_no (P := fun c => c ≠ 40) h2.1 (fun c hc => (nA c hc).2.2.2.1) i i1 i2)
  unfold kx_call
  rw [e, show (a + (A.length : Int) - a).toNat = A.length by omega, kx_run_la A a k h2.1]
theorem kx_lines {α : Type} {mx : α → Int → α} {g : Int → Int} {N : Int} : ∀ (K : List kv_L) (a : Int) (k : α) (tk lt : Int) (L : Option (List Int)), 0 < a → a + (kv_x K).length = N → la g a (kv_x K) → (∀ x ∈ K, kv_ok x) → kl_at g lt L → kx_go mx g N (kv_x K).length a (k, a, tk, lt) = kl mx g K a (k, tk, L)
  | [], _, _, _, _, _, _, _, _, _, _ => rfl
  | x :: K, a, k, tk, lt, L, ha, hN, hg, hK, hL => by
    have hx := hK x List.mem_cons_self
    have hn := kv_no10 hx
    rw [kv_x_cons] at hN hg ⊢
    have g1 := la_app.mp hg
    have g2 := la_app.mp g1.2
    have g10 : g (a + (kv_t x).length) = 10 := g2.1.1
    simp only [List.length_append, List.length_singleton] at hN ⊢
    rw [kx_go_skip (kv_t x).length (1 + (kv_x K).length) a (fun j j1 j2 => la_no (P := fun c => c ≠ 10) g1.1 hn j j1 j2), show 1 + (kv_x K).length = (kv_x K).length + 1 by omega, kx_go, if_pos g10, kl]
    have hg3 : la g (a + (kv_t x).length + 1) (kv_x K) := g2.2
    have ih := fun (k' : α) (tk' lt' : Int) (L' : Option (List Int)) (h : kl_at g lt' L') => kx_lines (mx := mx) (N := N) K (a + (kv_t x).length + 1) k' tk' lt' L' (by omega) (by omega) hg3 (fun y hy => hK y (List.mem_cons_of_mem _ hy)) h
    rcases x with ⟨c, X⟩ | ⟨A, B⟩ | X
    · obtain ⟨rfl, hX⟩ := hx
      have g0 : g a = 67 := g1.1.1
      have e : kx_ln mx g N (a + (kv_t (.inl (true, X))).length) (k, a, tk, lt) = (kx_head mx g k (a + 11) (a + (kv_t (.inl (true, X))).length), a + (kv_t (.inl (true, X))).length + 1, 0, -1) := by
        unfold kx_ln
        simp only
        rw [kx_has5, kx_has6, decide_eq_false (fun z => by omega), decide_eq_false (fun z => by omega), if_neg Bool.false_ne_true, if_neg Bool.false_ne_true, if_neg (by omega)]
      rw [e]
      exact ih _ _ _ none rfl
    · have g9 : la g a (9 :: 97 :: 116 :: 32 :: (A ++ ([40] ++ B))) := g1.1
      obtain ⟨q1, q2, q3, q4, q5⟩ := g9
      have hlen : (kv_t (.inr (.inl (A, B)))).length = 4 + (A.length + (1 + B.length)) := by
        simp only [kv_t, List.length_append, List.length_singleton]
        rfl
      have gA : la g (a + 4) (A ++ [40]) := by
        have : la g (a + 1 + 1 + 1 + 1) ((A ++ [40]) ++ B) := by rw [List.append_assoc]; exact q5
        rw [show a + 4 = a + 1 + 1 + 1 + 1 by omega]
        exact (la_app.mp this).1
      have h5 : kx_has g N a 5 = true := by
        rw [kx_has5]
        exact decide_eq_true ⟨by omega, q1, q2, q3, q4⟩
      have sm1 : ∀ A0, L = some A0 → kx_same g (N - (a + 4)).toNat lt (a + 4) = decide (A0 = A) := fun A0 e0 => by
        rw [e0] at hL
        exact kx_same_la A0 A _ lt (a + 4) hL.2.1 gA hL.2.2 hx.1 (by omega)
      by_cases z : L = some A
      · have e : kx_ln mx g N (a + (kv_t (.inr (.inl (A, B)))).length) (k, a, tk, lt) = (k, a + (kv_t (.inr (.inl (A, B)))).length + 1, tk, lt) := by
          unfold kx_ln
          simp only
          rw [if_pos h5, if_neg]
          rw [sm1 A z]
          intro w
          rw [z] at hL
          rcases w with w | w
          · have := hL.1
            omega
          · rw [decide_eq_true rfl] at w
            cases w
        rw [e, kl_1, if_pos z]
        exact ih _ _ _ L hL
      · have e : kx_ln mx g N (a + (kv_t (.inr (.inl (A, B)))).length) (k, a, tk, lt) = ((if tk < 6 then mx (A.foldl mx k) 10 else k), a + (kv_t (.inr (.inl (A, B)))).length + 1, tk + 1, a + 4) := by
          unfold kx_ln
          simp only
          rw [if_pos h5, if_pos, kx_call_la gA hx.1 (by omega)]
          cases L with
          | none => exact Or.inl hL
          | some A0 =>
            right
            rw [sm1 A0 rfl]
            exact decide_eq_false (fun w => z (by rw [w]))
        rw [e, kl_1, if_neg z]
        exact ih _ _ _ (some A) ⟨by omega, gA, hx.1⟩
    · have g9 : la g a (9 :: 46 :: 46 :: 46 :: 32 :: X) := g1.1
      obtain ⟨q1, q2, q3, q4, q5, -⟩ := g9
      have hlen : (kv_t (.inr (.inr X))).length = 5 + X.length := by
        simp only [kv_t, List.length_append]
        rfl
      have e : kx_ln mx g N (a + (kv_t (.inr (.inr X))).length) (k, a, tk, lt) = (k, a + (kv_t (.inr (.inr X))).length + 1, tk, lt) := by
        unfold kx_ln
        simp only
        rw [kx_has5, kx_has6, decide_eq_false (fun z => by omega), decide_eq_true ⟨by omega, q1, q2, q3, q4, q5⟩, if_neg Bool.false_ne_true, if_pos rfl]
      rw [e]
      exact ih _ _ _ L hL
theorem kx_all {α : Type} {mx : α → Int → α} {g : Int → Int} {Y : List Int} {K : List kv_L} {k : α} (hY : hd_ok Y) (hK : ∀ x ∈ K, kv_ok x) (hg : la g 0 (kv_x (.inl (false, Y) :: K))) : kx_go mx g (kv_x (.inl (false, Y) :: K)).length (kv_x (.inl (false, Y) :: K)).length 0 (k, 0, 0, -1) = kl mx g (.inl (false, Y) :: K) 0 (k, 0, none) := by
  rw [kv_x_cons, show kv_t (.inl (false, Y)) = Y from rfl] at hg ⊢
  have g1 := la_app.mp hg
  have g2 := la_app.mp g1.2
  have g10 : g (0 + (Y.length : Nat)) = 10 := g2.1.1
  have hl : (Y ++ ([10] ++ kv_x K)).length = Y.length + (1 + (kv_x K).length) := by
    simp only [List.length_append, List.length_singleton]
  rw [hl, kx_go_skip Y.length (1 + (kv_x K).length) 0 (fun j j1 j2 => la_no (P := fun c => c ≠ 10) g1.1 hY.1 j j1 j2), show 1 + (kv_x K).length = (kv_x K).length + 1 by omega, kx_go, if_pos g10, kl]
  obtain ⟨hn, n, r, rfl, n1, n2, -⟩ := hY
  have g0 : g 0 ≠ 9 := by
    cases n with
    | nil => exact absurd rfl n1
    | cons c n =>
      have : g 0 = c := g1.1.1
      rw [this]
      exact (n2 c List.mem_cons_self).1
  have e : kx_ln mx g (((n ++ r).length + ((kv_x K).length + 1) : Nat) : Int) (0 + ((n ++ r).length : Nat)) (k, 0, 0, -1) = (kx_head mx g k 0 (0 + ((n ++ r).length : Nat)), (0 : Int) + ((n ++ r).length : Nat) + 1, (0 : Int), (-1 : Int)) := by
    unfold kx_ln
    simp only
    rw [kx_has5, kx_has6, decide_eq_false (fun z => g0 z.2.1), decide_eq_false (fun z => g0 z.2.1), if_neg Bool.false_ne_true, if_neg Bool.false_ne_true, if_pos trivial]
  rw [e]
  exact kx_lines K _ _ _ _ none (by omega) (by omega) g2.2 hK rfl
