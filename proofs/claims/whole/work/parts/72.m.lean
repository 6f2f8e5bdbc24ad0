/-! a frame's place, in the class's words and in the model's -/
theorem tw_get {g : Int → Int} {w : Nat} {a e : Int} (h : sp_tw g w a e = true) {j : Nat} (hj : j < am_len.getD w 0) : g (a + j) = sp_ch w j := by
  have key : ∀ (n : Nat) (x : Int) (k i : Nat), sp_same g (sp_ch w) x k n = true → i < n → g (x + i) = sp_ch w ((k + i : Nat) : Int) := by
    intro n
    induction n with
    | zero => intro x k i _ h; omega
    | succ n ih =>
      intro x k i hs hi
      unfold sp_same at hs
      rw [Bool.and_eq_true, decide_eq_true_eq] at hs
      by_cases c : i = 0
      · subst c
        rw [show x + ((0 : Nat) : Int) = x by omega]
        exact hs.1
      · have := ih (x + 1) (k + 1) (i - 1) hs.2 (by omega)
        rw [show x + 1 + ((i - 1 : Nat) : Int) = x + i by omega, show k + 1 + (i - 1) = k + i by omega] at this
        exact this
  unfold sp_tw at h
  rw [Bool.and_eq_true] at h
  have := key (am_len.getD w 0) a 0 j h.2 hj
  rw [Nat.zero_add] at this
  exact this
theorem sp_tw_ext {g : Int → Int} {w : Nat} {a e e' : Int} (h : a + (am_len.getD w 0 : Nat) ≤ e') (ht : sp_tw g w a e = true) : sp_tw g w a e' = true := by
  unfold sp_tw at ht ⊢
  rw [Bool.and_eq_true, decide_eq_true_eq] at ht ⊢
  exact ⟨by omega, ht.2⟩
/-- a word of letters ends a part -/
theorem pr_word {g : Int → Int} {ps : Int} : ∀ (k n : Nat) (i : Int), k ≤ n → (∀ j : Nat, j < k → sp_let (g (i + j)) = true) → (k < n → sp_let (g (i + k)) = false ∧ sp_fig (g (i + k)) = false) → k < n → sp_pr g ps n i = i + k
  | 0, n, i, _, _, h2, h3 => by
    obtain ⟨n, rfl⟩ : ∃ m, n = m + 1 := ⟨n - 1, by omega⟩
    have := h2 h3
    rw [show i + ((0 : Nat) : Int) = i by omega] at this ⊢
    rw [sp_pr, this.1, this.2]
    rfl
  | k + 1, n, i, h0, h1, h2, h3 => by
    obtain ⟨n, rfl⟩ : ∃ m, n = m + 1 := ⟨n - 1, by omega⟩
    have a0 := h1 0 (by omega)
    rw [show i + ((0 : Nat) : Int) = i by omega] at a0
    rw [sp_pr, a0, Bool.true_or, if_pos rfl, pr_word k n (i + 1) (by omega) (fun j hj => by have := h1 (j + 1) (by omega); rw [show i + ((j + 1 : Nat) : Int) = i + 1 + j by omega] at this; exact this) (fun hk => by have := h2 (by omega); rw [show i + ((k + 1 : Nat) : Int) = i + 1 + k by omega] at this; exact this) (by omega)]
    omega
theorem pe_unknown {g : Int → Int} {a e t : Int} (h : sp_tw g 9 a e = true) (ht : a + 8 ≤ t) : sp_pe g a t = a + 7 := by
  have c : sp_pr g a (t - a).toNat a = a + ((7 : Nat) : Int) := by
    refine pr_word 7 (t - a).toNat a (by omega) (fun j hj => ?_) (fun _ => ?_) (by omega)
    · rw [tw_get h (show j < 14 by omega)]
      have : ∀ j : Nat, j < 7 → sp_let (sp_ch 9 j) = true := by decide
      exact this j hj
    · have := tw_get h (j := 7) (by decide)
      rw [this]
      decide
  unfold sp_pe
  rw [c, if_neg (by omega)]
  rfl
theorem pe_native {g : Int → Int} {a e t : Int} (h : sp_tw g 10 a e = true) (ht : a + 7 ≤ t) : sp_pe g a t = a + 6 := by
  have c : sp_pr g a (t - a).toNat a = a + ((6 : Nat) : Int) := by
    refine pr_word 6 (t - a).toNat a (by omega) (fun j hj => ?_) (fun _ => ?_) (by omega)
    · rw [tw_get h (show j < 13 by omega)]
      have : ∀ j : Nat, j < 6 → sp_let (sp_ch 10 j) = true := by decide
      exact this j hj
    · have := tw_get h (j := 6) (by decide)
      rw [this]
      decide
  unfold sp_pe
  rw [c, if_neg (by omega)]
  rfl
/-- what a frame keeps of its place: where the text that stands for the file ends, whether it is a file, the line -/
def pl_out (g : Int → Int) (a t : Int) : Option (Int × Bool × Int) := match pr_pl g a t with
  | none => none
  | some (k, ln) => if nw_is g a t = true then some (t, false, -1) else some (k, true, ln)
theorem pl_eq {g : Int → Int} {a t : Int} (h0 : 0 ≤ a) (hat : a ≤ t) (h40 : g (a - 1) = 40) (h41 : g t = 41) : (match sp_pl g (a - 1) (t + 1) with
    | none => none
    | some (pf, pt, hf, ln, q) => if t + 1 ≤ q then some (pf, pt, hf, ln) else none) = (pl_out g a t).map (fun x => (a, x.1, x.2.1, x.2.2)) := by
  unfold sp_pl pl_out
  rw [if_pos (sp_tw_40.mpr ⟨by omega, h40⟩), show a - 1 + 1 = a by omega, show a - 1 + 15 = a + 14 by omega, show a - 1 + 14 = a + 13 by omega, show a - 1 + 16 = a + 15 by omega]
  by_cases c9 : sp_tw g 9 a (t + 1) = true
  · rw [if_pos c9]
    have l9 : a + 14 ≤ t + 1 := sp_tw_le c9
    by_cases c14 : t = a + 14
    · have n9 : nw_is g a t = true := by
        unfold nw_is
        rw [decide_eq_true (by omega), sp_tw_ext (e' := t) (show a + 14 ≤ t by omega) c9]
        rfl
      rw [if_pos (sp_tw_41.mpr ⟨by omega, by rw [← c14]; exact h41⟩)]
      unfold pr_pl
      rw [if_pos n9]
      simp only
      rw [if_pos (by omega), if_pos n9, c14]
      rfl
    · have n9 : nw_is g a t = false := by
        unfold nw_is
        rw [decide_eq_false (by omega), Bool.false_and, Bool.false_or]
        by_cases d : t - a = 13
        · have : sp_tw g 10 a t = false := by
            cases z : sp_tw g 10 a t with
            | false => rfl
            | true =>
              have z1 := tw_get z (j := 0) (by decide)
              have z2 := tw_get c9 (j := 0) (by decide)
              rw [z1] at z2
              exact absurd z2 (by decide)
          rw [this, Bool.and_false]
        · rw [decide_eq_false d]
          rfl
      have ep : sp_pe g a t = a + 7 := pe_unknown c9 (by omega)
      have g7 := tw_get c9 (j := 7) (by decide)
      have g7 : g (a + 7) = 32 := g7
      have ee : pf_end2 g a t = a + 7 := by
        unfold pf_end2
        rw [ep, if_neg (by rw [g7]; omega)]
      have er : pr_pl g a t = none := by
        unfold pr_pl
        rw [n9, if_neg (by decide), ee, if_neg (by omega), if_neg (by rw [g7]; omega), if_neg (by omega)]
      rw [er]
      by_cases c11 : sp_tw g 11 (a + 14) (t + 1) = true
      · have := (sp_tw_41.mp c11).1
        rw [if_pos c11]
        simp only
        rw [if_neg (by omega)]
        rfl
      · rw [if_neg c11]
        rfl
  · rw [if_neg c9]
    have n9 : ¬ (t - a = 14 ∧ sp_tw g 9 a t = true) := fun z => c9 (sp_tw_ext (show a + 14 ≤ t + 1 by omega) z.2)
    by_cases c10 : sp_tw g 10 a (t + 1) = true
    · rw [if_pos c10]
      have l10 : a + 13 ≤ t + 1 := sp_tw_le c10
      by_cases c13 : t = a + 13
      · have nn : nw_is g a t = true := by
          unfold nw_is
          rw [decide_eq_true (show t - a = 13 by omega), sp_tw_ext (e' := t) (show a + 13 ≤ t by omega) c10]
          simp
        rw [if_pos (sp_tw_41.mpr ⟨by omega, by rw [← c13]; exact h41⟩)]
        unfold pr_pl
        rw [if_pos nn]
        simp only
        rw [if_pos (by omega), if_pos nn, c13]
        rfl
      · have nn : nw_is g a t = false := by
          unfold nw_is
          rw [decide_eq_false (show ¬ t - a = 13 by omega), Bool.false_and, Bool.or_false]
          cases z : (decide (t - a = 14) && sp_tw g 9 a t) with
          | false => rfl
          | true =>
            rw [Bool.and_eq_true, decide_eq_true_eq] at z
            exact absurd z n9
        have ep : sp_pe g a t = a + 6 := pe_native c10 (by omega)
        have g6 : g (a + 6) = 32 := tw_get c10 (j := 6) (by decide)
        have ee : pf_end2 g a t = a + 6 := by
          unfold pf_end2
          rw [ep, if_neg (by rw [g6]; omega)]
        have er : pr_pl g a t = none := by
          unfold pr_pl
          rw [nn, if_neg (by decide), ee, if_neg (by omega), if_neg (by rw [g6]; omega), if_neg (by omega)]
        rw [er]
        by_cases c11 : sp_tw g 11 (a + 13) (t + 1) = true
        · have := (sp_tw_41.mp c11).1
          rw [if_pos c11]
          simp only
          rw [if_neg (by omega)]
          rfl
        · rw [if_neg c11]
          rfl
    · rw [if_neg c10]
      have nn : nw_is g a t = false := by
        unfold nw_is
        cases z : (decide (t - a = 14) && sp_tw g 9 a t) with
        | true =>
          rw [Bool.and_eq_true, decide_eq_true_eq] at z
          exact absurd z n9
        | false =>
          rw [Bool.false_or]
          cases z2 : (decide (t - a = 13) && sp_tw g 10 a t) with
          | false => rfl
          | true =>
            rw [Bool.and_eq_true, decide_eq_true_eq] at z2
            exact absurd (sp_tw_ext (show a + 13 ≤ t + 1 by omega) z2.2) c10
      have pin := sp_pe_in g h0 hat
      have ef : pf_end2 g a (t + 1) = pf_end2 g a t := by
        unfold pf_end2
        rw [sp_pe_stop h41 hat]
        by_cases z : 0 ≤ sp_pe g a t ∧ sp_pe g a t < t ∧ g (sp_pe g a t) = 46
        · rw [if_pos z, if_pos ⟨z.1, by omega, z.2.2⟩, sp_pe_stop h41 (by omega)]
        · rw [if_neg z, if_neg (fun y => z ⟨y.1, by
            rcases Int.lt_or_le (sp_pe g a t) t with w | w
            · exact w
            · have : sp_pe g a t = t := by omega
              rw [this, h41] at y
              omega, y.2.2⟩)]
      have fin : pf_end2 g a t = -1 ∨ (a ≤ pf_end2 g a t ∧ pf_end2 g a t ≤ t) := by
        unfold pf_end2
        split
        · rename_i z
          have := sp_pe_in g (a := sp_pe g a t + 1) (e := t) (by omega) (by omega)
          omega
        · omega
      have er : pr_pl g a t = if pf_end2 g a t = -1 then none else if pf_end2 g a t < t ∧ g (pf_end2 g a t) = 58 then (if nuE g (pf_end2 g a t + 1) t = t then some (pf_end2 g a t, sp_nv g (pf_end2 g a t + 1) t) else none) else if pf_end2 g a t = t then some (pf_end2 g a t, -1) else none := by
        unfold pr_pl
        rw [if_neg (by rw [nn]; decide)]
      rw [sp_take_file h0 (by omega), ef, er]
      by_cases ek : pf_end2 g a t = -1
      · rw [if_pos ek, if_pos ek]
        rfl
      · rw [if_neg ek, if_neg ek]
        have hk := fin.resolve_left ek
        generalize pf_end2 g a t = k at *
        simp only
        by_cases c58 : k < t ∧ g k = 58
        · rw [if_pos (sp_tw_58.mpr ⟨by omega, c58.2⟩), if_pos c58]
          have en : sp_nu g (k + 1) (t + 1) = sp_nu g (k + 1) t := sp_nu_stop h41 (by omega)
          have ev : sp_nv g (k + 1) (t + 1) = sp_nv g (k + 1) t := by unfold sp_nv; rw [en]
          have ei : sp_ni g (k + 1) (t + 1) = sp_ni g (k + 1) t := by unfold sp_ni; rw [en]
          rw [ev, ei]
          rcases nu_cases g (show k + 1 ≤ t by omega) with ⟨o1, o2, o3, o4⟩ | ⟨v, i, o1, o2, o3, o4, o5, o6, o7, o8⟩
          · rw [o2, o3, if_neg (fun z => z.1 rfl), if_neg (by omega)]
            rfl
          · rw [o2, o3, o4]
            by_cases z : i = t
            · rw [if_pos z, if_pos ⟨by omega, sp_tw_41.mpr ⟨by omega, by rw [z]; exact h41⟩⟩]
              simp only
              rw [if_pos (by omega), nn]
              rfl
            · rw [if_neg z]
              by_cases y : v ≠ -1 ∧ sp_tw g 11 i (t + 1) = true
              · rw [if_pos y]
                simp only
                rw [if_neg (by omega)]
                rfl
              · rw [if_neg y]
                rfl
        · have n58 : ¬ sp_tw g 1 k (t + 1) = true := fun z => c58 (by
            have z2 := sp_tw_58.mp z
            refine ⟨?_, z2.2⟩
            rcases Int.lt_or_le k t with w | w
            · exact w
            · exfalso
              have hkt : k = t := by omega
              have z3 := z2.2
              rw [hkt, h41] at z3
              omega)
          rw [if_neg c58, if_neg n58]
          by_cases z : k = t
          · rw [if_pos z, if_pos (sp_tw_41.mpr ⟨by omega, by rw [z]; exact h41⟩)]
            simp only
            rw [if_pos (by omega), nn]
            rfl
          · rw [if_neg z]
            by_cases y : sp_tw g 11 k (t + 1) = true
            · rw [if_pos y]
              simp only
              rw [if_neg (by omega)]
              rfl
            · rw [if_neg y]
              rfl
