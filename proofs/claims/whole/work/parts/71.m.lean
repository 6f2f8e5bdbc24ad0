/-! texts of lines -/
theorem nm_app (g : Int → Int) {a b c : Int} (h1 : a ≤ b) (h2 : b ≤ c) : nm g a b ++ nm g b c = nm g a c := by
  unfold nm
  have key : ∀ (n k : Nat) (x : Int), sp_sp g x (n + k) = sp_sp g x n ++ sp_sp g (x + n) k := by
    intro n
    induction n with
    | zero =>
      intro k x
      rw [Nat.zero_add, show x + ((0 : Nat) : Int) = x by omega]
      rfl
    | succ n ih =>
      intro k x
      rw [show n + 1 + k = (n + k) + 1 by omega, sp_sp_cons, sp_sp_cons, ih, show x + ((n + 1 : Nat) : Int) = x + 1 + n by omega]
      rfl
  rw [show (c - a).toNat = (b - a).toNat + (c - b).toNat by omega, key, show a + ((b - a).toNat : Int) = b by omega]
theorem nm_nil (g : Int → Int) {a b : Int} (h : b ≤ a) : nm g a b = [] := by
  unfold nm
  rw [show (b - a).toNat = 0 by omega]
  rfl
theorem nm_cons (g : Int → Int) {a b : Int} (h : a < b) : nm g a b = g a :: nm g (a + 1) b := by
  unfold nm
  rw [show (b - a).toNat = (b - (a + 1)).toNat + 1 by omega, sp_sp_cons]
theorem nm_tw {g : Int → Int} {w : Nat} {a e : Int} (hw : w < 15) (h : sp_tw g w a e = true) : nm g a (a + (am_len.getD w 0 : Nat)) = sp_wd w := by
  unfold sp_tw at h
  rw [Bool.and_eq_true, sp_same_iff, decide_eq_true_eq, decide_eq_true_eq] at h
  unfold nm
  rw [show (a + ((am_len.getD w 0 : Nat) : Int) - a).toNat = am_len.getD w 0 by omega, h.2]
  have : ∀ w, w < 15 → sp_sp (sp_ch w) 0 (am_len.getD w 0) = sp_wd w := by decide
  exact this w hw
theorem fig_in {c : Int} (h : sp_fig c = true) : 48 ≤ c ∧ c ≤ 57 := by
  unfold sp_fig at h
  rw [Bool.and_eq_true, decide_eq_true_eq, decide_eq_true_eq] at h
  exact h
/-- a number's figures -/
theorem nm_num {g : Int → Int} {a e v i : Int} (h : sp_nu g a e = some (v, i)) : nm g a i = sp_num v := by
  unfold sp_nu at h
  split at h
  · rename_i c
    cases h
    have hf := sp_run_fig g (e - a).toNat a
    generalize sp_run g a (e - a).toNat = r at c hf
    have f0 := fig_in (hf 0 (by omega))
    rw [show a + ((0 : Nat) : Int) = a by omega] at f0
    have cases4 : r = 1 ∨ r = 2 ∨ r = 3 ∨ r = 4 := by omega
    unfold sp_num sp_dg
    rcases cases4 with rfl | rfl | rfl | rfl
    · have e1 : sp_val g a 1 = g a - 48 := by
        simp only [sp_val]
        rw [show a + ((0 : Nat) : Int) = a by omega]
        omega
      rw [e1, nm_cons g (by omega), nm_nil g (by omega), if_neg (by omega), if_neg (by omega), if_neg (by omega)]
      simp only [List.nil_append, List.cons.injEq, and_true]
      omega
    · have f1 := fig_in (hf 1 (by omega))
      rw [show a + ((1 : Nat) : Int) = a + 1 by omega] at f1
      have e1 : sp_val g a 2 = 10 * (g a - 48) + (g (a + 1) - 48) := by
        simp only [sp_val]
        rw [show a + ((0 : Nat) : Int) = a by omega, show a + ((1 : Nat) : Int) = a + 1 by omega]
        omega
      have g0 : g a ≠ 48 := by rcases c.2.2 with z | z; · omega
                               · exact z
      rw [e1, nm_cons g (by omega), nm_cons g (by omega), nm_nil g (by omega), if_neg (by omega), if_neg (by omega), if_pos (by omega)]
      simp only [List.nil_append, List.cons_append, List.cons.injEq, and_true]
      omega
    · have f1 := fig_in (hf 1 (by omega))
      have f2 := fig_in (hf 2 (by omega))
      rw [show a + ((1 : Nat) : Int) = a + 1 by omega] at f1
      rw [show a + ((2 : Nat) : Int) = a + 1 + 1 by omega] at f2
      have e1 : sp_val g a 3 = 100 * (g a - 48) + 10 * (g (a + 1) - 48) + (g (a + 1 + 1) - 48) := by
        simp only [sp_val]
        rw [show a + ((0 : Nat) : Int) = a by omega, show a + ((1 : Nat) : Int) = a + 1 by omega, show a + ((2 : Nat) : Int) = a + 1 + 1 by omega]
        omega
      have g0 : g a ≠ 48 := by rcases c.2.2 with z | z; · omega
                               · exact z
      rw [e1, nm_cons g (by omega), nm_cons g (by omega), nm_cons g (by omega), nm_nil g (by omega), if_neg (by omega), if_pos (by omega), if_pos (by omega)]
      simp only [List.nil_append, List.cons_append, List.cons.injEq, and_true]
      omega
    · have f1 := fig_in (hf 1 (by omega))
      have f2 := fig_in (hf 2 (by omega))
      have f3 := fig_in (hf 3 (by omega))
      rw [show a + ((1 : Nat) : Int) = a + 1 by omega] at f1
      rw [show a + ((2 : Nat) : Int) = a + 1 + 1 by omega] at f2
      rw [show a + ((3 : Nat) : Int) = a + 1 + 1 + 1 by omega] at f3
      have e1 : sp_val g a 4 = 1000 * (g a - 48) + 100 * (g (a + 1) - 48) + 10 * (g (a + 1 + 1) - 48) + (g (a + 1 + 1 + 1) - 48) := by
        simp only [sp_val]
        rw [show a + ((0 : Nat) : Int) = a by omega, show a + ((1 : Nat) : Int) = a + 1 by omega, show a + ((2 : Nat) : Int) = a + 1 + 1 by omega, show a + ((3 : Nat) : Int) = a + 1 + 1 + 1 by omega]
        omega
      have g0 : g a ≠ 48 := by rcases c.2.2 with z | z; · omega
                               · exact z
      rw [e1, nm_cons g (by omega), nm_cons g (by omega), nm_cons g (by omega), nm_cons g (by omega), nm_nil g (by omega), if_pos (by omega), if_pos (by omega), if_pos (by omega)]
      simp only [List.nil_append, List.cons_append, List.cons.injEq, and_true]
      omega
  · cases h
theorem sp_tw_41 {g : Int → Int} {k e : Int} : sp_tw g 11 k e = true ↔ (k + 1 ≤ e ∧ g k = 41) := by
  unfold sp_tw
  rw [Bool.and_eq_true, decide_eq_true_eq]
  show ((1 : Nat) : Int) ≤ e - k ∧ sp_same g (sp_ch 11) k 0 1 = true ↔ _
  unfold sp_same sp_same
  rw [Bool.and_true, decide_eq_true_eq, show sp_ch 11 0 = 41 from rfl]
  constructor
  · rintro ⟨h1, h2⟩; exact ⟨by omega, h2⟩
  · rintro ⟨h1, h2⟩; exact ⟨by omega, h2⟩
theorem sp_tw_40 {g : Int → Int} {k e : Int} : sp_tw g 8 k e = true ↔ (k + 1 ≤ e ∧ g k = 40) := by
  unfold sp_tw
  rw [Bool.and_eq_true, decide_eq_true_eq]
  show ((1 : Nat) : Int) ≤ e - k ∧ sp_same g (sp_ch 8) k 0 1 = true ↔ _
  unfold sp_same sp_same
  rw [Bool.and_true, decide_eq_true_eq, show sp_ch 8 0 = 40 from rfl]
  constructor
  · rintro ⟨h1, h2⟩; exact ⟨by omega, h2⟩
  · rintro ⟨h1, h2⟩; exact ⟨by omega, h2⟩
/-- the model's place of a frame: where the file ends, the line -/
def pf_end2 (g : Int → Int) (a t : Int) : Int := if 0 ≤ sp_pe g a t ∧ sp_pe g a t < t ∧ g (sp_pe g a t) = 46 then sp_pe g (sp_pe g a t + 1) t else sp_pe g a t
def nw_is (g : Int → Int) (a t : Int) : Bool := (decide (t - a = 14) && sp_tw g 9 a t) || (decide (t - a = 13) && sp_tw g 10 a t)
def pr_pl (g : Int → Int) (a t : Int) : Option (Int × Int) := if nw_is g a t = true then some (a, -1) else if pf_end2 g a t = -1 then none else if pf_end2 g a t < t ∧ g (pf_end2 g a t) = 58 then (if nuE g (pf_end2 g a t + 1) t = t then some (pf_end2 g a t, sp_nv g (pf_end2 g a t + 1) t) else none) else if pf_end2 g a t = t then some (pf_end2 g a t, -1) else none
theorem sp_pr_stop {g : Int → Int} {ps t : Int} (ht : sp_let (g t) = false ∧ sp_fig (g t) = false) : ∀ (n : Nat) (i : Int), i + n = t → ∀ k : Nat, sp_pr g ps (n + 1 + k) i = sp_pr g ps n i
  | 0, i, h, k => by
    rw [show 0 + 1 + k = k + 1 by omega, sp_pr, sp_pr, show i = t by omega, ht.1, ht.2]
    rfl
  | n + 1, i, h, k => by
    rw [show n + 1 + 1 + k = (n + 1 + k) + 1 by omega, sp_pr]
    conv => rhs; rw [sp_pr]
    rw [sp_pr_stop ht n (i + 1) (by omega) k]
theorem sp_pe_stop {g : Int → Int} {a t : Int} (h41 : g t = 41) (h : a ≤ t) : sp_pe g a (t + 1) = sp_pe g a t := by
  unfold sp_pe
  rw [show (t + 1 - a).toNat = (t - a).toNat + 1 + 0 by omega, sp_pr_stop (t := t) (by rw [h41]; decide) (t - a).toNat a (by omega) 0]
theorem sp_run_stop {g : Int → Int} {t : Int} (ht : sp_fig (g t) = false) : ∀ (n : Nat) (i : Int), i + n = t → sp_run g i (n + 1) = sp_run g i n
  | 0, i, h => by
    rw [sp_run, sp_run, show i = t by omega, ht]
    rfl
  | n + 1, i, h => by
    rw [sp_run]
    conv => rhs; rw [sp_run]
    rw [sp_run_stop ht n (i + 1) (by omega)]
theorem sp_nu_stop {g : Int → Int} {a t : Int} (h41 : g t = 41) (h : a ≤ t) : sp_nu g a (t + 1) = sp_nu g a t := by
  unfold sp_nu
  rw [show (t + 1 - a).toNat = (t - a).toNat + 1 by omega, sp_run_stop (t := t) (by rw [h41]; decide) (t - a).toNat a (by omega)]
/-- a file: one part or two -/
theorem sp_take_file {g : Int → Int} {a e : Int} (h0 : 0 ≤ a) (h : a ≤ e) : sp_take g 2 81 a e = if pf_end2 g a e = -1 then none else some (pf_end2 g a e) := by
  have hin := sp_pr_in g a (e - a).toNat a
  have t := sp_tp_pr g 2 (e - a).toNat a a 1
  have lhs : ∀ r, sp_tp g 2 (e - a).toNat a a 1 = r → sp_take g 2 81 a e = (match r with
      | none => none
      | some (i, ps) => if i = ps ∨ 40 < i - ps ∨ 81 < i - a then none else some i) := fun r hr => by
    unfold sp_take
    rw [hr]
    rcases r with _ | ⟨i, ps⟩ <;> rfl
  by_cases c : sp_pr g a (e - a).toNat a = a ∨ 40 < sp_pr g a (e - a).toNat a - a
  · have e1 : sp_pe g a e = -1 := if_pos c
    have ef : pf_end2 g a e = -1 := by
      unfold pf_end2
      rw [e1, if_neg (by omega)]
    rw [if_pos ef]
    by_cases b1 : sp_pr g a (e - a).toNat a = a + ((e - a).toNat : Int)
    · rw [lhs _ (t.trans (if_pos b1))]
      exact if_pos (by omega)
    · by_cases b2 : g (sp_pr g a (e - a).toNat a) ≠ 46 ∨ sp_pr g a (e - a).toNat a = a ∨ (1 : Int) = 2
      · rw [lhs _ (t.trans ((if_neg b1).trans (if_pos b2)))]
        exact if_pos (by omega)
      · rw [lhs _ (t.trans ((if_neg b1).trans ((if_neg b2).trans (if_pos (by omega)))))]
  · have e1 : sp_pe g a e = sp_pr g a (e - a).toNat a := if_neg c
    generalize hk : sp_pr g a (e - a).toNat a = k at *
    by_cases b1 : k = a + ((e - a).toNat : Int)
    · have ef : pf_end2 g a e = k := by
        unfold pf_end2
        rw [e1, if_neg (by omega)]
      rw [lhs _ (t.trans (if_pos b1)), ef, if_neg (show ¬ k = -1 by omega)]
      exact if_neg (by omega)
    · by_cases b2 : g k = 46
      · have hk1 : k + 1 ≤ e := by omega
        have hin2 := sp_pr_in g (k + 1) (e - (k + 1)).toNat (k + 1)
        have ef : pf_end2 g a e = sp_pe g (k + 1) e := by
          unfold pf_end2
          rw [e1, if_pos ⟨by omega, by omega, b2⟩]
        have t2 := sp_tp_pr g 2 (e - (k + 1)).toNat (k + 1) (k + 1) (1 + 1)
        have inner : sp_tp g 2 (e - (k + 1)).toNat (k + 1) (k + 1) (1 + 1) = some (sp_pr g (k + 1) (e - (k + 1)).toNat (k + 1), k + 1) := by
          rw [t2]
          split
          · rfl
          · rw [if_pos (Or.inr (Or.inr (by omega)))]
        have t3 : sp_tp g 2 (e - a).toNat a a 1 = some (sp_pr g (k + 1) (e - (k + 1)).toNat (k + 1), k + 1) := by
          rw [t, if_neg b1, if_neg (by omega), if_neg (by omega), show (e - a).toNat - (k - a).toNat - 1 = (e - (k + 1)).toNat by omega, inner]
        rw [lhs _ t3, ef]
        unfold sp_pe
        simp only
        generalize sp_pr g (k + 1) (e - (k + 1)).toNat (k + 1) = j at *
        by_cases d : j = k + 1 ∨ 40 < j - (k + 1)
        · rw [if_pos (show j = k + 1 ∨ 40 < j - (k + 1) ∨ 81 < j - a by omega), if_pos d]
          rfl
        · rw [if_neg (show ¬ (j = k + 1 ∨ 40 < j - (k + 1) ∨ 81 < j - a) by omega), if_neg d, if_neg (show ¬ j = -1 by omega)]
      · have ef : pf_end2 g a e = k := by
          unfold pf_end2
          rw [e1, if_neg (fun z => b2 z.2.2)]
        rw [lhs _ (t.trans ((if_neg b1).trans (if_pos (Or.inl b2)))), ef, if_neg (show ¬ k = -1 by omega)]
        exact if_neg (by omega)
