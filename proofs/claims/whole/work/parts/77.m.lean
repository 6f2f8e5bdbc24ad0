/-! a trace, line by line -/
abbrev ln_T : Type := (Nat × (List Int × Bool × List Int)) ⊕ (pt_F ⊕ Int)
def ln_blk (T : pt_S) (n : Nat) (x : pt_H) : List ln_T := .inl (n, x.1) :: ((t_frs T x).map (fun f => .inr (.inl f)) ++ (if x.2.1 = -1 then [] else [.inr (.inr x.2.1)]))
def ln_at (T : pt_S) (n : Nat) : List ln_T := match T.1[n]? with
  | none => []
  | some x => ln_blk T n x
def ln_all (T : pt_S) : Nat → List ln_T
  | 0 => []
  | n + 1 => ln_all T n ++ ln_at T n
theorem ln_all_cg {T T' : pt_S} : ∀ n : Nat, (∀ i, i < n → ln_at T' i = ln_at T i) → ln_all T' n = ln_all T n
  | 0, _ => rfl
  | n + 1, h => by
    unfold ln_all
    rw [ln_all_cg n (fun i hi => h i (by omega)), h n (by omega)]
def pt_iv (T : pt_S) : Prop := ∀ (i : Nat) x, T.1[i]? = some x → x.2.2.1 ≤ x.2.2.2 ∧ x.2.2.2 ≤ T.2.length ∧ (i + 1 = T.1.length → x.2.2.2 = T.2.length)
theorem pt_iv_0 : pt_iv ([], []) := fun i x h => by simp at h
theorem ln_hd {T : pt_S} (iv : pt_iv T) (hd : List Int × Bool × List Int) : ln_all (T.1 ++ [(hd, -1, T.2.length, T.2.length)], T.2) (T.1.length + 1) = ln_all T T.1.length ++ [.inl (T.1.length, hd)] := by
  rw [ln_all, ln_all_cg T.1.length (fun i hi => ?_)]
  · congr 1
    unfold ln_at
    simp only
    rw [List.getElem?_append_right (Nat.le_refl _), Nat.sub_self]
    simp only [List.getElem?_cons_zero]
    unfold ln_blk t_frs
    simp
  · unfold ln_at
    simp only
    rw [List.getElem?_append_left hi]
    cases T.1[i]? with
    | none => rfl
    | some y => rfl
theorem pt_iv.hd {T : pt_S} (iv : pt_iv T) (hd : List Int × Bool × List Int) : pt_iv (T.1 ++ [(hd, -1, T.2.length, T.2.length)], T.2) := fun i x h => by
  rcases pm_get h with ⟨h1, h2⟩ | ⟨h1, h2⟩
  · have := iv i x h2
    refine ⟨this.1, this.2.1, fun z => ?_⟩
    simp at z
    omega
  · subst h2
    exact ⟨Nat.le_refl _, Nat.le_refl _, fun _ => rfl⟩
theorem last_split {α : Type} {L : List α} {x : α} (h : L.getLast? = some x) : L = L.dropLast ++ [x] ∧ L.length = L.dropLast.length + 1 := by
  have hne : L ≠ [] := fun z => by rw [z] at h; cases h
  have e : L.getLast hne = x := by
    rw [List.getLast?_eq_getLast hne] at h
    exact Option.some.inj h
  refine ⟨?_, ?_⟩
  · rw [← e]
    exact (List.dropLast_concat_getLast hne).symm
  · rw [List.length_dropLast]
    have := List.length_pos_iff.mpr hne
    omega
theorem frs_keep {F : List pt_F} {f : pt_F} {s e : Nat} (h : e ≤ F.length) : ((F ++ [f]).drop s).take (e - s) = (F.drop s).take (e - s) := by
  by_cases c : s ≤ F.length
  · rw [List.drop_append_of_le_length c, List.take_append_of_le_length (by rw [List.length_drop]; omega)]
  · rw [show e - s = 0 by omega]
    rfl
theorem frs_add {F : List pt_F} {f : pt_F} {s : Nat} (h : s ≤ F.length) : ((F ++ [f]).drop s).take (F.length + 1 - s) = (F.drop s).take (F.length - s) ++ [f] := by
  rw [List.drop_append_of_le_length h, List.take_of_length_le (by simp; omega), List.take_of_length_le (by simp)]
theorem ln_fr {T : pt_S} {x : pt_H} {f : pt_F} (iv : pt_iv T) (hx : T.1.getLast? = some x) (hm : x.2.1 = -1) : ln_all (T.1.dropLast ++ [(x.1, x.2.1, x.2.2.1, T.2.length + 1)], T.2 ++ [f]) (T.1.dropLast ++ [(x.1, x.2.1, x.2.2.1, T.2.length + 1)]).length = ln_all T T.1.length ++ [.inr (.inl f)] := by
  obtain ⟨hs, hl⟩ := last_split hx
  have xi : T.1[T.1.dropLast.length]? = some x := by
    rw [hs, List.dropLast_concat, List.getElem?_append_right (Nat.le_refl _), Nat.sub_self]
    rfl
  have ivx := iv _ _ xi
  have hend : x.2.2.2 = T.2.length := ivx.2.2 (by omega)
  rw [List.length_append, List.length_singleton, hl, ln_all, ln_all, ln_all_cg (T := T) T.1.dropLast.length (fun i hi => ?_), List.append_assoc]
  · congr 1
    unfold ln_at
    simp only
    rw [xi, List.getElem?_append_right (Nat.le_refl _), Nat.sub_self]
    simp only [List.getElem?_cons_zero]
    unfold ln_blk t_frs
    simp only
    rw [hm, if_pos rfl, frs_add (by omega), hend]
    simp
  · unfold ln_at
    simp only
    rw [List.getElem?_append_left hi]
    have ey : T.1[i]? = T.1.dropLast[i]? := by
      rw [hs, List.dropLast_concat, List.getElem?_append_left hi]
    rw [ey]
    cases ez : T.1.dropLast[i]? with
    | none => rfl
    | some y =>
      have := iv i y (ey.trans ez)
      unfold ln_blk t_frs
      simp only
      rw [frs_keep this.2.1]
theorem pt_iv.fr {T : pt_S} {x : pt_H} {f : pt_F} (iv : pt_iv T) (hx : T.1.getLast? = some x) : pt_iv (T.1.dropLast ++ [(x.1, x.2.1, x.2.2.1, T.2.length + 1)], T.2 ++ [f]) := fun i y h => by
  obtain ⟨hs, hl⟩ := last_split hx
  have xi : T.1[T.1.dropLast.length]? = some x := by
    rw [hs, List.dropLast_concat, List.getElem?_append_right (Nat.le_refl _), Nat.sub_self]
    rfl
  have ivx := iv _ _ xi
  rcases pm_get h with ⟨h1, h2⟩ | ⟨h1, h2⟩
  · have ey : T.1[i]? = some y := by
      rw [hs, List.getElem?_append_left h1]
      exact h2
    have := iv i y ey
    refine ⟨this.1, by simp; omega, fun z => ?_⟩
    simp at z
    omega
  · subst h2
    refine ⟨by simp only; omega, by simp, fun _ => by simp⟩
theorem ln_mo {T : pt_S} {x : pt_H} {v : Int} (iv : pt_iv T) (hx : T.1.getLast? = some x) (hm : x.2.1 = -1) (hv : v ≠ -1) : ln_all (T.1.dropLast ++ [(x.1, v, x.2.2.1, x.2.2.2)], T.2) (T.1.dropLast ++ [(x.1, v, x.2.2.1, x.2.2.2)]).length = ln_all T T.1.length ++ [.inr (.inr v)] := by
  obtain ⟨hs, hl⟩ := last_split hx
  have xi : T.1[T.1.dropLast.length]? = some x := by
    rw [hs, List.dropLast_concat, List.getElem?_append_right (Nat.le_refl _), Nat.sub_self]
    rfl
  rw [List.length_append, List.length_singleton, hl, ln_all, ln_all, ln_all_cg (T := T) T.1.dropLast.length (fun i hi => ?_), List.append_assoc]
  · congr 1
    unfold ln_at
    simp only
    rw [xi, List.getElem?_append_right (Nat.le_refl _), Nat.sub_self]
    simp only [List.getElem?_cons_zero]
    unfold ln_blk t_frs
    simp only
    rw [hm, if_pos rfl, if_neg hv]
    simp
  · unfold ln_at
    simp only
    rw [List.getElem?_append_left hi]
    have ey : T.1[i]? = T.1.dropLast[i]? := by
      rw [hs, List.dropLast_concat, List.getElem?_append_left hi]
    rw [ey]
    cases ez : T.1.dropLast[i]? with
    | none => rfl
    | some y => rfl
theorem pt_iv.mo {T : pt_S} {x : pt_H} {v : Int} (iv : pt_iv T) (hx : T.1.getLast? = some x) : pt_iv (T.1.dropLast ++ [(x.1, v, x.2.2.1, x.2.2.2)], T.2) := fun i y h => by
  obtain ⟨hs, hl⟩ := last_split hx
  have xi : T.1[T.1.dropLast.length]? = some x := by
    rw [hs, List.dropLast_concat, List.getElem?_append_right (Nat.le_refl _), Nat.sub_self]
    rfl
  have ivx := iv _ _ xi
  rcases pm_get h with ⟨h1, h2⟩ | ⟨h1, h2⟩
  · have ey : T.1[i]? = some y := by
      rw [hs, List.getElem?_append_left h1]
      exact h2
    have := iv i y ey
    refine ⟨this.1, this.2.1, fun z => ?_⟩
    simp at z
    omega
  · subst h2
    exact ⟨ivx.1, ivx.2.1, fun _ => ivx.2.2 (by omega)⟩
/-- a line of a trace in the model's rows -/
def mo_ln (U : mv) (k : Int) : ln_T → Prop
  | .inl (i, hd) => U.kind_ k = (if i = 0 then 0 else 1) ∧ (600 ≤ U.lineFrom_ k ∧ U.lineFrom_ k ≤ U.nameFrom_ k ∧ U.nameFrom_ k ≤ U.nameTo_ k ∧ U.nameTo_ k ≤ U.lineTo_ k ∧ U.lineTo_ k ≤ 1200) ∧ nm U.all_ (U.lineFrom_ k) (U.nameFrom_ k) = (if i = 0 then [] else sp_wd 3) ∧ nm U.all_ (U.nameFrom_ k) (U.nameTo_ k) = hd.1 ∧ nm U.all_ (U.nameTo_ k) (U.lineTo_ k) = (if hd.2.1 = true then sp_wd 4 ++ hd.2.2 else [])
  | .inr (.inl f) => U.kind_ k = 2 ∧ (600 ≤ U.lineFrom_ k ∧ U.lineFrom_ k ≤ U.nameFrom_ k ∧ U.nameFrom_ k ≤ U.methodFrom_ k - 1 ∧ U.methodFrom_ k ≤ U.nameTo_ k ∧ U.nameTo_ k ≤ U.fileFrom_ k ∧ U.fileFrom_ k ≤ U.fileTo_ k ∧ U.fileTo_ k ≤ U.lineTo_ k ∧ U.lineTo_ k ≤ 1200) ∧ nm U.all_ (U.lineFrom_ k) (U.lineTo_ k) ++ [10] = w_same f ∧ nm U.all_ (U.nameFrom_ k) (U.methodFrom_ k - 1) = f.1.1 ∧ nm U.all_ (U.methodFrom_ k) (U.nameTo_ k) = f.1.2.1 ∧ (U.fileFrom_ k < U.fileTo_ k ↔ f.2.1 = true) ∧ nm U.all_ (U.fileTo_ k) (U.lineTo_ k) ++ [10] = (if f.2.1 = true then [] else f.1.2.2) ++ w_close f.2.2 ∧ U.number_ k = f.2.2 ∧ (-1 ≤ f.2.2 ∧ f.2.2 < 10000)
  | .inr (.inr z) => U.kind_ k = 3 ∧ (600 ≤ U.lineFrom_ k ∧ U.lineFrom_ k ≤ U.lineTo_ k ∧ U.lineTo_ k ≤ 1200) ∧ nm U.all_ (U.lineFrom_ k) (U.lineTo_ k) ++ [10] = sp_wd 6 ++ sp_num z ++ sp_wd 7 ++ [10]
def mo_trc (U : mv) (L : List ln_T) : Prop := U.lines_ = L.length ∧ ∀ (k : Nat) x, L[k]? = some x → mo_ln U k x
