/-! the model reads a trace -/
def may_of (T : pt_S) : Int := match T.1.getLast? with
  | none => 0
  | some x => if x.2.1 = -1 then 1 else 2
def hd_of (g : Int → Int) (a e : Int) (x : Int × Bool × Int) : List Int × Bool × List Int := (nm g a x.1, x.2.1, nm g x.2.2 e)
theorem tw_56 {g : Int → Int} {a e : Int} (h5 : sp_tw g 5 a e = true) : sp_more g a e = none := by
  unfold sp_more
  cases h6 : sp_tw g 6 a e with
  | false => rfl
  | true =>
    have z1 := tw_get h5 (j := 1) (by decide)
    have z2 := tw_get h6 (j := 1) (by decide)
    rw [z1] at z2
    exact absurd z2 (by decide)
theorem st_cases {g : Int → Int} {T : pt_S} {a e : Int} (h0 : 0 ≤ a) : (pt_step g T a e = none ∧ (ln_kd g a e (may_of T) = -1 ∨ (ln_kd g a e (may_of T) = 1 ∧ T.1.length = 4) ∨ (ln_kd g a e (may_of T) = 2 ∧ T.2.length = 20))) ∨
    (ln_kd g a e (may_of T) = 0 ∧ T.1.length = 0 ∧ ∃ x, sp_hd g a e = some x ∧ pt_step g T a e = some (T.1 ++ [(hd_of g a e x, -1, T.2.length, T.2.length)], T.2)) ∨
    (ln_kd g a e (may_of T) = 1 ∧ 1 ≤ T.1.length ∧ T.1.length ≠ 4 ∧ sp_tw g 3 a e = true ∧ ∃ x, sp_hd g (a + 11) e = some x ∧ pt_step g T a e = some (T.1 ++ [(hd_of g (a + 11) e x, -1, T.2.length, T.2.length)], T.2)) ∨
    (ln_kd g a e (may_of T) = 2 ∧ T.2.length ≠ 20 ∧ ∃ y p j k ln, T.1.getLast? = some y ∧ y.2.1 = -1 ∧ fr_ps g a e = some (p, j, k, ln) ∧ pt_step g T a e = some (T.1.dropLast ++ [(y.1, y.2.1, y.2.2.1, T.2.length + 1)], T.2 ++ [fr_of g a e (p, j, k, ln)])) ∨
    (ln_kd g a e (may_of T) = 3 ∧ ∃ y v, T.1.getLast? = some y ∧ y.2.1 = -1 ∧ sp_more g a e = some v ∧ pt_step g T a e = some (T.1.dropLast ++ [(y.1, v, y.2.2.1, y.2.2.2)], T.2)) := by
  unfold may_of pt_step
  cases eL : T.1.getLast? with
  | none =>
    have hT : T.1 = [] := List.getLast?_eq_none_iff.mp eL
    have hk : ln_kd g a e 0 = if (sp_hd g a e).isSome = true then 0 else -1 := if_pos rfl
    simp only
    unfold pt_hd
    rw [hk, if_neg (by rw [hT]; decide)]
    cases e1 : sp_hd g a e with
    | none => exact Or.inl ⟨rfl, Or.inl rfl⟩
    | some x =>
      obtain ⟨j, mb, k⟩ := x
      exact Or.inr (Or.inl ⟨rfl, by rw [hT]; rfl, _, rfl, rfl⟩)
  | some y =>
    have hlen : 1 ≤ T.1.length := by
      have := (last_split eL).2
      omega
    simp only
    have hm0 : ¬ (if y.2.1 = -1 then (1 : Int) else 2) = 0 := by split <;> omega
    by_cases t3 : sp_tw g 3 a e = true
    · rw [if_pos t3]
      have hk : ln_kd g a e (if y.2.1 = -1 then 1 else 2) = if (sp_hd g (a + 11) e).isSome = true then 1 else -1 := (if_neg hm0).trans (if_pos t3)
      rw [hk]
      unfold pt_hd
      cases e1 : sp_hd g (a + 11) e with
      | none =>
        refine Or.inl ⟨?_, Or.inl rfl⟩
        split <;> rfl
      | some x =>
        obtain ⟨j, mb, k⟩ := x
        by_cases h4 : T.1.length = 4
        · rw [if_pos h4]
          exact Or.inl ⟨rfl, Or.inr (Or.inl ⟨rfl, h4⟩)⟩
        · rw [if_neg h4]
          exact Or.inr (Or.inr (Or.inl ⟨rfl, hlen, h4, t3, _, rfl, rfl⟩))
    · rw [if_neg t3]
      by_cases hm : y.2.1 = -1
      rotate_left
      · rw [if_pos hm, if_neg hm]
        have hk : ln_kd g a e 2 = -1 := (if_neg (by omega)).trans ((if_neg t3).trans ((if_neg (by omega)).trans (if_neg (by omega))))
        exact Or.inl ⟨rfl, Or.inl hk⟩
      rw [if_neg (fun z => z hm), if_pos hm]
      have hk : ln_kd g a e 1 = if (1 : Int) = 1 ∧ (fr_ps g a e).isSome = true then 2 else if (1 : Int) = 1 ∧ (sp_more g a e).isSome = true then 3 else -1 := (if_neg (by omega)).trans (if_neg t3)
      by_cases t5 : sp_tw g 5 a e = true
      · rw [if_pos t5, fr_eq h0 t5]
        have hmo := tw_56 t5
        cases e1 : fr_ps g a e with
        | none =>
          rw [e1, hmo] at hk
          refine Or.inl ⟨?_, Or.inl hk⟩
          split <;> rfl
        | some x =>
          obtain ⟨p, j, k, ln⟩ := x
          rw [e1, if_pos ⟨rfl, rfl⟩] at hk
          by_cases h20 : T.2.length = 20
          · rw [if_pos h20]
            exact Or.inl ⟨rfl, Or.inr (Or.inr ⟨hk, h20⟩)⟩
          · rw [if_neg h20]
            exact Or.inr (Or.inr (Or.inr (Or.inl ⟨hk, h20, y, p, j, k, ln, rfl, hm, rfl, rfl⟩)))
      · rw [if_neg t5]
        have e1 : fr_ps g a e = none := if_neg t5
        rw [e1, if_neg (fun z => by cases z.2)] at hk
        cases e2 : sp_more g a e with
        | none =>
          rw [e2] at hk
          exact Or.inl ⟨rfl, Or.inl hk⟩
        | some v =>
          rw [e2, if_pos ⟨rfl, rfl⟩] at hk
          exact Or.inr (Or.inr (Or.inr (Or.inr ⟨hk, y, v, rfl, hm, rfl, rfl⟩)))
theorem hd_tail {g : Int → Int} {a e : Int} {x : Int × Bool × Int} (hae : a ≤ e) (h : sp_hd g a e = some x) : (a ≤ x.1 ∧ x.1 ≤ e) ∧ nm g x.1 e = (if x.2.1 = true then sp_wd 4 ++ nm g x.2.2 e else []) := by
  unfold sp_hd at h
  split at h
  · cases h
  · rename_i j e1
    have hj := sp_take_in hae e1
    split at h
    · rename_i t4
      cases h
      have h2 : j + 2 ≤ e := sp_tw_le t4
      have w4 : nm g j (j + 2) = sp_wd 4 := nm_tw (by decide) t4
      refine ⟨⟨by simp only; omega, by simp only; omega⟩, ?_⟩
      simp only
      rw [if_pos trivial, ← nm_app g (show j ≤ j + 2 by omega) h2, w4]
    · split at h
      · cases h
        refine ⟨⟨by simp only; omega, by simp only; omega⟩, ?_⟩
        simp only
        rw [nm_nil g (by omega)]
        rfl
      · cases h
theorem more_text {g : Int → Int} {a e v : Int} (hae : a ≤ e) (h : sp_more g a e = some v) : nm g a e ++ [10] = sp_wd 6 ++ sp_num v ++ sp_wd 7 ++ [10] ∧ v ≠ -1 := by
  unfold sp_more at h
  split at h
  · rename_i t6
    have h5 : a + 5 ≤ e := sp_tw_le t6
    split at h
    · rename_i c
      rcases nu_cases g h5 with ⟨o1, o2, o3, o4⟩ | ⟨v', i, o1, o2, o3, o4, o5, o6, o7, o8⟩
      · exact absurd o3 c.1
      · rw [o3] at h
        cases h
        rw [o4] at c
        have hi5 : i + 5 ≤ e := sp_tw_le c.2.1
        have w6 : nm g a (a + 5) = sp_wd 6 := nm_tw (by decide) t6
        have w7 : nm g i (i + 5) = sp_wd 7 := nm_tw (by decide) c.2.1
        have he : e = i + 5 := by omega
        refine ⟨?_, by omega⟩
        rw [← nm_app g (show a ≤ a + 5 by omega) h5, w6, ← nm_app g (show a + 5 ≤ i by omega) (show i ≤ e by omega), nm_num o1, he, w7]
        simp
    · cases h
  · cases h
theorem mo_ln.u {U U' : mv} {k : Int} {x : ln_T} (h : mo_ln U k x) (ha : U'.all_ = U.all_) (he : U'.kind_ k = U.kind_ k ∧ U'.lineFrom_ k = U.lineFrom_ k ∧ U'.lineTo_ k = U.lineTo_ k ∧ U'.nameFrom_ k = U.nameFrom_ k ∧ U'.nameTo_ k = U.nameTo_ k ∧ U'.methodFrom_ k = U.methodFrom_ k ∧ U'.fileFrom_ k = U.fileFrom_ k ∧ U'.fileTo_ k = U.fileTo_ k ∧ U'.number_ k = U.number_ k) : mo_ln U' k x := by
  obtain ⟨a0, a1, a2, a3, a4, a5, a6, a7, a8⟩ := he
  rcases x with ⟨i, hd⟩ | f | z
  · unfold mo_ln at h ⊢
    rw [a0, a1, a2, a3, a4, ha]
    exact h
  · unfold mo_ln at h ⊢
    rw [a0, a1, a2, a3, a4, a5, a6, a7, a8, ha]
    exact h
  · unfold mo_ln at h ⊢
    rw [a0, a1, a2, ha]
    exact h
theorem mo_trc.add {U U1 U' : mv} {L : List ln_T} {x : ln_T} (h : mo_trc U L) (u : mo_t U U1 L.length) (u2 : U'.all_ = U1.all_ ∧ mo_te U1 U' L.length ∧ U'.lines_ = L.length + 1) (hx : mo_ln U' L.length x) : mo_trc U' (L ++ [x]) := by
  refine ⟨by rw [u2.2.2, List.length_append, List.length_singleton]; omega, fun k y hy => ?_⟩
  rcases pm_get hy with ⟨h1, h2⟩ | ⟨h1, h2⟩
  · have e1 := u.2.2 k (by omega)
    have e2 := u2.2.1 k (by omega)
    obtain ⟨a0, a1, a2, a3, a4, a5, a6, a7, a8⟩ := e1
    obtain ⟨b0, b1, b2, b3, b4, b5, b6, b7, b8⟩ := e2
    exact (h.2 k y h2).u (u2.1.trans u.1.1.1.2.2.1) ⟨b0.trans a0, b1.trans a1, b2.trans a2, b3.trans a3, b4.trans a4, b5.trans a5, b6.trans a6, b7.trans a7, b8.trans a8⟩
  · subst h1
    subst h2
    exact hx
/-- a line that was read, in the rows -/
theorem ln_made {U U' : mv} {T T' : pt_S} {a t : Int} {L : List ln_T} (iv : pt_iv T) (h0 : 600 ≤ a) (hat : a ≤ t) (ht : t ≤ 1200) (hL : L = ln_all T T.1.length) (hs : pt_step U.all_ T a t = some T') (ha : U'.all_ = U.all_) (hk : U'.kind_ L.length = ln_kd U.all_ a t (may_of T)) (hf : U'.lineFrom_ L.length = a) (hto : U'.lineTo_ L.length = t) (hp : ln_ps U.all_ a t U' L.length (ln_kd U.all_ a t (may_of T))) : ∃ x, ln_all T' T'.1.length = L ++ [x] ∧ mo_ln U' L.length x ∧ pt_iv T' ∧ (may_of T' = if ln_kd U.all_ a t (may_of T) = 3 then 2 else 1) ∧ ((ln_kd U.all_ a t (may_of T) = 0 ∧ T.1.length = 0 ∧ T'.1.length = 1 ∧ T'.2.length = T.2.length) ∨ (ln_kd U.all_ a t (may_of T) = 1 ∧ 1 ≤ T.1.length ∧ T.1.length ≠ 4 ∧ T'.1.length = T.1.length + 1 ∧ T'.2.length = T.2.length) ∨ (ln_kd U.all_ a t (may_of T) = 2 ∧ may_of T = 1 ∧ 1 ≤ T.1.length ∧ T.2.length ≠ 20 ∧ T'.1.length = T.1.length ∧ T'.2.length = T.2.length + 1) ∨ (ln_kd U.all_ a t (may_of T) = 3 ∧ may_of T = 1 ∧ 1 ≤ T.1.length ∧ T'.1.length = T.1.length ∧ T'.2.length = T.2.length)) := by
  have may1 : ∀ y : pt_H, T.1.getLast? = some y → y.2.1 = -1 → may_of T = 1 ∧ 1 ≤ T.1.length := fun y hy hm => by
    refine ⟨?_, by have := (last_split hy).2; omega⟩
    unfold may_of
    rw [hy]
    exact if_pos hm
  rcases st_cases (g := U.all_) (T := T) (a := a) (e := t) (by omega) with ⟨c, -⟩ | ⟨k0, c1, x, c2, c3⟩ | ⟨k0, c1, c4, c3', x, c2, c3⟩ | ⟨k0, c4, y, p, j, k, ln, c1, cm, c2, c3⟩ | ⟨k0, y, v, c1, cm, c2, c3⟩
  · rw [c] at hs
    cases hs
  · rw [c3] at hs
    cases hs
    rw [k0] at hk hp
    obtain ⟨x', q1, q2, q3⟩ := hp
    rw [c2] at q1
    cases q1
    have ht' := hd_tail hat c2
    refine ⟨.inl (0, hd_of U.all_ a t x), ?_, ?_, iv.hd _, ?_, Or.inl ⟨k0, c1, by simp [c1], rfl⟩⟩
    · have := ln_hd iv (hd_of U.all_ a t x)
      rw [show (T.1 ++ [(hd_of U.all_ a t x, (-1 : Int), T.2.length, T.2.length)]).length = T.1.length + 1 by simp, this, hL, c1]
    · unfold mo_ln
      rw [hk, hf, hto, q2, q3, ha]
      exact ⟨rfl, ⟨h0, by omega, ht'.1.1, ht'.1.2, ht⟩, nm_nil _ (Int.le_refl a), rfl, ht'.2⟩
    · rw [k0, if_neg (by omega)]
      unfold may_of
      simp
  · rw [c3] at hs
    cases hs
    rw [k0] at hk hp
    have hp : ∃ x, sp_hd U.all_ (a + 11) t = some x ∧ U'.nameFrom_ L.length = a + 11 ∧ U'.nameTo_ L.length = x.1 := hp
    obtain ⟨x', q1, q2, q3⟩ := hp
    rw [c2] at q1
    cases q1
    have h11 : a + 11 ≤ t := sp_tw_le c3'
    have ht' := hd_tail h11 c2
    have w3 : nm U.all_ a (a + 11) = sp_wd 3 := nm_tw (by decide) c3'
    refine ⟨.inl (T.1.length, hd_of U.all_ (a + 11) t x), ?_, ?_, iv.hd _, ?_, Or.inr (Or.inl ⟨k0, c1, c4, by simp, rfl⟩)⟩
    · have := ln_hd iv (hd_of U.all_ (a + 11) t x)
      rw [show (T.1 ++ [(hd_of U.all_ (a + 11) t x, (-1 : Int), T.2.length, T.2.length)]).length = T.1.length + 1 by simp, this, hL]
    · unfold mo_ln
      rw [hk, hf, hto, q2, q3, ha]
      exact ⟨(if_neg (by omega)).symm, ⟨h0, by omega, ht'.1.1, ht'.1.2, ht⟩, w3.trans (if_neg (by omega)).symm, rfl, ht'.2⟩
    · rw [k0, if_neg (by omega)]
      unfold may_of
      simp
  · rw [c3] at hs
    cases hs
    rw [k0] at hk hp
    have hp : ∃ p j q ln, fr_ps U.all_ a t = some (p, j, q, ln) ∧ U'.nameFrom_ L.length = a + 4 ∧ U'.nameTo_ L.length = j ∧ U'.methodFrom_ L.length = p + 1 ∧ U'.fileFrom_ L.length = j + 1 ∧ U'.fileTo_ L.length = q ∧ U'.number_ L.length = ln := hp
    obtain ⟨p', j', k', ln', q1, q2, q3, q4, q5, q6, q7⟩ := hp
    rw [c2] at q1
    cases q1
    obtain ⟨t5, hpp, hpj, gp, hje, gj, ge, hpr⟩ := fr_in (by omega) c2
    obtain ⟨tl, tf, tk1, tk2, tl2⟩ := fr_tail (by omega) c2
    have tx := fr_text (by omega) c2
    obtain ⟨mm1, mm2⟩ := may1 y c1 cm
    refine ⟨.inr (.inl (fr_of U.all_ a t (p, j, k, ln))), ?_, ?_, iv.fr c1, ?_, Or.inr (Or.inr (Or.inl ⟨k0, mm1, mm2, c4, ?_, by simp⟩))⟩
    · rw [hL]
      exact ln_fr iv c1 cm
    · unfold mo_ln
      rw [hk, hf, hto, q2, q3, q4, q5, q6, q7, ha]
      refine ⟨rfl, ⟨h0, by omega, by omega, by omega, by omega, by omega, by omega, ht⟩, tx, ?_, rfl, tf, tl, rfl, tl2⟩
      rw [show p + 1 - 1 = p by omega]
      rfl
    · rw [k0, if_neg (by omega)]
      unfold may_of
      simp [cm]
    · have := (last_split c1).2
      simp
      omega
  · rw [c3] at hs
    cases hs
    rw [k0] at hk hp
    obtain ⟨mt, mv1⟩ := more_text hat c2
    obtain ⟨mm1, mm2⟩ := may1 y c1 cm
    refine ⟨.inr (.inr v), ?_, ?_, iv.mo c1, ?_, Or.inr (Or.inr (Or.inr ⟨k0, mm1, mm2, ?_, rfl⟩))⟩
    · rw [hL]
      exact ln_mo iv c1 cm mv1
    · unfold mo_ln
      rw [hk, hf, hto, ha]
      exact ⟨rfl, ⟨h0, hat, ht⟩, mt⟩
    · rw [k0, if_pos rfl]
      unfold may_of
      simp [mv1]
    · have := (last_split c1).2
      simp
      omega
