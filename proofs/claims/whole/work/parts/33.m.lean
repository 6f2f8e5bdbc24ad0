/-! a trace in words -/
abbrev pt_F : Type := (List Int × List Int × List Int) × Bool × Int
abbrev pt_H : Type := (List Int × Bool × List Int) × Int × Nat × Nat
abbrev pt_S : Type := List pt_H × List pt_F
def pt_hd (g : Int → Int) (S : pt_S) (a e : Int) : Option pt_S := if S.1.length = 4 then none else (match sp_hd g a e with
  | none => none
  | some (j, mb, k) => some (S.1 ++ [((nm g a j, mb, nm g k e), -1, S.2.length, S.2.length)], S.2))
def pt_fr (g : Int → Int) (a e : Int) : Option pt_F := match sp_call g a e with
  | none => none
  | some (j, p) => (match sp_pl g j e with
    | none => none
    | some (pf, pt, hf, ln, q) => if e ≤ q then some ((nm g a p, nm g (p + 1) j, nm g pf pt), hf, ln) else none)
def pt_step (g : Int → Int) (S : pt_S) (a e : Int) : Option pt_S := match S.1.getLast? with
  | none => pt_hd g S a e
  | some x => if sp_tw g 3 a e = true then pt_hd g S (a + 11) e
    else if x.2.1 ≠ -1 then none
    else if sp_tw g 5 a e = true then (if S.2.length = 20 then none else (match pt_fr g (a + 4) e with
      | none => none
      | some f => some (S.1.dropLast ++ [(x.1, x.2.1, x.2.2.1, S.2.length + 1)], S.2 ++ [f])))
    else (match sp_more g a e with
      | none => none
      | some v => some (S.1.dropLast ++ [(x.1, v, x.2.2.1, x.2.2.2)], S.2))
def rq_H (g : Int → Int) (t : Nat → Int) (S : pt_S) (i : Nat) (x : pt_H) : Prop := (0 ≤ t (32 + 24 * i) ∧ t (32 + 24 * i) ≤ t (33 + 24 * i) ∧ t (33 + 24 * i) ≤ 600) ∧ (0 ≤ t (40 + 24 * i) ∧ t (40 + 24 * i) ≤ t (41 + 24 * i) ∧ t (41 + 24 * i) ≤ 600) ∧ nm g (t (32 + 24 * i)) (t (33 + 24 * i)) = x.1.1 ∧ t (24 + 24 * i) = sp_i x.1.2.1 ∧ nm g (t (40 + 24 * i)) (t (41 + 24 * i)) = x.1.2.2 ∧ t (25 + 24 * i) = x.2.1 ∧ (-1 ≤ x.2.1 ∧ x.2.1 < 10000) ∧ t (26 + 24 * i) = x.2.2.1 ∧ t (27 + 24 * i) = x.2.2.2 ∧ (x.2.2.1 ≤ x.2.2.2 ∧ x.2.2.2 ≤ S.2.length) ∧ (i + 1 = S.1.length → x.2.2.2 = S.2.length)
def rq_F (g : Int → Int) (t : Nat → Int) (i : Nat) (f : pt_F) : Prop := ((0 ≤ t (136 + 32 * i) ∧ t (136 + 32 * i) ≤ t (137 + 32 * i) ∧ t (137 + 32 * i) ≤ 600) ∧ (0 ≤ t (144 + 32 * i) ∧ t (144 + 32 * i) ≤ t (145 + 32 * i) ∧ t (145 + 32 * i) ≤ 600) ∧ (0 ≤ t (152 + 32 * i) ∧ t (152 + 32 * i) ≤ t (153 + 32 * i) ∧ t (153 + 32 * i) ≤ 600)) ∧ (nm g (t (136 + 32 * i)) (t (137 + 32 * i)) = f.1.1 ∧ nm g (t (144 + 32 * i)) (t (145 + 32 * i)) = f.1.2.1 ∧ nm g (t (152 + 32 * i)) (t (153 + 32 * i)) = f.1.2.2) ∧ t (128 + 32 * i) = sp_i f.2.1 ∧ t (129 + 32 * i) = f.2.2 ∧ (-1 ≤ f.2.2 ∧ f.2.2 < 10000)
def tr_rep (g : Int → Int) (t : Nat → Int) (S : pt_S) : Prop := t 2 = (S.1.length : Nat) ∧ S.1.length ≤ 4 ∧ t 3 = (S.2.length : Nat) ∧ S.2.length ≤ 20 ∧ (∀ (i : Nat) x, S.1[i]? = some x → rq_H g t S i x) ∧ (∀ (i : Nat) f, S.2[i]? = some f → rq_F g t i f)
theorem rq_H.cg {g : Int → Int} {t t' : Nat → Int} {S S' : pt_S} {i : Nat} {x : pt_H} (R : rq_H g t S i x) (K : ∀ r, 24 + 24 * i ≤ r → r ≤ 47 + 24 * i → t' r = t r) (h1 : S.2.length ≤ S'.2.length) (h2 : i + 1 = S'.1.length → x.2.2.2 = S'.2.length) : rq_H g t' S' i x := by
  obtain ⟨r1, r2, r3, r4, r5, r6, r7, r8, r9, r10, r11⟩ := R
  unfold rq_H
  rw [K (24 + 24 * i) (by omega) (by omega), K (25 + 24 * i) (by omega) (by omega), K (26 + 24 * i) (by omega) (by omega), K (27 + 24 * i) (by omega) (by omega), K (32 + 24 * i) (by omega) (by omega), K (33 + 24 * i) (by omega) (by omega), K (40 + 24 * i) (by omega) (by omega), K (41 + 24 * i) (by omega) (by omega)]
  exact ⟨r1, r2, r3, r4, r5, r6, r7, r8, r9, by omega, h2⟩
theorem rq_F.cg {g : Int → Int} {t t' : Nat → Int} {i : Nat} {f : pt_F} (R : rq_F g t i f) (K : ∀ r, 128 + 32 * i ≤ r → r ≤ 159 + 32 * i → t' r = t r) : rq_F g t' i f := by
  unfold rq_F at R ⊢
  rw [K (128 + 32 * i) (by omega) (by omega), K (129 + 32 * i) (by omega) (by omega), K (136 + 32 * i) (by omega) (by omega), K (137 + 32 * i) (by omega) (by omega), K (144 + 32 * i) (by omega) (by omega), K (145 + 32 * i) (by omega) (by omega), K (152 + 32 * i) (by omega) (by omega), K (153 + 32 * i) (by omega) (by omega)]
  exact R
theorem tr_rep.cg {g : Int → Int} {t t' : Nat → Int} {S : pt_S} (R : tr_rep g t S) (K : ∀ r, r ≠ 0 → r ≠ 1 → r ≠ 8 → r ≠ 9 → t' r = t r) : tr_rep g t' S := by
  obtain ⟨R2, R4, R3, R20, RH, RF⟩ := R
  exact ⟨by rw [K 2 (by omega) (by omega) (by omega) (by omega)]; exact R2, R4, by rw [K 3 (by omega) (by omega) (by omega) (by omega)]; exact R3, R20, fun i x hx => (RH i x hx).cg (fun r _ _ => K r (by omega) (by omega) (by omega) (by omega)) (Nat.le_refl _) (RH i x hx).2.2.2.2.2.2.2.2.2.2, fun i f hf => (RF i f hf).cg (fun r _ _ => K r (by omega) (by omega) (by omega) (by omega))⟩
theorem sp_hd_in {g : Int → Int} {a e j k : Int} {mb : Bool} (h : a ≤ e) (hs : sp_hd g a e = some (j, mb, k)) : a < j ∧ j ≤ k ∧ k ≤ e := by
  unfold sp_hd at hs
  cases e1 : sp_take g 40 40 a e with
  | none => rw [e1] at hs; cases hs
  | some j' =>
    have r1 := sp_take_in h e1
    rw [e1] at hs
    simp only at hs
    split at hs
    · rename_i w
      have w2 := (sp_twl 2 rfl w).1
      have w2' : j' + 2 ≤ e := w2
      simp only [Option.some.injEq, Prod.mk.injEq] at hs
      omega
    · split at hs
      · simp only [Option.some.injEq, Prod.mk.injEq] at hs
        omega
      · cases hs
theorem sp_call_in {g : Int → Int} {a e j p : Int} (h0 : 0 ≤ a) (h : a ≤ e) (hs : sp_call g a e = some (j, p)) : a ≤ p ∧ p < j ∧ j ≤ e := by
  unfold sp_call at hs
  cases e1 : sp_take g 40 40 a e with
  | none => rw [e1] at hs; cases hs
  | some j' =>
    have r1 := sp_take_in h e1
    have r2 := sp_lp_in g a h0 (j' - a).toNat
    rw [e1] at hs
    simp only at hs
    split at hs
    · cases hs
    · simp only [Option.some.injEq, Prod.mk.injEq] at hs
      omega
theorem sp_more_in {g : Int → Int} {a e v : Int} (hs : sp_more g a e = some v) : 0 ≤ v ∧ v < 10000 := by
  unfold sp_more at hs
  split at hs
  · rename_i w
    have w2 : a + 5 ≤ e := (sp_twl 5 rfl w).1
    have := sp_nv_in (g := g) w2
    split at hs
    · simp only [Option.some.injEq] at hs
      omega
    · cases hs
  · cases hs
theorem sp_pl_in {g : Int → Int} {a e pf pt ln q : Int} {hf : Bool} (h0 : 0 ≤ a) (hs : sp_pl g a e = some (pf, pt, hf, ln, q)) : a < pf ∧ pf < pt ∧ pt < q ∧ q ≤ e ∧ -1 ≤ ln ∧ ln < 10000 := by
  unfold sp_pl at hs
  split at hs
  · rename_i w
    have w1 : a + 1 ≤ e := (sp_twl 1 rfl w).1
    split at hs
    · split at hs
      · rename_i w3
        have w4 : a + 15 + 1 ≤ e := (sp_twl 1 rfl w3).1
        simp only [Option.some.injEq, Prod.mk.injEq] at hs
        omega
      · cases hs
    · split at hs
      · split at hs
        · rename_i w3
          have w4 : a + 14 + 1 ≤ e := (sp_twl 1 rfl w3).1
          simp only [Option.some.injEq, Prod.mk.injEq] at hs
          omega
        · cases hs
      · cases e1 : sp_take g 2 81 (a + 1) e with
        | none => rw [e1] at hs; cases hs
        | some k =>
          have r1 := sp_take_in w1 e1
          rw [e1] at hs
          simp only at hs
          split at hs
          · rename_i w3
            have w4 : k + 1 ≤ e := (sp_twl 1 rfl w3).1
            have n1 := sp_nv_in (g := g) w4
            split at hs
            · rename_i w5
              have w6 : sp_ni g (k + 1) e + 1 ≤ e := (sp_twl 1 rfl w5.2).1
              simp only [Option.some.injEq, Prod.mk.injEq] at hs
              omega
            · cases hs
          · split at hs
            · rename_i w3
              have w4 : k + 1 ≤ e := (sp_twl 1 rfl w3).1
              simp only [Option.some.injEq, Prod.mk.injEq] at hs
              omega
            · cases hs
  · cases hs
theorem tr_rep.addH {g : Int → Int} {t t' : Nat → Int} {S : pt_S} {n : Nat} {j k : Int} {mb : Bool} (R : tr_rep g t S) (hn : S.1.length = n) (hn4 : n < 4) (h0 : 0 ≤ t 0) (h1 : t 0 ≤ j) (h2 : j ≤ k) (h3 : k ≤ t 1) (h4 : t 1 ≤ 600) (en : tr_hd t t' n j k mb) : tr_rep g t' (S.1 ++ [((nm g (t 0) j, mb, nm g k (t 1)), -1, S.2.length, S.2.length)], S.2) := by
  obtain ⟨R2, R4, R3, R20, RH, RF⟩ := R
  obtain ⟨E2, E32, E33, E40, E41, E24, E25, E26, E27, K⟩ := en
  refine ⟨?_, ?_, ?_, R20, ?_, ?_⟩
  · rw [E2]
    simp only [List.length_append, List.length_cons, List.length_nil]
    omega
  · simp only [List.length_append, List.length_cons, List.length_nil]
    omega
  · rw [K 3 (by omega) (by omega) (by omega), R3]
  · intro i x hx
    simp only at hx
    rcases pm_get hx with ⟨hi, hx⟩ | ⟨hi, rfl⟩
    · refine (RH i x hx).cg (fun r _ _ => K r (by omega) (by omega) (by omega)) (Nat.le_refl _) (fun hz => ?_)
      simp only [List.length_append, List.length_cons, List.length_nil] at hz
      omega
    · rw [hn] at hi
      subst hi
      unfold rq_H
      rw [E32, E33, E40, E41, E24, E25, E26, E27, R3]
      exact ⟨by omega, by omega, rfl, rfl, rfl, rfl, by simp only; omega, rfl, rfl, ⟨Nat.le_refl _, Nat.le_refl _⟩, fun _ => rfl⟩
  · intro i f hf
    exact (RF i f hf).cg (fun r _ _ => K r (by omega) (by omega) (by omega))
theorem pm_getL {α : Type} {L : List α} {x y : α} {j : Nat} (h : (L.dropLast ++ [x])[j]? = some y) : (j + 1 < L.length ∧ L[j]? = some y) ∨ (j = L.length - 1 ∧ y = x) := by
  rcases pm_get h with ⟨h1, h2⟩ | ⟨h1, h2⟩
  · rw [List.length_dropLast] at h1
    rw [List.getElem?_dropLast] at h2
    rw [if_pos h1] at h2
    exact Or.inl ⟨by omega, h2⟩
  · rw [List.length_dropLast] at h1
    exact Or.inr ⟨h1, h2⟩
theorem m_TR_takesLine {l : Launch} {G : am_G} {h : am_H} {b c : Nat} {g : Int → Int} {t : Nat → Int} {S : pt_S} (m : am_tr h b c g t) (d : mp_bd g t) (R : tr_rep g t S) :
    am_M l G M_TR_takesLine [.ref b] h (fun r h' => ∃ t', tr_to h b c g h' t' ∧ ((r = some (am_n 0) ∧ pt_step g S (t 0) (t 1) = none) ∨ (r = some (am_n 1) ∧ ∃ S', pt_step g S (t 0) (t 1) = some S' ∧ tr_rep g t' S'))) := by
  have dd := d
  obtain ⟨hg, d0, d1, d2⟩ := dd
  have RR := R
  obtain ⟨R2, R4, R3, R20, RH, RF⟩ := RR
  refine am_M.of (by decide) (Nat.le_of_ble_eq_true rfl) (fun X hB hR => ?_)
  show am_Z X 0 [.ref b, am_u, am_u] [] h 0 0
  -- a header at a
  have head : ∀ (h1 : am_H) (t1 : Nat → Int) (a : Int), tr_to h b c g h1 t1 → t1 0 = a → 0 ≤ a → a ≤ t 1 → t1 1 = t 1 → tr_rep g t1 S → pt_step g S (t 0) (t 1) = pt_hd g S a (t 1) → am_Z X 16 [.ref b, am_u, am_u] [] h1 0 0 := by
    intro h1 t1 a u1 y0 a0 a1 y1 R1 hs
    have m1 := u1.1
    have b1 : mp_bd g t1 := ⟨hg, by rw [y0]; omega, by rw [y0, y1]; omega, by rw [y1]; exact d2⟩
    refine am_aload_n hB d_TR_takesLine_16 rfl rfl rfl ?_
    refine am_callV hB hR (as := []) m1.o (m_TR_takesHeader m1 b1 R1.1 R4 (by rw [R1.2.2.1]; omega)) c_TR_45 rfl rfl d_TR_takesLine_17 ⟨by decide, Nat.le_of_ble_eq_true rfl⟩ ⟨by decide, by decide⟩ rfl rfl (fun rr hh hp => ?_)
    obtain ⟨t2, u2, hp⟩ := hp
    rw [y0, y1] at hp
    rcases hp with ⟨rfl, hz⟩ | ⟨rfl, n4, j, mb, k, hz, en⟩
    · show am_Z X 20 [.ref b, am_u, am_u] [am_n 0] hh 0 0
      refine am_iret hB hR d_TR_takesLine_20 rfl (by decide) ?_ (Nat.zero_le _) (Nat.zero_le _)
      refine ⟨t2, u1.tr u2, Or.inl ⟨rfl, ?_⟩⟩
      rw [hs]
      unfold pt_hd
      by_cases z4 : S.1.length = 4
      · rw [if_pos z4]
      · rw [if_neg z4]
        rcases hz with z | z
        · exact absurd z z4
        · rw [z]
    · show am_Z X 20 [.ref b, am_u, am_u] [am_n 1] hh 0 0
      refine am_iret hB hR d_TR_takesLine_20 rfl (by decide) ?_ (Nat.zero_le _) (Nat.zero_le _)
      have hin := sp_hd_in a1 hz
      refine ⟨t2, u1.tr u2, Or.inr ⟨rfl, (S.1 ++ [((nm g a j, mb, nm g k (t 1)), -1, S.2.length, S.2.length)], S.2), ?_, ?_⟩⟩
      · rw [hs]
        unfold pt_hd
        rw [if_neg n4, hz]
      · have := R1.addH rfl (by omega) (by omega) (by omega) (by omega) (by omega) (by omega) en
        rw [y0, y1] at this
        exact this
  refine am_aload_n hB d_TR_takesLine_0 rfl rfl rfl ?_
  refine am_getf hB d_TR_takesLine_1 F_TR_32_9 m.o rfl ?_
  rw [R2]
  cases hl : S.1.getLast? with
  | none =>
    have : S.1 = [] := List.getLast?_eq_none_iff.mp hl
    have hst : pt_step g S (t 0) (t 1) = pt_hd g S (t 0) (t 1) := by
      unfold pt_step
      rw [hl]
    have len0 : S.1.length = 0 := by rw [this]; rfl
    refine ai_zeq (tgt := 16) hB d_TR_takesLine_4 (by decide) (fun c1 => ?_) (fun c1 => ?_)
    · exact head h t (t 0) ⟨m, am_rg.rf⟩ rfl d0 d1 rfl R hst
    · omega
  | some x =>
    have hl' := hl
    rw [List.getLast?_eq_getElem?] at hl'
    have nl := pm_lt hl'
    obtain ⟨n, hn⟩ : ∃ n, S.1.length = n + 1 := ⟨S.1.length - 1, by omega⟩
    have n4 : n < 4 := by omega
    have hx : S.1[n]? = some x := by rw [← hl', hn]; rfl
    have hst : pt_step g S (t 0) (t 1) = (if sp_tw g 3 (t 0) (t 1) = true then pt_hd g S (t 0 + 11) (t 1)
      else if x.2.1 ≠ -1 then none
      else if sp_tw g 5 (t 0) (t 1) = true then (if S.2.length = 20 then none else (match pt_fr g (t 0 + 4) (t 1) with
        | none => none
        | some f => some (S.1.dropLast ++ [(x.1, x.2.1, x.2.2.1, S.2.length + 1)], S.2 ++ [f])))
      else (match sp_more g (t 0) (t 1) with
        | none => none
        | some v => some (S.1.dropLast ++ [(x.1, v, x.2.2.1, x.2.2.2)], S.2))) := by
      unfold pt_step
      rw [hl]
    refine ai_zeq (tgt := 16) hB d_TR_takesLine_4 (by decide) (fun c1 => ?_) (fun c1 => ?_)
    · omega
    refine am_aload_n hB d_TR_takesLine_7 rfl rfl rfl ?_
    refine am_ldcS hB d_TR_takesLine_8 (List.mem_of_getElem? (i := 3) rfl) ?_
    refine am_callU hB hR (as := [.retAddr 3]) m.o (mt_takeWord m d (by decide)) c_TR_41_9 rfl rfl d_TR_takesLine_10 ⟨by decide, Nat.le_of_ble_eq_true rfl⟩ ⟨by decide, by decide⟩ rfl rfl (fun rr hh hp => ?_)
    obtain ⟨rfl, t1, u1, v1, o1⟩ := hp
    have m1 := u1.1
    have q11 : t1 1 = t 1 := o1 1 (by omega)
    have R1 := R.cg (t' := t1) (fun r r0 _ _ _ => o1 r r0)
    cases w1 : sp_tw g 3 (t 0) (t 1) with
    | true =>
      obtain ⟨w2, w3⟩ := sp_twl 11 rfl w1
      have w2' : t 0 + 11 ≤ t 1 := w2
      rw [w3] at v1
      show am_Z X 13 [.ref b, am_u, am_u] [am_n 1] hh 0 0
      refine ai_zeq (tgt := 21) hB d_TR_takesLine_13 (by decide) (fun c2 => ?_) (fun c2 => ?_)
      · omega
      · exact head hh t1 (t 0 + 11) u1 v1 (by omega) w2' q11 R1 (by rw [hst, if_pos w1])
    | false =>
      rw [sp_th_f w1] at v1
      rw [if_neg (by rw [w1]; decide)] at hst
      have b1 : mp_bd g t1 := ⟨hg, by rw [v1]; omega, by rw [v1, q11]; omega, by rw [q11]; exact d2⟩
      have rq1 := R1.2.2.2.2.1 n x hx
      obtain ⟨x1, x2, x3, x4, x5, x6, x7, x8, x9, x10, x11⟩ := rq1
      show am_Z X 13 [.ref b, am_u, am_u] [am_n 0] hh 0 0
      refine ai_zeq (tgt := 21) hB d_TR_takesLine_13 (by decide) (fun c2 => ?_) (fun c2 => ?_)
      · refine am_aload_n hB d_TR_takesLine_21 rfl rfl rfl ?_
        refine am_getf hB d_TR_takesLine_22 F_TR_20_9 m1.o rfl ?_
        refine am_aload_n hB d_TR_takesLine_25 rfl rfl rfl ?_
        refine am_getf hB d_TR_takesLine_26 F_TR_32_9 m1.o rfl ?_
        rw [R1.1, hn]
        refine ai_const hB d_TR_takesLine_29 ?_
        refine ai_sub hB d_TR_takesLine_30 ?_
        refine ai_aald hB d_TR_takesLine_31 ty_5 m1.qH (z := b + 3 + 3 * n) ((if_pos (by omega)).trans (by show some (b + 3 + 3 * (((n + 1 : Nat) : Int) - 1).toNat) = _; congr 2; omega)) ?_
        refine am_astore_n hB d_TR_takesLine_32 rfl (by rw [hR.nL]; decide) rfl rfl ?_
        refine am_aload_n hB d_TR_takesLine_33 rfl rfl rfl ?_
        refine am_getf hB d_TR_takesLine_34 F_TR_49_3 (m1.H n4) rfl ?_
        rw [x6]
        refine ai_const hB d_TR_takesLine_37 ?_
        refine ai_jeq (tgt := 43) hB d_TR_takesLine_38 (by decide) (fun c3 => ?_) (fun c3 => ?_)
        · rw [if_neg (fun z => z c3)] at hst
          refine am_aload_n hB d_TR_takesLine_43 rfl rfl rfl ?_
          refine am_ldcS hB d_TR_takesLine_44 (List.mem_of_getElem? (i := 5) rfl) ?_
          refine am_callU hB hR (as := [.retAddr 5]) m1.o (mt_takeWord m1 b1 (by decide)) c_TR_41_9 rfl rfl d_TR_takesLine_46 ⟨by decide, Nat.le_of_ble_eq_true rfl⟩ ⟨by decide, by decide⟩ rfl rfl (fun rr hh hp => ?_)
          obtain ⟨rfl, t2, u2', v2, o2⟩ := hp
          have m2 := u2'.1
          have u2 := u1.tr u2'
          rw [v1, q11] at v2 ⊢
          have q21 : t2 1 = t 1 := by rw [o2 1 (by omega), q11]
          have R2' := R1.cg (t' := t2) (fun r r0 _ _ _ => o2 r r0)
          cases w4 : sp_tw g 5 (t 0) (t 1) with
          | false =>
            rw [sp_th_f w4] at v2
            rw [if_neg (by rw [w4]; decide)] at hst
            have b2 : mp_bd g t2 := ⟨hg, by rw [v2]; omega, by rw [v2, q21]; omega, by rw [q21]; exact d2⟩
            show am_Z X 49 [.ref b, .ref (b + 3 + 3 * n), am_u] [am_n 0] hh 0 0
            refine ai_zne (tgt := 58) hB d_TR_takesLine_49 (by decide) (fun c4 => ?_) (fun c4 => ?_)
            · omega
            refine am_aload_n hB d_TR_takesLine_52 rfl rfl rfl ?_
            refine am_aload_n hB d_TR_takesLine_53 rfl rfl rfl ?_
            refine am_callV hB hR (as := [.ref (b + 3 + 3 * n)]) m2.o (m_TR_takesMore m2 b2 n4) c_TR_54 rfl rfl d_TR_takesLine_54 ⟨by decide, Nat.le_of_ble_eq_true rfl⟩ ⟨by decide, by decide⟩ rfl rfl (fun rr hh hp => ?_)
            obtain ⟨t3, u3, hp⟩ := hp
            rw [v2, q21] at hp
            rcases hp with ⟨rfl, hz⟩ | ⟨rfl, v, hz, y1, y2⟩
            · show am_Z X 57 [.ref b, .ref (b + 3 + 3 * n), am_u] [am_n 0] hh 0 0
              refine am_iret hB hR d_TR_takesLine_57 rfl (by decide) ?_ (Nat.zero_le _) (Nat.zero_le _)
              exact ⟨t3, u2.tr u3, Or.inl ⟨rfl, by rw [hst, hz]⟩⟩
            · show am_Z X 57 [.ref b, .ref (b + 3 + 3 * n), am_u] [am_n 1] hh 0 0
              refine am_iret hB hR d_TR_takesLine_57 rfl (by decide) ?_ (Nat.zero_le _) (Nat.zero_le _)
              have hv := sp_more_in hz
              refine ⟨t3, u2.tr u3, Or.inr ⟨rfl, (S.1.dropLast ++ [(x.1, v, x.2.2.1, x.2.2.2)], S.2), by rw [hst, hz], ?_⟩⟩
              have hlen : (S.1.dropLast ++ [(x.1, v, x.2.2.1, x.2.2.2)]).length = S.1.length := by
                rw [List.length_append, List.length_dropLast]
                simp only [List.length_cons, List.length_nil]
                omega
              refine ⟨?_, ?_, ?_, R20, ?_, ?_⟩
              · simp only [hlen]
                rw [y2 2 (by omega) (by omega), R2'.1]
              · simp only [hlen]
                exact R4
              · rw [y2 3 (by omega) (by omega), R2'.2.2.1]
              · intro i z hz
                simp only at hz
                rcases pm_getL hz with ⟨hi, hz⟩ | ⟨hi, rfl⟩
                · refine (R2'.2.2.2.2.1 i z hz).cg (fun r _ _ => y2 r (by omega) (by omega)) (Nat.le_refl _) (fun hq => ?_)
                  simp only [hlen] at hq
                  omega
                · have : i = n := by omega
                  subst this
                  obtain ⟨z1, z2, z3, z4, z5, z6, z7, z8, z9, z10, z11⟩ := R2'.2.2.2.2.1 i x hx
                  unfold rq_H
                  rw [y1, y2 _ (by omega) (by omega), y2 _ (by omega) (by omega), y2 _ (by omega) (by omega), y2 _ (by omega) (by omega), y2 (24 + 24 * i) (by omega) (by omega), y2 (26 + 24 * i) (by omega) (by omega), y2 (27 + 24 * i) (by omega) (by omega)]
                  exact ⟨z1, z2, z3, z4, z5, rfl, by simp only; omega, z8, z9, z10, fun _ => z11 (by omega)⟩
              · intro i f hf
                exact (R2'.2.2.2.2.2 i f hf).cg (fun r _ _ => y2 r (by omega) (by omega))
          | true =>
            obtain ⟨w5, w6⟩ := sp_twl 4 rfl w4
            have w5' : t 0 + 4 ≤ t 1 := w5
            rw [w6] at v2
            have v2' : t2 0 = t 0 + 4 := v2
            rw [if_pos w4] at hst
            have b2 : mp_bd g t2 := ⟨hg, by rw [v2']; omega, by rw [v2', q21]; omega, by rw [q21]; exact d2⟩
            show am_Z X 49 [.ref b, .ref (b + 3 + 3 * n), am_u] [am_n 1] hh 0 0
            refine ai_zne (tgt := 58) hB d_TR_takesLine_49 (by decide) (fun c4 => ?_) (fun c4 => ?_)
            · refine am_aload_n hB d_TR_takesLine_58 rfl rfl rfl ?_
              refine am_getf hB d_TR_takesLine_59 F_TR_36_9 m2.o rfl ?_
              rw [R2'.2.2.1]
              refine ai_bipush hB d_TR_takesLine_62 (by decide) ?_
              refine ai_jne (tgt := 69) hB d_TR_takesLine_64 (by decide) (fun c5 => ?_) (fun c5 => ?_)
              · have f20 : S.2.length < 20 := by omega
                rw [if_neg (by omega)] at hst
                refine am_aload_n hB d_TR_takesLine_69 rfl rfl rfl ?_
                refine am_getf hB d_TR_takesLine_70 F_TR_27_9 m2.o rfl ?_
                refine am_aload_n hB d_TR_takesLine_73 rfl rfl rfl ?_
                refine am_getf hB d_TR_takesLine_74 F_TR_36_9 m2.o rfl ?_
                rw [R2'.2.2.1]
                refine ai_aald hB d_TR_takesLine_77 ty_6 m2.qF (z := b + 16 + 4 * S.2.length) (if_pos (by omega)) ?_
                refine am_astore_n hB d_TR_takesLine_78 rfl (by rw [hR.nL]; decide) rfl rfl ?_
                refine am_aload_n hB d_TR_takesLine_79 rfl rfl rfl ?_
                refine am_aload_n hB d_TR_takesLine_80 rfl rfl rfl ?_
                have no : ∀ (h9 : am_H) (t9 : Nat → Int), tr_to h b c g h9 t9 → pt_fr g (t 0 + 4) (t 1) = none → am_Z X 102 [.ref b, .ref (b + 3 + 3 * n), .ref (b + 16 + 4 * S.2.length)] [] h9 0 0 := by
                  intro h9 t9 u9 hz
                  refine ai_const hB d_TR_takesLine_102 ?_
                  refine am_iret hB hR d_TR_takesLine_103 rfl (by decide) ?_ (Nat.zero_le _) (Nat.zero_le _)
                  exact ⟨t9, u9, Or.inl ⟨rfl, by rw [hst, hz]⟩⟩
                refine am_callV hB hR (as := [.ref (b + 16 + 4 * S.2.length)]) m2.o (m_TR_takesCall m2 b2 f20) c_TR_58 rfl rfl d_TR_takesLine_81 ⟨by decide, Nat.le_of_ble_eq_true rfl⟩ ⟨by decide, by decide⟩ rfl rfl (fun rr hh hp => ?_)
                obtain ⟨t3, u3', o3, hp⟩ := hp
                have m3 := u3'.1
                have u3 := u2.tr u3'
                rw [v2', q21] at hp
                cases e3 : sp_call g (t 0 + 4) (t 1) with
                | none =>
                  rw [e3] at hp
                  obtain rfl := hp
                  show am_Z X 84 [.ref b, .ref (b + 3 + 3 * n), .ref (b + 16 + 4 * S.2.length)] [am_n 0] hh 0 0
                  refine ai_zeq (tgt := 102) hB d_TR_takesLine_84 (by decide) (fun c6 => ?_) (fun c6 => ?_)
                  · exact no hh t3 u3 (by unfold pt_fr; rw [e3])
                  · omega
                | some jp =>
                  obtain ⟨j, p⟩ := jp
                  rw [e3] at hp
                  obtain ⟨rfl, y0, y1, y2, y3, y4⟩ := hp
                  have rj := sp_call_in (by omega) w5' e3
                  have q31 : t3 1 = t 1 := by rw [o3 1 (by omega) (by omega) (by omega) (by omega), q21]
                  have b3 : mp_bd g t3 := ⟨hg, by rw [y0]; omega, by rw [y0, q31]; omega, by rw [q31]; exact d2⟩
                  show am_Z X 84 [.ref b, .ref (b + 3 + 3 * n), .ref (b + 16 + 4 * S.2.length)] [am_n 1] hh 0 0
                  refine ai_zeq (tgt := 102) hB d_TR_takesLine_84 (by decide) (fun c6 => ?_) (fun c6 => ?_)
                  · omega
                  refine am_aload_n hB d_TR_takesLine_87 rfl rfl rfl ?_
                  refine am_aload_n hB d_TR_takesLine_88 rfl rfl rfl ?_
                  refine am_callV hB hR (as := [.ref (b + 16 + 4 * S.2.length)]) m3.o (m_TR_takesPlace m3 b3 f20) c_TR_62 rfl rfl d_TR_takesLine_89 ⟨by decide, Nat.le_of_ble_eq_true rfl⟩ ⟨by decide, by decide⟩ rfl rfl (fun rr hh hp => ?_)
                  obtain ⟨t4, u4', o4, hp⟩ := hp
                  have m4 := u4'.1
                  have u4 := u3.tr u4'
                  rw [y0, q31] at hp
                  rcases hp with ⟨rfl, hz⟩ | ⟨rfl, pf, pt, hf, ln, q, hz, k0, k1, k2, k3, k4⟩
                  · show am_Z X 92 [.ref b, .ref (b + 3 + 3 * n), .ref (b + 16 + 4 * S.2.length)] [am_n 0] hh 0 0
                    refine ai_zeq (tgt := 102) hB d_TR_takesLine_92 (by decide) (fun c7 => ?_) (fun c7 => ?_)
                    · exact no hh t4 u4 (by unfold pt_fr; simp only [e3, hz])
                    · omega
                  · have rp := sp_pl_in (by omega) hz
                    have q41 : t4 1 = t 1 := by rw [o4 1 (by omega) (by omega) (by omega) (by omega) (by omega), q31]
                    have b4 : mp_bd g t4 := ⟨hg, by rw [k0]; omega, by rw [k0, q41]; omega, by rw [q41]; exact d2⟩
                    show am_Z X 92 [.ref b, .ref (b + 3 + 3 * n), .ref (b + 16 + 4 * S.2.length)] [am_n 1] hh 0 0
                    refine ai_zeq (tgt := 102) hB d_TR_takesLine_92 (by decide) (fun c7 => ?_) (fun c7 => ?_)
                    · omega
                    refine am_aload_n hB d_TR_takesLine_95 rfl rfl rfl ?_
                    refine am_callU hB hR (as := []) m4.o (m_FO_isDone (m4.fo b4)) c_TR_65_9 rfl rfl d_TR_takesLine_96 ⟨by decide, Nat.le_of_ble_eq_true rfl⟩ ⟨by decide, by decide⟩ rfl rfl (fun rr hh hp => ?_)
                    obtain ⟨rfl, rfl⟩ := hp
                    rw [k0, q41]
                    by_cases hk : t 1 ≤ q
                    · have hfr : pt_fr g (t 0 + 4) (t 1) = some ((nm g (t 0 + 4) p, nm g (p + 1) j, nm g pf pt), hf, ln) := by
                        unfold pt_fr
                        simp only [e3, hz]
                        rw [if_pos hk]
                      rw [hfr] at hst
                      rw [decide_eq_true hk]
                      show am_Z X 99 [.ref b, .ref (b + 3 + 3 * n), .ref (b + 16 + 4 * S.2.length)] [am_n 1] hh 0 0
                      have k3' : t4 3 = (S.2.length : Nat) := by rw [o4 3 (by omega) (by omega) (by omega) (by omega) (by omega), o3 3 (by omega) (by omega) (by omega) (by omega), R2'.2.2.1]
                      refine ai_zne (tgt := 104) hB d_TR_takesLine_99 (by decide) (fun c8 => ?_) (fun c8 => ?_)
                      · obtain ⟨h5, t5, e5, m5, g5, v5, o5⟩ := m4.e3 (S.2.length + 1)
                        refine am_aload_n hB d_TR_takesLine_104 rfl rfl rfl ?_
                        refine am_dup hB d_TR_takesLine_105 rfl ?_
                        refine am_getf hB d_TR_takesLine_106 F_TR_36_9 m4.o rfl ?_
                        rw [k3']
                        refine ai_const hB d_TR_takesLine_109 ?_
                        refine ai_add hB d_TR_takesLine_110 ?_
                        refine am_putf hB d_TR_takesLine_111 P_TR_36_9 m4.o (by simp) am_fit.i e5 ?_
                        refine am_aload_n hB d_TR_takesLine_114 rfl rfl rfl ?_
                        refine am_aload_n hB d_TR_takesLine_115 rfl rfl rfl ?_
                        refine am_getf hB d_TR_takesLine_116 F_TR_36_9 m5.o rfl ?_
                        rw [v5]
                        obtain ⟨h6, t6, e6, m6, g6, v6, o6⟩ := m5.eHe n4 (S.2.length + 1)
                        refine am_putf hB d_TR_takesLine_119 P_TR_68_3 (m5.H n4) (by simp) am_fit.i e6 ?_
                        refine ai_const hB d_TR_takesLine_122 ?_
                        refine am_iret hB hR d_TR_takesLine_123 rfl (by decide) ?_ (Nat.zero_le _) (Nat.zero_le _)
                        refine ⟨t6, ⟨m6, (u4.2.tr g5).tr g6⟩, Or.inr ⟨rfl, _, hst, ?_⟩⟩
                        have K : ∀ r, r ≠ 0 → r ≠ 8 → r ≠ 9 → r ≠ 3 → r ≠ 27 + 24 * n → (r < 128 + 32 * S.2.length ∨ 159 + 32 * S.2.length < r) → t6 r = t2 r := fun r a0 a8 a9 a3 a27 ar => by rw [o6 r a27, o5 r a3, o4 r a0 (by omega) (by omega) (by omega) (by omega), o3 r a0 a8 a9 (by omega)]
                        have hlen : (S.1.dropLast ++ [(x.1, x.2.1, x.2.2.1, S.2.length + 1)]).length = S.1.length := by
                          rw [List.length_append, List.length_dropLast]
                          simp only [List.length_cons, List.length_nil]
                          omega
                        refine ⟨?_, ?_, ?_, ?_, ?_, ?_⟩
                        · simp only [hlen]
                          rw [K 2 (by omega) (by omega) (by omega) (by omega) (by omega) (by omega), R2'.1]
                        · simp only [hlen]
                          exact R4
                        · rw [o6 3 (by omega), v5]
                          simp only [List.length_append, List.length_cons, List.length_nil]
                          omega
                        · simp only [List.length_append, List.length_cons, List.length_nil]
                          omega
                        · intro i z hz
                          simp only at hz
                          rcases pm_getL hz with ⟨hi, hz⟩ | ⟨hi, rfl⟩
                          · refine (R2'.2.2.2.2.1 i z hz).cg (fun r _ _ => K r (by omega) (by omega) (by omega) (by omega) (by omega) (by omega)) (by simp only [List.length_append]; omega) (fun hq => ?_)
                            simp only [hlen] at hq
                            omega
                          · have : i = n := by omega
                            subst this
                            obtain ⟨z1, z2, z3, z4, z5, z6, z7, z8, z9, z10, z11⟩ := R2'.2.2.2.2.1 i x hx
                            have kk : ∀ r, 24 + 24 * i ≤ r → r ≤ 47 + 24 * i → r ≠ 27 + 24 * i → t6 r = t2 r := fun r r1 r2 r3 => K r (by omega) (by omega) (by omega) (by omega) r3 (by omega)
                            unfold rq_H
                            rw [v6, kk _ (by omega) (by omega) (by omega), kk _ (by omega) (by omega) (by omega), kk _ (by omega) (by omega) (by omega), kk _ (by omega) (by omega) (by omega), kk (24 + 24 * i) (by omega) (by omega) (by omega), kk (25 + 24 * i) (by omega) (by omega) (by omega), kk (26 + 24 * i) (by omega) (by omega) (by omega)]
                            refine ⟨z1, z2, z3, z4, z5, z6, z7, z8, rfl, ?_, fun _ => ?_⟩
                            · simp only [List.length_append, List.length_cons, List.length_nil]
                              omega
                            · simp only [List.length_append, List.length_cons, List.length_nil]
                        · intro i f hf
                          simp only at hf
                          rcases pm_get hf with ⟨hi, hf⟩ | ⟨hi, rfl⟩
                          · exact (R2'.2.2.2.2.2 i f hf).cg (fun r _ _ => K r (by omega) (by omega) (by omega) (by omega) (by omega) (by omega))
                          · subst hi
                            have jj : ∀ r, 128 + 32 * S.2.length ≤ r → t6 r = t4 r := fun r r1 => by rw [o6 r (by omega), o5 r (by omega)]
                            have f136 : t4 (136 + 32 * S.2.length) = t 0 + 4 := by rw [o4 _ (by omega) (by omega) (by omega) (by omega) (by omega), y1]
                            have f137 : t4 (137 + 32 * S.2.length) = p := by rw [o4 _ (by omega) (by omega) (by omega) (by omega) (by omega), y2]
                            have f144 : t4 (144 + 32 * S.2.length) = p + 1 := by rw [o4 _ (by omega) (by omega) (by omega) (by omega) (by omega), y3]
                            have f145 : t4 (145 + 32 * S.2.length) = j := by rw [o4 _ (by omega) (by omega) (by omega) (by omega) (by omega), y4]
                            unfold rq_F
                            rw [jj _ (by omega), jj _ (by omega), jj _ (by omega), jj _ (by omega), jj _ (by omega), jj _ (by omega), jj (128 + 32 * S.2.length) (by omega), jj (129 + 32 * S.2.length) (by omega), f136, f137, f144, f145, k1, k2, k3, k4]
                            exact ⟨⟨by omega, by omega, by omega⟩, ⟨rfl, rfl, rfl⟩, rfl, rfl, by simp only; omega⟩
                      · omega
                    · rw [decide_eq_false hk]
                      show am_Z X 99 [.ref b, .ref (b + 3 + 3 * n), .ref (b + 16 + 4 * S.2.length)] [am_n 0] hh 0 0
                      refine ai_zne (tgt := 104) hB d_TR_takesLine_99 (by decide) (fun c8 => ?_) (fun c8 => ?_)
                      · omega
                      · refine no hh t4 u4 ?_
                        unfold pt_fr
                        simp only [e3, hz]
                        rw [if_neg hk]
              · rw [if_pos (by omega)] at hst
                refine ai_const hB d_TR_takesLine_67 ?_
                refine am_iret hB hR d_TR_takesLine_68 rfl (by decide) ?_ (Nat.zero_le _) (Nat.zero_le _)
                exact ⟨t2, u2, Or.inl ⟨rfl, hst⟩⟩
            · omega
        · rw [if_pos c3] at hst
          refine ai_const hB d_TR_takesLine_41 ?_
          refine am_iret hB hR d_TR_takesLine_42 rfl (by decide) ?_ (Nat.zero_le _) (Nat.zero_le _)
          exact ⟨t1, u1, Or.inl ⟨rfl, hst⟩⟩
      · omega
/-- a trace that stands for S -/
theorem m_TR_firstWrongLine {l : Launch} {G : am_G} {h : am_H} {b c : Nat} {g : Int → Int} {t : Nat → Int} {n : Int} {S0 : pt_S} (m : am_tr h b c g t) (hg : am_cok g) (R : tr_rep g t S0) (hn : 0 ≤ n ∧ n ≤ 600) :
    am_M l G M_FO_firstWrongLine [.ref b, am_n n] h (fun r h' => match pm_run (pt_step g) g n (n + 1).toNat 0 1 S0 with
      | .inl row => r = some (am_n row) ∧ ∃ t', tr_to h b c g h' t'
      | .inr S' => r = some (am_n (-1)) ∧ ∃ t', tr_to h b c g h' t' ∧ tr_rep g t' S') := by
  refine (m_FO_firstWrongLine (α := pt_S) (st := pt_step g) (I := fun h' a e S => ∃ t', tr_to h b c g h' t' ∧ t' 0 = a ∧ t' 1 = e ∧ tr_rep g t' S) (J := fun h' => ∃ t', tr_to h b c g h' t') (k := b) (ci := 9) (c := c) (N := 600) (MT := M_TR_takesLine) (a0 := t 0) (e0 := t 1) (Or.inr rfl) hg ?_ ?_ ?_ c_FO_22_9 ⟨by decide, Nat.le_of_ble_eq_true rfl⟩ ⟨rfl, rfl⟩ hn (by omega) ⟨t, ⟨m, am_rg.rf⟩, rfl, rfl, R⟩).imp (fun r h' hp => ?_)
  · rintro h1 a e S ⟨t1, u1, rfl, rfl, R1⟩
    exact ⟨_, u1.1.o, u1.1.2.1⟩
  · rintro h1 a e S a' e' tl ⟨t1, u1, rfl, rfl, R1⟩ r1
    have e1 := u1.1.o.symm.trans r1
    simp only [Option.some.injEq, Sum.inr.injEq, Prod.mk.injEq, List.cons.injEq, true_and] at e1
    subst e1
    have q := u1.1.wr (q := 0) (t' := am_w (am_w t1 0 a') 1 e') (by omega) (fun r hr => by rw [am_w_ne _ _ (by omega), am_w_ne _ _ (by omega)]) (tr_c0 b c _)
    refine ⟨am_w (am_w t1 0 a') 1 e', ⟨q.1, u1.2.tr q.2⟩, rfl, rfl, R1.cg (fun r r0 r1 _ _ => by rw [am_w_ne _ _ r1, am_w_ne _ _ r0])⟩
  · rintro h1 a e S ⟨t1, u1, rfl, rfl, R1⟩ h0 h2 h3
    refine (m_TR_takesLine u1.1 ⟨hg, h0, h2, by omega⟩ R1).imp (fun r h' hp => ?_)
    obtain ⟨t2, u2, ⟨rfl, hz⟩ | ⟨rfl, S', hz, R2⟩⟩ := hp
    · exact Or.inl ⟨rfl, hz, t2, u1.tr u2⟩
    · exact Or.inr ⟨rfl, S', t2 0, t2 1, hz, t2, u1.tr u2, rfl, rfl, R2⟩
  · cases e1 : pm_run (pt_step g) g n (n + 1).toNat 0 1 S0 with
    | inl row =>
      rw [e1] at hp
      exact hp
    | inr S' =>
      rw [e1] at hp
      obtain ⟨rfl, a, e, t', u', -, -, R'⟩ := hp
      exact ⟨rfl, t', u', R'⟩
theorem m_TR_begin {l : Launch} {G : am_G} {h : am_H} {b c : Nat} {g : Int → Int} {t : Nat → Int} (m : am_tr h b c g t) : am_M l G M_TR_begin [.ref b] h (fun r h' => r = none ∧ ∃ t', tr_to h b c g h' t' ∧ tr_rep g t' ([], [])) := by
  refine am_M.of (by decide) (Nat.le_of_ble_eq_true rfl) (fun X hB hR => ?_)
  show am_Z X 0 [.ref b] [] h 0 0
  obtain ⟨h2, t2, e2, m2, g2, v2, o2⟩ := m.e2 0
  refine am_aload_n hB d_TR_begin_0 rfl rfl rfl ?_
  refine ai_const hB d_TR_begin_1 ?_
  refine am_putf hB d_TR_begin_2 P_TR_32_9 m.o (by simp) am_fit.i e2 ?_
  obtain ⟨h3, t3, e3, m3, g3, v3, o3⟩ := m2.e3 0
  refine am_aload_n hB d_TR_begin_5 rfl rfl rfl ?_
  refine ai_const hB d_TR_begin_6 ?_
  refine am_putf hB d_TR_begin_7 P_TR_36_9 m2.o (by simp) am_fit.i e3 ?_
  refine am_vret hB hR d_TR_begin_10 rfl ?_ (Nat.zero_le _) (Nat.zero_le _)
  refine ⟨rfl, t3, ⟨m3, g2.tr g3⟩, ?_, Nat.zero_le _, v3, Nat.zero_le _, ?_, ?_⟩
  · rw [o3 _ (by omega), v2]
    rfl
  · intro i x hx
    cases hx
  · intro i x hx
    cases hx
