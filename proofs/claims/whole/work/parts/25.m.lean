/-! a line of a mapping -/
theorem sp_fd_none {P : Nat → Bool} : ∀ (n i : Nat), sp_fd P i n = none ↔ ∀ j, i ≤ j → j < i + n → P j = false
  | 0, i => ⟨fun _ j h1 h2 => by omega, fun _ => rfl⟩
  | n + 1, i => by
    unfold sp_fd
    cases h : P i with
    | true =>
      rw [if_pos rfl]
      refine ⟨(fun z => by cases z), fun z => ?_⟩
      have := z i (by omega) (by omega)
      rw [h] at this
      cases this
    | false =>
      rw [if_neg (by decide), sp_fd_none n (i + 1)]
      constructor
      · intro z j h1 h2
        by_cases q : j = i
        · rw [q]; exact h
        · exact z j (by omega) (by omega)
      · intro z j h1 h2
        exact z j (by omega) (by omega)
theorem sp_tw_0 {g : Int → Int} {a e : Int} (h : sp_tw g 0 a e = true) : a + 4 ≤ e := by
  unfold sp_tw at h
  rw [Bool.and_eq_true, decide_eq_true_eq] at h
  have := h.1
  have e9 : ((am_len.getD 0 0 : Nat) : Int) = 4 := rfl
  omega
theorem sp_th_0 {g : Int → Int} {a e : Int} (h : sp_tw g 0 a e = true) : sp_th g 0 a e = a + 4 := by
  unfold sp_th
  rw [if_pos h]
  rfl
theorem sp_th_f {g : Int → Int} {a e : Int} {w : Nat} (h : sp_tw g w a e = false) : sp_th g w a e = a := by
  unfold sp_th
  rw [if_neg (by rw [h]; decide)]
/-- no class line has one of these two names -/
theorem mp_rep.any {g : Int → Int} {s : Nat → Int} {S : pm_S} (R : mp_rep g s S) {a j j4 k : Int} (h1 : a ≤ j) (h2 : j4 ≤ k) : (S.1.any (fun c => decide (c.1 = nm g a j) || decide (c.2 = nm g j4 k)) = true) ↔ (sp_fR g s g a j S.1.length ≠ none ∨ sp_fB g s g j4 k S.1.length ≠ none) := by
  obtain ⟨R2, R8, R3, R32, R4, RC, RL, Rq⟩ := R
  have eR : ∀ (i : Nat) (c : pm_C), S.1[i]? = some c → sp_eq g (s (8 + 7 * i)) (s (9 + 7 * i)) g a j = decide (c.1 = nm g a j) := fun i c hc => by
    have q := RC i c hc
    rw [sp_eq_nm q.1.2.1 h1, q.2.2.1]
  have eB : ∀ (i : Nat) (c : pm_C), S.1[i]? = some c → sp_eq g (s (10 + 7 * i)) (s (11 + 7 * i)) g j4 k = decide (c.2 = nm g j4 k) := fun i c hc => by
    have q := RC i c hc
    rw [sp_eq_nm q.2.1.2.1 h2, q.2.2.2.1]
  rw [List.any_eq_true]
  constructor
  · rintro ⟨c, hc, hz⟩
    obtain ⟨i, hi⟩ := List.getElem?_of_mem hc
    have il := pm_lt hi
    rw [Bool.or_eq_true] at hz
    rcases hz with z | z
    · refine Or.inl (fun w => ?_)
      have := (sp_fd_none _ _).mp w i (by omega) (by omega)
      rw [eR i c hi, z] at this
      cases this
    · refine Or.inr (fun w => ?_)
      have := (sp_fd_none _ _).mp w i (by omega) (by omega)
      rw [eB i c hi, z] at this
      cases this
  · intro hz
    apply Classical.byContradiction
    intro no
    have al : ∀ (i : Nat) (c : pm_C), S.1[i]? = some c → (decide (c.1 = nm g a j) = false ∧ decide (c.2 = nm g j4 k) = false) := fun i c hc => by
      have q : ¬ (decide (c.1 = nm g a j) || decide (c.2 = nm g j4 k)) = true := fun q => no ⟨c, List.mem_of_getElem? hc, q⟩
      rw [Bool.or_eq_true] at q
      constructor
      · cases w : decide (c.1 = nm g a j) with
        | false => rfl
        | true => exact absurd (Or.inl w) q
      · cases w : decide (c.2 = nm g j4 k) with
        | false => rfl
        | true => exact absurd (Or.inr w) q
    rcases hz with z | z
    · refine z ((sp_fd_none _ _).mpr (fun i _ hi => ?_))
      have hc : S.1[i]? = some (S.1[i]'(by omega)) := List.getElem?_eq_getElem (by omega)
      rw [eR i _ hc]
      exact (al i _ hc).1
    · refine z ((sp_fd_none _ _).mpr (fun i _ hi => ?_))
      have hc : S.1[i]? = some (S.1[i]'(by omega)) := List.getElem?_eq_getElem (by omega)
      rw [eB i _ hc]
      exact (al i _ hc).2
theorem m_MA_takesLine {l : Launch} {G : am_G} {h : am_H} {b : Nat} {g : Int → Int} {s : Nat → Int} {S : pm_S} (m : am_map h b g s) (d : mp_bd g s) (R : mp_rep g s S) :
    am_M l G M_MA_takesLine [.ref b] h (fun r h' => ∃ s', mp_to h b g h' s' ∧ ((r = some (am_n 0) ∧ pm_step g S (s 0) (s 1) = none) ∨ (r = some (am_n 1) ∧ ∃ S', pm_step g S (s 0) (s 1) = some S' ∧ mp_rep g s' S'))) := by
  have dd := d
  obtain ⟨hg, d0, d1, d2⟩ := dd
  have RR := R
  obtain ⟨R2, R8, R3, R32, R4, RC, RL, Rq⟩ := RR
  refine am_M.of (by decide) (Nat.le_of_ble_eq_true rfl) (fun X hB hR => ?_)
  show am_Z X 0 [.ref b] [] h 0 0
  have yes : (s 0 = s 1 ∨ g (s 0) = 35) → am_Z X 14 [.ref b] [] h 0 0 := by
    intro hz
    refine ai_const hB d_MA_takesLine_14 ?_
    refine am_iret hB hR d_MA_takesLine_15 rfl (by decide) ?_ (Nat.zero_le _) (Nat.zero_le _)
    exact ⟨s, ⟨m, am_rg.rf⟩, Or.inr ⟨rfl, S, by unfold pm_step; rw [if_pos hz], R⟩⟩
  refine am_aload_n hB d_MA_takesLine_0 rfl rfl rfl ?_
  refine am_callU hB hR (as := []) m.1 (m_FO_isDone (m.fo d)) c_MA_61_4 rfl rfl d_MA_takesLine_1 ⟨by decide, Nat.le_of_ble_eq_true rfl⟩ ⟨by decide, by decide⟩ rfl rfl (fun rr hh hp => ?_)
  obtain ⟨rfl, rfl⟩ := hp
  by_cases z1 : s 1 ≤ s 0
  · rw [decide_eq_true z1]
    show am_Z X 4 [.ref b] [am_n 1] h 0 0
    refine ai_zne (tgt := 14) hB d_MA_takesLine_4 (by decide) (fun c1 => ?_) (fun c1 => ?_)
    · exact yes (Or.inl (by omega))
    · omega
  rw [decide_eq_false z1]
  show am_Z X 4 [.ref b] [am_n 0] h 0 0
  refine ai_zne (tgt := 14) hB d_MA_takesLine_4 (by decide) (fun c1 => ?_) (fun c1 => ?_)
  · omega
  refine am_aload_n hB d_MA_takesLine_7 rfl rfl rfl ?_
  refine am_callU hB hR (as := []) m.1 (m_FO_isAtComment (m.fo d)) c_MA_65_4 rfl rfl d_MA_takesLine_8 ⟨by decide, Nat.le_of_ble_eq_true rfl⟩ ⟨by decide, by decide⟩ rfl rfl (fun rr hh hp => ?_)
  obtain ⟨rfl, rfl⟩ := hp
  rw [decide_eq_true (show s 0 < s 1 by omega), Bool.true_and]
  by_cases z2 : g (s 0) = 35
  · rw [decide_eq_true z2]
    show am_Z X 11 [.ref b] [am_n 1] h 0 0
    refine ai_zeq (tgt := 16) hB d_MA_takesLine_11 (by decide) (fun c2 => ?_) (fun c2 => ?_)
    · omega
    · exact yes (Or.inr z2)
  rw [decide_eq_false z2]
  show am_Z X 11 [.ref b] [am_n 0] h 0 0
  have z3 : ¬ (s 0 = s 1 ∨ g (s 0) = 35) := by
    rintro (w | w)
    · omega
    · exact z2 w
  refine ai_zeq (tgt := 16) hB d_MA_takesLine_11 (by decide) (fun c2 => ?_) (fun c2 => ?_)
  · refine am_aload_n hB d_MA_takesLine_16 rfl rfl rfl ?_
    refine am_ldcS hB d_MA_takesLine_17 (List.mem_of_getElem? (i := 0) rfl) ?_
    refine am_callU hB hR (as := [.retAddr 0]) m.1 (mb_takeWord m d (by decide)) c_MA_70_4 rfl rfl d_MA_takesLine_19 ⟨by decide, Nat.le_of_ble_eq_true rfl⟩ ⟨by decide, by decide⟩ rfl rfl (fun rr hh hp => ?_)
    obtain ⟨rfl, s1, t1, v1, o1⟩ := hp
    have m1 := t1.1
    have Rn := R.cg (s' := s1) (fun r r0 _ _ _ => o1 r r0)
    have q1 : s1 1 = s 1 := o1 1 (by omega)
    cases w1 : sp_tw g 0 (s 0) (s 1) with
    | true =>
      rw [sp_th_0 w1] at v1
      have w2 := sp_tw_0 w1
      have b1 : mp_bd g s1 := ⟨hg, by rw [v1]; omega, by rw [v1, q1]; omega, by rw [q1]; exact d2⟩
      show am_Z X 22 [.ref b] [am_n 1] hh 0 0
      refine ai_zeq (tgt := 32) hB d_MA_takesLine_22 (by decide) (fun c3 => ?_) (fun c3 => ?_)
      · omega
      refine am_aload_n hB d_MA_takesLine_25 rfl rfl rfl ?_
      have h5 : s1 5 = -1 ∨ ∃ q : Nat, s1 5 = q ∧ q < S.2.length := by
        rw [o1 5 (by omega)]
        rcases Rq with ⟨q1, q2⟩ | ⟨q, y, q1, q2, -⟩
        · exact Or.inl q2
        · exact Or.inr ⟨q, q1, q2⟩
      refine am_callV hB hR (as := []) m1.1 (m_MA_takesMethodLine m1 b1 Rn.1 R8 Rn.2.2.1 R32 h5 (fun j hj => (Rn.2.2.2.2.2.2.1 j _ (List.getElem?_eq_getElem hj)).1) (fun p hp => (Rn.2.2.2.2.2.1 p _ (List.getElem?_eq_getElem hp)).1)) c_MA_74 rfl rfl d_MA_takesLine_26 ⟨by decide, Nat.le_of_ble_eq_true rfl⟩ ⟨by decide, by decide⟩ rfl rfl (fun rr hh hp => ?_)
      obtain ⟨s2, t2, hp⟩ := hp
      have st : pm_step g S (s 0) (s 1) = (match S.1.getLast? with
        | none => none
        | some c => if S.2.length = 32 then none else (match pm_ml g c.1 (s 0 + 4) (s 1) with
          | none => none
          | some w => some (S.1, S.2 ++ [(w.1, w.2, S.1.length - 1, !pm_on S.2 w (S.1.length - 1))]))) := by
        unfold pm_step
        rw [if_neg z3, if_pos w1]
        rfl
      have last : ∀ c, S.1.getLast? = some c → S.1.length ≠ 0 ∧ nm g (s1 (8 + 7 * (S.1.length - 1))) (s1 (9 + 7 * (S.1.length - 1))) = c.1 := by
        intro c hc
        rw [List.getLast?_eq_getElem?] at hc
        have := pm_lt hc
        exact ⟨by omega, (Rn.2.2.2.2.2.1 _ c hc).2.2.1⟩
      rw [v1, q1] at hp
      rcases hp with ⟨rfl, hz⟩ | ⟨rfl, n0, i32, v, s3, hv, ln, lv, en⟩
      · show am_Z X 29 [.ref b] [am_n 0] hh 0 0
        refine am_goto (tgt := 36) hB d_MA_takesLine_29 (by decide) ?_
        refine am_iret hB hR d_MA_takesLine_36 rfl (by decide) ?_ (Nat.zero_le _) (Nat.zero_le _)
        refine ⟨s2, t1.tr t2, Or.inl ⟨rfl, ?_⟩⟩
        rw [st]
        cases hc : S.1.getLast? with
        | none => rfl
        | some c =>
          obtain ⟨l1, l2⟩ := last c hc
          simp only
          by_cases h32 : S.2.length = 32
          · rw [if_pos h32]
          · rw [if_neg h32]
            rcases hz with z | z | z
            · exact absurd z l1
            · exact absurd z h32
            · rw [← l2, pm_ml_of (by omega) (by omega), z]
              rfl
      · show am_Z X 29 [.ref b] [am_n 1] hh 0 0
        refine am_goto (tgt := 36) hB d_MA_takesLine_29 (by decide) ?_
        refine am_iret hB hR d_MA_takesLine_36 rfl (by decide) ?_ (Nat.zero_le _) (Nat.zero_le _)
        refine ⟨s2, t1.tr t2, Or.inr ⟨rfl, _, ?_, Rn.addL (p := S.1.length - 1) (by omega) rfl (by omega) ln lv en⟩⟩
        rw [st]
        cases hc : S.1.getLast? with
        | none =>
          rw [List.getLast?_eq_none_iff] at hc
          rw [hc] at n0
          exact absurd rfl n0
        | some c =>
          obtain ⟨l1, l2⟩ := last c hc
          simp only
          rw [if_neg i32, ← l2, pm_ml_of (by omega) (by omega), hv]
          rfl
    | false =>
      rw [sp_th_f w1] at v1
      have b1 : mp_bd g s1 := ⟨hg, by rw [v1]; omega, by rw [v1, q1]; omega, by rw [q1]; exact d2⟩
      show am_Z X 22 [.ref b] [am_n 0] hh 0 0
      refine ai_zeq (tgt := 32) hB d_MA_takesLine_22 (by decide) (fun c3 => ?_) (fun c3 => ?_)
      · refine am_aload_n hB d_MA_takesLine_32 rfl rfl rfl ?_
        refine am_callV hB hR (as := []) m1.1 (m_MA_takesClassLine m1 b1 Rn.1 R8 (fun p hp => (Rn.2.2.2.2.2.1 p _ (List.getElem?_eq_getElem hp)).1) (fun p hp => (Rn.2.2.2.2.2.1 p _ (List.getElem?_eq_getElem hp)).2.1)) c_MA_77 rfl rfl d_MA_takesLine_33 ⟨by decide, Nat.le_of_ble_eq_true rfl⟩ ⟨by decide, by decide⟩ rfl rfl (fun rr hh hp => ?_)
        obtain ⟨s2, t2, hp⟩ := hp
        have st : pm_step g S (s 0) (s 1) = if S.1.length = 8 then none else (match sp_cline g (s 0) (s 1) with
          | none => none
          | some (j, k) => if S.1.any (fun c => decide (c.1 = nm g (s 0) j) || decide (c.2 = nm g (j + 4) k)) = true then none else some (S.1 ++ [(nm g (s 0) j, nm g (j + 4) k)], S.2)) := by
          unfold pm_step
          rw [if_neg z3, if_neg (by rw [w1]; decide)]
          rfl
        rw [v1, q1] at hp
        rcases hp with ⟨rfl, hz⟩ | ⟨rfl, n8, j, k, hc, f1, f2, en⟩
        · show am_Z X 36 [.ref b] [am_n 0] hh 0 0
          refine am_iret hB hR d_MA_takesLine_36 rfl (by decide) ?_ (Nat.zero_le _) (Nat.zero_le _)
          refine ⟨s2, t1.tr t2, Or.inl ⟨rfl, ?_⟩⟩
          rw [st]
          by_cases n8 : S.1.length = 8
          · rw [if_pos n8]
          · rw [if_neg n8]
            rcases hz with z | z | ⟨j, k, z, zz⟩
            · exact absurd z n8
            · rw [z]
            · rw [z]
              have := sp_cline_in (by omega) z
              exact if_pos ((Rn.any (by omega) (by omega)).mpr zz)
        · show am_Z X 36 [.ref b] [am_n 1] hh 0 0
          refine am_iret hB hR d_MA_takesLine_36 rfl (by decide) ?_ (Nat.zero_le _) (Nat.zero_le _)
          have := sp_cline_in (by omega) hc
          refine ⟨s2, t1.tr t2, Or.inr ⟨rfl, (S.1 ++ [(nm g (s 0) j, nm g (j + 4) k)], S.2), ?_, ?_⟩⟩
          · rw [st, if_neg n8, hc]
            refine if_neg (fun z => ?_)
            rcases (Rn.any (by omega) (by omega)).mp z with w | w
            · exact w f1
            · exact w f2
          · have := Rn.addC (j := j) (k := k) rfl (by omega) (by omega) (by omega) (by omega) (by omega) en
            rw [v1] at this
            exact this
      · omega
  · omega
