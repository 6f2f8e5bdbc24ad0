/-! the model's mapping; a class line -/
def pm_ld (L : List pm_L) (k : Nat) : Nat := ((L.take k).filter (fun x => x.2.2.2)).length
def mo_C (U : mv) (i : Nat) (c : pm_C) : Prop := (0 ≤ U.realFrom_ i ∧ U.realFrom_ i ≤ U.realTo_ i ∧ U.realTo_ i ≤ 600) ∧ (0 ≤ U.shortFrom_ i ∧ U.shortFrom_ i ≤ U.shortTo_ i ∧ U.shortTo_ i ≤ 600) ∧ nm U.all_ (U.realFrom_ i) (U.realTo_ i) = c.1 ∧ nm U.all_ (U.shortFrom_ i) (U.shortTo_ i) = c.2
def mo_rg (x : pm_L) : Prop := x.2.2.1 < 8 ∧ (-1 ≤ x.2.1.1 ∧ x.2.1.1 < 10000) ∧ (-1 ≤ x.2.1.2.1 ∧ x.2.1.2.1 < 10000) ∧ (-1 ≤ x.2.1.2.2.1 ∧ x.2.1.2.2.1 < 10000) ∧ (-1 ≤ x.2.1.2.2.2 ∧ x.2.1.2.2.2 < 10000)
def mo_L (U : mv) (L : List pm_L) (i : Nat) (x : pm_L) : Prop := ((0 ≤ U.ownFrom_ i ∧ U.ownFrom_ i ≤ U.ownTo_ i ∧ U.ownTo_ i ≤ 600) ∧ (0 ≤ U.callFrom_ i ∧ U.callFrom_ i ≤ U.callTo_ i ∧ U.callTo_ i ≤ 600) ∧ (0 ≤ U.nickFrom_ i ∧ U.nickFrom_ i ≤ U.nickTo_ i ∧ U.nickTo_ i ≤ 600)) ∧ (nm U.all_ (U.ownFrom_ i) (U.ownTo_ i) = x.1.1 ∧ nm U.all_ (U.callFrom_ i) (U.callTo_ i) = x.1.2.1 ∧ nm U.all_ (U.nickFrom_ i) (U.nickTo_ i) = x.1.2.2) ∧ (U.low_ i = x.2.1.1 ∧ U.high_ i = x.2.1.2.1 ∧ U.first_ i = x.2.1.2.2.1 ∧ U.last_ i = x.2.1.2.2.2) ∧ U.classOf_ i = x.2.2.1 ∧ U.groupOf_ i = (pm_ld L (i + 1) : Int) - 1 ∧ mo_rg x
def mo_map (U : mv) (S : pm_S) : Prop := U.classes_ = S.1.length ∧ S.1.length ≤ 8 ∧ U.methods_ = S.2.length ∧ S.2.length ≤ 32 ∧ U.groups_ = pm_ld S.2 S.2.length ∧ (∀ (i : Nat) c, S.1[i]? = some c → mo_C U i c) ∧ (∀ (i : Nat) x, S.2[i]? = some x → mo_L U S.2 i x)
/-- all but the mapping, what is scratch, and the trace stays -/
def mo_q (U U' : mv) : Prop := (U'.draft_ = U.draft_ ∧ U'.size_ = U.size_ ∧ U'.all_ = U.all_ ∧ U'.kept_ = U.kept_ ∧ U'.keptSize_ = U.keptSize_ ∧ U'.loaded_ = U.loaded_) ∧ (U'.print_ = U.print_ ∧ U'.printSize_ = U.printSize_ ∧ U'.doubtsKept_ = U.doubtsKept_ ∧ U'.wrongLine_ = U.wrongLine_ ∧ U'.crashCount_ = U.crashCount_ ∧ U'.reportCount_ = U.reportCount_) ∧ (U'.keys_ = U.keys_ ∧ U'.times_ = U.times_ ∧ U'.firsts_ = U.firsts_ ∧ U'.lasts_ = U.lasts_ ∧ U'.code_ = U.code_ ∧ U'.out_ = U.out_)
theorem mo_q.rf (U : mv) : mo_q U U := ⟨⟨rfl, rfl, rfl, rfl, rfl, rfl⟩, ⟨rfl, rfl, rfl, rfl, rfl, rfl⟩, ⟨rfl, rfl, rfl, rfl, rfl, rfl⟩⟩
theorem mo_q.tr {U U' U'' : mv} (x : mo_q U U') (y : mo_q U' U'') : mo_q U U'' := by
  obtain ⟨⟨a1, a2, a3, a4, a5, a6⟩, ⟨b1, b2, b3, b4, b5, b6⟩, ⟨c1, c2, c3, c4, c5, c6⟩⟩ := x
  obtain ⟨⟨d1, d2, d3, d4, d5, d6⟩, ⟨e1, e2, e3, e4, e5, e6⟩, ⟨g1, g2, g3, g4, g5, g6⟩⟩ := y
  exact ⟨⟨d1.trans a1, d2.trans a2, d3.trans a3, d4.trans a4, d5.trans a5, d6.trans a6⟩, ⟨e1.trans b1, e2.trans b2, e3.trans b3, e4.trans b4, e5.trans b5, e6.trans b6⟩, ⟨g1.trans c1, g2.trans c2, g3.trans c3, g4.trans c4, g5.trans c5, g6.trans c6⟩⟩
/-- what a line of a mapping leaves -/
def mo_R (h : am_H) (m : Nat) (U : mv) (o : Option pm_S) : am_Y := fun r h' => ∃ U', am_mo h' m U' ∧ mo_q U U' ∧ ko m 35 h h' ∧ (match o with
  | none => r = some (am_n 0)
  | some S' => r = some (am_n 1) ∧ mo_map U' S')
def pc_step (g : Int → Int) (S : pm_S) (a e : Int) : Option pm_S := if S.1.length = 8 then none else (match sp_cline g a e with
    | none => none
    | some (j, k) => if S.1.any (fun c => decide (c.1 = nm g a j) || decide (c.2 = nm g (j + 4) k)) = true then none else some (S.1 ++ [(nm g a j, nm g (j + 4) k)], S.2))
theorem sp_tw_58 {g : Int → Int} {k e : Int} : sp_tw g 1 k e = true ↔ (k + 1 ≤ e ∧ g k = 58) := by
  unfold sp_tw
  rw [Bool.and_eq_true, decide_eq_true_eq]
  show ((1 : Nat) : Int) ≤ e - k ∧ sp_same g (sp_ch 1) k 0 1 = true ↔ _
  unfold sp_same sp_same
  rw [Bool.and_true, decide_eq_true_eq, show sp_ch 1 0 = 58 from rfl]
  constructor
  · rintro ⟨h1, h2⟩; exact ⟨by omega, h2⟩
  · rintro ⟨h1, h2⟩; exact ⟨by omega, h2⟩
theorem sp_tw_le {g : Int → Int} {w : Nat} {k e : Int} (h : sp_tw g w k e = true) : k + (am_len.getD w 0 : Nat) ≤ e := by
  unfold sp_tw at h
  rw [Bool.and_eq_true, decide_eq_true_eq] at h
  omega
/-- one more class line -/
theorem mo_map.addC {U U' : mv} {S : pm_S} {a j k e : Int} (mp : mo_map U S) (h8 : S.1.length ≠ 8) (hj : 0 ≤ a ∧ a ≤ j ∧ j + 4 ≤ k ∧ k ≤ e ∧ e ≤ 600) (hx : U'.all_ = U.all_ ∧ U'.realFrom_ = am_up U.realFrom_ S.1.length a ∧ U'.realTo_ = am_up U.realTo_ S.1.length j ∧ U'.shortFrom_ = am_up U.shortFrom_ S.1.length (j + 4) ∧ U'.shortTo_ = am_up U.shortTo_ S.1.length k ∧ U'.classes_ = (S.1.length : Int) + 1 ∧ U'.methods_ = U.methods_ ∧ U'.groups_ = U.groups_) (he : U'.ownFrom_ = U.ownFrom_ ∧ U'.ownTo_ = U.ownTo_ ∧ U'.callFrom_ = U.callFrom_ ∧ U'.callTo_ = U.callTo_ ∧ U'.nickFrom_ = U.nickFrom_ ∧ U'.nickTo_ = U.nickTo_ ∧ U'.low_ = U.low_ ∧ U'.high_ = U.high_ ∧ U'.first_ = U.first_ ∧ U'.last_ = U.last_ ∧ U'.classOf_ = U.classOf_ ∧ U'.groupOf_ = U.groupOf_) : mo_map U' (S.1 ++ [(nm U.all_ a j, nm U.all_ (j + 4) k)], S.2) := by
  obtain ⟨m1, m2, m3, m4, m5, m6, m7⟩ := mp
  obtain ⟨x1, x2, x3, x4, x5, x6, x7, x8⟩ := hx
  obtain ⟨a0, a1, a2, a3, a4, a5, a6, a7, a8, a9, a10, a11⟩ := he
  refine ⟨?_, ?_, x7.trans m3, m4, x8.trans m5, ?_, fun i x hx => ?_⟩
  · show U'.classes_ = (((S.1 ++ [(nm U.all_ a j, nm U.all_ (j + 4) k)]).length : Nat) : Int)
    rw [x6, List.length_append, List.length_singleton]
    omega
  · show (S.1 ++ [(nm U.all_ a j, nm U.all_ (j + 4) k)]).length ≤ 8
    rw [List.length_append, List.length_singleton]
    omega
  · intro i c hc
    unfold mo_C
    rw [x1, x2, x3, x4, x5]
    rcases pm_get hc with ⟨h1, h2⟩ | ⟨h1, h2⟩
    · obtain ⟨q1, q2, q3, q4⟩ := m6 i c h2
      rw [am_up_ne _ _ (show (i : Int) ≠ S.1.length by omega), am_up_ne _ _ (show (i : Int) ≠ S.1.length by omega), am_up_ne _ _ (show (i : Int) ≠ S.1.length by omega), am_up_ne _ _ (show (i : Int) ≠ S.1.length by omega)]
      exact ⟨q1, q2, q3, q4⟩
    · subst h1
      subst h2
      rw [am_up_eq, am_up_eq, am_up_eq, am_up_eq]
      exact ⟨⟨by omega, by omega, by omega⟩, ⟨by omega, by omega, by omega⟩, rfl, rfl⟩
  · have := m7 i x hx
    unfold mo_L at this ⊢
    rw [x1, a0, a1, a2, a3, a4, a5, a6, a7, a8, a9, a10, a11]
    exact this
theorem m_MO_classLine {l : Launch} {G : am_G} {h : am_H} {m : Nat} {U : mv} {S : pm_S} {a e : Int} (M : am_mo h m U) (hg : am_cok U.all_) (mp : mo_map U S) (h0 : 0 ≤ a) (h1 : a ≤ e) (h2 : e ≤ 600) : am_M l G M_MO_classLine [.ref m, am_n a, am_n e] h (mo_R h m U (pc_step U.all_ S a e)) := by
  have h8 := mp.2.1
  refine am_M.of (by decide) (Nat.le_of_ble_eq_true rfl) (fun X hB hR => ?_)
  show am_Z X 0 [.ref m, am_n a, am_n e, am_u, am_u, am_u] [] h 0 0
  refine am_aload_n hB d_MO_classLine_0 rfl rfl rfl ?_
  refine am_iload_n hB d_MO_classLine_1 rfl rfl ?_
  refine am_iload_n hB d_MO_classLine_2 rfl rfl ?_
  refine am_callV hB hR (as := [am_n a, am_n e]) M.1 (m_MO_nameEnd M hg h0 h1 (by omega)) c_MO_142 rfl rfl d_MO_classLine_3 ⟨by decide, Nat.le_of_ble_eq_true rfl⟩ ⟨by decide, by decide⟩ rfl rfl (fun rr h hp => ?_)
  obtain ⟨p1, lp1, rfl, M, f, np1⟩ := hp
  show am_Z X 6 [.ref m, am_n a, am_n e, am_u, am_u, am_u] [am_n ((sp_take U.all_ 40 40 a e).getD (-1))] h 0 0
  have no33 : ∀ (j : Int), pc_step U.all_ S a e = none → am_Z X 33 [.ref m, am_n a, am_n e, am_n j, am_u, am_u] [] h 0 0 := by
    intro j hz
    refine ai_const hB d_MO_classLine_33 ?_
    refine am_iret hB hR d_MO_classLine_34 rfl (by decide) ?_ (Nat.zero_le _) (Nat.zero_le _)
    rw [hz]
    exact ⟨_, M, mo_q.rf _, f, rfl⟩
  by_cases c8 : S.1.length = 8
  · have hz : pc_step U.all_ S a e = none := if_pos c8
    refine am_istore_n hB d_MO_classLine_6 rfl (by rw [hR.nL]; decide) rfl ?_
    refine am_aload_n hB d_MO_classLine_7 rfl rfl rfl ?_
    refine am_getf hB d_MO_classLine_8 F_MO_145_11 M.1 rfl ?_
    refine ai_bipush hB d_MO_classLine_11 (by decide) ?_
    show am_Z X 13 [.ref m, am_n a, am_n e, am_n ((sp_take U.all_ 40 40 a e).getD (-1)), am_u, am_u] [am_n 8, am_n U.classes_] h 0 0
    rw [mp.1, c8]
    refine ai_jeq (tgt := 33) hB d_MO_classLine_13 (by decide) (fun d1 => ?_) (fun d1 => ?_)
    · exact no33 _ hz
    · omega
  cases e1 : sp_take U.all_ 40 40 a e with
  | none =>
    have hz : pc_step U.all_ S a e = none := by
      unfold pc_step sp_cline
      rw [if_neg c8, e1]
    show am_Z X 6 [.ref m, am_n a, am_n e, am_u, am_u, am_u] [am_n (-1)] h 0 0
    refine am_istore_n hB d_MO_classLine_6 rfl (by rw [hR.nL]; decide) rfl ?_
    refine am_aload_n hB d_MO_classLine_7 rfl rfl rfl ?_
    refine am_getf hB d_MO_classLine_8 F_MO_145_11 M.1 rfl ?_
    refine ai_bipush hB d_MO_classLine_11 (by decide) ?_
    show am_Z X 13 [.ref m, am_n a, am_n e, am_n (-1), am_u, am_u] [am_n 8, am_n U.classes_] h 0 0
    rw [mp.1]
    refine ai_jeq (tgt := 33) hB d_MO_classLine_13 (by decide) (fun d1 => ?_) (fun d1 => ?_)
    · exact no33 _ hz
    refine am_iload_n hB d_MO_classLine_16 rfl rfl ?_
    refine ai_zlt (tgt := 33) hB d_MO_classLine_17 (by decide) (fun d2 => ?_) (fun d2 => ?_)
    · exact no33 _ hz
    · omega
  | some j =>
    have hj := sp_take_in h1 e1
    show am_Z X 6 [.ref m, am_n a, am_n e, am_u, am_u, am_u] [am_n j] h 0 0
    refine am_istore_n hB d_MO_classLine_6 rfl (by rw [hR.nL]; decide) rfl ?_
    refine am_aload_n hB d_MO_classLine_7 rfl rfl rfl ?_
    refine am_getf hB d_MO_classLine_8 F_MO_145_11 M.1 rfl ?_
    refine ai_bipush hB d_MO_classLine_11 (by decide) ?_
    show am_Z X 13 [.ref m, am_n a, am_n e, am_n j, am_u, am_u] [am_n 8, am_n U.classes_] h 0 0
    rw [mp.1]
    refine ai_jeq (tgt := 33) hB d_MO_classLine_13 (by decide) (fun d1 => ?_) (fun d1 => ?_)
    · omega
    refine am_iload_n hB d_MO_classLine_16 rfl rfl ?_
    refine ai_zlt (tgt := 33) hB d_MO_classLine_17 (by decide) (fun d2 => ?_) (fun d2 => ?_)
    · omega
    refine am_aload_n hB d_MO_classLine_20 rfl rfl rfl ?_
    refine am_iload_n hB d_MO_classLine_21 rfl rfl ?_
    refine am_iload_n hB d_MO_classLine_22 rfl rfl ?_
    refine am_ldc2 hB d_MO_classLine_23 J_MO_148 ?_
    refine ai_const hB d_MO_classLine_26 ?_
    refine am_callV hB hR (as := [am_n j, am_n e, .long 539835936, am_n (4 : Nat)]) M.1 (m_MO_stands (n := 4) M hg (by omega) (by omega) (by omega) (by omega) (by omega)) c_MO_150 rfl rfl d_MO_classLine_27 ⟨by decide, Nat.le_of_ble_eq_true rfl⟩ ⟨by decide, by decide⟩ rfl rfl (fun rr h hp => ?_)
    obtain ⟨rfl, rfl⟩ := hp
    show am_Z X 30 [.ref m, am_n a, am_n e, am_n j, am_u, am_u] [am_n (sp_i (sp_st U.all_ 539835936 4 j e))] h 0 0
    rw [st_arrow, decide_eq_true (show 0 ≤ j by omega), Bool.true_and]
    cases e2 : sp_tw U.all_ 2 j e with
    | false =>
      have hz : pc_step U.all_ S a e = none := by
        unfold pc_step sp_cline
        rw [if_neg c8, e1]
        simp only [e2]
        rfl
      show am_Z X 30 [.ref m, am_n a, am_n e, am_n j, am_u, am_u] [am_n 0] h 0 0
      refine ai_zne (tgt := 35) hB d_MO_classLine_30 (by decide) (fun d3 => ?_) (fun d3 => ?_)
      · omega
      · exact no33 j hz
    | true =>
      have hj4 : j + 4 ≤ e := sp_tw_le e2
      show am_Z X 30 [.ref m, am_n a, am_n e, am_n j, am_u, am_u] [am_n 1] h 0 0
      refine ai_zne (tgt := 35) hB d_MO_classLine_30 (by decide) (fun d3 => ?_) (fun d3 => ?_)
      rotate_left
      · omega
      refine am_aload_n hB d_MO_classLine_35 rfl rfl rfl ?_
      refine am_iload_n hB d_MO_classLine_36 rfl rfl ?_
      refine ai_const hB d_MO_classLine_37 ?_
      refine ai_add hB d_MO_classLine_38 ?_
      refine am_iload_n hB d_MO_classLine_39 rfl rfl ?_
      refine am_callV hB hR (as := [am_n (j + 4), am_n e]) M.1 (m_MO_nameEnd M hg (by omega) hj4 (by omega)) c_MO_142 rfl rfl d_MO_classLine_40 ⟨by decide, Nat.le_of_ble_eq_true rfl⟩ ⟨by decide, by decide⟩ rfl rfl (fun rr h hp => ?_)
      obtain ⟨p2, lp2, rfl, M, f2, np2⟩ := hp
      have f := f.tr f2
      have M : am_mo h m (mv.s_lastPart (mv.s_parts U (p2)) (lp2)) := M
      show am_Z X 43 [.ref m, am_n a, am_n e, am_n j, am_u, am_u] [am_n ((sp_take U.all_ 40 40 (j + 4) e).getD (-1))] h 0 0
      have no70 : ∀ (k : Int), pc_step U.all_ S a e = none → am_Z X 70 [.ref m, am_n a, am_n e, am_n j, am_n k, am_u] [] h 0 0 := by
        intro k hz
        refine ai_const hB d_MO_classLine_70 ?_
        refine am_iret hB hR d_MO_classLine_71 rfl (by decide) ?_ (Nat.zero_le _) (Nat.zero_le _)
        rw [hz]
        exact ⟨_, M, mo_q.rf _, f, rfl⟩
      cases e3 : sp_take U.all_ 40 40 (j + 4) e with
      | none =>
        have hz : pc_step U.all_ S a e = none := by
          unfold pc_step sp_cline
          rw [if_neg c8, e1]
          simp only [e2, e3]
          rfl
        show am_Z X 43 [.ref m, am_n a, am_n e, am_n j, am_u, am_u] [am_n (-1)] h 0 0
        refine am_istore hB d_MO_classLine_43 (by rw [hR.nL]; decide) rfl ?_
        refine am_iload hB d_MO_classLine_45 rfl ?_
        refine ai_zlt (tgt := 70) hB d_MO_classLine_47 (by decide) (fun d4 => ?_) (fun d4 => ?_)
        · exact no70 _ hz
        · omega
      | some k =>
        have hk := sp_take_in hj4 e3
        have hgk := hg k
        show am_Z X 43 [.ref m, am_n a, am_n e, am_n j, am_u, am_u] [am_n k] h 0 0
        refine am_istore hB d_MO_classLine_43 (by rw [hR.nL]; decide) rfl ?_
        refine am_iload hB d_MO_classLine_45 rfl ?_
        refine ai_zlt (tgt := 70) hB d_MO_classLine_47 (by decide) (fun d4 => ?_) (fun d4 => ?_)
        · omega
        refine am_iload hB d_MO_classLine_50 rfl ?_
        refine ai_const hB d_MO_classLine_52 ?_
        refine ai_add hB d_MO_classLine_53 ?_
        refine am_iload_n hB d_MO_classLine_54 rfl rfl ?_
        have nz : ¬ (k + 1 = e ∧ U.all_ k = 58) → pc_step U.all_ S a e = none := by
          intro hz
          unfold pc_step sp_cline
          rw [if_neg c8, e1]
          simp only [e2, e3, if_true]
          rw [if_neg (fun z => hz ⟨by have := (sp_tw_58.mp z.1).1; omega, (sp_tw_58.mp z.1).2⟩)]
        refine ai_jne (tgt := 70) hB d_MO_classLine_55 (by decide) (fun d5 => ?_) (fun d5 => ?_)
        · exact no70 _ (nz (fun z => d5 z.1))
        refine am_aload_n hB d_MO_classLine_58 rfl rfl rfl ?_
        refine am_getf hB d_MO_classLine_59 F_MO_13_11 M.1 rfl ?_
        refine am_iload hB d_MO_classLine_62 rfl ?_
        refine ai_iald hB d_MO_classLine_64 ty_1 M.all ?_
        refine ai_bipush hB d_MO_classLine_65 (by decide) ?_
        show am_Z X 67 [.ref m, am_n a, am_n e, am_n j, am_n k, am_u] [am_n 58, am_n (U.all_ k)] h 0 0
        refine ai_jeq (tgt := 72) hB d_MO_classLine_67 (by decide) (fun d6 => ?_) (fun d6 => ?_)
        rotate_left
        · exact no70 _ (nz (fun z => d6 z.2))
        have hst : pc_step U.all_ S a e = if S.1.any (fun c => decide (c.1 = nm U.all_ a j) || decide (c.2 = nm U.all_ (j + 4) k)) = true then none else some (S.1 ++ [(nm U.all_ a j, nm U.all_ (j + 4) k)], S.2) := by
          unfold pc_step sp_cline
          rw [if_neg c8, e1]
          simp only [e2, e3, if_true]
          rw [if_pos ⟨sp_tw_58.mpr ⟨by omega, d6⟩, by omega⟩]
        have no133 : ∀ (i : Int), S.1.any (fun c => decide (c.1 = nm U.all_ a j) || decide (c.2 = nm U.all_ (j + 4) k)) = true → am_Z X 133 [.ref m, am_n a, am_n e, am_n j, am_n k, am_n i] [] h 0 0 := by
          intro i hz
          rw [if_pos hz] at hst
          refine ai_const hB d_MO_classLine_133 ?_
          refine am_iret hB hR d_MO_classLine_134 rfl (by decide) ?_ (Nat.zero_le _) (Nat.zero_le _)
          rw [hst]
          exact ⟨_, M, mo_q.rf _, f, rfl⟩
        have loop : ∀ (d i : Nat), i + d = S.1.length → S.1.any (fun c => decide (c.1 = nm U.all_ a j) || decide (c.2 = nm U.all_ (j + 4) k)) = (S.1.drop i).any (fun c => decide (c.1 = nm U.all_ a j) || decide (c.2 = nm U.all_ (j + 4) k)) → am_Z X 75 [.ref m, am_n a, am_n e, am_n j, am_n k, am_n i] [] h 0 0 := by
          intro d
          induction d with
          | zero =>
            intro i hi hs
            rw [List.drop_eq_nil_of_le (by omega)] at hs
            refine am_iload hB d_MO_classLine_75 rfl ?_
            refine am_aload_n hB d_MO_classLine_77 rfl rfl rfl ?_
            refine am_getf hB d_MO_classLine_78 F_MO_145_11 M.1 rfl ?_
            show am_Z X 81 [.ref m, am_n a, am_n e, am_n j, am_n k, am_n i] [am_n U.classes_, am_n i] h 0 0
            rw [mp.1]
            refine ai_jge (tgt := 141) hB d_MO_classLine_81 (by decide) (fun d7 => ?_) (fun d7 => ?_)
            rotate_left
            · omega
            rw [hs, if_neg (by simp)] at hst
            refine am_aload_n hB d_MO_classLine_141 rfl rfl rfl ?_
            refine am_getf hB d_MO_classLine_142 F_MO_19_11 M.1 rfl ?_
            refine am_aload_n hB d_MO_classLine_145 rfl rfl rfl ?_
            refine am_getf hB d_MO_classLine_146 F_MO_145_11 M.1 rfl ?_
            show am_Z X 149 [.ref m, am_n a, am_n e, am_n j, am_n k, am_n i] [am_n U.classes_, .ref (m + 4)] h 0 0
            rw [mp.1]
            refine am_iload_n hB d_MO_classLine_149 rfl rfl ?_
            refine mo_s_realFrom hB d_MO_classLine_150 M f (fun h M f => ?_)
            refine am_aload_n hB d_MO_classLine_151 rfl rfl rfl ?_
            refine am_getf hB d_MO_classLine_152 F_MO_22_11 M.1 rfl ?_
            refine am_aload_n hB d_MO_classLine_155 rfl rfl rfl ?_
            refine am_getf hB d_MO_classLine_156 F_MO_145_11 M.1 rfl ?_
            show am_Z X 159 [.ref m, am_n a, am_n e, am_n j, am_n k, am_n i] [am_n U.classes_, .ref (m + 5)] h 0 0
            rw [mp.1]
            refine am_iload_n hB d_MO_classLine_159 rfl rfl ?_
            refine mo_s_realTo hB d_MO_classLine_160 M f (fun h M f => ?_)
            refine am_aload_n hB d_MO_classLine_161 rfl rfl rfl ?_
            refine am_getf hB d_MO_classLine_162 F_MO_25_11 M.1 rfl ?_
            refine am_aload_n hB d_MO_classLine_165 rfl rfl rfl ?_
            refine am_getf hB d_MO_classLine_166 F_MO_145_11 M.1 rfl ?_
            show am_Z X 169 [.ref m, am_n a, am_n e, am_n j, am_n k, am_n i] [am_n U.classes_, .ref (m + 6)] h 0 0
            rw [mp.1]
            refine am_iload_n hB d_MO_classLine_169 rfl rfl ?_
            refine ai_const hB d_MO_classLine_170 ?_
            refine ai_add hB d_MO_classLine_171 ?_
            refine mo_s_shortFrom hB d_MO_classLine_172 M f (fun h M f => ?_)
            refine am_aload_n hB d_MO_classLine_173 rfl rfl rfl ?_
            refine am_getf hB d_MO_classLine_174 F_MO_28_11 M.1 rfl ?_
            refine am_aload_n hB d_MO_classLine_177 rfl rfl rfl ?_
            refine am_getf hB d_MO_classLine_178 F_MO_145_11 M.1 rfl ?_
            show am_Z X 181 [.ref m, am_n a, am_n e, am_n j, am_n k, am_n i] [am_n U.classes_, .ref (m + 7)] h 0 0
            rw [mp.1]
            refine am_iload hB d_MO_classLine_181 rfl ?_
            refine mo_s_shortTo hB d_MO_classLine_183 M f (fun h M f => ?_)
            refine am_aload_n hB d_MO_classLine_184 rfl rfl rfl ?_
            refine am_dup hB d_MO_classLine_185 rfl ?_
            refine am_getf hB d_MO_classLine_186 F_MO_145_11 M.1 rfl ?_
            refine ai_const hB d_MO_classLine_189 ?_
            show am_Z X 190 [.ref m, am_n a, am_n e, am_n j, am_n k, am_n i] [am_n 1, am_n U.classes_, .ref m] h 0 0
            rw [mp.1]
            refine ai_add hB d_MO_classLine_190 ?_
            refine mo_p_classes hB d_MO_classLine_191 P_MO_145_11 M f (fun h M f => ?_)
            refine ai_const hB d_MO_classLine_194 ?_
            refine am_iret hB hR d_MO_classLine_195 rfl (by decide) ?_ (Nat.zero_le _) (Nat.zero_le _)
            rw [hst]
            exact ⟨_, M, mo_q.rf _, f, rfl, mp.addC c8 (j := j) (k := k) (e := e) ⟨h0, by omega, by omega, by omega, h2⟩ ⟨rfl, rfl, rfl, rfl, rfl, rfl, rfl, rfl⟩ ⟨rfl, rfl, rfl, rfl, rfl, rfl, rfl, rfl, rfl, rfl, rfl, rfl⟩⟩
          | succ d ih =>
            intro i hi hs
            have hil : i < S.1.length := by omega
            obtain ⟨q1, q2, q3, q4⟩ := mp.2.2.2.2.2.1 i _ (List.getElem?_eq_getElem hil)
            rw [List.drop_eq_getElem_cons hil, List.any_cons] at hs
            refine am_iload hB d_MO_classLine_75 rfl ?_
            refine am_aload_n hB d_MO_classLine_77 rfl rfl rfl ?_
            refine am_getf hB d_MO_classLine_78 F_MO_145_11 M.1 rfl ?_
            show am_Z X 81 [.ref m, am_n a, am_n e, am_n j, am_n k, am_n i] [am_n U.classes_, am_n i] h 0 0
            rw [mp.1]
            refine ai_jge (tgt := 141) hB d_MO_classLine_81 (by decide) (fun d7 => ?_) (fun d7 => ?_)
            · omega
            refine am_aload_n hB d_MO_classLine_84 rfl rfl rfl ?_
            refine am_iload_n hB d_MO_classLine_85 rfl rfl ?_
            refine am_iload_n hB d_MO_classLine_86 rfl rfl ?_
            refine am_aload_n hB d_MO_classLine_87 rfl rfl rfl ?_
            refine am_getf hB d_MO_classLine_88 F_MO_19_11 M.1 rfl ?_
            refine am_iload hB d_MO_classLine_91 rfl ?_
            refine ai_iald hB d_MO_classLine_93 ty_1 M.realFrom ?_
            refine am_aload_n hB d_MO_classLine_94 rfl rfl rfl ?_
            refine am_getf hB d_MO_classLine_95 F_MO_22_11 M.1 rfl ?_
            refine am_iload hB d_MO_classLine_98 rfl ?_
            refine ai_iald hB d_MO_classLine_100 ty_1 M.realTo ?_
            refine am_callV hB hR (as := [am_n a, am_n j, am_n (U.realFrom_ i), am_n (U.realTo_ i)]) M.1 (m_MO_same M hg h0 (by omega) (by omega) q1.1 q1.2.1 (by omega)) c_MO_154 rfl rfl d_MO_classLine_101 ⟨by decide, Nat.le_of_ble_eq_true rfl⟩ ⟨by decide, by decide⟩ rfl rfl (fun rr h hp => ?_)
            obtain ⟨rfl, rfl⟩ := hp
            show am_Z X 104 [.ref m, am_n a, am_n e, am_n j, am_n k, am_n i] [am_n (sp_i (sp_eq U.all_ a j U.all_ (U.realFrom_ i) (U.realTo_ i)))] h 0 0
            rw [sp_eq_nm (by omega) q1.2.1, q3]
            by_cases z1 : nm U.all_ a j = S.1[i].1
            · rw [decide_eq_true z1]
              show am_Z X 104 [.ref m, am_n a, am_n e, am_n j, am_n k, am_n i] [am_n 1] h 0 0
              refine ai_zne (tgt := 133) hB d_MO_classLine_104 (by decide) (fun d8 => ?_) (fun d8 => ?_)
              · exact no133 i (by rw [hs, decide_eq_true z1.symm]; rfl)
              · omega
            · rw [decide_eq_false z1]
              show am_Z X 104 [.ref m, am_n a, am_n e, am_n j, am_n k, am_n i] [am_n 0] h 0 0
              refine ai_zne (tgt := 133) hB d_MO_classLine_104 (by decide) (fun d8 => ?_) (fun d8 => ?_)
              · omega
              refine am_aload_n hB d_MO_classLine_107 rfl rfl rfl ?_
              refine am_iload_n hB d_MO_classLine_108 rfl rfl ?_
              refine ai_const hB d_MO_classLine_109 ?_
              refine ai_add hB d_MO_classLine_110 ?_
              refine am_iload hB d_MO_classLine_111 rfl ?_
              refine am_aload_n hB d_MO_classLine_113 rfl rfl rfl ?_
              refine am_getf hB d_MO_classLine_114 F_MO_25_11 M.1 rfl ?_
              refine am_iload hB d_MO_classLine_117 rfl ?_
              refine ai_iald hB d_MO_classLine_119 ty_1 M.shortFrom ?_
              refine am_aload_n hB d_MO_classLine_120 rfl rfl rfl ?_
              refine am_getf hB d_MO_classLine_121 F_MO_28_11 M.1 rfl ?_
              refine am_iload hB d_MO_classLine_124 rfl ?_
              refine ai_iald hB d_MO_classLine_126 ty_1 M.shortTo ?_
              refine am_callV hB hR (as := [am_n (j + 4), am_n k, am_n (U.shortFrom_ i), am_n (U.shortTo_ i)]) M.1 (m_MO_same M hg (by omega) (by omega) (by omega) q2.1 q2.2.1 (by omega)) c_MO_154 rfl rfl d_MO_classLine_127 ⟨by decide, Nat.le_of_ble_eq_true rfl⟩ ⟨by decide, by decide⟩ rfl rfl (fun rr h hp => ?_)
              obtain ⟨rfl, rfl⟩ := hp
              show am_Z X 130 [.ref m, am_n a, am_n e, am_n j, am_n k, am_n i] [am_n (sp_i (sp_eq U.all_ (j + 4) k U.all_ (U.shortFrom_ i) (U.shortTo_ i)))] h 0 0
              rw [sp_eq_nm (by omega) q2.2.1, q4]
              rw [decide_eq_false (fun z => z1 z.symm), Bool.false_or] at hs
              by_cases z2 : nm U.all_ (j + 4) k = S.1[i].2
              · rw [decide_eq_true z2]
                show am_Z X 130 [.ref m, am_n a, am_n e, am_n j, am_n k, am_n i] [am_n 1] h 0 0
                refine ai_zeq (tgt := 135) hB d_MO_classLine_130 (by decide) (fun d9 => ?_) (fun d9 => ?_)
                · omega
                · exact no133 i (by rw [hs, decide_eq_true z2.symm]; rfl)
              · rw [decide_eq_false z2]
                rw [decide_eq_false (fun z => z2 z.symm), Bool.false_or] at hs
                show am_Z X 130 [.ref m, am_n a, am_n e, am_n j, am_n k, am_n i] [am_n 0] h 0 0
                refine ai_zeq (tgt := 135) hB d_MO_classLine_130 (by decide) (fun d9 => ?_) (fun d9 => ?_)
                · refine ai_inc hB d_MO_classLine_135 rfl (by rw [hR.nL]; decide) rfl ?_
                  exact am_goto (tgt := 75) hB d_MO_classLine_138 (by decide) (ih (i + 1) (by omega) hs)
                · omega
        refine ai_const hB d_MO_classLine_72 ?_
        refine am_istore hB d_MO_classLine_73 (by rw [hR.nL]; decide) rfl ?_
        exact loop S.1.length 0 (by omega) rfl
