/-! what a mapping answers: the rest -/
theorem am_mw.cell {h : am_H} {b : Nat} {S : pm_S} (m : am_mw h b S) : ∃ s, h[b]? = some (ce_MA b s) := by
  obtain ⟨g, s, m, -⟩ := m
  exact ⟨s, m.1⟩
/-- a method line's cell and its names, by place -/
theorem am_mw.line {h : am_H} {b i : Nat} {S : pm_S} {x : pm_L} (m : am_mw h b S) (hx : S.2[i]? = some x) : i < 32 ∧ ∃ gs : Int, h[b + 29 + 4 * i]? = some (ce_ML (b + 30 + 4 * i) (b + 31 + 4 * i) (b + 32 + 4 * i) x.2.2.1 gs x.2.1.1 x.2.1.2.1 x.2.1.2.2.1 x.2.1.2.2.2) ∧ am_sn h (b + 30 + 4 * i) x.1.1 ∧ am_sn h (b + 31 + 4 * i) x.1.2.1 ∧ am_sn h (b + 32 + 4 * i) x.1.2.2 ∧ (-1 ≤ x.2.1.1 ∧ x.2.1.1 < 10000) ∧ (-1 ≤ x.2.1.2.1 ∧ x.2.1.2.1 < 10000) ∧ (-1 ≤ x.2.1.2.2.1 ∧ x.2.1.2.2.1 < 10000) ∧ (-1 ≤ x.2.1.2.2.2 ∧ x.2.1.2.2.2 < 10000) ∧ x.2.2.1 < S.1.length ∧ (x.2.2.2 = false → gs = 0) ∧ (x.2.2.2 = true → gs = (pf_end S i : Nat) - i ∧ i < pf_end S i ∧ pf_end S i ≤ S.2.length) := by
  obtain ⟨g, s, m, hg, R⟩ := m
  have il := pm_lt hx
  have R32 := R.2.2.2.1
  have i32 : i < 32 := by omega
  obtain ⟨lv, ⟨t1, t2, t3⟩, ⟨u1, u2, u3, u4⟩, c1, c2, l6, l7⟩ := R.2.2.2.2.2.2.1 i x hx
  refine ⟨i32, s (71 + 12 * i), ?_, (m.slO hg i32 lv).sn t1, (m.slM hg i32 lv).sn t2, (m.slS hg i32 lv).sn t3, ?_, ?_, ?_, ?_, c2, fun hl => (l6 hl).1, fun hl => R.end hx hl⟩
  · have := (m.L i32).1
    rw [u1, u2, u3, u4, c1] at this
    exact this
  · rw [← u1]; exact lv.2.2.2.2.1
  · rw [← u2]; exact lv.2.2.2.2.2.1
  · rw [← u3]; exact lv.2.2.2.2.2.2.1
  · rw [← u4]; exact lv.2.2.2.2.2.2.2
theorem mn_lastLineOf {l : Launch} {G : am_G} {h : am_H} {b i : Nat} {S : pm_S} {x : pm_L} (m : am_mw h b S) (hx : S.2[i]? = some x) (hl : x.2.2.2 = true) : am_M l G M_MA_lastLineOf [.ref b, am_n i] h (am_is (.ref (b + 29 + 4 * (pf_end S i - 1))) h) := by
  obtain ⟨i32, gs, r, -, -, -, -, -, -, -, -, -, hgs⟩ := m.line hx
  obtain ⟨e1, e2, e3⟩ := hgs hl
  obtain ⟨g, s, m, hg, R⟩ := m
  have R32 := R.2.2.2.1
  refine am_M.of (by decide) (Nat.le_of_ble_eq_true rfl) (fun X hB hR => ?_)
  show am_Z X 0 [.ref b, am_n i] [] h 0 0
  refine am_aload_n hB d_MA_lastLineOf_0 rfl rfl rfl ?_
  refine am_getf hB d_MA_lastLineOf_1 F_MA_27_4 m.1 rfl ?_
  refine am_iload_n hB d_MA_lastLineOf_4 rfl rfl ?_
  refine am_aload_n hB d_MA_lastLineOf_5 rfl rfl rfl ?_
  refine am_getf hB d_MA_lastLineOf_6 F_MA_27_4 m.1 rfl ?_
  refine am_iload_n hB d_MA_lastLineOf_9 rfl rfl ?_
  refine ai_aald hB d_MA_lastLineOf_10 ty_4 m.2.2.2.2.1 (z := b + 29 + 4 * i) (if_pos (by omega)) ?_
  refine am_getf hB d_MA_lastLineOf_11 F_MA_170_5 r rfl ?_
  rw [e1]
  refine ai_add hB d_MA_lastLineOf_14 ?_
  refine ai_const hB d_MA_lastLineOf_15 ?_
  refine ai_sub hB d_MA_lastLineOf_16 ?_
  refine ai_aald hB d_MA_lastLineOf_17 ty_4 m.2.2.2.2.1 (z := b + 29 + 4 * (pf_end S i - 1)) ((if_pos (by omega)).trans (by show some (b + 29 + 4 * ((i : Int) + ((pf_end S i : Nat) - i) - 1).toNat) = _; congr 2; omega)) ?_
  refine am_aret hB hR d_MA_lastLineOf_18 rfl (Or.inl ⟨_, rfl⟩) rfl ?_ (Nat.zero_le _) (Nat.zero_le _)
  exact ⟨rfl, rfl⟩
theorem mn_shortClassOf {l : Launch} {G : am_G} {h : am_H} {b i : Nat} {S : pm_S} {x : pm_L} (m : am_mw h b S) (hx : S.2[i]? = some x) : am_M l G M_MA_shortClassOf [.ref b, .ref (b + 29 + 4 * i)] h (am_is (.ref (b + 6 + 3 * x.2.2.1)) h) := by
  obtain ⟨i32, gs, r, -, -, -, -, -, -, -, hc, -, -⟩ := m.line hx
  obtain ⟨g, s, m, hg, R⟩ := m
  have R8 := R.2.1
  have p8 : x.2.2.1 < 8 := by omega
  refine am_M.of (by decide) (Nat.le_of_ble_eq_true rfl) (fun X hB hR => ?_)
  show am_Z X 0 [.ref b, .ref (b + 29 + 4 * i)] [] h 0 0
  refine am_aload_n hB d_MA_shortClassOf_0 rfl rfl rfl ?_
  refine am_getf hB d_MA_shortClassOf_1 F_MA_20_4 m.1 rfl ?_
  refine am_aload_n hB d_MA_shortClassOf_4 rfl rfl rfl ?_
  refine am_getf hB d_MA_shortClassOf_5 F_MA_108_5 r rfl ?_
  refine ai_aald hB d_MA_shortClassOf_8 ty_3 m.2.2.2.1 (z := b + 4 + 3 * x.2.2.1) (if_pos (by omega)) ?_
  refine am_getf hB d_MA_shortClassOf_9 F_MA_89_0 (m.C p8).1 rfl ?_
  refine am_aret hB hR d_MA_shortClassOf_12 rfl (Or.inl ⟨_, rfl⟩) rfl ?_ (Nat.zero_le _) (Nat.zero_le _)
  exact ⟨rfl, rfl⟩
theorem mn_groupAround {l : Launch} {G : am_G} {h : am_H} {b z p : Nat} {S : pm_S} {n : List Int} {c : pm_C} {ln : Int} (m : am_mw h b S) (sz : am_sn h z n) (hc : S.1[p]? = some c) (hln : -1 ≤ ln ∧ ln < 10000) : am_M l G M_MA_groupAround [.ref b, .ref (b + 4 + 3 * p), .ref z, am_n ln] h (am_is (am_n (sp_oi (pf_around S p n ln))) h) := by
  have mw := m
  obtain ⟨g, s, m, hg, R⟩ := m
  have R32 := R.2.2.2.1
  have R8 := R.2.1
  have pl := pm_lt hc
  have p8 : p < 8 := by omega
  obtain ⟨lo, hi, e1, e2, e3, e4, e5, e6⟩ := R.mid hc
  have e7 : pf_around S p n ln = sp_fd (fun i => pf_in S ln i && pf_is S p n i) lo (hi - lo) := e6 (pf_in S ln) n
  refine am_M.of (by decide) (Nat.le_of_ble_eq_true rfl) (fun X hB hR => ?_)
  show am_Z X 0 [.ref b, .ref (b + 4 + 3 * p), .ref z, am_n ln, am_u, am_u] [] h 0 0
  have loop : ∀ (k i : Nat) (v : Value), i + k = hi → pf_around S p n ln = sp_fd (fun i => pf_in S ln i && pf_is S p n i) i k → lo ≤ i → am_Z X 6 [.ref b, .ref (b + 4 + 3 * p), .ref z, am_n ln, am_n i, v] [] h 0 0 := by
    intro k
    induction k with
    | zero =>
      intro i v hi hs hlo
      refine am_iload hB d_MA_groupAround_6 rfl ?_
      refine am_aload_n hB d_MA_groupAround_8 rfl rfl rfl ?_
      refine am_getf hB d_MA_groupAround_9 F_MA_104_0 (m.C p8).1 rfl ?_
      rw [e2]
      refine ai_jge (tgt := 69) hB d_MA_groupAround_12 (by decide) (fun hc => ?_) (fun hc => ?_)
      · refine ai_const hB d_MA_groupAround_69 ?_
        refine am_iret hB hR d_MA_groupAround_70 rfl (by decide) ?_ (Nat.zero_le _) (Nat.zero_le _)
        rw [hs]
        exact ⟨rfl, rfl⟩
      · omega
    | succ k ih =>
      intro i v hi' hs hlo
      obtain ⟨x, hx, hxp⟩ := e5 i hlo (by omega)
      obtain ⟨i32, gs, r, -, -, -, b1, b2, -⟩ := mw.line hx
      have hq : pf_is S p n i = (x.2.2.2 && decide (x.1.2.2 = n)) := by
        unfold pf_is
        rw [hx]
        simp only [decide_eq_true hxp, Bool.true_and]
      have hq2 : pf_in S ln i = (decide (x.2.1.1 ≠ -1) && (decide (x.2.1.1 ≤ ln) && decide (ln ≤ x.2.1.2.1))) := by
        unfold pf_in
        rw [hx]
      have next : (pf_in S ln i && pf_is S p n i) = false → am_Z X 63 [.ref b, .ref (b + 4 + 3 * p), .ref z, am_n ln, am_n i, .ref (b + 29 + 4 * i)] [] h 0 0 := by
        intro hz
        refine ai_inc hB d_MA_groupAround_63 rfl (by rw [hR.nL]; decide) rfl ?_
        refine am_goto (tgt := 6) hB d_MA_groupAround_66 (by decide) (ih (i + 1) _ (by omega) ?_ (by omega))
        rw [hs, sp_fd, if_neg (by rw [hz]; decide)]
      refine am_iload hB d_MA_groupAround_6 rfl ?_
      refine am_aload_n hB d_MA_groupAround_8 rfl rfl rfl ?_
      refine am_getf hB d_MA_groupAround_9 F_MA_104_0 (m.C p8).1 rfl ?_
      rw [e2]
      refine ai_jge (tgt := 69) hB d_MA_groupAround_12 (by decide) (fun hc => ?_) (fun hc => ?_)
      · omega
      refine am_aload_n hB d_MA_groupAround_15 rfl rfl rfl ?_
      refine am_getf hB d_MA_groupAround_16 F_MA_27_4 m.1 rfl ?_
      refine am_iload hB d_MA_groupAround_19 rfl ?_
      refine ai_aald hB d_MA_groupAround_21 ty_4 m.2.2.2.2.1 (z := b + 29 + 4 * i) (if_pos (by omega)) ?_
      refine am_astore hB d_MA_groupAround_22 (by rw [hR.nL]; decide) rfl rfl ?_
      refine am_aload hB d_MA_groupAround_24 rfl rfl ?_
      refine am_callV hB hR (as := []) r (m_ML_hasRange r ⟨by omega, by omega⟩) c_MA_164 rfl rfl d_MA_groupAround_26 ⟨by decide, Nat.le_of_ble_eq_true rfl⟩ ⟨by decide, by decide⟩ rfl rfl (fun rr hh hp => ?_)
      obtain ⟨rfl, rfl⟩ := hp
      by_cases q1 : x.2.1.1 ≠ -1
      · rw [decide_eq_true q1]
        show am_Z X 29 [.ref b, .ref (b + 4 + 3 * p), .ref z, am_n ln, am_n i, .ref (b + 29 + 4 * i)] [am_n 1] h 0 0
        refine ai_zeq (tgt := 63) hB d_MA_groupAround_29 (by decide) (fun hc => ?_) (fun hc => ?_)
        · omega
        refine am_aload hB d_MA_groupAround_32 rfl rfl ?_
        refine am_getf hB d_MA_groupAround_34 F_MA_126_5 r rfl ?_
        refine am_iload_n hB d_MA_groupAround_37 rfl rfl ?_
        refine ai_jgt (tgt := 63) hB d_MA_groupAround_38 (by decide) (fun q2 => ?_) (fun q2 => ?_)
        · exact next (by rw [hq2, decide_eq_false (show ¬ x.2.1.1 ≤ ln by omega)]; simp)
        refine am_iload_n hB d_MA_groupAround_41 rfl rfl ?_
        refine am_aload hB d_MA_groupAround_42 rfl rfl ?_
        refine am_getf hB d_MA_groupAround_44 F_MA_129_5 r rfl ?_
        refine ai_jgt (tgt := 63) hB d_MA_groupAround_47 (by decide) (fun q3 => ?_) (fun q3 => ?_)
        · exact next (by rw [hq2, decide_eq_false (show ¬ ln ≤ x.2.1.2.1 by omega)]; simp)
        refine am_aload_n hB d_MA_groupAround_50 rfl rfl rfl ?_
        refine am_iload hB d_MA_groupAround_51 rfl ?_
        refine am_aload_n hB d_MA_groupAround_53 rfl rfl rfl ?_
        refine am_callV hB hR (as := [am_n i, .ref z]) m.1 (mn_isGroup mw sz hx) c_MA_180 rfl rfl d_MA_groupAround_54 ⟨by decide, Nat.le_of_ble_eq_true rfl⟩ ⟨by decide, by decide⟩ rfl rfl (fun rr hh hp => ?_)
        obtain ⟨rfl, rfl⟩ := hp
        cases e9 : (x.2.2.2 && decide (x.1.2.2 = n)) with
        | false =>
          show am_Z X 57 [.ref b, .ref (b + 4 + 3 * p), .ref z, am_n ln, am_n i, .ref (b + 29 + 4 * i)] [am_n 0] h 0 0
          refine ai_zeq (tgt := 63) hB d_MA_groupAround_57 (by decide) (fun hc => ?_) (fun hc => ?_)
          · exact next (by rw [hq, e9, Bool.and_false])
          · omega
        | true =>
          show am_Z X 57 [.ref b, .ref (b + 4 + 3 * p), .ref z, am_n ln, am_n i, .ref (b + 29 + 4 * i)] [am_n 1] h 0 0
          refine ai_zeq (tgt := 63) hB d_MA_groupAround_57 (by decide) (fun hc => ?_) (fun hc => ?_)
          · omega
          refine am_iload hB d_MA_groupAround_60 rfl ?_
          refine am_iret hB hR d_MA_groupAround_62 rfl rfl ?_ (Nat.zero_le _) (Nat.zero_le _)
          rw [hs, sp_fd, if_pos (by rw [hq, e9, hq2, decide_eq_true q1, decide_eq_true (show x.2.1.1 ≤ ln by omega), decide_eq_true (show ln ≤ x.2.1.2.1 by omega)]; rfl)]
          exact ⟨rfl, rfl⟩
      · rw [decide_eq_false q1]
        show am_Z X 29 [.ref b, .ref (b + 4 + 3 * p), .ref z, am_n ln, am_n i, .ref (b + 29 + 4 * i)] [am_n 0] h 0 0
        refine ai_zeq (tgt := 63) hB d_MA_groupAround_29 (by decide) (fun hc => ?_) (fun hc => ?_)
        · exact next (by rw [hq2, decide_eq_false q1]; rfl)
        · omega
  refine am_aload_n hB d_MA_groupAround_0 rfl rfl rfl ?_
  refine am_getf hB d_MA_groupAround_1 F_MA_101_0 (m.C p8).1 rfl ?_
  rw [e1]
  refine am_istore hB d_MA_groupAround_4 (by rw [hR.nL]; decide) rfl ?_
  exact loop (hi - lo) lo _ (by omega) e7 (Nat.le_refl _)
theorem mn_hasUnlike {l : Launch} {G : am_G} {h : am_H} {b z p k o q bb : Nat} {S : pm_S} {n n1 n2 : List Int} {c : pm_C} {cp gs fi la rf rl : Int} (m : am_mw h b S) (sz : am_sn h z n) (hc : S.1[p]? = some c) (r : h[k]? = some (ce_ML o q bb cp gs fi la rf rl)) (s1 : am_sn h o n1) (s2 : am_sn h q n2) : am_M l G M_MA_hasUnlikeGroups [.ref b, .ref (b + 4 + 3 * p), .ref z, .ref k] h (am_is (am_n (sp_i (pf_unlike S p n n1 n2).isSome)) h) := by
  have mw := m
  obtain ⟨g, s, m, hg, R⟩ := m
  have R32 := R.2.2.2.1
  have R8 := R.2.1
  have pl := pm_lt hc
  have p8 : p < 8 := by omega
  obtain ⟨lo, hi, e1, e2, e3, e4, e5, e6⟩ := R.mid hc
  have e7 : pf_unlike S p n n1 n2 = sp_fd (fun i => pf_is S p n i && !pf_call S (pf_end S i - 1) n1 n2) lo (hi - lo) := by
    have := e6 (fun i => !pf_call S (pf_end S i - 1) n1 n2) n
    unfold pf_unlike
    simp only [Bool.and_comm (pf_is _ _ _ _)]
    exact this
  refine am_M.of (by decide) (Nat.le_of_ble_eq_true rfl) (fun X hB hR => ?_)
  show am_Z X 0 [.ref b, .ref (b + 4 + 3 * p), .ref z, .ref k, am_u] [] h 0 0
  have loop : ∀ (d i : Nat), i + d = hi → pf_unlike S p n n1 n2 = sp_fd (fun i => pf_is S p n i && !pf_call S (pf_end S i - 1) n1 n2) i d → lo ≤ i → am_Z X 6 [.ref b, .ref (b + 4 + 3 * p), .ref z, .ref k, am_n i] [] h 0 0 := by
    intro d
    induction d with
    | zero =>
      intro i hi hs hlo
      refine am_iload hB d_MA_hasUnlikeGroups_6 rfl ?_
      refine am_aload_n hB d_MA_hasUnlikeGroups_8 rfl rfl rfl ?_
      refine am_getf hB d_MA_hasUnlikeGroups_9 F_MA_104_0 (m.C p8).1 rfl ?_
      rw [e2]
      refine ai_jge (tgt := 53) hB d_MA_hasUnlikeGroups_12 (by decide) (fun hc => ?_) (fun hc => ?_)
      · refine ai_const hB d_MA_hasUnlikeGroups_53 ?_
        refine am_iret hB hR d_MA_hasUnlikeGroups_54 rfl (by decide) ?_ (Nat.zero_le _) (Nat.zero_le _)
        rw [hs]
        exact ⟨rfl, rfl⟩
      · omega
    | succ d ih =>
      intro i hi' hs hlo
      obtain ⟨x, hx, hxp⟩ := e5 i hlo (by omega)
      have hq : pf_is S p n i = (x.2.2.2 && decide (x.1.2.2 = n)) := by
        unfold pf_is
        rw [hx]
        simp only [decide_eq_true hxp, Bool.true_and]
      have next : (pf_is S p n i && !pf_call S (pf_end S i - 1) n1 n2) = false → am_Z X 47 [.ref b, .ref (b + 4 + 3 * p), .ref z, .ref k, am_n i] [] h 0 0 := by
        intro hz
        refine ai_inc hB d_MA_hasUnlikeGroups_47 rfl (by rw [hR.nL]; decide) rfl ?_
        refine am_goto (tgt := 6) hB d_MA_hasUnlikeGroups_50 (by decide) (ih (i + 1) (by omega) ?_ (by omega))
        rw [hs, sp_fd, if_neg (by rw [hz]; decide)]
      refine am_iload hB d_MA_hasUnlikeGroups_6 rfl ?_
      refine am_aload_n hB d_MA_hasUnlikeGroups_8 rfl rfl rfl ?_
      refine am_getf hB d_MA_hasUnlikeGroups_9 F_MA_104_0 (m.C p8).1 rfl ?_
      rw [e2]
      refine ai_jge (tgt := 53) hB d_MA_hasUnlikeGroups_12 (by decide) (fun hc => ?_) (fun hc => ?_)
      · omega
      refine am_aload_n hB d_MA_hasUnlikeGroups_15 rfl rfl rfl ?_
      refine am_iload hB d_MA_hasUnlikeGroups_16 rfl ?_
      refine am_aload_n hB d_MA_hasUnlikeGroups_18 rfl rfl rfl ?_
      refine am_callV hB hR (as := [am_n i, .ref z]) m.1 (mn_isGroup mw sz hx) c_MA_180 rfl rfl d_MA_hasUnlikeGroups_19 ⟨by decide, Nat.le_of_ble_eq_true rfl⟩ ⟨by decide, by decide⟩ rfl rfl (fun rr hh hp => ?_)
      obtain ⟨rfl, rfl⟩ := hp
      cases e9 : (x.2.2.2 && decide (x.1.2.2 = n)) with
      | false =>
        show am_Z X 22 [.ref b, .ref (b + 4 + 3 * p), .ref z, .ref k, am_n i] [am_n 0] h 0 0
        refine ai_zeq (tgt := 47) hB d_MA_hasUnlikeGroups_22 (by decide) (fun hc => ?_) (fun hc => ?_)
        · exact next (by rw [hq, e9, Bool.false_and])
        · omega
      | true =>
        show am_Z X 22 [.ref b, .ref (b + 4 + 3 * p), .ref z, .ref k, am_n i] [am_n 1] h 0 0
        refine ai_zeq (tgt := 47) hB d_MA_hasUnlikeGroups_22 (by decide) (fun hc => ?_) (fun hc => ?_)
        · omega
        have hl : x.2.2.2 = true := by
          rw [Bool.and_eq_true] at e9
          exact e9.1
        refine am_aload_n hB d_MA_hasUnlikeGroups_25 rfl rfl rfl ?_
        refine am_iload hB d_MA_hasUnlikeGroups_26 rfl ?_
        refine am_callV hB hR (as := [am_n i]) m.1 (mn_lastLineOf mw hx hl) c_MA_184 rfl rfl d_MA_hasUnlikeGroups_28 ⟨by decide, Nat.le_of_ble_eq_true rfl⟩ ⟨by decide, by decide⟩ rfl rfl (fun rr hh hp => ?_)
        obtain ⟨rfl, rfl⟩ := hp
        obtain ⟨-, f2, f3⟩ := R.end hx hl
        have hy : S.2[pf_end S i - 1]? = some (S.2[pf_end S i - 1]'(by omega)) := List.getElem?_eq_getElem (by omega)
        obtain ⟨j32, gs', r', sO, sM, -⟩ := mw.line hy
        show am_Z X 31 [.ref b, .ref (b + 4 + 3 * p), .ref z, .ref k, am_n i] [.ref (b + 29 + 4 * (pf_end S i - 1))] h 0 0
        refine am_aload_n hB d_MA_hasUnlikeGroups_31 rfl rfl rfl ?_
        refine am_getf hB d_MA_hasUnlikeGroups_32 F_MA_142_5 r rfl ?_
        refine am_aload_n hB d_MA_hasUnlikeGroups_35 rfl rfl rfl ?_
        refine am_getf hB d_MA_hasUnlikeGroups_36 F_MA_155_5 r rfl ?_
        refine am_callV hB hR (as := [.ref o, .ref q]) r' (mn_isRealCall r' sO sM s1 s2) c_MA_188 rfl rfl d_MA_hasUnlikeGroups_39 ⟨by decide, Nat.le_of_ble_eq_true rfl⟩ ⟨by decide, by decide⟩ rfl rfl (fun rr hh hp => ?_)
        obtain ⟨rfl, rfl⟩ := hp
        have hq3 : pf_call S (pf_end S i - 1) n1 n2 = (decide ((S.2[pf_end S i - 1]'(by omega)).1.1 = n1) && decide ((S.2[pf_end S i - 1]'(by omega)).1.2.1 = n2)) := by
          unfold pf_call
          rw [hy]
        rw [← hq3]
        cases e10 : pf_call S (pf_end S i - 1) n1 n2 with
        | false =>
          show am_Z X 42 [.ref b, .ref (b + 4 + 3 * p), .ref z, .ref k, am_n i] [am_n 0] h 0 0
          refine ai_zne (tgt := 47) hB d_MA_hasUnlikeGroups_42 (by decide) (fun hc => ?_) (fun hc => ?_)
          · omega
          refine ai_const hB d_MA_hasUnlikeGroups_45 ?_
          refine am_iret hB hR d_MA_hasUnlikeGroups_46 rfl (by decide) ?_ (Nat.zero_le _) (Nat.zero_le _)
          rw [hs, sp_fd, if_pos (by rw [hq, e9, e10]; rfl)]
          exact ⟨rfl, rfl⟩
        | true =>
          show am_Z X 42 [.ref b, .ref (b + 4 + 3 * p), .ref z, .ref k, am_n i] [am_n 1] h 0 0
          refine ai_zne (tgt := 47) hB d_MA_hasUnlikeGroups_42 (by decide) (fun hc => ?_) (fun hc => ?_)
          · exact next (by rw [e10]; simp)
          · omega
  refine am_aload_n hB d_MA_hasUnlikeGroups_0 rfl rfl rfl ?_
  refine am_getf hB d_MA_hasUnlikeGroups_1 F_MA_101_0 (m.C p8).1 rfl ?_
  rw [e1]
  refine am_istore hB d_MA_hasUnlikeGroups_4 (by rw [hR.nL]; decide) rfl ?_
  exact loop (hi - lo) lo (by omega) e7 (Nat.le_refl _)
