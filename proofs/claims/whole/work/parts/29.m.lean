/-! a mapping begins; class lines by name -/
def pc_real (S : pm_S) (n : List Int) : Option Nat := sp_fd (fun i => match S.1[i]? with
  | none => false
  | some c => decide (c.1 = n)) 0 S.1.length
def pc_brief (S : pm_S) (n : List Int) : Option Nat := sp_fd (fun i => match S.1[i]? with
  | none => false
  | some c => decide (c.2 = n)) 0 S.1.length
theorem mn_lineOfReal {l : Launch} {G : am_G} {h : am_H} {b z : Nat} {S : pm_S} {n : List Int} (m : am_mw h b S) (sz : am_sn h z n) : am_M l G M_MA_lineOfReal [.ref b, .ref z] h (am_is (mp_rv b (pc_real S n)) h) := by
  obtain ⟨g, s, m, hg, R⟩ := m
  obtain ⟨c, f, t, N, gz, sz, rfl⟩ := sz
  have := m_MA_lineOfReal (l := l) (G := G) m hg sz R.1 R.2.1 (fun p hp => (R.2.2.2.2.2.1 p _ (List.getElem?_eq_getElem hp)).1)
  rw [show sp_fd (fun i => sp_eq g (s (8 + 7 * i)) (s (9 + 7 * i)) gz f t) 0 S.1.length = pc_real S (nm gz f t) from sp_fd_cg _ _ (fun j _ hj => by
    have hc : S.1[j]? = some (S.1[j]'(by omega)) := List.getElem?_eq_getElem (by omega)
    have q := R.2.2.2.2.2.1 j _ hc
    rw [hc, sp_eq_nm q.1.2.1 sz.2.2.2.2.1, q.2.2.1])] at this
  exact this
theorem mn_lineOfShort {l : Launch} {G : am_G} {h : am_H} {b z : Nat} {S : pm_S} {n : List Int} (m : am_mw h b S) (sz : am_sn h z n) : am_M l G M_MA_lineOfShort [.ref b, .ref z] h (am_is (mp_rv b (pc_brief S n)) h) := by
  obtain ⟨g, s, m, hg, R⟩ := m
  obtain ⟨c, f, t, N, gz, sz, rfl⟩ := sz
  have := m_MA_lineOfShort (l := l) (G := G) m hg sz R.1 R.2.1 (fun p hp => (R.2.2.2.2.2.1 p _ (List.getElem?_eq_getElem hp)).2.1)
  rw [show sp_fd (fun i => sp_eq g (s (10 + 7 * i)) (s (11 + 7 * i)) gz f t) 0 S.1.length = pc_brief S (nm gz f t) from sp_fd_cg _ _ (fun j _ hj => by
    have hc : S.1[j]? = some (S.1[j]'(by omega)) := List.getElem?_eq_getElem (by omega)
    have q := R.2.2.2.2.2.1 j _ hc
    rw [hc, sp_eq_nm q.2.1.2.1 sz.2.2.2.2.1, q.2.2.2.1])] at this
  exact this
/-- a class line's cell and its names, by place -/
theorem am_mw.cls {h : am_H} {b i : Nat} {S : pm_S} {c : pm_C} (m : am_mw h b S) (hc : S.1[i]? = some c) : i < 8 ∧ ∃ fm em : Int, h[b + 4 + 3 * i]? = some (ce_CL (b + 5 + 3 * i) (b + 6 + 3 * i) fm em ((S.2.filter (fun x => x.2.2.2 && decide (x.2.2.1 = i))).length : Nat)) ∧ am_sn h (b + 5 + 3 * i) c.1 ∧ am_sn h (b + 6 + 3 * i) c.2 := by
  obtain ⟨g, s, m, hg, R⟩ := m
  have il := pm_lt hc
  have R8 := R.2.1
  have i8 : i < 8 := by omega
  obtain ⟨c1, c2, c3, c4, -, -, c7, -⟩ := R.2.2.2.2.2.1 i c hc
  refine ⟨i8, s (12 + 7 * i), s (13 + 7 * i), ?_, am_sl.sn ⟨(m.C i8).2.1, m.2.1, hg, c1.1, c1.2.1, c1.2.2, by omega⟩ c3, am_sl.sn ⟨(m.C i8).2.2, m.2.1, hg, c2.1, c2.2.1, c2.2.2, by omega⟩ c4⟩
  have := (m.C i8).1
  rw [c7] at this
  exact this
theorem mn_groupWithoutRange {l : Launch} {G : am_G} {h : am_H} {b z1 z2 : Nat} {S : pm_S} {n1 n2 : List Int} (m : am_mw h b S) (s1 : am_sn h z1 n1) (s2 : am_sn h z2 n2) : am_M l G M_MA_groupWithoutRange [.ref b, .ref z1, .ref z2] h (am_is (am_n (sp_oi (pf_bare S n1 n2))) h) := by
  have mw := m
  obtain ⟨g, s, m, hg, R⟩ := m
  have R32 := R.2.2.2.1
  have R3 := R.2.2.1
  have e7 : pf_bare S n1 n2 = sp_fd (fun i => !(match S.2[i]? with
    | none => true
    | some x => decide (x.2.1.1 ≠ -1)) && pf_call S i n1 n2) 0 S.2.length := rfl
  refine am_M.of (by decide) (Nat.le_of_ble_eq_true rfl) (fun X hB hR => ?_)
  show am_Z X 0 [.ref b, .ref z1, .ref z2, am_u] [] h 0 0
  have loop : ∀ (k i : Nat), i + k = S.2.length → pf_bare S n1 n2 = sp_fd (fun i => !(match S.2[i]? with
    | none => true
    | some x => decide (x.2.1.1 ≠ -1)) && pf_call S i n1 n2) i k → am_Z X 2 [.ref b, .ref z1, .ref z2, am_n i] [] h 0 0 := by
    intro k
    induction k with
    | zero =>
      intro i hi hs
      refine am_iload_n hB d_MA_groupWithoutRange_2 rfl rfl ?_
      refine am_aload_n hB d_MA_groupWithoutRange_3 rfl rfl rfl ?_
      refine am_getf hB d_MA_groupWithoutRange_4 F_MA_52_4 m.1 rfl ?_
      rw [R3]
      refine ai_jge (tgt := 44) hB d_MA_groupWithoutRange_7 (by decide) (fun hc => ?_) (fun hc => ?_)
      · refine ai_const hB d_MA_groupWithoutRange_44 ?_
        refine am_iret hB hR d_MA_groupWithoutRange_45 rfl (by decide) ?_ (Nat.zero_le _) (Nat.zero_le _)
        rw [hs]
        exact ⟨rfl, rfl⟩
      · omega
    | succ k ih =>
      intro i hi hs
      have hx : S.2[i]? = some (S.2[i]'(by omega)) := List.getElem?_eq_getElem (by omega)
      obtain ⟨i32, gs, r, sO, sM, -, b1, -⟩ := mw.line hx
      generalize (S.2[i]'(by omega)) = x at hx r sO sM b1
      have hq : (!(match S.2[i]? with
        | none => true
        | some x => decide (x.2.1.1 ≠ -1)) && pf_call S i n1 n2) = (!decide (x.2.1.1 ≠ -1) && (decide (x.1.1 = n1) && decide (x.1.2.1 = n2))) := by
        unfold pf_call
        rw [hx]
      have next : (!decide (x.2.1.1 ≠ -1) && (decide (x.1.1 = n1) && decide (x.1.2.1 = n2))) = false → am_Z X 38 [.ref b, .ref z1, .ref z2, am_n i] [] h 0 0 := by
        intro hz
        refine ai_inc hB d_MA_groupWithoutRange_38 rfl (by rw [hR.nL]; decide) rfl ?_
        refine am_goto (tgt := 2) hB d_MA_groupWithoutRange_41 (by decide) (ih (i + 1) (by omega) ?_)
        rw [hs, sp_fd, hq, if_neg (by rw [hz]; decide)]
      refine am_iload_n hB d_MA_groupWithoutRange_2 rfl rfl ?_
      refine am_aload_n hB d_MA_groupWithoutRange_3 rfl rfl rfl ?_
      refine am_getf hB d_MA_groupWithoutRange_4 F_MA_52_4 m.1 rfl ?_
      rw [R3]
      refine ai_jge (tgt := 44) hB d_MA_groupWithoutRange_7 (by decide) (fun hc => ?_) (fun hc => ?_)
      · omega
      refine am_aload_n hB d_MA_groupWithoutRange_10 rfl rfl rfl ?_
      refine am_getf hB d_MA_groupWithoutRange_11 F_MA_27_4 m.1 rfl ?_
      refine am_iload_n hB d_MA_groupWithoutRange_14 rfl rfl ?_
      refine ai_aald hB d_MA_groupWithoutRange_15 ty_4 m.2.2.2.2.1 (z := b + 29 + 4 * i) (if_pos (by omega)) ?_
      refine am_callV hB hR (as := []) r (m_ML_hasRange r ⟨by omega, by omega⟩) c_MA_164 rfl rfl d_MA_groupWithoutRange_16 ⟨by decide, Nat.le_of_ble_eq_true rfl⟩ ⟨by decide, by decide⟩ rfl rfl (fun rr hh hp => ?_)
      obtain ⟨rfl, rfl⟩ := hp
      by_cases q1 : x.2.1.1 ≠ -1
      · rw [decide_eq_true q1]
        show am_Z X 19 [.ref b, .ref z1, .ref z2, am_n i] [am_n 1] h 0 0
        refine ai_zne (tgt := 38) hB d_MA_groupWithoutRange_19 (by decide) (fun hc => ?_) (fun hc => ?_)
        · exact next (by rw [decide_eq_true q1]; rfl)
        · omega
      · rw [decide_eq_false q1]
        show am_Z X 19 [.ref b, .ref z1, .ref z2, am_n i] [am_n 0] h 0 0
        refine ai_zne (tgt := 38) hB d_MA_groupWithoutRange_19 (by decide) (fun hc => ?_) (fun hc => ?_)
        · omega
        refine am_aload_n hB d_MA_groupWithoutRange_22 rfl rfl rfl ?_
        refine am_getf hB d_MA_groupWithoutRange_23 F_MA_27_4 m.1 rfl ?_
        refine am_iload_n hB d_MA_groupWithoutRange_26 rfl rfl ?_
        refine ai_aald hB d_MA_groupWithoutRange_27 ty_4 m.2.2.2.2.1 (z := b + 29 + 4 * i) (if_pos (by omega)) ?_
        refine am_aload_n hB d_MA_groupWithoutRange_28 rfl rfl rfl ?_
        refine am_aload_n hB d_MA_groupWithoutRange_29 rfl rfl rfl ?_
        refine am_callV hB hR (as := [.ref z1, .ref z2]) r (mn_isRealCall r sO sM s1 s2) c_MA_188 rfl rfl d_MA_groupWithoutRange_30 ⟨by decide, Nat.le_of_ble_eq_true rfl⟩ ⟨by decide, by decide⟩ rfl rfl (fun rr hh hp => ?_)
        obtain ⟨rfl, rfl⟩ := hp
        cases e9 : (decide (x.1.1 = n1) && decide (x.1.2.1 = n2)) with
        | false =>
          show am_Z X 33 [.ref b, .ref z1, .ref z2, am_n i] [am_n 0] h 0 0
          refine ai_zeq (tgt := 38) hB d_MA_groupWithoutRange_33 (by decide) (fun hc => ?_) (fun hc => ?_)
          · exact next (by rw [e9, Bool.and_false])
          · omega
        | true =>
          show am_Z X 33 [.ref b, .ref z1, .ref z2, am_n i] [am_n 1] h 0 0
          refine ai_zeq (tgt := 38) hB d_MA_groupWithoutRange_33 (by decide) (fun hc => ?_) (fun hc => ?_)
          · omega
          refine am_iload_n hB d_MA_groupWithoutRange_36 rfl rfl ?_
          refine am_iret hB hR d_MA_groupWithoutRange_37 rfl rfl ?_ (Nat.zero_le _) (Nat.zero_le _)
          rw [hs, sp_fd, hq, if_pos (by rw [decide_eq_false q1, e9]; rfl)]
          exact ⟨rfl, rfl⟩
  refine ai_const hB d_MA_groupWithoutRange_0 ?_
  refine am_istore_n hB d_MA_groupWithoutRange_1 rfl (by rw [hR.nL]; decide) rfl ?_
  exact loop S.2.length 0 (by omega) e7
theorem am_map.wg {h : am_H} {b : Nat} {g g' : Int → Int} {s : Nat → Int} (m : am_map h b g s) : am_map (h.set (b + 1) (am_ia 0 600 g')) b g' s := by
  obtain ⟨m0, m1, m2, m3, m4, mC, mL⟩ := m
  exact ⟨am_rn (by omega) m0, am_rs m1, am_rn (by omega) m2, am_rn (by omega) m3, am_rn (by omega) m4, fun i hi => (mC i hi).n (by omega) (fun r _ _ => rfl), fun i hi => (mL i hi).n (by omega) (fun r _ _ => rfl)⟩
theorem m_MA_begin {l : Launch} {G : am_G} {h : am_H} {b kd c N : Nat} {g gd : Int → Int} {s : Nat → Int} {n o : Int} (m : am_map h b g s) (hg : am_cok g) (rd : h[kd]? = some (ce_TX c n o)) (rc : h[c]? = some (am_ia 0 N gd)) (hgd : am_cok gd) (hn : 0 ≤ n ∧ n ≤ 600) (hN : n ≤ N ∧ N < 1000000) (hkd : kd < b ∨ b + 157 ≤ kd) (hcb : c ≠ b + 1) :
    am_M l G M_MA_begin [.ref b, .ref kd] h (fun r h' => r = none ∧ ∃ s', mp_to h b (am_cp gd g 0 0 n) h' s' ∧ mp_rep (am_cp gd g 0 0 n) s' ([], [])) := by
  refine am_M.of (by decide) (Nat.le_of_ble_eq_true rfl) (fun X hB hR => ?_)
  show am_Z X 0 [.ref b, .ref kd] [] h 0 0
  refine am_aload_n hB d_MA_begin_0 rfl rfl rfl ?_
  refine am_getf hB d_MA_begin_1 F_MA_32_8 rd rfl ?_
  refine ai_const hB d_MA_begin_4 ?_
  refine am_aload_n hB d_MA_begin_5 rfl rfl rfl ?_
  refine am_getf hB d_MA_begin_6 F_MA_38_4 m.1 rfl ?_
  refine ai_const hB d_MA_begin_9 ?_
  refine am_aload_n hB d_MA_begin_10 rfl rfl rfl ?_
  refine am_getf hB d_MA_begin_11 F_MA_39_8 rd rfl ?_
  refine am_copy hB hR d_MA_begin_14 S_MA_43 rc m.2.1 (fun j _ _ => hgd j) ⟨by decide, Nat.le_of_ble_eq_true rfl⟩ rfl ?_
  have m1 := m.wg (g' := am_cp gd g 0 0 n)
  obtain ⟨h2, s2, e2, m2, g2, v2, o2⟩ := m1.e2 0
  refine am_aload_n hB d_MA_begin_17 rfl rfl rfl ?_
  refine ai_const hB d_MA_begin_18 ?_
  refine am_putf hB d_MA_begin_19 P_MA_49_4 m1.1 (by simp) am_fit.i e2 ?_
  obtain ⟨h3, s3, e3, m3, g3, v3, o3⟩ := m2.e3 0
  refine am_aload_n hB d_MA_begin_22 rfl rfl rfl ?_
  refine ai_const hB d_MA_begin_23 ?_
  refine am_putf hB d_MA_begin_24 P_MA_52_4 m2.1 (by simp) am_fit.i e3 ?_
  obtain ⟨h4, s4, e4, m4, g4, v4, o4⟩ := m3.e4 0
  refine am_aload_n hB d_MA_begin_27 rfl rfl rfl ?_
  refine ai_const hB d_MA_begin_28 ?_
  refine am_putf hB d_MA_begin_29 P_MA_55_4 m3.1 (by simp) am_fit.i e4 ?_
  obtain ⟨h5, s5, e5, m5, g5, v5, o5⟩ := m4.e5 (-1)
  refine am_aload_n hB d_MA_begin_32 rfl rfl rfl ?_
  refine ai_const hB d_MA_begin_33 ?_
  refine am_putf hB d_MA_begin_34 P_MA_58_4 m4.1 (by simp) am_fit.i e5 ?_
  refine am_vret hB hR d_MA_begin_37 rfl ?_ (Nat.zero_le _) (Nat.zero_le _)
  refine ⟨rfl, s5, ⟨m5, ((((am_rg.set _ _ (by omega) (by omega)).tr g2).tr g3).tr g4).tr g5⟩, ?_, Nat.zero_le _, ?_, Nat.zero_le _, ?_, ?_, ?_, Or.inl ⟨rfl, v5⟩⟩
  · rw [o5 _ (by omega), o4 _ (by omega), o3 _ (by omega), v2]
    rfl
  · rw [o5 _ (by omega), o4 _ (by omega), v3]
    rfl
  · rw [o5 _ (by omega), v4]
    rfl
  · intro i c hc
    cases hc
  · intro i x hx
    cases hx
