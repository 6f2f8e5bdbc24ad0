/-! MethodLine's questions; Form -/
def am_sl (h : am_H) (k c : Nat) (f t : Int) (n : Nat) (g : Int → Int) : Prop := h[k]? = some (ce_SL c f t) ∧ h[c]? = some (am_ia 0 n g) ∧ am_cok g ∧ 0 ≤ f ∧ f ≤ t ∧ t ≤ n ∧ n < 1000000
def sp_eq (g1 : Int → Int) (f1 t1 : Int) (g2 : Int → Int) (f2 t2 : Int) : Bool := decide (t2 - f2 = t1 - f1) && sp_same g1 g2 f1 f2 (t1 - f1).toNat
theorem m_same {l : Launch} {G : am_G} {h : am_H} {k1 k2 c1 c2 n1 n2 : Nat} {f1 t1 f2 t2 : Int} {g1 g2 : Int → Int} (s1 : am_sl h k1 c1 f1 t1 n1 g1) (s2 : am_sl h k2 c2 f2 t2 n2 g2) : am_M l G M_SL_isSame [.ref k1, .ref k2] h (am_is (am_n (sp_i (sp_eq g1 f1 t1 g2 f2 t2))) h) := by
  obtain ⟨r1, q1, o1, a1, a2, a3, a4⟩ := s1
  obtain ⟨r2, q2, o2, b1, b2, b3, b4⟩ := s2
  exact m_SL_isSame r1 r2 q1 q2 ⟨a1, a2, a3⟩ ⟨b1, b2, b3⟩ a4 b4 o1 o2
abbrev ce_ML (o m b : Nat) (cp gs fi la rf rl : Int) : va_E := .inr (5, [.ref o, .ref m, .ref b, am_n cp, am_n gs, am_n fi, am_n la, am_n rf, am_n rl])
def am_sm (x : Int) : Prop := -1000000 ≤ x ∧ x ≤ 1000000
theorem sp_i_in (b : Bool) : 0 ≤ sp_i b ∧ sp_i b ≤ 1 := by cases b <;> simp [sp_i]
theorem m_ML_hasRange {l : Launch} {G : am_G} {h : am_H} {k o m b : Nat} {cp gs fi la rf rl : Int} (r : h[k]? = some (ce_ML o m b cp gs fi la rf rl)) (z : am_sm fi) : am_M l G M_ML_hasRange [.ref k] h (am_is (am_n (sp_i (decide (fi ≠ -1)))) h) := by
  obtain ⟨z1, z2⟩ := z
  refine am_M.of (by decide) (Nat.le_of_ble_eq_true rfl) (fun X hB hR => ?_)
  show am_Z X 0 [.ref k] [] h 0 0
  refine am_aload_n hB d_ML_hasRange_0 rfl rfl rfl ?_
  refine am_getf hB d_ML_hasRange_1 F_ML_26_5 (by assumption) rfl ?_
  refine ai_const hB d_ML_hasRange_4 ?_
  refine ai_jeq (tgt := 12) hB d_ML_hasRange_5 (by decide) (fun hc => ?_) (fun hc => ?_)
  · refine ai_const hB d_ML_hasRange_12 ?_
    refine am_iret hB hR d_ML_hasRange_13 rfl (by decide) ?_ (Nat.zero_le _) (Nat.zero_le _)
    rw [decide_eq_false (fun q => q hc)]
    exact ⟨rfl, rfl⟩
  · refine ai_const hB d_ML_hasRange_8 ?_
    refine am_goto (tgt := 13) hB d_ML_hasRange_9 (by decide) ?_
    refine am_iret hB hR d_ML_hasRange_13 rfl (by decide) ?_ (Nat.zero_le _) (Nat.zero_le _)
    rw [decide_eq_true hc]
    exact ⟨rfl, rfl⟩
theorem m_ML_hasOne {l : Launch} {G : am_G} {h : am_H} {k o m b : Nat} {cp gs fi la rf rl : Int} (r : h[k]? = some (ce_ML o m b cp gs fi la rf rl)) (z : am_sm rf) (z' : am_sm rl) : am_M l G M_ML_hasOneRealLine [.ref k] h (am_is (am_n (sp_i (decide (rf = rl)))) h) := by
  obtain ⟨z1, z2⟩ := z
  obtain ⟨z3, z4⟩ := z'
  refine am_M.of (by decide) (Nat.le_of_ble_eq_true rfl) (fun X hB hR => ?_)
  show am_Z X 0 [.ref k] [] h 0 0
  refine am_aload_n hB d_ML_hasOneRealLine_0 rfl rfl rfl ?_
  refine am_getf hB d_ML_hasOneRealLine_1 F_ML_30_5 (by assumption) rfl ?_
  refine am_aload_n hB d_ML_hasOneRealLine_4 rfl rfl rfl ?_
  refine am_getf hB d_ML_hasOneRealLine_5 F_ML_33_5 (by assumption) rfl ?_
  refine ai_jne (tgt := 15) hB d_ML_hasOneRealLine_8 (by decide) (fun hc => ?_) (fun hc => ?_)
  · refine ai_const hB d_ML_hasOneRealLine_15 ?_
    refine am_iret hB hR d_ML_hasOneRealLine_16 rfl (by decide) ?_ (Nat.zero_le _) (Nat.zero_le _)
    rw [decide_eq_false hc]
    exact ⟨rfl, rfl⟩
  · refine ai_const hB d_ML_hasOneRealLine_11 ?_
    refine am_goto (tgt := 16) hB d_ML_hasOneRealLine_12 (by decide) ?_
    refine am_iret hB hR d_ML_hasOneRealLine_16 rfl (by decide) ?_ (Nat.zero_le _) (Nat.zero_le _)
    rw [decide_eq_true hc]
    exact ⟨rfl, rfl⟩
theorem m_ML_isRealCall {l : Launch} {G : am_G} {h : am_H} {k o m b k1 k2 c0 c1 n0 n1 : Nat} {cp gs fi la rf rl f1 t1 f2 t2 f3 t3 f4 t4 : Int} {g0 g1 : Int → Int} (r : h[k]? = some (ce_ML o m b cp gs fi la rf rl)) (s1 : am_sl h o c0 f1 t1 n0 g0) (s2 : am_sl h m c0 f2 t2 n0 g0) (s3 : am_sl h k1 c1 f3 t3 n1 g1) (s4 : am_sl h k2 c1 f4 t4 n1 g1) : am_M l G M_ML_isRealCall [.ref k, .ref k1, .ref k2] h (am_is (am_n (sp_i (sp_eq g0 f1 t1 g1 f3 t3 && sp_eq g0 f2 t2 g1 f4 t4))) h) := by
  have r1 := s1.1
  have r2 := s2.1
  refine am_M.of (by decide) (Nat.le_of_ble_eq_true rfl) (fun X hB hR => ?_)
  show am_Z X 0 [.ref k, .ref k1, .ref k2] [] h 0 0
  refine am_aload_n hB d_ML_isRealCall_0 rfl rfl rfl ?_
  refine am_getf hB d_ML_isRealCall_1 F_ML_14_5 (by assumption) rfl ?_
  refine am_aload_n hB d_ML_isRealCall_4 rfl rfl rfl ?_
  refine am_callV hB hR (as := [.ref k1]) r1 (m_same s1 s3) c_ML_36 rfl rfl d_ML_isRealCall_5 ⟨by decide, Nat.le_of_ble_eq_true rfl⟩ ⟨by decide, by decide⟩ rfl rfl (fun rr hh hp => ?_)
  obtain ⟨rfl, rfl⟩ := hp
  cases e1 : sp_eq g0 f1 t1 g1 f3 t3 with
  | false =>
    show am_Z X 8 [.ref k, .ref k1, .ref k2] [am_n 0] h 0 0
    refine ai_zeq (tgt := 26) hB d_ML_isRealCall_8 (by decide) (fun hc => ?_) (fun hc => ?_)
    · refine ai_const hB d_ML_isRealCall_26 ?_
      refine am_iret hB hR d_ML_isRealCall_27 rfl (by decide) ?_ (Nat.zero_le _) (Nat.zero_le _)
      rw [e1]
      exact ⟨rfl, rfl⟩
    · omega
  | true =>
    show am_Z X 8 [.ref k, .ref k1, .ref k2] [am_n 1] h 0 0
    refine ai_zeq (tgt := 26) hB d_ML_isRealCall_8 (by decide) (fun hc => ?_) (fun hc => ?_)
    · omega
    refine am_aload_n hB d_ML_isRealCall_11 rfl rfl rfl ?_
    refine am_getf hB d_ML_isRealCall_12 F_ML_20_5 (by assumption) rfl ?_
    refine am_aload_n hB d_ML_isRealCall_15 rfl rfl rfl ?_
    refine am_callV hB hR (as := [.ref k2]) r2 (m_same s2 s4) c_ML_36 rfl rfl d_ML_isRealCall_16 ⟨by decide, Nat.le_of_ble_eq_true rfl⟩ ⟨by decide, by decide⟩ rfl rfl (fun rr hh hp => ?_)
    obtain ⟨rfl, rfl⟩ := hp
    cases e2 : sp_eq g0 f2 t2 g1 f4 t4 with
    | false =>
      show am_Z X 19 [.ref k, .ref k1, .ref k2] [am_n 0] h 0 0
      refine ai_zeq (tgt := 26) hB d_ML_isRealCall_19 (by decide) (fun hc => ?_) (fun hc => ?_)
      · refine ai_const hB d_ML_isRealCall_26 ?_
        refine am_iret hB hR d_ML_isRealCall_27 rfl (by decide) ?_ (Nat.zero_le _) (Nat.zero_le _)
        rw [e1, e2]
        exact ⟨rfl, rfl⟩
      · omega
    | true =>
      show am_Z X 19 [.ref k, .ref k1, .ref k2] [am_n 1] h 0 0
      refine ai_zeq (tgt := 26) hB d_ML_isRealCall_19 (by decide) (fun hc => ?_) (fun hc => ?_)
      · omega
      refine ai_const hB d_ML_isRealCall_22 ?_
      refine am_goto (tgt := 27) hB d_ML_isRealCall_23 (by decide) ?_
      refine am_iret hB hR d_ML_isRealCall_27 rfl (by decide) ?_ (Nat.zero_le _) (Nat.zero_le _)
      rw [e1, e2]
      exact ⟨rfl, rfl⟩
theorem m_ML_isInGroupOf {l : Launch} {G : am_G} {h : am_H} {k o m b k' o' m' b' c0 n0 : Nat} {cp gs fi la rf rl cp' gs' fi' la' rf' rl' f1 t1 f2 t2 : Int} {g0 : Int → Int} (r : h[k]? = some (ce_ML o m b cp gs fi la rf rl)) (r' : h[k']? = some (ce_ML o' m' b' cp' gs' fi' la' rf' rl')) (s1 : am_sl h b c0 f1 t1 n0 g0) (s2 : am_sl h b' c0 f2 t2 n0 g0) (z1 : am_sm cp) (z2 : am_sm fi) (z3 : am_sm la) (z4 : am_sm cp') (z5 : am_sm fi') (z6 : am_sm la') :
    am_M l G M_ML_isInGroupOf [.ref k, .ref k'] h (am_is (am_n (sp_i (decide (fi ≠ -1) && (decide (cp = cp') && (decide (fi = fi') && (decide (la = la') && sp_eq g0 f1 t1 g0 f2 t2)))))) h) := by
  have rb := s1.1
  have cr := m_ML_hasRange (l := l) (G := G) r z2
  obtain ⟨y1, y2⟩ := z1
  obtain ⟨y3, y4⟩ := z2
  obtain ⟨y5, y6⟩ := z3
  obtain ⟨y7, y8⟩ := z4
  obtain ⟨y9, y10⟩ := z5
  obtain ⟨y11, y12⟩ := z6
  refine am_M.of (by decide) (Nat.le_of_ble_eq_true rfl) (fun X hB hR => ?_)
  show am_Z X 0 [.ref k, .ref k'] [] h 0 0
  have no : (decide (fi ≠ -1) && (decide (cp = cp') && (decide (fi = fi') && (decide (la = la') && sp_eq g0 f1 t1 g0 f2 t2)))) = false → am_Z X 58 [.ref k, .ref k'] [] h 0 0 := by
    intro e
    refine ai_const hB d_ML_isInGroupOf_58 ?_
    refine am_iret hB hR d_ML_isInGroupOf_59 rfl (by decide) ?_ (Nat.zero_le _) (Nat.zero_le _)
    rw [e]
    exact ⟨rfl, rfl⟩
  refine am_aload_n hB d_ML_isInGroupOf_0 rfl rfl rfl ?_
  refine am_callV hB hR (as := []) r cr c_ML_40 rfl rfl d_ML_isInGroupOf_1 ⟨by decide, Nat.le_of_ble_eq_true rfl⟩ ⟨by decide, by decide⟩ rfl rfl (fun rr hh hp => ?_)
  obtain ⟨rfl, rfl⟩ := hp
  by_cases q1 : fi ≠ -1
  · rw [decide_eq_true q1] at no ⊢
    show am_Z X 4 [.ref k, .ref k'] [am_n 1] h 0 0
    refine ai_zeq (tgt := 58) hB d_ML_isInGroupOf_4 (by decide) (fun hc => ?_) (fun hc => ?_)
    · omega
    refine am_aload_n hB d_ML_isInGroupOf_7 rfl rfl rfl ?_
    refine am_getf hB d_ML_isInGroupOf_8 F_ML_44_5 (by assumption) rfl ?_
    refine am_aload_n hB d_ML_isInGroupOf_11 rfl rfl rfl ?_
    refine am_getf hB d_ML_isInGroupOf_12 F_ML_44_5 (by assumption) rfl ?_
    refine ai_jne (tgt := 58) hB d_ML_isInGroupOf_15 (by decide) (fun q2 => ?_) (fun q2 => ?_)
    · exact no (by rw [decide_eq_false q2]; rfl)
    refine am_aload_n hB d_ML_isInGroupOf_18 rfl rfl rfl ?_
    refine am_getf hB d_ML_isInGroupOf_19 F_ML_26_5 (by assumption) rfl ?_
    refine am_aload_n hB d_ML_isInGroupOf_22 rfl rfl rfl ?_
    refine am_getf hB d_ML_isInGroupOf_23 F_ML_26_5 (by assumption) rfl ?_
    refine ai_jne (tgt := 58) hB d_ML_isInGroupOf_26 (by decide) (fun q3 => ?_) (fun q3 => ?_)
    · exact no (by rw [decide_eq_true q2, decide_eq_false q3]; rfl)
    refine am_aload_n hB d_ML_isInGroupOf_29 rfl rfl rfl ?_
    refine am_getf hB d_ML_isInGroupOf_30 F_ML_47_5 (by assumption) rfl ?_
    refine am_aload_n hB d_ML_isInGroupOf_33 rfl rfl rfl ?_
    refine am_getf hB d_ML_isInGroupOf_34 F_ML_47_5 (by assumption) rfl ?_
    refine ai_jne (tgt := 58) hB d_ML_isInGroupOf_37 (by decide) (fun q4 => ?_) (fun q4 => ?_)
    · exact no (by rw [decide_eq_true q2, decide_eq_true q3, decide_eq_false q4]; rfl)
    refine am_aload_n hB d_ML_isInGroupOf_40 rfl rfl rfl ?_
    refine am_getf hB d_ML_isInGroupOf_41 F_ML_23_5 (by assumption) rfl ?_
    refine am_aload_n hB d_ML_isInGroupOf_44 rfl rfl rfl ?_
    refine am_getf hB d_ML_isInGroupOf_45 F_ML_23_5 (by assumption) rfl ?_
    refine am_callV hB hR (as := [.ref b']) rb (m_same s1 s2) c_ML_36 rfl rfl d_ML_isInGroupOf_48 ⟨by decide, Nat.le_of_ble_eq_true rfl⟩ ⟨by decide, by decide⟩ rfl rfl (fun rr hh hp => ?_)
    obtain ⟨rfl, rfl⟩ := hp
    cases e2 : sp_eq g0 f1 t1 g0 f2 t2 with
    | false =>
      show am_Z X 51 [.ref k, .ref k'] [am_n 0] h 0 0
      refine ai_zeq (tgt := 58) hB d_ML_isInGroupOf_51 (by decide) (fun hc => ?_) (fun hc => ?_)
      · exact no (by rw [e2]; simp)
      · omega
    | true =>
      show am_Z X 51 [.ref k, .ref k'] [am_n 1] h 0 0
      refine ai_zeq (tgt := 58) hB d_ML_isInGroupOf_51 (by decide) (fun hc => ?_) (fun hc => ?_)
      · omega
      refine ai_const hB d_ML_isInGroupOf_54 ?_
      refine am_goto (tgt := 59) hB d_ML_isInGroupOf_55 (by decide) ?_
      refine am_iret hB hR d_ML_isInGroupOf_59 rfl (by decide) ?_ (Nat.zero_le _) (Nat.zero_le _)
      rw [decide_eq_true q1, decide_eq_true q2, decide_eq_true q3, decide_eq_true q4, e2]
      exact ⟨rfl, rfl⟩
  · rw [decide_eq_false q1] at no ⊢
    show am_Z X 4 [.ref k, .ref k'] [am_n 0] h 0 0
    refine ai_zeq (tgt := 58) hB d_ML_isInGroupOf_4 (by decide) (fun hc => ?_) (fun hc => ?_)
    · exact no rfl
    · omega
/-- what is read line by line, a Mapping or a Trace: codes' place, here, end, and the rest of its fields -/
abbrev ce_FO (ci c : Nat) (a e : Int) (tl : List Value) : va_E := .inr (ci, .ref c :: am_n a :: am_n e :: tl)
theorem F_FO_9 {ci : Nat} (h : ci = 4 ∨ ci = 9) : am_F "RetraceDesk$Form" 9 ci 0 := by
  rcases h with rfl | rfl
  · exact F_FO_9_4
  · exact F_FO_9_9
theorem F_FO_15 {ci : Nat} (h : ci = 4 ∨ ci = 9) : am_F "RetraceDesk$Form" 15 ci 1 := by
  rcases h with rfl | rfl
  · exact F_FO_15_4
  · exact F_FO_15_9
theorem F_FO_19 {ci : Nat} (h : ci = 4 ∨ ci = 9) : am_F "RetraceDesk$Form" 19 ci 2 := by
  rcases h with rfl | rfl
  · exact F_FO_19_4
  · exact F_FO_19_9
theorem P_FO_15 {ci : Nat} (h : ci = 4 ∨ ci = 9) : am_P "RetraceDesk$Form" 15 ci 1 .int false := by
  rcases h with rfl | rfl
  · exact P_FO_15_4
  · exact P_FO_15_9
theorem P_FO_19 {ci : Nat} (h : ci = 4 ∨ ci = 9) : am_P "RetraceDesk$Form" 19 ci 2 .int false := by
  rcases h with rfl | rfl
  · exact P_FO_19_4
  · exact P_FO_19_9
/-- a form's cell, its codes, and where it stands -/
def am_fo (h : am_H) (k ci c : Nat) (a e : Int) (tl : List Value) (n : Nat) (g : Int → Int) : Prop := (ci = 4 ∨ ci = 9) ∧ h[k]? = some (ce_FO ci c a e tl) ∧ h[c]? = some (am_ia 0 n g) ∧ am_cok g ∧ 0 ≤ a ∧ a ≤ e ∧ e ≤ n ∧ n < 1000000
theorem am_set_same {h : am_H} {k : Nat} {e : va_E} (r : h[k]? = some e) : h.set k e = h := by
  apply List.ext_getElem?
  intro j
  by_cases q : k = j
  · subst q
    rw [List.getElem?_set_self (am_lt r), r]
  · rw [List.getElem?_set_ne q]
theorem m_FO_isDone {l : Launch} {G : am_G} {h : am_H} {k ci c n : Nat} {a e : Int} {tl : List Value} {g : Int → Int} (f : am_fo h k ci c a e tl n g) : am_M l G M_FO_isDone [.ref k] h (am_is (am_n (sp_i (decide (e ≤ a)))) h) := by
  obtain ⟨hci, r, q, hg, h0, h1, h2, h3⟩ := f
  refine am_M.of (by decide) (Nat.le_of_ble_eq_true rfl) (fun X hB hR => ?_)
  show am_Z X 0 [.ref k] [] h 0 0
  refine am_aload_n hB d_FO_isDone_0 rfl rfl rfl ?_
  refine am_getf hB d_FO_isDone_1 (F_FO_15 hci) (by assumption) rfl ?_
  refine am_aload_n hB d_FO_isDone_4 rfl rfl rfl ?_
  refine am_getf hB d_FO_isDone_5 (F_FO_19 hci) (by assumption) rfl ?_
  refine ai_jlt (tgt := 15) hB d_FO_isDone_8 (by decide) (fun hc => ?_) (fun hc => ?_)
  · refine ai_const hB d_FO_isDone_15 ?_
    refine am_iret hB hR d_FO_isDone_16 rfl (by decide) ?_ (Nat.zero_le _) (Nat.zero_le _)
    rw [decide_eq_false (by omega)]
    exact ⟨rfl, rfl⟩
  · refine ai_const hB d_FO_isDone_11 ?_
    refine am_goto (tgt := 16) hB d_FO_isDone_12 (by decide) ?_
    refine am_iret hB hR d_FO_isDone_16 rfl (by decide) ?_ (Nat.zero_le _) (Nat.zero_le _)
    rw [decide_eq_true hc]
    exact ⟨rfl, rfl⟩
theorem m_FO_isAtComment {l : Launch} {G : am_G} {h : am_H} {k ci c n : Nat} {a e : Int} {tl : List Value} {g : Int → Int} (f : am_fo h k ci c a e tl n g) : am_M l G M_FO_isAtComment [.ref k] h (am_is (am_n (sp_i (decide (a < e) && decide (g a = 35)))) h) := by
  obtain ⟨hci, r, q, hg, h0, h1, h2, h3⟩ := f
  refine am_M.of (by decide) (Nat.le_of_ble_eq_true rfl) (fun X hB hR => ?_)
  show am_Z X 0 [.ref k] [] h 0 0
  refine am_aload_n hB d_FO_isAtComment_0 rfl rfl rfl ?_
  refine am_getf hB d_FO_isAtComment_1 (F_FO_15 hci) (by assumption) rfl ?_
  refine am_aload_n hB d_FO_isAtComment_4 rfl rfl rfl ?_
  refine am_getf hB d_FO_isAtComment_5 (F_FO_19 hci) (by assumption) rfl ?_
  refine ai_jge (tgt := 29) hB d_FO_isAtComment_8 (by decide) (fun hc => ?_) (fun hc => ?_)
  · refine ai_const hB d_FO_isAtComment_29 ?_
    refine am_iret hB hR d_FO_isAtComment_30 rfl (by decide) ?_ (Nat.zero_le _) (Nat.zero_le _)
    rw [decide_eq_false (by omega)]
    exact ⟨rfl, rfl⟩
  refine am_aload_n hB d_FO_isAtComment_11 rfl rfl rfl ?_
  refine am_getf hB d_FO_isAtComment_12 (F_FO_9 hci) (by assumption) rfl ?_
  refine am_aload_n hB d_FO_isAtComment_15 rfl rfl rfl ?_
  refine am_getf hB d_FO_isAtComment_16 (F_FO_15 hci) (by assumption) rfl ?_
  refine ai_cald hB d_FO_isAtComment_19 ty_0 (by assumption) ?_
  refine ai_bipush hB d_FO_isAtComment_20 (by decide) ?_
  have z := hg a
  refine ai_jne (tgt := 29) hB d_FO_isAtComment_22 (by decide) (fun hd => ?_) (fun hd => ?_)
  · refine ai_const hB d_FO_isAtComment_29 ?_
    refine am_iret hB hR d_FO_isAtComment_30 rfl (by decide) ?_ (Nat.zero_le _) (Nat.zero_le _)
    rw [decide_eq_false hd, Bool.and_false]
    exact ⟨rfl, rfl⟩
  · refine ai_const hB d_FO_isAtComment_25 ?_
    refine am_goto (tgt := 30) hB d_FO_isAtComment_26 (by decide) ?_
    refine am_iret hB hR d_FO_isAtComment_30 rfl (by decide) ?_ (Nat.zero_le _) (Nat.zero_le _)
    rw [decide_eq_true hc, decide_eq_true hd]
    exact ⟨rfl, rfl⟩
theorem m_FO_isAtFigure {l : Launch} {G : am_G} {h : am_H} {k ci c n : Nat} {a e : Int} {tl : List Value} {g : Int → Int} (f : am_fo h k ci c a e tl n g) : am_M l G M_FO_isAtFigure [.ref k] h (am_is (am_n (sp_i (decide (a < e) && sp_fig (g a)))) h) := by
  obtain ⟨hci, r, q, hg, h0, h1, h2, h3⟩ := f
  refine am_M.of (by decide) (Nat.le_of_ble_eq_true rfl) (fun X hB hR => ?_)
  show am_Z X 0 [.ref k] [] h 0 0
  refine am_aload_n hB d_FO_isAtFigure_0 rfl rfl rfl ?_
  refine am_getf hB d_FO_isAtFigure_1 (F_FO_15 hci) (by assumption) rfl ?_
  refine am_aload_n hB d_FO_isAtFigure_4 rfl rfl rfl ?_
  refine am_getf hB d_FO_isAtFigure_5 (F_FO_19 hci) (by assumption) rfl ?_
  refine ai_jge (tgt := 30) hB d_FO_isAtFigure_8 (by decide) (fun hc => ?_) (fun hc => ?_)
  · refine ai_const hB d_FO_isAtFigure_30 ?_
    refine am_iret hB hR d_FO_isAtFigure_31 rfl (by decide) ?_ (Nat.zero_le _) (Nat.zero_le _)
    rw [decide_eq_false (by omega)]
    exact ⟨rfl, rfl⟩
  refine am_aload_n hB d_FO_isAtFigure_11 rfl rfl rfl ?_
  refine am_getf hB d_FO_isAtFigure_12 (F_FO_9 hci) (by assumption) rfl ?_
  refine am_aload_n hB d_FO_isAtFigure_15 rfl rfl rfl ?_
  refine am_getf hB d_FO_isAtFigure_16 (F_FO_15 hci) (by assumption) rfl ?_
  refine ai_cald hB d_FO_isAtFigure_19 ty_0 (by assumption) ?_
  have z := hg a
  refine am_callN hB hR (as := [am_n (g a)]) (m_isFigure z.1 z.2 h) c_FO_26 rfl rfl d_FO_isAtFigure_20 ⟨by decide, Nat.le_of_ble_eq_true rfl⟩ ⟨by decide, by decide⟩ rfl rfl (fun rr hh hp => ?_)
  obtain ⟨rfl, rfl⟩ := hp
  cases e2 : sp_fig (g a) with
  | false =>
    show am_Z X 23 [.ref k] [am_n 0] h 0 0
    refine ai_zeq (tgt := 30) hB d_FO_isAtFigure_23 (by decide) (fun hd => ?_) (fun hd => ?_)
    · refine ai_const hB d_FO_isAtFigure_30 ?_
      refine am_iret hB hR d_FO_isAtFigure_31 rfl (by decide) ?_ (Nat.zero_le _) (Nat.zero_le _)
      rw [e2, Bool.and_false]
      exact ⟨rfl, rfl⟩
    · omega
  | true =>
    show am_Z X 23 [.ref k] [am_n 1] h 0 0
    refine ai_zeq (tgt := 30) hB d_FO_isAtFigure_23 (by decide) (fun hd => ?_) (fun hd => ?_)
    · omega
    refine ai_const hB d_FO_isAtFigure_26 ?_
    refine am_goto (tgt := 31) hB d_FO_isAtFigure_27 (by decide) ?_
    refine am_iret hB hR d_FO_isAtFigure_31 rfl (by decide) ?_ (Nat.zero_le _) (Nat.zero_le _)
    rw [decide_eq_true hc, e2]
    exact ⟨rfl, rfl⟩
theorem lk_FO_30 : Cond.methodLink "RetraceDesk$Form" 30 M_S_length.1 ∈ am_tbl := tb_458
theorem lk_FO_36 : Cond.methodLink "RetraceDesk$Form" 36 M_S_charAt.1 ∈ am_tbl := tb_468
/-- a word stands there -/
def sp_tw (g : Int → Int) (w : Nat) (a e : Int) : Bool := decide ((am_len.getD w 0 : Nat) ≤ e - a) && sp_same g (sp_ch w) a 0 (am_len.getD w 0)
def sp_th (g : Int → Int) (w : Nat) (a e : Int) : Int := if sp_tw g w a e then a + (am_len.getD w 0 : Nat) else a
theorem m_FO_takeWord {l : Launch} {G : am_G} {h : am_H} {k ci c n w : Nat} {a e : Int} {tl : List Value} {g : Int → Int} (f : am_fo h k ci c a e tl n g) (hw : w < 15) : am_M l G M_FO_takeWord [.ref k, .retAddr w] h (fun r h' => r = some (am_n (sp_i (sp_tw g w a e))) ∧ h' = h.set k (ce_FO ci c (sp_th g w a e) e tl)) := by
  obtain ⟨hci, r, q, hg, h0, h1, h2, h3⟩ := f
  have hl := am_len_lt w hw
  refine am_M.of (by decide) (Nat.le_of_ble_eq_true rfl) (fun X hB hR => ?_)
  show am_Z X 0 [.ref k, .retAddr w, am_u] [] h 0 0
  have no : sp_tw g w a e = false → (some (am_n 0) : Option Value) = some (am_n (sp_i (sp_tw g w a e))) ∧ h = h.set k (ce_FO ci c (sp_th g w a e) e tl) := by
    intro z
    unfold sp_th
    rw [z]
    exact ⟨rfl, (am_set_same r).symm⟩
  have loop : ∀ (m : Nat) (i : Int), 0 ≤ i → i + m = (am_len.getD w 0 : Nat) → ((am_len.getD w 0 : Nat) : Int) ≤ e - a → sp_same g (sp_ch w) a 0 (am_len.getD w 0) = sp_same g (sp_ch w) (a + i) i m → am_Z X 20 [.ref k, .retAddr w, am_n i] [] h 0 0 := by
    intro m
    induction m with
    | zero =>
      intro i hi hm hq hs
      refine am_iload_n hB d_FO_takeWord_20 rfl rfl ?_
      refine am_aload_n hB d_FO_takeWord_21 rfl rfl rfl ?_
      refine am_callX hB hR (as := []) hw (m_S_length hw h) (cX_length lk_FO_30) rfl rfl d_FO_takeWord_22 ⟨by decide, Nat.le_of_ble_eq_true rfl⟩ ⟨by decide, by decide⟩ rfl rfl (fun rr hh hp => ?_)
      obtain ⟨rfl, rfl⟩ := hp
      refine ai_jge (tgt := 55) hB d_FO_takeWord_25 (by decide) (fun hc => ?_) (fun hc => ?_)
      · refine am_aload_n hB d_FO_takeWord_55 rfl rfl rfl ?_
        refine am_dup hB d_FO_takeWord_56 rfl ?_
        refine am_getf hB d_FO_takeWord_57 (F_FO_15 hci) (by assumption) rfl ?_
        refine am_aload_n hB d_FO_takeWord_60 rfl rfl rfl ?_
        refine am_callX hB hR (as := []) hw (m_S_length hw h) (cX_length lk_FO_30) rfl rfl d_FO_takeWord_61 ⟨by decide, Nat.le_of_ble_eq_true rfl⟩ ⟨by decide, by decide⟩ rfl rfl (fun rr hh hp => ?_)
        obtain ⟨rfl, rfl⟩ := hp
        refine ai_add hB d_FO_takeWord_64 ?_
        refine am_putf hB d_FO_takeWord_65 (P_FO_15 hci) r (by simp) am_fit.i rfl ?_
        refine ai_const hB d_FO_takeWord_68 ?_
        refine am_iret hB hR d_FO_takeWord_69 rfl (by decide) ?_ (Nat.zero_le _) (Nat.zero_le _)
        have z : sp_tw g w a e = true := by
          unfold sp_tw
          rw [hs, decide_eq_true hq]
          rfl
        unfold sp_th
        rw [z]
        exact ⟨rfl, rfl⟩
      · omega
    | succ m ih =>
      intro i hi hm hq hs
      refine am_iload_n hB d_FO_takeWord_20 rfl rfl ?_
      refine am_aload_n hB d_FO_takeWord_21 rfl rfl rfl ?_
      refine am_callX hB hR (as := []) hw (m_S_length hw h) (cX_length lk_FO_30) rfl rfl d_FO_takeWord_22 ⟨by decide, Nat.le_of_ble_eq_true rfl⟩ ⟨by decide, by decide⟩ rfl rfl (fun rr hh hp => ?_)
      obtain ⟨rfl, rfl⟩ := hp
      refine ai_jge (tgt := 55) hB d_FO_takeWord_25 (by decide) (fun hc => ?_) (fun hc => ?_)
      · omega
      refine am_aload_n hB d_FO_takeWord_28 rfl rfl rfl ?_
      refine am_getf hB d_FO_takeWord_29 (F_FO_9 hci) (by assumption) rfl ?_
      refine am_aload_n hB d_FO_takeWord_32 rfl rfl rfl ?_
      refine am_getf hB d_FO_takeWord_33 (F_FO_15 hci) (by assumption) rfl ?_
      refine am_iload_n hB d_FO_takeWord_36 rfl rfl ?_
      refine ai_add hB d_FO_takeWord_37 ?_
      refine ai_cald hB d_FO_takeWord_38 ty_0 (by assumption) ?_
      refine am_aload_n hB d_FO_takeWord_39 rfl rfl rfl ?_
      refine am_iload_n hB d_FO_takeWord_40 rfl rfl ?_
      refine am_callX hB hR (as := [am_n i]) hw (m_S_charAt hw hi (by omega) h) (cX_charAt lk_FO_36) rfl rfl d_FO_takeWord_41 ⟨by decide, Nat.le_of_ble_eq_true rfl⟩ ⟨by decide, by decide⟩ rfl rfl (fun rr hh hp => ?_)
      obtain ⟨rfl, rfl⟩ := hp
      obtain ⟨c1, c2, -⟩ := sp_ch_is hw hi (show i < (am_len.getD w 0 : Nat) by omega)
      have z := hg (a + i)
      refine ai_jeq (tgt := 49) hB d_FO_takeWord_44 (by decide) (fun hd => ?_) (fun hd => ?_)
      · refine ai_inc hB d_FO_takeWord_49 rfl (by rw [hR.nL]; decide) rfl ?_
        refine am_goto (tgt := 20) hB d_FO_takeWord_52 (by decide) (ih (i + 1) (by omega) (by omega) hq ?_)
        rw [hs, sp_same, decide_eq_true hd, Bool.true_and]
        congr 1
        omega
      · refine ai_const hB d_FO_takeWord_47 ?_
        refine am_iret hB hR d_FO_takeWord_48 rfl (by decide) ?_ (Nat.zero_le _) (Nat.zero_le _)
        refine no ?_
        unfold sp_tw
        rw [hs, sp_same, decide_eq_false hd, Bool.false_and, Bool.and_false]
  refine am_aload_n hB d_FO_takeWord_0 rfl rfl rfl ?_
  refine am_callX hB hR (as := []) hw (m_S_length hw h) (cX_length lk_FO_30) rfl rfl d_FO_takeWord_1 ⟨by decide, Nat.le_of_ble_eq_true rfl⟩ ⟨by decide, by decide⟩ rfl rfl (fun rr hh hp => ?_)
  obtain ⟨rfl, rfl⟩ := hp
  refine am_aload_n hB d_FO_takeWord_4 rfl rfl rfl ?_
  refine am_getf hB d_FO_takeWord_5 (F_FO_19 hci) (by assumption) rfl ?_
  refine am_aload_n hB d_FO_takeWord_8 rfl rfl rfl ?_
  refine am_getf hB d_FO_takeWord_9 (F_FO_15 hci) (by assumption) rfl ?_
  refine ai_sub hB d_FO_takeWord_12 ?_
  refine ai_jle (tgt := 18) hB d_FO_takeWord_13 (by decide) (fun hc => ?_) (fun hc => ?_)
  · refine ai_const hB d_FO_takeWord_18 ?_
    refine am_istore_n hB d_FO_takeWord_19 rfl (by rw [hR.nL]; decide) rfl ?_
    exact loop (am_len.getD w 0) 0 (by omega) (by omega) hc (by congr 1; omega)
  · refine ai_const hB d_FO_takeWord_16 ?_
    refine am_iret hB hR d_FO_takeWord_17 rfl (by decide) ?_ (Nat.zero_le _) (Nat.zero_le _)
    refine no ?_
    unfold sp_tw
    rw [decide_eq_false (by omega), Bool.false_and]
theorem m_FO_takeRest {l : Launch} {G : am_G} {h : am_H} {k ci c n z zc : Nat} {a e zf zt : Int} {tl : List Value} {g : Int → Int} (f : am_fo h k ci c a e tl n g) (rz : h[z]? = some (ce_SL zc zf zt)) : am_M l G M_FO_takeRest [.ref k, .ref z] h (fun r h' => r = none ∧ h' = (h.set z (ce_SL zc a e)).set k (ce_FO ci c e e tl)) := by
  obtain ⟨hci, r, q, hg, h0, h1, h2, h3⟩ := f
  have hne : z ≠ k := am_ne rz r (fun w => by rcases hci with rfl | rfl <;> cases w)
  refine am_M.of (by decide) (Nat.le_of_ble_eq_true rfl) (fun X hB hR => ?_)
  show am_Z X 0 [.ref k, .ref z] [] h 0 0
  refine am_aload_n hB d_FO_takeRest_0 rfl rfl rfl ?_
  refine am_aload_n hB d_FO_takeRest_1 rfl rfl rfl ?_
  refine am_getf hB d_FO_takeRest_2 (F_FO_15 hci) (by assumption) rfl ?_
  refine am_aload_n hB d_FO_takeRest_5 rfl rfl rfl ?_
  refine am_getf hB d_FO_takeRest_6 (F_FO_19 hci) (by assumption) rfl ?_
  refine am_callV hB hR (as := [am_n a, am_n e]) rz (m_SL_set rz) c_FO_46 rfl rfl d_FO_takeRest_9 ⟨by decide, Nat.le_of_ble_eq_true rfl⟩ ⟨by decide, by decide⟩ rfl rfl (fun rr hh hp => ?_)
  obtain ⟨rfl, rfl⟩ := hp
  refine am_aload_n hB d_FO_takeRest_12 rfl rfl rfl ?_
  refine am_aload_n hB d_FO_takeRest_13 rfl rfl rfl ?_
  refine am_getf hB d_FO_takeRest_14 (F_FO_19 hci) (am_rn hne r) rfl ?_
  refine am_putf hB d_FO_takeRest_17 (P_FO_15 hci) (am_rn hne r) (by simp) am_fit.i rfl ?_
  refine am_vret hB hR d_FO_takeRest_20 rfl ?_ (Nat.zero_le _) (Nat.zero_le _)
  exact ⟨rfl, rfl⟩
