/-! the model reads lines of a trace -/
def mo_tq (U U' : mv) : Prop := mo_q U U' ∧ (U'.classes_ = U.classes_ ∧ U'.realFrom_ = U.realFrom_ ∧ U'.realTo_ = U.realTo_ ∧ U'.shortFrom_ = U.shortFrom_ ∧ U'.shortTo_ = U.shortTo_ ∧ U'.methods_ = U.methods_ ∧ U'.groups_ = U.groups_ ∧ U'.ownFrom_ = U.ownFrom_ ∧ U'.ownTo_ = U.ownTo_ ∧ U'.callFrom_ = U.callFrom_ ∧ U'.callTo_ = U.callTo_ ∧ U'.nickFrom_ = U.nickFrom_ ∧ U'.nickTo_ = U.nickTo_ ∧ U'.low_ = U.low_ ∧ U'.high_ = U.high_ ∧ U'.first_ = U.first_ ∧ U'.last_ = U.last_ ∧ U'.classOf_ = U.classOf_ ∧ U'.groupOf_ = U.groupOf_)
theorem mo_tq.rf (U : mv) : mo_tq U U := ⟨mo_q.rf U, rfl, rfl, rfl, rfl, rfl, rfl, rfl, rfl, rfl, rfl, rfl, rfl, rfl, rfl, rfl, rfl, rfl, rfl, rfl⟩
theorem mo_tq.tr {U U' U'' : mv} (x : mo_tq U U') (y : mo_tq U' U'') : mo_tq U U'' := by
  obtain ⟨x0, x1, x2, x3, x4, x5, x6, x7, x8, x9, x10, x11, x12, x13, x14, x15, x16, x17, x18, x19⟩ := x
  obtain ⟨y0, y1, y2, y3, y4, y5, y6, y7, y8, y9, y10, y11, y12, y13, y14, y15, y16, y17, y18, y19⟩ := y
  exact ⟨x0.tr y0, y1.trans x1, y2.trans x2, y3.trans x3, y4.trans x4, y5.trans x5, y6.trans x6, y7.trans x7, y8.trans x8, y9.trans x9, y10.trans x10, y11.trans x11, y12.trans x12, y13.trans x13, y14.trans x14, y15.trans x15, y16.trans x16, y17.trans x17, y18.trans x18, y19.trans x19⟩
theorem mo_map.tq {U U' : mv} {S : pm_S} (mp : mo_map U S) (t : mo_tq U U') : mo_map U' S := by
  obtain ⟨m1, m2, m3, m4, m5, m6, m7⟩ := mp
  obtain ⟨x0, x1, x2, x3, x4, x5, x6, x7, x8, x9, x10, x11, x12, x13, x14, x15, x16, x17, x18, x19⟩ := t
  have qa := x0.1.2.2.1
  refine ⟨x1.trans m1, m2, x6.trans m3, m4, x7.trans m5, fun i c hc => ?_, fun i x hx => ?_⟩
  · have := m6 i c hc
    unfold mo_C at this ⊢
    rw [qa, x2, x3, x4, x5]
    exact this
  · have := m7 i x hx
    unfold mo_L at this ⊢
    rw [qa, x8, x9, x10, x11, x12, x13, x14, x15, x16, x17, x18, x19]
    exact this
def mo_te (U U' : mv) (n : Nat) : Prop := ∀ i : Int, i ≠ n → U'.kind_ i = U.kind_ i ∧ U'.lineFrom_ i = U.lineFrom_ i ∧ U'.lineTo_ i = U.lineTo_ i ∧ U'.nameFrom_ i = U.nameFrom_ i ∧ U'.nameTo_ i = U.nameTo_ i ∧ U'.methodFrom_ i = U.methodFrom_ i ∧ U'.fileFrom_ i = U.fileFrom_ i ∧ U'.fileTo_ i = U.fileTo_ i ∧ U'.number_ i = U.number_ i
def mo_t (U U' : mv) (n : Nat) : Prop := mo_tq U U' ∧ U'.lines_ = U.lines_ ∧ mo_te U U' n
theorem mo_t.rf (U : mv) (n : Nat) : mo_t U U n := ⟨mo_tq.rf U, rfl, fun i _ => ⟨rfl, rfl, rfl, rfl, rfl, rfl, rfl, rfl, rfl⟩⟩
theorem mo_t.tr {U U' U'' : mv} {n : Nat} (x : mo_t U U' n) (y : mo_t U' U'' n) : mo_t U U'' n := by
  obtain ⟨x1, x2, x3⟩ := x
  obtain ⟨y1, y2, y3⟩ := y
  refine ⟨x1.tr y1, y2.trans x2, fun i hi => ?_⟩
  obtain ⟨a0, a1, a2, a3, a4, a5, a6, a7, a8⟩ := x3 i hi
  obtain ⟨b0, b1, b2, b3, b4, b5, b6, b7, b8⟩ := y3 i hi
  exact ⟨b0.trans a0, b1.trans a1, b2.trans a2, b3.trans a3, b4.trans a4, b5.trans a5, b6.trans a6, b7.trans a7, b8.trans a8⟩
theorem mo_t_kind (U : mv) (n : Nat) (v : Int) : mo_t U (mv.s_kind U (am_up U.kind_ n v)) n := ⟨mo_tq.rf U, rfl, fun i hi => ⟨am_up_ne _ _ hi, rfl, rfl, rfl, rfl, rfl, rfl, rfl, rfl⟩⟩
theorem mo_t_lineFrom (U : mv) (n : Nat) (v : Int) : mo_t U (mv.s_lineFrom U (am_up U.lineFrom_ n v)) n := ⟨mo_tq.rf U, rfl, fun i hi => ⟨rfl, am_up_ne _ _ hi, rfl, rfl, rfl, rfl, rfl, rfl, rfl⟩⟩
theorem mo_t_lineTo (U : mv) (n : Nat) (v : Int) : mo_t U (mv.s_lineTo U (am_up U.lineTo_ n v)) n := ⟨mo_tq.rf U, rfl, fun i hi => ⟨rfl, rfl, am_up_ne _ _ hi, rfl, rfl, rfl, rfl, rfl, rfl⟩⟩
theorem mo_t_nameFrom (U : mv) (n : Nat) (v : Int) : mo_t U (mv.s_nameFrom U (am_up U.nameFrom_ n v)) n := ⟨mo_tq.rf U, rfl, fun i hi => ⟨rfl, rfl, rfl, am_up_ne _ _ hi, rfl, rfl, rfl, rfl, rfl⟩⟩
theorem mo_t_nameTo (U : mv) (n : Nat) (v : Int) : mo_t U (mv.s_nameTo U (am_up U.nameTo_ n v)) n := ⟨mo_tq.rf U, rfl, fun i hi => ⟨rfl, rfl, rfl, rfl, am_up_ne _ _ hi, rfl, rfl, rfl, rfl⟩⟩
theorem mo_t_methodFrom (U : mv) (n : Nat) (v : Int) : mo_t U (mv.s_methodFrom U (am_up U.methodFrom_ n v)) n := ⟨mo_tq.rf U, rfl, fun i hi => ⟨rfl, rfl, rfl, rfl, rfl, am_up_ne _ _ hi, rfl, rfl, rfl⟩⟩
theorem mo_t_fileFrom (U : mv) (n : Nat) (v : Int) : mo_t U (mv.s_fileFrom U (am_up U.fileFrom_ n v)) n := ⟨mo_tq.rf U, rfl, fun i hi => ⟨rfl, rfl, rfl, rfl, rfl, rfl, am_up_ne _ _ hi, rfl, rfl⟩⟩
theorem mo_t_fileTo (U : mv) (n : Nat) (v : Int) : mo_t U (mv.s_fileTo U (am_up U.fileTo_ n v)) n := ⟨mo_tq.rf U, rfl, fun i hi => ⟨rfl, rfl, rfl, rfl, rfl, rfl, rfl, am_up_ne _ _ hi, rfl⟩⟩
theorem mo_t_number (U : mv) (n : Nat) (v : Int) : mo_t U (mv.s_number U (am_up U.number_ n v)) n := ⟨mo_tq.rf U, rfl, fun i hi => ⟨rfl, rfl, rfl, rfl, rfl, rfl, rfl, rfl, am_up_ne _ _ hi⟩⟩
theorem mo_t_sc (U : mv) (n : Nat) (v p lp : Int) : mo_t U (mv.s_lastPart (mv.s_parts (mv.s_value U (v)) (p)) (lp)) n := ⟨mo_tq.rf U, rfl, fun i _ => ⟨rfl, rfl, rfl, rfl, rfl, rfl, rfl, rfl, rfl⟩⟩
theorem mo_t_v (U : mv) (n : Nat) (v : Int) : mo_t U (mv.s_value U (v)) n := ⟨mo_tq.rf U, rfl, fun i _ => ⟨rfl, rfl, rfl, rfl, rfl, rfl, rfl, rfl, rfl⟩⟩
theorem mo_t_p (U : mv) (n : Nat) (p lp : Int) : mo_t U (mv.s_lastPart (mv.s_parts U (p)) (lp)) n := ⟨mo_tq.rf U, rfl, fun i _ => ⟨rfl, rfl, rfl, rfl, rfl, rfl, rfl, rfl, rfl⟩⟩
theorem m_MO_header {l : Launch} {G : am_G} {hA : am_H} {m n : Nat} {U : mv} {a e : Int} (M : am_mo hA m U) (hg : am_cok U.all_) (hn : U.lines_ = n) (h32 : n < 32) (h0 : 0 ≤ a) (hae : a ≤ e) (h2 : e ≤ 1200) : am_M l G M_MO_header [.ref m, am_n a, am_n e] hA (fun r h' => ∃ U', am_mo h' m U' ∧ mo_t U U' n ∧ ko m 35 hA h' ∧ U'.nameFrom_ n = a ∧ (match sp_hd U.all_ a e with
    | none => r = some (am_n 0)
    | some x => r = some (am_n 1) ∧ U'.nameTo_ n = x.1)) := by
  refine am_M.of (by decide) (Nat.le_of_ble_eq_true rfl) (fun X hB hR => ?_)
  show am_Z X 0 [.ref m, am_n a, am_n e, am_u] [] hA 0 0
  refine am_aload_n hB d_MO_header_0 rfl rfl rfl ?_
  refine am_iload_n hB d_MO_header_1 rfl rfl ?_
  refine am_iload_n hB d_MO_header_2 rfl rfl ?_
  refine am_callV hB hR (as := [am_n a, am_n e]) M.1 (m_MO_nameEnd M hg h0 hae h2) c_MO_142 rfl rfl d_MO_header_3 ⟨by decide, Nat.le_of_ble_eq_true rfl⟩ ⟨by decide, by decide⟩ rfl rfl (fun rr h hp => ?_)
  obtain ⟨p, lp, rfl, M, f, np⟩ := hp
  show am_Z X 6 [.ref m, am_n a, am_n e, am_u] [am_n ((sp_take U.all_ 40 40 a e).getD (-1))] h 0 0
  have tin : -1 ≤ (sp_take U.all_ 40 40 a e).getD (-1) ∧ (sp_take U.all_ 40 40 a e).getD (-1) ≤ e := by
    cases z : sp_take U.all_ 40 40 a e with
    | none => exact ⟨by decide, by show -1 ≤ e; omega⟩
    | some j => have := sp_take_in hae z; exact ⟨by show -1 ≤ j; omega, by show j ≤ e; omega⟩
  generalize hk : (sp_take U.all_ 40 40 a e).getD (-1) = k at tin
  refine am_istore_n hB d_MO_header_6 rfl (by rw [hR.nL]; decide) rfl ?_
  refine am_aload_n hB d_MO_header_7 rfl rfl rfl ?_
  refine am_getf hB d_MO_header_8 F_MO_76_11 M.1 rfl ?_
  refine am_aload_n hB d_MO_header_11 rfl rfl rfl ?_
  refine am_getf hB d_MO_header_12 F_MO_203_11 M.1 rfl ?_
  show am_Z X 15 [.ref m, am_n a, am_n e, am_n k] [am_n U.lines_, .ref (m + 23)] h 0 0
  rw [hn]
  refine am_iload_n hB d_MO_header_15 rfl rfl ?_
  refine mo_s_nameFrom hB d_MO_header_16 M f (fun h M f => ?_)
  refine am_aload_n hB d_MO_header_17 rfl rfl rfl ?_
  refine am_getf hB d_MO_header_18 F_MO_79_11 M.1 rfl ?_
  refine am_aload_n hB d_MO_header_21 rfl rfl rfl ?_
  refine am_getf hB d_MO_header_22 F_MO_203_11 M.1 rfl ?_
  show am_Z X 25 [.ref m, am_n a, am_n e, am_n k] [am_n U.lines_, .ref (m + 24)] h 0 0
  rw [hn]
  refine am_iload_n hB d_MO_header_25 rfl rfl ?_
  refine mo_s_nameTo hB d_MO_header_26 M f (fun h M f => ?_)
  refine am_iload_n hB d_MO_header_27 rfl rfl ?_
  have M : am_mo h m (mv.s_nameTo (mv.s_nameFrom (mv.s_lastPart (mv.s_parts U (p)) (lp)) (am_up U.nameFrom_ n a)) (am_up U.nameTo_ n k)) := M
  have u_0 := ((mo_t_p U n p lp).tr (mo_t_nameFrom _ n a)).tr (mo_t_nameTo _ n k)
  have u : mo_t U (mv.s_nameTo (mv.s_nameFrom (mv.s_lastPart (mv.s_parts U (p)) (lp)) (am_up U.nameFrom_ n a)) (am_up U.nameTo_ n k)) n := u_0
  have no : sp_hd U.all_ a e = none → am_Z X 53 [.ref m, am_n a, am_n e, am_n k] [] h 0 0 := by
    intro hz
    refine ai_const hB d_MO_header_53 ?_
    refine am_iret hB hR d_MO_header_54 rfl (by decide) ?_ (Nat.zero_le _) (Nat.zero_le _)
    rw [hz]
    exact ⟨_, M, u, f, am_up_eq _ _ _, rfl⟩
  cases e1 : sp_take U.all_ 40 40 a e with
  | none =>
    rw [e1] at hk
    have hk : -1 = k := hk
    refine ai_zlt (tgt := 53) hB d_MO_header_28 (by decide) (fun c1 => ?_) (fun c1 => ?_)
    · exact no (by unfold sp_hd; rw [e1])
    · omega
  | some j =>
    rw [e1] at hk
    have hk : j = k := hk
    subst hk
    have hj := sp_take_in hae e1
    have yes : ∀ x, sp_hd U.all_ a e = some x → x.1 = j → am_Z X 49 [.ref m, am_n a, am_n e, am_n j] [] h 0 0 := by
      intro x hz hx
      refine ai_const hB d_MO_header_49 ?_
      refine am_goto (tgt := 54) hB d_MO_header_50 (by decide) ?_
      refine am_iret hB hR d_MO_header_54 rfl (by decide) ?_ (Nat.zero_le _) (Nat.zero_le _)
      rw [hz]
      exact ⟨_, M, u, f, am_up_eq _ _ _, rfl, (am_up_eq _ _ _).trans hx.symm⟩
    refine ai_zlt (tgt := 53) hB d_MO_header_28 (by decide) (fun c1 => ?_) (fun c1 => ?_)
    · omega
    refine am_iload_n hB d_MO_header_31 rfl rfl ?_
    refine am_iload_n hB d_MO_header_32 rfl rfl ?_
    refine ai_jeq (tgt := 49) hB d_MO_header_33 (by decide) (fun c2 => ?_) (fun c2 => ?_)
    · have t4 : sp_tw U.all_ 4 j e = false := by
        cases z : sp_tw U.all_ 4 j e with
        | false => rfl
        | true =>
          have : j + 2 ≤ e := sp_tw_le z
          omega
      exact yes (j, false, j) (by unfold sp_hd; rw [e1]; simp only [t4]; rw [if_neg (by decide), if_pos (by omega)]) rfl
    refine am_aload_n hB d_MO_header_36 rfl rfl rfl ?_
    refine am_iload_n hB d_MO_header_37 rfl rfl ?_
    refine am_iload_n hB d_MO_header_38 rfl rfl ?_
    refine am_ldc2 hB d_MO_header_39 J_MO_206 ?_
    refine ai_const hB d_MO_header_42 ?_
    refine am_callV hB hR (as := [am_n j, am_n e, .long 14880, am_n (2 : Nat)]) M.1 (m_MO_stands (n := 2) M hg (by omega) (by omega) (by omega) (by omega) (by omega)) c_MO_150 rfl rfl d_MO_header_43 ⟨by decide, Nat.le_of_ble_eq_true rfl⟩ ⟨by decide, by decide⟩ rfl rfl (fun rr h hp => ?_)
    obtain ⟨rfl, rfl⟩ := hp
    show am_Z X 46 [.ref m, am_n a, am_n e, am_n j] [am_n (sp_i (sp_st U.all_ 14880 2 j e))] h 0 0
    rw [st_msg, decide_eq_true (show 0 ≤ j by omega), Bool.true_and]
    cases t4 : sp_tw U.all_ 4 j e with
    | false =>
      show am_Z X 46 [.ref m, am_n a, am_n e, am_n j] [am_n 0] h 0 0
      refine ai_zeq (tgt := 53) hB d_MO_header_46 (by decide) (fun c3 => ?_) (fun c3 => ?_)
      · exact no (by unfold sp_hd; rw [e1]; simp only [t4]; rw [if_neg (by decide), if_neg (by omega)])
      · omega
    | true =>
      show am_Z X 46 [.ref m, am_n a, am_n e, am_n j] [am_n 1] h 0 0
      refine ai_zeq (tgt := 53) hB d_MO_header_46 (by decide) (fun c3 => ?_) (fun c3 => ?_)
      · omega
      · exact yes (j, true, j + 2) (by unfold sp_hd; rw [e1]; simp only [t4, if_true]) rfl
theorem m_MO_moreLine {l : Launch} {G : am_G} {hA : am_H} {m : Nat} (n : Nat) {U : mv} {a e : Int} (M : am_mo hA m U) (hg : am_cok U.all_) (h0 : 0 ≤ a) (hae : a ≤ e) (h2 : e ≤ 1200) : am_M l G M_MO_moreLine [.ref m, am_n a, am_n e] hA (fun r h' => ∃ U', am_mo h' m U' ∧ mo_t U U' n ∧ ko m 35 hA h' ∧ r = some (am_n (sp_i (sp_more U.all_ a e).isSome))) := by
  refine am_M.of (by decide) (Nat.le_of_ble_eq_true rfl) (fun X hB hR => ?_)
  show am_Z X 0 [.ref m, am_n a, am_n e, am_u] [] hA 0 0
  have no : ∀ (k : Int) (U' : mv) (h1 : am_H), sp_more U.all_ a e = none → mo_t U U' n → am_mo h1 m U' → ko m 35 hA h1 → am_Z X 54 [.ref m, am_n a, am_n e, am_n k] [] h1 0 0 := by
    intro k U' h1 hz u M f
    refine ai_const hB d_MO_moreLine_54 ?_
    refine am_iret hB hR d_MO_moreLine_55 rfl (by decide) ?_ (Nat.zero_le _) (Nat.zero_le _)
    rw [hz]
    exact ⟨U', M, u, f, rfl⟩
  refine am_aload_n hB d_MO_moreLine_0 rfl rfl rfl ?_
  refine am_iload_n hB d_MO_moreLine_1 rfl rfl ?_
  refine am_iload_n hB d_MO_moreLine_2 rfl rfl ?_
  refine am_ldc2 hB d_MO_moreLine_3 J_MO_208 ?_
  refine ai_const hB d_MO_moreLine_6 ?_
  refine am_callV hB hR (as := [am_n a, am_n e, .long 39429484064, am_n (5 : Nat)]) M.1 (m_MO_stands (n := 5) M hg (by omega) (by omega) (by omega) (by omega) (by omega)) c_MO_150 rfl rfl d_MO_moreLine_7 ⟨by decide, Nat.le_of_ble_eq_true rfl⟩ ⟨by decide, by decide⟩ rfl rfl (fun rr h hp => ?_)
  obtain ⟨rfl, rfl⟩ := hp
  show am_Z X 10 [.ref m, am_n a, am_n e, am_u] [am_n (sp_i (sp_st U.all_ 39429484064 5 a e))] hA 0 0
  rw [st_more, decide_eq_true h0, Bool.true_and]
  cases q : sp_tw U.all_ 6 a e with
  | false =>
    have hz : sp_more U.all_ a e = none := by
      unfold sp_more
      rw [q]
      rfl
    show am_Z X 10 [.ref m, am_n a, am_n e, am_u] [am_n 0] hA 0 0
    refine ai_zeq (tgt := 24) hB d_MO_moreLine_10 (by decide) (fun c1 => ?_) (fun c1 => ?_)
    rotate_left
    · omega
    refine ai_const hB d_MO_moreLine_24 ?_
    refine am_istore_n hB d_MO_moreLine_25 rfl (by rw [hR.nL]; decide) rfl ?_
    refine am_iload_n hB d_MO_moreLine_26 rfl rfl ?_
    refine ai_zlt (tgt := 54) hB d_MO_moreLine_27 (by decide) (fun c2 => ?_) (fun c2 => ?_)
    · exact no (-1) U hA hz (mo_t.rf U n) M ko.rf
    · omega
  | true =>
    have h5 : a + 5 ≤ e := sp_tw_le q
    have hm : sp_more U.all_ a e = if sp_nv U.all_ (a + 5) e ≠ -1 ∧ sp_tw U.all_ 7 (sp_ni U.all_ (a + 5) e) e = true ∧ e ≤ sp_ni U.all_ (a + 5) e + 5 then some (sp_nv U.all_ (a + 5) e) else none := by
      unfold sp_more
      rw [q]
      rfl
    show am_Z X 10 [.ref m, am_n a, am_n e, am_u] [am_n 1] hA 0 0
    refine ai_zeq (tgt := 24) hB d_MO_moreLine_10 (by decide) (fun c1 => ?_) (fun c1 => ?_)
    · omega
    refine am_aload_n hB d_MO_moreLine_13 rfl rfl rfl ?_
    refine am_iload_n hB d_MO_moreLine_14 rfl rfl ?_
    refine ai_const hB d_MO_moreLine_15 ?_
    refine ai_add hB d_MO_moreLine_16 ?_
    refine am_iload_n hB d_MO_moreLine_17 rfl rfl ?_
    refine am_callV hB hR (as := [am_n (a + 5), am_n e]) M.1 (m_MO_numberEnd M hg (by omega) h5 h2) c_MO_160 rfl rfl d_MO_moreLine_18 ⟨by decide, Nat.le_of_ble_eq_true rfl⟩ ⟨by decide, by decide⟩ rfl rfl (fun rr h hp => ?_)
    obtain ⟨v, rfl, M, f, v1, v2⟩ := hp
    have u : mo_t U (mv.s_value U (v)) n := mo_t_v U n v
    show am_Z X 21 [.ref m, am_n a, am_n e, am_u] [am_n (nuE U.all_ (a + 5) e)] h 0 0
    refine am_goto (tgt := 25) hB d_MO_moreLine_21 (by decide) ?_
    refine am_istore_n hB d_MO_moreLine_25 rfl (by rw [hR.nL]; decide) rfl ?_
    refine am_iload_n hB d_MO_moreLine_26 rfl rfl ?_
    rcases nu_cases U.all_ h5 with ⟨o1, o2, o3, o4⟩ | ⟨v', i, o1, o2, o3, o4, o5, o6, o7, o8⟩
    · rw [o2]
      refine ai_zlt (tgt := 54) hB d_MO_moreLine_27 (by decide) (fun c2 => ?_) (fun c2 => ?_)
      · exact no (-1) _ h (by rw [hm, if_neg (fun z => z.1 o3)]) u M f
      · omega
    · rw [o2]
      rw [o3, o4] at hm
      refine ai_zlt (tgt := 54) hB d_MO_moreLine_27 (by decide) (fun c2 => ?_) (fun c2 => ?_)
      · omega
      refine am_iload_n hB d_MO_moreLine_30 rfl rfl ?_
      refine ai_const hB d_MO_moreLine_31 ?_
      refine ai_add hB d_MO_moreLine_32 ?_
      refine am_iload_n hB d_MO_moreLine_33 rfl rfl ?_
      refine ai_jne (tgt := 54) hB d_MO_moreLine_34 (by decide) (fun c3 => ?_) (fun c3 => ?_)
      · refine no i _ h ?_ u M f
        rw [hm, if_neg (fun z => c3 (by have : i + 5 ≤ e := sp_tw_le z.2.1; omega))]
      refine am_aload_n hB d_MO_moreLine_37 rfl rfl rfl ?_
      refine am_iload_n hB d_MO_moreLine_38 rfl rfl ?_
      refine am_iload_n hB d_MO_moreLine_39 rfl rfl ?_
      refine am_ldc2 hB d_MO_moreLine_40 J_MO_210 ?_
      refine ai_const hB d_MO_moreLine_43 ?_
      refine am_callV hB hR (as := [am_n i, am_n e, .long 139274973797, am_n (5 : Nat)]) M.1 (m_MO_stands (n := 5) M hg (by omega) (by omega) (by omega) (by omega) (by omega)) c_MO_150 rfl rfl d_MO_moreLine_44 ⟨by decide, Nat.le_of_ble_eq_true rfl⟩ ⟨by decide, by decide⟩ rfl rfl (fun rr h hp => ?_)
      obtain ⟨rfl, rfl⟩ := hp
      show am_Z X 47 [.ref m, am_n a, am_n e, am_n i] [am_n (sp_i (sp_st U.all_ 139274973797 5 i e))] h 0 0
      rw [st_moreEnd, decide_eq_true (show 0 ≤ i by omega), Bool.true_and]
      cases q2 : sp_tw U.all_ 7 i e with
      | false =>
        show am_Z X 47 [.ref m, am_n a, am_n e, am_n i] [am_n 0] h 0 0
        refine ai_zeq (tgt := 54) hB d_MO_moreLine_47 (by decide) (fun c4 => ?_) (fun c4 => ?_)
        · exact no i _ h (by rw [hm, if_neg (fun z => by rw [q2] at z; cases z.2.1)]) u M f
        · omega
      | true =>
        show am_Z X 47 [.ref m, am_n a, am_n e, am_n i] [am_n 1] h 0 0
        refine ai_zeq (tgt := 54) hB d_MO_moreLine_47 (by decide) (fun c4 => ?_) (fun c4 => ?_)
        · omega
        refine ai_const hB d_MO_moreLine_50 ?_
        refine am_goto (tgt := 55) hB d_MO_moreLine_51 (by decide) ?_
        refine am_iret hB hR d_MO_moreLine_55 rfl (by decide) ?_ (Nat.zero_le _) (Nat.zero_le _)
        rw [hm, if_pos ⟨by omega, q2, by omega⟩]
        exact ⟨_, M, u, f, rfl⟩
