/-! the model reads a frame line, and tells lines apart -/
/-- where the pieces of a frame line stand: the call's last point, its end, the file's end, the line -/
def fr_ps (g : Int → Int) (a e : Int) : Option (Int × Int × Int × Int) := if sp_tw g 5 a e = true then (match sp_take g 40 40 (a + 4) e with
  | none => none
  | some j => if sp_lp g (a + 4) (j - (a + 4)).toNat = -1 then none else if j + 1 < e ∧ g j = 40 ∧ g (e - 1) = 41 then (match pr_pl g (j + 1) (e - 1) with
    | none => none
    | some (k, ln) => some (sp_lp g (a + 4) (j - (a + 4)).toNat, j, k, ln)) else none) else none
theorem m_MO_frame {l : Launch} {G : am_G} {hA : am_H} {m n : Nat} {U : mv} {a e : Int} (M : am_mo hA m U) (hg : am_cok U.all_) (hn : U.lines_ = n) (h32 : n < 32) (h0 : 0 ≤ a) (hae : a ≤ e) (h2 : e ≤ 1200) : am_M l G M_MO_frame [.ref m, am_n a, am_n e] hA (fun r h' => ∃ U', am_mo h' m U' ∧ mo_t U U' n ∧ ko m 35 hA h' ∧ (match fr_ps U.all_ a e with
    | none => r = some (am_n 0)
    | some (p, j, k, ln) => r = some (am_n 1) ∧ U'.nameFrom_ n = a + 4 ∧ U'.nameTo_ n = j ∧ U'.methodFrom_ n = p + 1 ∧ U'.fileFrom_ n = j + 1 ∧ U'.fileTo_ n = k ∧ U'.number_ n = ln)) := by
  have f : ko m 35 hA hA := ko.rf
  refine am_M.of (by decide) (Nat.le_of_ble_eq_true rfl) (fun X hB hR => ?_)
  show am_Z X 0 [.ref m, am_n a, am_n e, am_u] [] hA 0 0
  have no : ∀ (k : Int) (U' : mv) (h1 : am_H), fr_ps U.all_ a e = none → mo_t U U' n → am_mo h1 m U' → ko m 35 hA h1 → am_Z X 67 [.ref m, am_n a, am_n e, am_n k] [] h1 0 0 := by
    intro k U' h1 hz u M f
    refine ai_const hB d_MO_frame_67 ?_
    refine am_iret hB hR d_MO_frame_68 rfl (by decide) ?_ (Nat.zero_le _) (Nat.zero_le _)
    rw [hz]
    exact ⟨U', M, u, f, rfl⟩
  refine am_aload_n hB d_MO_frame_0 rfl rfl rfl ?_
  refine am_iload_n hB d_MO_frame_1 rfl rfl ?_
  refine am_iload_n hB d_MO_frame_2 rfl rfl ?_
  refine am_ldc2 hB d_MO_frame_3 J_MO_223 ?_
  refine ai_const hB d_MO_frame_6 ?_
  refine am_callV hB hR (as := [am_n a, am_n e, .long 157381664, am_n (4 : Nat)]) M.1 (m_MO_stands (n := 4) M hg (by omega) (by omega) (by omega) (by omega) (by omega)) c_MO_150 rfl rfl d_MO_frame_7 ⟨by decide, Nat.le_of_ble_eq_true rfl⟩ ⟨by decide, by decide⟩ rfl rfl (fun rr h hp => ?_)
  obtain ⟨rfl, rfl⟩ := hp
  show am_Z X 10 [.ref m, am_n a, am_n e, am_u] [am_n (sp_i (sp_st U.all_ 157381664 4 a e))] hA 0 0
  rw [st_at, decide_eq_true h0, Bool.true_and]
  cases q : sp_tw U.all_ 5 a e with
  | false =>
    show am_Z X 10 [.ref m, am_n a, am_n e, am_u] [am_n 0] hA 0 0
    refine ai_zeq (tgt := 24) hB d_MO_frame_10 (by decide) (fun c1 => ?_) (fun c1 => ?_)
    rotate_left
    · omega
    refine ai_const hB d_MO_frame_24 ?_
    refine am_istore_n hB d_MO_frame_25 rfl (by rw [hR.nL]; decide) rfl ?_
    refine am_iload_n hB d_MO_frame_26 rfl rfl ?_
    refine ai_zlt (tgt := 67) hB d_MO_frame_27 (by decide) (fun c2 => ?_) (fun c2 => ?_)
    · exact no (-1) U hA (by unfold fr_ps; rw [q]; rfl) (mo_t.rf U n) M f
    · omega
  | true =>
    have h4 : a + 4 ≤ e := sp_tw_le q
    show am_Z X 10 [.ref m, am_n a, am_n e, am_u] [am_n 1] hA 0 0
    refine ai_zeq (tgt := 24) hB d_MO_frame_10 (by decide) (fun c1 => ?_) (fun c1 => ?_)
    · omega
    refine am_aload_n hB d_MO_frame_13 rfl rfl rfl ?_
    refine am_iload_n hB d_MO_frame_14 rfl rfl ?_
    refine ai_const hB d_MO_frame_15 ?_
    refine ai_add hB d_MO_frame_16 ?_
    refine am_iload_n hB d_MO_frame_17 rfl rfl ?_
    refine am_callV hB hR (as := [am_n (a + 4), am_n e]) M.1 (m_MO_nameEnd M hg (by omega) h4 h2) c_MO_142 rfl rfl d_MO_frame_18 ⟨by decide, Nat.le_of_ble_eq_true rfl⟩ ⟨by decide, by decide⟩ rfl rfl (fun rr h hp => ?_)
    obtain ⟨p, lp, rfl, M, f, np⟩ := hp
    have u : mo_t U (mv.s_lastPart (mv.s_parts U (p)) (lp)) n := mo_t_p U n p lp
    show am_Z X 21 [.ref m, am_n a, am_n e, am_u] [am_n ((sp_take U.all_ 40 40 (a + 4) e).getD (-1))] h 0 0
    cases e1 : sp_take U.all_ 40 40 (a + 4) e with
    | none =>
      show am_Z X 21 [.ref m, am_n a, am_n e, am_u] [am_n (-1)] h 0 0
      refine am_goto (tgt := 25) hB d_MO_frame_21 (by decide) ?_
      refine am_istore_n hB d_MO_frame_25 rfl (by rw [hR.nL]; decide) rfl ?_
      refine am_iload_n hB d_MO_frame_26 rfl rfl ?_
      refine ai_zlt (tgt := 67) hB d_MO_frame_27 (by decide) (fun c2 => ?_) (fun c2 => ?_)
      · exact no (-1) _ h (by unfold fr_ps; rw [q, if_pos rfl, e1]) u M f
      · omega
    | some j =>
      have hj := sp_take_in h4 e1
      obtain ⟨np1, np2, np3⟩ := np j e1
      have hgj := hg j
      have hge := hg (e - 1)
      have hps : fr_ps U.all_ a e = if sp_lp U.all_ (a + 4) (j - (a + 4)).toNat = -1 then none else if j + 1 < e ∧ U.all_ j = 40 ∧ U.all_ (e - 1) = 41 then (match pr_pl U.all_ (j + 1) (e - 1) with
          | none => none
          | some (k, ln) => some (sp_lp U.all_ (a + 4) (j - (a + 4)).toNat, j, k, ln)) else none := by
        unfold fr_ps
        rw [q, if_pos rfl, e1]
      show am_Z X 21 [.ref m, am_n a, am_n e, am_u] [am_n j] h 0 0
      refine am_goto (tgt := 25) hB d_MO_frame_21 (by decide) ?_
      refine am_istore_n hB d_MO_frame_25 rfl (by rw [hR.nL]; decide) rfl ?_
      refine am_iload_n hB d_MO_frame_26 rfl rfl ?_
      refine ai_zlt (tgt := 67) hB d_MO_frame_27 (by decide) (fun c2 => ?_) (fun c2 => ?_)
      · omega
      refine am_aload_n hB d_MO_frame_30 rfl rfl rfl ?_
      refine am_getf hB d_MO_frame_31 F_MO_129_11 M.1 rfl ?_
      refine ai_const hB d_MO_frame_34 ?_
      show am_Z X 35 [.ref m, am_n a, am_n e, am_n j] [am_n 2, am_n p] h 0 0
      refine ai_jlt (tgt := 67) hB d_MO_frame_35 (by decide) (fun c3 => ?_) (fun c3 => ?_)
      · exact no j _ h (by rw [hps, if_pos (np3.mp (by omega))]) u M f
      have hlp : sp_lp U.all_ (a + 4) (j - (a + 4)).toNat ≠ -1 := fun z => by have := np3.mpr z; omega
      rw [if_neg hlp] at hps
      refine am_iload_n hB d_MO_frame_38 rfl rfl ?_
      refine am_iload_n hB d_MO_frame_39 rfl rfl ?_
      refine ai_jge (tgt := 67) hB d_MO_frame_40 (by decide) (fun c4 => ?_) (fun c4 => ?_)
      · exact no j _ h (by rw [hps, if_neg (by omega)]) u M f
      refine am_aload_n hB d_MO_frame_43 rfl rfl rfl ?_
      refine am_getf hB d_MO_frame_44 F_MO_13_11 M.1 rfl ?_
      refine am_iload_n hB d_MO_frame_47 rfl rfl ?_
      refine ai_iald hB d_MO_frame_48 ty_1 M.all ?_
      refine ai_bipush hB d_MO_frame_49 (by decide) ?_
      show am_Z X 51 [.ref m, am_n a, am_n e, am_n j] [am_n 40, am_n (U.all_ j)] h 0 0
      refine ai_jne (tgt := 67) hB d_MO_frame_51 (by decide) (fun c5 => ?_) (fun c5 => ?_)
      · exact no j _ h (by rw [hps, if_neg (fun z => c5 z.2.1)]) u M f
      refine am_aload_n hB d_MO_frame_54 rfl rfl rfl ?_
      refine am_getf hB d_MO_frame_55 F_MO_13_11 M.1 rfl ?_
      refine am_iload_n hB d_MO_frame_58 rfl rfl ?_
      refine ai_const hB d_MO_frame_59 ?_
      refine ai_sub hB d_MO_frame_60 ?_
      refine ai_iald hB d_MO_frame_61 ty_1 M.all ?_
      refine ai_bipush hB d_MO_frame_62 (by decide) ?_
      show am_Z X 64 [.ref m, am_n a, am_n e, am_n j] [am_n 41, am_n (U.all_ (e - 1))] h 0 0
      refine ai_jeq (tgt := 69) hB d_MO_frame_64 (by decide) (fun c6 => ?_) (fun c6 => ?_)
      rotate_left
      · exact no j _ h (by rw [hps, if_neg (fun z => c6 z.2.2)]) u M f
      have hje : j + 1 < e := by
        rcases Int.lt_or_le (j + 1) e with z | z
        · exact z
        · have : e - 1 = j := by omega
          rw [this, c5] at c6
          omega
      rw [if_pos ⟨hje, c5, c6⟩] at hps
      have hmf : sp_mf U.all_ (a + 4) j = sp_lp U.all_ (a + 4) (j - (a + 4)).toNat + 1 := if_neg hlp
      rw [hmf] at np1
      refine am_aload_n hB d_MO_frame_69 rfl rfl rfl ?_
      refine am_getf hB d_MO_frame_70 F_MO_76_11 M.1 rfl ?_
      refine am_aload_n hB d_MO_frame_73 rfl rfl rfl ?_
      refine am_getf hB d_MO_frame_74 F_MO_203_11 M.1 rfl ?_
      show am_Z X 77 [.ref m, am_n a, am_n e, am_n j] [am_n U.lines_, .ref (m + 23)] h 0 0
      rw [hn]
      refine am_iload_n hB d_MO_frame_77 rfl rfl ?_
      refine ai_const hB d_MO_frame_78 ?_
      refine ai_add hB d_MO_frame_79 ?_
      refine mo_s_nameFrom hB d_MO_frame_80 M f (fun h M f => ?_)
      refine am_aload_n hB d_MO_frame_81 rfl rfl rfl ?_
      refine am_getf hB d_MO_frame_82 F_MO_79_11 M.1 rfl ?_
      refine am_aload_n hB d_MO_frame_85 rfl rfl rfl ?_
      refine am_getf hB d_MO_frame_86 F_MO_203_11 M.1 rfl ?_
      show am_Z X 89 [.ref m, am_n a, am_n e, am_n j] [am_n U.lines_, .ref (m + 24)] h 0 0
      rw [hn]
      refine am_iload_n hB d_MO_frame_89 rfl rfl ?_
      refine mo_s_nameTo hB d_MO_frame_90 M f (fun h M f => ?_)
      refine am_aload_n hB d_MO_frame_91 rfl rfl rfl ?_
      refine am_getf hB d_MO_frame_92 F_MO_82_11 M.1 rfl ?_
      refine am_aload_n hB d_MO_frame_95 rfl rfl rfl ?_
      refine am_getf hB d_MO_frame_96 F_MO_203_11 M.1 rfl ?_
      show am_Z X 99 [.ref m, am_n a, am_n e, am_n j] [am_n U.lines_, .ref (m + 25)] h 0 0
      rw [hn]
      refine am_aload_n hB d_MO_frame_99 rfl rfl rfl ?_
      refine am_getf hB d_MO_frame_100 F_MO_132_11 M.1 rfl ?_
      refine mo_s_methodFrom hB d_MO_frame_103 M f (fun h M f => ?_)
      refine am_aload_n hB d_MO_frame_104 rfl rfl rfl ?_
      refine am_iload_n hB d_MO_frame_105 rfl rfl ?_
      refine ai_const hB d_MO_frame_106 ?_
      refine ai_add hB d_MO_frame_107 ?_
      refine am_iload_n hB d_MO_frame_108 rfl rfl ?_
      refine ai_const hB d_MO_frame_109 ?_
      refine ai_sub hB d_MO_frame_110 ?_
      have M : am_mo h m (mv.s_methodFrom (mv.s_nameTo (mv.s_nameFrom (mv.s_lastPart (mv.s_parts U (p)) (lp)) (am_up U.nameFrom_ n (a + 4))) (am_up U.nameTo_ n j)) (am_up U.methodFrom_ n lp)) := M
      have u_0 := ((u.tr (mo_t_nameFrom _ n (a + 4))).tr (mo_t_nameTo _ n j)).tr (mo_t_methodFrom _ n lp)
      have u : mo_t U (mv.s_methodFrom (mv.s_nameTo (mv.s_nameFrom (mv.s_lastPart (mv.s_parts U (p)) (lp)) (am_up U.nameFrom_ n (a + 4))) (am_up U.nameTo_ n j)) (am_up U.methodFrom_ n lp)) n := u_0
      refine am_callV hB hR (as := [am_n (j + 1), am_n (e - 1)]) M.1 (m_MO_place (n := n) M hg hn h32 (by omega) (by omega) (by omega)) c_MO_225 rfl rfl d_MO_frame_111 ⟨by decide, Nat.le_of_ble_eq_true rfl⟩ ⟨by decide, by decide⟩ rfl rfl (fun rr h hp => ?_)
      obtain ⟨U2, M, u2, f2, ⟨n1, n2, n3⟩, p2⟩ := hp
      have f := f.tr f2
      have n1 : U2.nameFrom_ n = a + 4 := n1.trans (am_up_eq _ _ _)
      have n2 : U2.nameTo_ n = j := n2.trans (am_up_eq _ _ _)
      have n3 : U2.methodFrom_ n = lp := n3.trans (am_up_eq _ _ _)
      change (match pr_pl U.all_ (j + 1) (e - 1) with
        | none => rr = some (am_n 0)
        | some x => rr = some (am_n 1) ∧ U2.fileFrom_ n = j + 1 ∧ U2.fileTo_ n = x.1 ∧ U2.number_ n = x.2) at p2
      cases e2 : pr_pl U.all_ (j + 1) (e - 1) with
      | none =>
        have p2 : rr = some (am_n 0) := by
          have := p2
          rw [e2] at this
          exact this
        subst p2
        show am_Z X 114 [.ref m, am_n a, am_n e, am_n j] [am_n 0] h 0 0
        refine am_iret hB hR d_MO_frame_114 rfl (by decide) ?_ (Nat.zero_le _) (Nat.zero_le _)
        rw [hps, e2]
        exact ⟨U2, M, u.tr u2, f, rfl⟩
      | some x =>
        obtain ⟨k, ln⟩ := x
        have p2 : rr = some (am_n 1) ∧ U2.fileFrom_ n = j + 1 ∧ U2.fileTo_ n = k ∧ U2.number_ n = ln := by
          have := p2
          rw [e2] at this
          exact this
        obtain ⟨rfl, p3, p4, p5⟩ := p2
        show am_Z X 114 [.ref m, am_n a, am_n e, am_n j] [am_n 1] h 0 0
        refine am_iret hB hR d_MO_frame_114 rfl (by decide) ?_ (Nat.zero_le _) (Nat.zero_le _)
        rw [hps, e2]
        exact ⟨U2, M, u.tr u2, f, rfl, n1, n2, n3.trans np1, p3, p4, p5⟩
/-- a line's kind, as the model tells it; may: 0 ahead of the first header, 1 behind a header or a frame, 2 behind a line with more -/
def ln_kd (g : Int → Int) (a e may : Int) : Int := if may = 0 then (if (sp_hd g a e).isSome = true then 0 else -1) else if sp_tw g 3 a e = true then (if (sp_hd g (a + 11) e).isSome = true then 1 else -1) else if may = 1 ∧ (fr_ps g a e).isSome = true then 2 else if may = 1 ∧ (sp_more g a e).isSome = true then 3 else -1
def ln_ps (g : Int → Int) (a e : Int) (U : mv) (n : Nat) : Int → Prop := fun k => if k = 0 then (∃ x, sp_hd g a e = some x ∧ U.nameFrom_ n = a ∧ U.nameTo_ n = x.1) else if k = 1 then (∃ x, sp_hd g (a + 11) e = some x ∧ U.nameFrom_ n = a + 11 ∧ U.nameTo_ n = x.1) else if k = 2 then (∃ p j q ln, fr_ps g a e = some (p, j, q, ln) ∧ U.nameFrom_ n = a + 4 ∧ U.nameTo_ n = j ∧ U.methodFrom_ n = p + 1 ∧ U.fileFrom_ n = j + 1 ∧ U.fileTo_ n = q ∧ U.number_ n = ln) else True
theorem m_MO_lineKind {l : Launch} {G : am_G} {hA : am_H} {m n : Nat} {U : mv} {a e may : Int} (M : am_mo hA m U) (hg : am_cok U.all_) (hn : U.lines_ = n) (h32 : n < 32) (h0 : 0 ≤ a) (hae : a ≤ e) (h2 : e ≤ 1200) (hmay : 0 ≤ may ∧ may ≤ 2) : am_M l G M_MO_lineKind [.ref m, am_n a, am_n e, am_n may] hA (fun r h' => ∃ U', am_mo h' m U' ∧ mo_t U U' n ∧ ko m 35 hA h' ∧ r = some (am_n (ln_kd U.all_ a e may)) ∧ ln_ps U.all_ a e U' n (ln_kd U.all_ a e may)) := by
  have f : ko m 35 hA hA := ko.rf
  refine am_M.of (by decide) (Nat.le_of_ble_eq_true rfl) (fun X hB hR => ?_)
  show am_Z X 0 [.ref m, am_n a, am_n e, am_n may] [] hA 0 0
  refine am_iload_n hB d_MO_lineKind_0 rfl rfl ?_
  refine ai_zne (tgt := 19) hB d_MO_lineKind_1 (by decide) (fun c1 => ?_) (fun c1 => ?_)
  rotate_left
  · refine am_aload_n hB d_MO_lineKind_4 rfl rfl rfl ?_
    refine am_iload_n hB d_MO_lineKind_5 rfl rfl ?_
    refine am_iload_n hB d_MO_lineKind_6 rfl rfl ?_
    refine am_callV hB hR (as := [am_n a, am_n e]) M.1 (m_MO_header M hg hn h32 h0 hae h2) c_MO_228 rfl rfl d_MO_lineKind_7 ⟨by decide, Nat.le_of_ble_eq_true rfl⟩ ⟨by decide, by decide⟩ rfl rfl (fun rr h hp => ?_)
    obtain ⟨U1, M, u, f, n1, p1⟩ := hp
    cases e1 : sp_hd U.all_ a e with
    | none =>
      rw [e1] at p1
      have hk : ln_kd U.all_ a e may = -1 := by
        unfold ln_kd
        rw [if_pos c1, e1]
        rfl
      simp only at p1
      subst p1
      show am_Z X 10 [.ref m, am_n a, am_n e, am_n may] [am_n 0] h 0 0
      refine ai_zeq (tgt := 17) hB d_MO_lineKind_10 (by decide) (fun c2 => ?_) (fun c2 => ?_)
      rotate_left
      · omega
      refine ai_const hB d_MO_lineKind_17 ?_
      refine am_iret hB hR d_MO_lineKind_18 rfl rfl ?_ (Nat.zero_le _) (Nat.zero_le _)
      rw [hk]
      exact ⟨U1, M, u, f, rfl, trivial⟩
    | some x =>
      rw [e1] at p1
      have hk : ln_kd U.all_ a e may = 0 := by
        unfold ln_kd
        rw [if_pos c1, e1]
        rfl
      obtain ⟨rfl, p1⟩ := p1
      show am_Z X 10 [.ref m, am_n a, am_n e, am_n may] [am_n 1] h 0 0
      refine ai_zeq (tgt := 17) hB d_MO_lineKind_10 (by decide) (fun c2 => ?_) (fun c2 => ?_)
      · omega
      refine ai_const hB d_MO_lineKind_13 ?_
      refine am_goto (tgt := 18) hB d_MO_lineKind_14 (by decide) ?_
      refine am_iret hB hR d_MO_lineKind_18 rfl rfl ?_ (Nat.zero_le _) (Nat.zero_le _)
      rw [hk]
      exact ⟨U1, M, u, f, rfl, x, e1, n1, p1⟩
  have F : sp_tw U.all_ 3 a e = false → ∀ (U1 : mv) (h1 : am_H), am_mo h1 m U1 → mo_t U U1 n → ko m 35 hA h1 → am_Z X 67 [.ref m, am_n a, am_n e, am_n may] [] h1 0 0 := by
    intro hz U1 h1 M u f
    have qa := u.1.1.1.2.2.1
    have hg1 : am_cok U1.all_ := by rw [qa]; exact hg
    have last : (¬ (may = 1 ∧ (fr_ps U.all_ a e).isSome = true)) → ∀ (U1 : mv) (h1 : am_H), am_mo h1 m U1 → mo_t U U1 n → ko m 35 hA h1 → am_Z X 83 [.ref m, am_n a, am_n e, am_n may] [] h1 0 0 := by
      intro nf U1 h1 M u f
      have qa := u.1.1.1.2.2.1
      have hg1 : am_cok U1.all_ := by rw [qa]; exact hg
      have hk : ln_kd U.all_ a e may = if may = 1 ∧ (sp_more U.all_ a e).isSome = true then 3 else -1 := by
        unfold ln_kd
        rw [if_neg c1, hz, if_neg (by decide), if_neg nf]
      refine am_iload_n hB d_MO_lineKind_83 rfl rfl ?_
      refine ai_const hB d_MO_lineKind_84 ?_
      refine ai_jne (tgt := 101) hB d_MO_lineKind_85 (by decide) (fun c5 => ?_) (fun c5 => ?_)
      · rw [if_neg (fun z => c5 z.1)] at hk
        refine ai_const hB d_MO_lineKind_101 ?_
        refine am_iret hB hR d_MO_lineKind_102 rfl rfl ?_ (Nat.zero_le _) (Nat.zero_le _)
        rw [hk]
        exact ⟨U1, M, u, f, rfl, trivial⟩
      refine am_aload_n hB d_MO_lineKind_88 rfl rfl rfl ?_
      refine am_iload_n hB d_MO_lineKind_89 rfl rfl ?_
      refine am_iload_n hB d_MO_lineKind_90 rfl rfl ?_
      refine am_callV hB hR (as := [am_n a, am_n e]) M.1 (m_MO_moreLine n M hg1 h0 hae h2) c_MO_238 rfl rfl d_MO_lineKind_91 ⟨by decide, Nat.le_of_ble_eq_true rfl⟩ ⟨by decide, by decide⟩ rfl rfl (fun rr h hp => ?_)
      obtain ⟨U2, M, u2, f2, rfl⟩ := hp
      show am_Z X 94 [.ref m, am_n a, am_n e, am_n may] [am_n (sp_i (sp_more U1.all_ a e).isSome)] h 0 0
      rw [qa]
      cases q : (sp_more U.all_ a e).isSome with
      | false =>
        rw [q, if_neg (fun z => by cases z.2)] at hk
        show am_Z X 94 [.ref m, am_n a, am_n e, am_n may] [am_n 0] h 0 0
        refine ai_zeq (tgt := 101) hB d_MO_lineKind_94 (by decide) (fun c6 => ?_) (fun c6 => ?_)
        rotate_left
        · omega
        refine ai_const hB d_MO_lineKind_101 ?_
        refine am_iret hB hR d_MO_lineKind_102 rfl rfl ?_ (Nat.zero_le _) (Nat.zero_le _)
        rw [hk]
        exact ⟨U2, M, u.tr u2, f.tr f2, rfl, trivial⟩
      | true =>
        rw [q, if_pos ⟨c5, rfl⟩] at hk
        show am_Z X 94 [.ref m, am_n a, am_n e, am_n may] [am_n 1] h 0 0
        refine ai_zeq (tgt := 101) hB d_MO_lineKind_94 (by decide) (fun c6 => ?_) (fun c6 => ?_)
        · omega
        refine ai_const hB d_MO_lineKind_97 ?_
        refine am_goto (tgt := 102) hB d_MO_lineKind_98 (by decide) ?_
        refine am_iret hB hR d_MO_lineKind_102 rfl rfl ?_ (Nat.zero_le _) (Nat.zero_le _)
        rw [hk]
        exact ⟨U2, M, u.tr u2, f.tr f2, rfl, trivial⟩
    refine am_iload_n hB d_MO_lineKind_67 rfl rfl ?_
    refine ai_const hB d_MO_lineKind_68 ?_
    refine ai_jne (tgt := 83) hB d_MO_lineKind_69 (by decide) (fun c3 => ?_) (fun c3 => ?_)
    · exact last (fun z => c3 z.1) U1 h1 M u f
    refine am_aload_n hB d_MO_lineKind_72 rfl rfl rfl ?_
    refine am_iload_n hB d_MO_lineKind_73 rfl rfl ?_
    refine am_iload_n hB d_MO_lineKind_74 rfl rfl ?_
    refine am_callV hB hR (as := [am_n a, am_n e]) M.1 (m_MO_frame (n := n) M hg1 (u.2.1.trans hn) h32 h0 hae h2) c_MO_235 rfl rfl d_MO_lineKind_75 ⟨by decide, Nat.le_of_ble_eq_true rfl⟩ ⟨by decide, by decide⟩ rfl rfl (fun rr h hp => ?_)
    obtain ⟨U2, M, u2, f2, p2⟩ := hp
    rw [qa] at p2
    cases e2 : fr_ps U.all_ a e with
    | none =>
      rw [e2] at p2
      simp only at p2
      subst p2
      show am_Z X 78 [.ref m, am_n a, am_n e, am_n may] [am_n 0] h 0 0
      refine ai_zeq (tgt := 83) hB d_MO_lineKind_78 (by decide) (fun c4 => ?_) (fun c4 => ?_)
      · exact last (fun z => by rw [e2] at z; cases z.2) U2 h M (u.tr u2) (f.tr f2)
      · omega
    | some x =>
      obtain ⟨p, j, k, ln⟩ := x
      rw [e2] at p2
      have hk : ln_kd U.all_ a e may = 2 := by
        unfold ln_kd
        rw [if_neg c1, hz, if_neg (by decide), if_pos ⟨c3, by rw [e2]; rfl⟩]
      obtain ⟨rfl, p3⟩ := p2
      show am_Z X 78 [.ref m, am_n a, am_n e, am_n may] [am_n 1] h 0 0
      refine ai_zeq (tgt := 83) hB d_MO_lineKind_78 (by decide) (fun c4 => ?_) (fun c4 => ?_)
      · omega
      refine ai_const hB d_MO_lineKind_81 ?_
      refine am_iret hB hR d_MO_lineKind_82 rfl rfl ?_ (Nat.zero_le _) (Nat.zero_le _)
      rw [hk]
      exact ⟨U2, M, u.tr u2, f.tr f2, rfl, p, j, k, ln, e2, p3⟩
  have hcz := st_caused (g := U.all_) (e := e) h0
  refine am_aload_n hB d_MO_lineKind_19 rfl rfl rfl ?_
  refine am_iload_n hB d_MO_lineKind_20 rfl rfl ?_
  refine am_iload_n hB d_MO_lineKind_21 rfl rfl ?_
  refine am_ldc2 hB d_MO_lineKind_22 J_MO_231 ?_
  refine ai_bipush hB d_MO_lineKind_25 (by decide) ?_
  refine am_callV hB hR (as := [am_n a, am_n e, .long 4855291011764854882, am_n (8 : Nat)]) M.1 (m_MO_stands (n := 8) M hg (by omega) (by omega) (by omega) (by omega) (by omega)) c_MO_150 rfl rfl d_MO_lineKind_27 ⟨by decide, Nat.le_of_ble_eq_true rfl⟩ ⟨by decide, by decide⟩ rfl rfl (fun rr h hp => ?_)
  obtain ⟨rfl, rfl⟩ := hp
  show am_Z X 30 [.ref m, am_n a, am_n e, am_n may] [am_n (sp_i (sp_st U.all_ 4855291011764854882 8 a e))] hA 0 0
  cases q : sp_st U.all_ 4855291011764854882 8 a e with
  | false =>
    rw [q, Bool.false_and] at hcz
    show am_Z X 30 [.ref m, am_n a, am_n e, am_n may] [am_n 0] hA 0 0
    refine ai_zeq (tgt := 67) hB d_MO_lineKind_30 (by decide) (fun c2 => ?_) (fun c2 => ?_)
    · exact F hcz.symm U hA M (mo_t.rf U n) f
    · omega
  | true =>
    rw [q, Bool.true_and] at hcz
    have h8 : a + 8 ≤ e := by
      unfold sp_st at q
      rw [Bool.and_eq_true, decide_eq_true_eq] at q
      have := q.1.2
      omega
    show am_Z X 30 [.ref m, am_n a, am_n e, am_n may] [am_n 1] hA 0 0
    refine ai_zeq (tgt := 67) hB d_MO_lineKind_30 (by decide) (fun c2 => ?_) (fun c2 => ?_)
    · omega
    refine am_aload_n hB d_MO_lineKind_33 rfl rfl rfl ?_
    refine am_iload_n hB d_MO_lineKind_34 rfl rfl ?_
    refine ai_bipush hB d_MO_lineKind_35 (by decide) ?_
    refine ai_add hB d_MO_lineKind_37 ?_
    refine am_iload_n hB d_MO_lineKind_38 rfl rfl ?_
    refine am_ldc2 hB d_MO_lineKind_39 J_MO_233 ?_
    refine ai_const hB d_MO_lineKind_42 ?_
    refine am_callV hB hR (as := [am_n (a + 8), am_n e, .long 7944736, am_n (3 : Nat)]) M.1 (m_MO_stands (n := 3) M hg (by omega) (by omega) (by omega) (by omega) (by omega)) c_MO_150 rfl rfl d_MO_lineKind_43 ⟨by decide, Nat.le_of_ble_eq_true rfl⟩ ⟨by decide, by decide⟩ rfl rfl (fun rr h hp => ?_)
    obtain ⟨rfl, rfl⟩ := hp
    show am_Z X 46 [.ref m, am_n a, am_n e, am_n may] [am_n (sp_i (sp_st U.all_ 7944736 3 (a + 8) e))] hA 0 0
    cases q2 : sp_st U.all_ 7944736 3 (a + 8) e with
    | false =>
      have hcz : sp_tw U.all_ 3 a e = false := hcz.symm.trans q2
      show am_Z X 46 [.ref m, am_n a, am_n e, am_n may] [am_n 0] hA 0 0
      refine ai_zeq (tgt := 67) hB d_MO_lineKind_46 (by decide) (fun c3 => ?_) (fun c3 => ?_)
      · exact F hcz U hA M (mo_t.rf U n) f
      · omega
    | true =>
      have hcz : sp_tw U.all_ 3 a e = true := hcz.symm.trans q2
      have h11 : a + 11 ≤ e := sp_tw_le hcz
      show am_Z X 46 [.ref m, am_n a, am_n e, am_n may] [am_n 1] hA 0 0
      refine ai_zeq (tgt := 67) hB d_MO_lineKind_46 (by decide) (fun c3 => ?_) (fun c3 => ?_)
      · omega
      refine am_aload_n hB d_MO_lineKind_49 rfl rfl rfl ?_
      refine am_iload_n hB d_MO_lineKind_50 rfl rfl ?_
      refine ai_bipush hB d_MO_lineKind_51 (by decide) ?_
      refine ai_add hB d_MO_lineKind_53 ?_
      refine am_iload_n hB d_MO_lineKind_54 rfl rfl ?_
      refine am_callV hB hR (as := [am_n (a + 11), am_n e]) M.1 (m_MO_header M hg hn h32 (by omega) h11 h2) c_MO_228 rfl rfl d_MO_lineKind_55 ⟨by decide, Nat.le_of_ble_eq_true rfl⟩ ⟨by decide, by decide⟩ rfl rfl (fun rr h hp => ?_)
      obtain ⟨U1, M, u, f, n1, p1⟩ := hp
      cases e1 : sp_hd U.all_ (a + 11) e with
      | none =>
        rw [e1] at p1
        have hk : ln_kd U.all_ a e may = -1 := by
          unfold ln_kd
          rw [if_neg c1, if_pos hcz, e1]
          rfl
        simp only at p1
        subst p1
        show am_Z X 58 [.ref m, am_n a, am_n e, am_n may] [am_n 0] h 0 0
        refine ai_zeq (tgt := 65) hB d_MO_lineKind_58 (by decide) (fun c4 => ?_) (fun c4 => ?_)
        rotate_left
        · omega
        refine ai_const hB d_MO_lineKind_65 ?_
        refine am_iret hB hR d_MO_lineKind_66 rfl rfl ?_ (Nat.zero_le _) (Nat.zero_le _)
        rw [hk]
        exact ⟨U1, M, u, f, rfl, trivial⟩
      | some x =>
        rw [e1] at p1
        have hk : ln_kd U.all_ a e may = 1 := by
          unfold ln_kd
          rw [if_neg c1, if_pos hcz, e1]
          rfl
        obtain ⟨rfl, p1⟩ := p1
        show am_Z X 58 [.ref m, am_n a, am_n e, am_n may] [am_n 1] h 0 0
        refine ai_zeq (tgt := 65) hB d_MO_lineKind_58 (by decide) (fun c4 => ?_) (fun c4 => ?_)
        · omega
        refine ai_const hB d_MO_lineKind_61 ?_
        refine am_goto (tgt := 66) hB d_MO_lineKind_62 (by decide) ?_
        refine am_iret hB hR d_MO_lineKind_66 rfl rfl ?_ (Nat.zero_le _) (Nat.zero_le _)
        rw [hk]
        exact ⟨U1, M, u, f, rfl, x, e1, n1, p1⟩
