/-! the model rewrites -/
theorem mo_map.all {U : mv} {S : pm_S} {g : Int → Int} (mp : mo_map U S) (hg : ∀ j, 0 ≤ j → j < 600 → g j = U.all_ j) : mo_map (mv.s_all U (g)) S := by
  obtain ⟨m1, m2, m3, m4, m5, m6, m7⟩ := mp
  have hn : ∀ a b : Int, 0 ≤ a → b ≤ 600 → nm g a b = nm U.all_ a b := fun a b h0 h1 => nm_cg (fun i x y => by rw [Int.add_zero]; exact hg i (by omega) (by omega))
  refine ⟨m1, m2, m3, m4, m5, fun i c hc => ?_, fun i x hx => ?_⟩
  · obtain ⟨q1, q2, q3, q4⟩ := m6 i c hc
    exact ⟨q1, q2, (hn _ _ q1.1 q1.2.2).trans q3, (hn _ _ q2.1 q2.2.2).trans q4⟩
  · obtain ⟨⟨r1, r2, r3⟩, ⟨n1, n2, n3⟩, q⟩ := m7 i x hx
    exact ⟨⟨r1, r2, r3⟩, ⟨(hn _ _ r1.1 r1.2.2).trans n1, (hn _ _ r2.1 r2.2.2).trans n2, (hn _ _ r3.1 r3.2.2).trans n3⟩, q⟩
/-- the model's text of a trace -/
theorem trace_parse {g : Int → Int} {dr : List Int} (h : ∀ k : Int, 0 ≤ k → k < dr.length → g (600 + k) = dr.getD k.toNat 0) (hne : dr.length ≠ 0) : pm_run (pt_step g) g (tr_end g dr.length) (tr_end g dr.length - 600 + 1).toNat 600 1 ([], []) = pt_parse (cut dr) := by
  have he : tr_end g dr.length = ((cut dr).length : Int) + 600 := by
    unfold tr_end
    have hl := h ((dr.length : Int) - 1) (by omega) (by omega)
    have cs := cut_size (dr := dr) (g := fun i => g (600 + i)) (fun j hj => by
      have := h j (by omega) (by omega)
      rw [show ((j : Int)).toNat = j by omega] at this
      exact this)
    rw [show (600 : Int) + ((dr.length : Int) - 1) = 599 + dr.length by omega] at cs
    by_cases c : 0 < (dr.length : Int) ∧ g (599 + dr.length) = 10
    · rw [if_pos c]
      rw [if_pos c] at cs
      omega
    · rw [if_neg c]
      rw [if_neg c] at cs
      omega
  have hcl := cut_len dr
  have ag : sp_ag g (fl (cut dr)) 600 0 (cut dr).length := fun i h1 h2 => by
    have := h i h1 (by omega)
    rw [show i + 600 = 600 + i by omega, this, ← cut_get (dr := dr) (j := i.toNat) (by omega)]
    rfl
  have := pm_run_sh (o := 600) (n := ((cut dr).length : Int)) (st' := pt_step g) (st := pt_step (fl (cut dr))) (g' := g) (g := fl (cut dr)) (fun S a e h1 h2 h3 => pt_step_sh h1 (by omega) h2 (ag.sub h1 h3)) ag ((cut dr).length + 1) 0 1 ([], []) (Int.le_refl 0)
  rw [he, show (((cut dr).length : Int) + 600 - 600 + 1).toNat = (cut dr).length + 1 by omega]
  rw [Int.zero_add] at this
  exact this
theorem pt_parse_nil : pt_parse (cut []) = .inl 1 := rfl
/-- what stands behind a rewriting that went well -/
def mo_rw (U : mv) (V : dv) (xs : List Int) (dc : Int) : Prop := mo_rel U (dv.s_dr V ([])) ∧ U.doubts_ = dc ∧ U.overflow_ = 0 ∧ U.outSize_ = xs.length ∧ rl U.out_ xs ∧ xs.length ≤ 1000
theorem m_MO_rewrite {l : Launch} {G : am_G} {hA : am_H} {m : Nat} {U : mv} {V : dv} {r : Bool} (M : am_mo hA m U) (R : mo_rel U V) (ok : V.ok) (fn : pm_fn V.S) (cx : pm_cx V.S) : am_M l G M_MO_rewrite [.ref m, am_n (sp_i r)] hA (fun rr h' => ∃ U', am_mo h' m U' ∧ ko m 35 hA h' ∧ U'.code_ = U.code_ ∧ (match pt_parse (cut V.dr) with
    | .inl row => rr = some (am_n 1) ∧ mo_rel U' (dv.s_wr (dv.s_dr V ([])) (row))
    | .inr T => if V.ld = false then rr = some (am_n 2) ∧ mo_rel U' (dv.s_dr V ([])) else (if r = true then (if (r_all V.S T T.1.length).length ≤ 1000 then rr = some (am_n 0) ∧ mo_rw U' V (r_all V.S T T.1.length) (t_sum (r_dc V.S) T T.1.length) else rr = some (am_n 2) ∧ mo_rel U' (dv.s_dr V ([]))) else (if (s_all V.S T T.1.length).length ≤ 1000 then rr = some (am_n 0) ∧ ∃ dc, mo_rw U' V (s_all V.S T T.1.length) dc else rr = some (am_n 2) ∧ mo_rel U' (dv.s_dr V ([])))))) := by
  have hl := ok.1
  obtain ⟨⟨s1, s2, s3⟩, ⟨kt, t1, t2, t3, t4, t5⟩, ca, ld, mp, pr, dw, bk, ho⟩ := R
  refine am_M.of (by decide) (Nat.le_of_ble_eq_true rfl) (fun X hB hR => ?_)
  show am_Z X 0 [.ref m, am_n (sp_i r), am_u, am_u] [] hA 0 0
  refine am_aload_n hB d_MO_rewrite_0 rfl rfl rfl ?_
  refine ai_sipush hB d_MO_rewrite_1 (by decide) ?_
  refine am_aload_n hB d_MO_rewrite_4 rfl rfl rfl ?_
  refine am_getf hB d_MO_rewrite_5 F_MO_117_11 M.1 rfl ?_
  rw [s1]
  refine ai_const hB d_MO_rewrite_8 ?_
  refine am_callV hB hR (as := [am_n 600, am_n V.dr.length, am_n (sp_i false)]) M.1 (m_MO_lay M (by omega) ⟨by omega, by omega⟩ (by omega)) c_MO_185 rfl rfl d_MO_rewrite_9 ⟨by decide, Nat.le_of_ble_eq_true rfl⟩ ⟨by decide, by decide⟩ rfl rfl (fun rr h hp => ?_)
  obtain ⟨g, rfl, M, f, g1, g2⟩ := hp
  have cg := lay_cok g1 g2 s3 ca
  show am_Z X 12 [.ref m, am_n (sp_i r), am_u, am_u] [] h 0 0
  refine am_aload_n hB d_MO_rewrite_12 rfl rfl rfl ?_
  refine am_getf hB d_MO_rewrite_13 F_MO_117_11 M.1 rfl ?_
  show am_Z X 16 [.ref m, am_n (sp_i r), am_u, am_u] [am_n U.size_] h 0 0
  rw [s1]
  refine am_istore_n hB d_MO_rewrite_16 rfl (by rw [hR.nL]; decide) rfl ?_
  refine am_aload_n hB d_MO_rewrite_17 rfl rfl rfl ?_
  refine ai_const hB d_MO_rewrite_18 ?_
  refine mo_p_size hB d_MO_rewrite_19 P_MO_117_11 M f (fun h M f => ?_)
  refine am_aload_n hB d_MO_rewrite_22 rfl rfl rfl ?_
  refine am_iload_n hB d_MO_rewrite_23 rfl rfl ?_
  have M : am_mo h m (mv.s_size (mv.s_all U (g)) (0)) := M
  have mpg := mp.all (g := g) (fun j h0 h1 => g2 j (Or.inl h1))
  refine am_callV hB hR (as := [am_n V.dr.length]) M.1 (m_MO_readTrace M cg ⟨by omega, by omega⟩) c_MO_332 rfl rfl d_MO_rewrite_24 ⟨by decide, Nat.le_of_ble_eq_true rfl⟩ ⟨by decide, by decide⟩ rfl rfl (fun rr h hp => ?_)
  obtain ⟨U1, M, tq, f1, p1⟩ := hp
  have f := f.tr f1
  have hg : ∀ k : Int, 0 ≤ k → k < V.dr.length → g (600 + k) = V.dr.getD k.toNat 0 := fun k h0 h1 => by
    rw [g1 k h0 h1]
    have := s2 k.toNat (by omega)
    rw [show ((k.toNat : Nat) : Int) = k by omega] at this
    exact this
  have mp1 : mo_map U1 V.S := (show mo_map (mv.s_size (mv.s_all U g) 0) V.S from mpg).tq tq
  have tq0 := tq
  obtain ⟨⟨⟨q1, q2, q3, q4, q5, q6⟩, ⟨q7, q8, q9, q10, q11, q12⟩, ⟨q13, q14, q15, q16, q17, q18⟩⟩, -⟩ := tq
  -- what is kept
  have rel : ∀ U2 : mv, U2.draft_ = U1.draft_ → U2.size_ = U1.size_ → U2.all_ = U1.all_ → U2.kept_ = U1.kept_ → U2.keptSize_ = U1.keptSize_ → U2.loaded_ = U1.loaded_ → U2.print_ = U1.print_ → U2.printSize_ = U1.printSize_ → U2.doubtsKept_ = U1.doubtsKept_ → mo_map U2 V.S → U2.crashCount_ = U1.crashCount_ → U2.reportCount_ = U1.reportCount_ → U2.keys_ = U1.keys_ → U2.times_ = U1.times_ → U2.firsts_ = U1.firsts_ → U2.lasts_ = U1.lasts_ → am_cok U2.out_ → ∀ w, U2.wrongLine_ = w → mo_rel U2 (dv.s_wr (dv.s_dr V ([])) (w)) := by
    intro U2 e1 e2 e3 e4 e5 e6 e7 e8 e9 em e11 e12 e13 e14 e15 e16 eo w ew
    refine ⟨⟨e2.trans q2, fun j hj => absurd hj (Nat.not_lt_zero j), ?_⟩, ⟨kt, e5.trans (q5.trans t1), t2, ?_, ?_, t5⟩, ?_, e6.trans (q6.trans ld), em, ⟨e8.trans (q8.trans pr.1), ?_⟩, ⟨e9.trans (q9.trans dw.1), ew⟩, ⟨e11.trans (q11.trans bk.1), e12.trans (q12.trans bk.2.1), e13.trans (q13.trans bk.2.2.1), e14.trans (q14.trans bk.2.2.2.1), e15.trans (q15.trans bk.2.2.2.2.1), e16.trans (q16.trans bk.2.2.2.2.2)⟩, eo⟩
    · rw [e1, show U1.draft_ = U.draft_ from q1]; exact s3
    · rw [e4, show U1.kept_ = U.kept_ from q4]; exact t3
    · rw [e4, show U1.kept_ = U.kept_ from q4]; exact t4
    · rw [e3, show U1.all_ = g from q3]; exact cg
    · rw [e7, show U1.print_ = U.print_ from q7]; exact pr.2
  have ho1 : am_cok U1.out_ := by rw [show U1.out_ = U.out_ from q18]; exact ho
  have wr1 : U1.wrongLine_ = V.wr := q10.trans dw.2
  have bad : ∀ row : Int, 1 ≤ row → row < 1000 → pt_parse (cut V.dr) = .inl row → am_Z X 27 [.ref m, am_n (sp_i r), am_n V.dr.length, am_u] [am_n row] h 0 0 := by
    intro row hr hr2 hpp
    refine am_istore_n hB d_MO_rewrite_27 rfl (by rw [hR.nL]; decide) rfl ?_
    refine am_iload_n hB d_MO_rewrite_28 rfl rfl ?_
    refine ai_zle (tgt := 39) hB d_MO_rewrite_29 (by decide) (fun c1 => ?_) (fun c1 => ?_)
    · omega
    refine am_aload_n hB d_MO_rewrite_32 rfl rfl rfl ?_
    refine am_iload_n hB d_MO_rewrite_33 rfl rfl ?_
    refine mo_p_wrongLine hB d_MO_rewrite_34 P_MO_200_11 M f (fun h M f => ?_)
    refine ai_const hB d_MO_rewrite_37 ?_
    refine am_iret hB hR d_MO_rewrite_38 rfl rfl ?_ (Nat.zero_le _) (Nat.zero_le _)
    refine ⟨_, M, f, q17, ?_⟩
    rw [hpp]
    exact ⟨rfl, rel (U1.s_wrongLine row) rfl rfl rfl rfl rfl rfl rfl rfl rfl mp1 rfl rfl rfl rfl rfl rfl ho1 row rfl⟩
  by_cases hne : V.dr.length = 0
  · have hdn : V.dr = [] := List.length_eq_zero_iff.mp hne
    rw [if_pos (by omega)] at p1
    subst p1
    show am_Z X 27 [.ref m, am_n (sp_i r), am_n V.dr.length, am_u] [am_n 1] h 0 0
    exact bad 1 (by omega) (by omega) (by rw [hdn]; exact pt_parse_nil)
  rw [if_neg (by omega)] at p1
  change (match pm_run (pt_step g) g (tr_end g V.dr.length) (tr_end g V.dr.length - 600 + 1).toNat 600 1 ([], []) with
    | .inl row => rr = some (am_n row)
    | .inr T => rr = some (am_n 0) ∧ pt_iv T ∧ T.1.length ≤ 4 ∧ T.2.length ≤ 20 ∧ mo_trc U1 (ln_all T T.1.length) ∧ (ln_all T T.1.length).length ≤ 28) at p1
  rw [trace_parse hg hne] at p1
  cases hpp : pt_parse (cut V.dr) with
  | inl row =>
    rw [hpp] at p1
    simp only at p1
    subst p1
    have hrow := pm_run_row _ _ _ _ _ hpp
    have hcl := cut_len V.dr
    show am_Z X 27 [.ref m, am_n (sp_i r), am_n V.dr.length, am_u] [am_n row] h 0 0
    exact bad row (by omega) (by omega) hpp
  | inr T =>
    rw [hpp] at p1
    obtain ⟨rfl, iv, T4, T20, tc, L28⟩ := p1
    show am_Z X 27 [.ref m, am_n (sp_i r), am_n V.dr.length, am_u] [am_n 0] h 0 0
    refine am_istore_n hB d_MO_rewrite_27 rfl (by rw [hR.nL]; decide) rfl ?_
    refine am_iload_n hB d_MO_rewrite_28 rfl rfl ?_
    refine ai_zle (tgt := 39) hB d_MO_rewrite_29 (by decide) (fun c1 => ?_) (fun c1 => ?_)
    rotate_left
    · omega
    refine am_aload_n hB d_MO_rewrite_39 rfl rfl rfl ?_
    refine am_getf hB d_MO_rewrite_40 F_MO_196_11 M.1 rfl ?_
    show am_Z X 43 [.ref m, am_n (sp_i r), am_n V.dr.length, am_n 0] [am_n U1.loaded_] h 0 0
    rw [show U1.loaded_ = sp_i V.ld from q6.trans ld]
    cases hld : V.ld with
    | false =>
      show am_Z X 43 [.ref m, am_n (sp_i r), am_n V.dr.length, am_n 0] [am_n 0] h 0 0
      refine ai_zne (tgt := 48) hB d_MO_rewrite_43 (by decide) (fun c2 => ?_) (fun c2 => ?_)
      · omega
      refine ai_const hB d_MO_rewrite_46 ?_
      refine am_iret hB hR d_MO_rewrite_47 rfl rfl ?_ (Nat.zero_le _) (Nat.zero_le _)
      refine ⟨U1, M, f, q17, ?_⟩
      rw [hpp]
      show (if V.ld = false then _ else _)
      rw [if_pos hld]
      exact ⟨rfl, rel U1 rfl rfl rfl rfl rfl rfl rfl rfl rfl mp1 rfl rfl rfl rfl rfl rfl ho1 _ wr1⟩
    | true =>
      have okS := ok.2.2.2.1 hld
      have cg1 : am_cok U1.all_ := by rw [show U1.all_ = g from q3]; exact cg
      show am_Z X 43 [.ref m, am_n (sp_i r), am_n V.dr.length, am_n 0] [am_n 1] h 0 0
      refine ai_zne (tgt := 48) hB d_MO_rewrite_43 (by decide) (fun c2 => ?_) (fun c2 => ?_)
      rotate_left
      · omega
      have fin : ∀ (xs : List Int) (dc : Int) (h : am_H), mo_S h m U1 xs dc → ko m 35 hA h → (∀ (rr : Option Value) (U' : mv), ((xs.length ≤ 1000 ∧ rr = some (am_n 0) ∧ mo_rw U' V xs dc) ∨ (1000 < xs.length ∧ rr = some (am_n 2) ∧ mo_rel U' (dv.s_dr V ([])))) → (match pt_parse (cut V.dr) with
    | .inl row => rr = some (am_n 1) ∧ mo_rel U' (dv.s_wr (dv.s_dr V ([])) (row))
    | .inr T => if V.ld = false then rr = some (am_n 2) ∧ mo_rel U' (dv.s_dr V ([])) else (if r = true then (if (r_all V.S T T.1.length).length ≤ 1000 then rr = some (am_n 0) ∧ mo_rw U' V (r_all V.S T T.1.length) (t_sum (r_dc V.S) T T.1.length) else rr = some (am_n 2) ∧ mo_rel U' (dv.s_dr V ([]))) else (if (s_all V.S T T.1.length).length ≤ 1000 then rr = some (am_n 0) ∧ ∃ dc, mo_rw U' V (s_all V.S T T.1.length) dc else rr = some (am_n 2) ∧ mo_rel U' (dv.s_dr V ([])))))) → am_Z X 63 [.ref m, am_n (sp_i r), am_n V.dr.length, am_n 0] [] h 0 0 := by
        intro xs dc h S f pst
        obtain ⟨o, s, v, M, oc, so, ov⟩ := S
        have rl1 : mo_rel (mo_W U1 o s v dc) (dv.s_dr V ([])) := rel (mo_W U1 o s v dc) rfl rfl rfl rfl rfl rfl rfl rfl rfl mp1 rfl rfl rfl rfl rfl rfl oc _ wr1
        refine am_aload_n hB d_MO_rewrite_63 rfl rfl rfl ?_
        refine am_getf hB d_MO_rewrite_64 F_MO_248_11 M.1 rfl ?_
        show am_Z X 67 [.ref m, am_n (sp_i r), am_n V.dr.length, am_n 0] [am_n v] h 0 0
        rcases ov with ⟨rfl, hs, hr⟩ | ⟨rfl, hs, hr⟩
        · refine ai_zeq (tgt := 74) hB d_MO_rewrite_67 (by decide) (fun c3 => ?_) (fun c3 => ?_)
          rotate_left
          · omega
          refine ai_const hB d_MO_rewrite_74 ?_
          refine am_iret hB hR d_MO_rewrite_75 rfl rfl ?_ (Nat.zero_le _) (Nat.zero_le _)
          exact ⟨_, M, f, q17, pst _ _ (Or.inl ⟨by omega, rfl, rl1, rfl, rfl, hs, hr, by omega⟩)⟩
        · refine ai_zeq (tgt := 74) hB d_MO_rewrite_67 (by decide) (fun c3 => ?_) (fun c3 => ?_)
          · omega
          refine ai_const hB d_MO_rewrite_70 ?_
          refine am_goto (tgt := 75) hB d_MO_rewrite_71 (by decide) ?_
          refine am_iret hB hR d_MO_rewrite_75 rfl rfl ?_ (Nat.zero_le _) (Nat.zero_le _)
          exact ⟨_, M, f, q17, pst _ _ (Or.inr ⟨hr, rfl, rl1⟩)⟩
      refine am_iload_n hB d_MO_rewrite_48 rfl rfl ?_
      cases r with
      | true =>
        show am_Z X 49 [.ref m, am_n 1, am_n V.dr.length, am_n 0] [am_n 1] h 0 0
        refine ai_zeq (tgt := 59) hB d_MO_rewrite_49 (by decide) (fun c4 => ?_) (fun c4 => ?_)
        · omega
        refine am_aload_n hB d_MO_rewrite_52 rfl rfl rfl ?_
        refine am_callV hB hR (as := []) M.1 (m_MO_retraceAll M ho1 cg1 mp1 okS fn tc (by omega)) c_MO_335 rfl rfl d_MO_rewrite_53 ⟨by decide, Nat.le_of_ble_eq_true rfl⟩ ⟨by decide, by decide⟩ rfl rfl (fun rr h hp => ?_)
        obtain ⟨rfl, S, f1⟩ := hp
        have f := f.tr f1
        refine am_goto (tgt := 63) hB d_MO_rewrite_56 (by decide) ?_
        rw [← r_all_ln, ← t_sum_ln] at S
        refine fin _ _ _ S f (fun rr U' hc => ?_)
        rw [hpp]
        show (if V.ld = false then _ else _)
        rw [if_neg (by rw [hld]; decide), if_pos rfl]
        rcases hc with ⟨a, b⟩ | ⟨a, b⟩
        · rw [if_pos a]
          exact b
        · rw [if_neg (by omega)]
          exact b
      | false =>
        show am_Z X 49 [.ref m, am_n 0, am_n V.dr.length, am_n 0] [am_n 0] h 0 0
        refine ai_zeq (tgt := 59) hB d_MO_rewrite_49 (by decide) (fun c4 => ?_) (fun c4 => ?_)
        rotate_left
        · omega
        refine am_aload_n hB d_MO_rewrite_59 rfl rfl rfl ?_
        refine am_callV hB hR (as := []) M.1 (m_MO_shortenAll M ho1 cg1 mp1 okS cx tc (by omega)) c_MO_338 rfl rfl d_MO_rewrite_60 ⟨by decide, Nat.le_of_ble_eq_true rfl⟩ ⟨by decide, by decide⟩ rfl rfl (fun rr h hp => ?_)
        obtain ⟨rfl, S, f1⟩ := hp
        have f := f.tr f1
        rw [s_all_ln okS T20 _ _ (Nat.le_refl _)] at S
        refine fin _ _ _ S f (fun rr U' hc => ?_)
        rw [hpp]
        show (if V.ld = false then _ else _)
        rw [if_neg (by rw [hld]; decide), if_neg (by decide)]
        rcases hc with ⟨a, b, c⟩ | ⟨a, b⟩
        · rw [if_pos a]
          exact ⟨b, _, c⟩
        · rw [if_neg (by omega)]
          exact b
