/-! the model and the desk hold the same; the model's load -/
def mo_rel (U : mv) (V : dv) : Prop := (U.size_ = V.dr.length ∧ rl U.draft_ V.dr ∧ am_cok U.draft_) ∧ (∃ kt : List Int, U.keptSize_ = kt.length ∧ kt.length ≤ 600 ∧ rl U.kept_ kt ∧ am_cok U.kept_ ∧ pm_parse kt = .inr V.S) ∧ am_cok U.all_ ∧ U.loaded_ = sp_i V.ld ∧ mo_map U V.S ∧ (U.printSize_ = V.pr.length ∧ rl U.print_ V.pr) ∧ (U.doubtsKept_ = V.db ∧ U.wrongLine_ = V.wr) ∧ (U.crashCount_ = V.n ∧ U.reportCount_ = V.rc ∧ U.keys_ = V.gk ∧ U.times_ = V.gt ∧ U.firsts_ = V.gf ∧ U.lasts_ = V.gl) ∧ am_cok U.out_
theorem lay_cok {g all src : Int → Int} {p n : Int} (h1 : ∀ k, 0 ≤ k → k < n → g (p + k) = src k) (h2 : ∀ j, (j < p ∨ p + n ≤ j) → g j = all j) (c1 : am_cok src) (c2 : am_cok all) : am_cok g := fun j => by
  by_cases c : j < p ∨ p + n ≤ j
  · rw [h2 j c]
    exact c2 j
  · have := h1 (j - p) (by omega) (by omega)
    rw [show p + (j - p) = j by omega] at this
    rw [this]
    exact c1 _
theorem dv_gc_ld (S : pm_S) : dv_gc S = (pm_ld S.2 S.2.length : Nat) := by
  unfold dv_gc pm_ld
  rw [List.take_length]
theorem m_MO_load {l : Launch} {G : am_G} {hA : am_H} {m : Nat} {U : mv} {V : dv} (M : am_mo hA m U) (R : mo_rel U V) (ok : V.ok) : am_M l G M_MO_load [.ref m] hA (fun r h' => ∃ U', am_mo h' m U' ∧ ko m 35 hA h' ∧ (match pm_parse V.dr with
    | .inl row => (∃ v, r = some (am_n v)) ∧ U'.code_ = 1 ∧ mo_rel U' (dv.s_wr (dv.s_dr V ([])) (row))
    | .inr S' => r = some (am_n (dv_gc S')) ∧ U'.code_ = 0 ∧ mo_rel U' (dv.s_ld (dv.s_S (dv.s_dr V ([])) (S')) (true)))) := by
  have hl := ok.1
  obtain ⟨⟨s1, s2, s3⟩, ⟨kt, t1, t2, t3, t4, t5⟩, ca, ld, mp, pr, dw, bk, ho⟩ := R
  refine am_M.of (by decide) (Nat.le_of_ble_eq_true rfl) (fun X hB hR => ?_)
  show am_Z X 0 [.ref m, am_u, am_u, am_u] [] hA 0 0
  refine am_aload_n hB d_MO_load_0 rfl rfl rfl ?_
  refine ai_const hB d_MO_load_1 ?_
  refine am_aload_n hB d_MO_load_2 rfl rfl rfl ?_
  refine am_getf hB d_MO_load_3 F_MO_117_11 M.1 rfl ?_
  rw [s1]
  refine ai_const hB d_MO_load_6 ?_
  refine am_callV hB hR (as := [am_n 0, am_n V.dr.length, am_n (sp_i false)]) M.1 (m_MO_lay M (by omega) ⟨by omega, by omega⟩ (by omega)) c_MO_185 rfl rfl d_MO_load_7 ⟨by decide, Nat.le_of_ble_eq_true rfl⟩ ⟨by decide, by decide⟩ rfl rfl (fun rr h hp => ?_)
  obtain ⟨g, rfl, M, f, g1, g2⟩ := hp
  have cg := lay_cok g1 g2 s3 ca
  show am_Z X 10 [.ref m, am_u, am_u, am_u] [] h 0 0
  refine am_aload_n hB d_MO_load_10 rfl rfl rfl ?_
  refine am_getf hB d_MO_load_11 F_MO_117_11 M.1 rfl ?_
  show am_Z X 14 [.ref m, am_u, am_u, am_u] [am_n U.size_] h 0 0
  rw [s1]
  refine am_istore_n hB d_MO_load_14 rfl (by rw [hR.nL]; decide) rfl ?_
  refine am_aload_n hB d_MO_load_15 rfl rfl rfl ?_
  refine ai_const hB d_MO_load_16 ?_
  refine mo_p_size hB d_MO_load_17 P_MO_117_11 M f (fun h M f => ?_)
  refine am_aload_n hB d_MO_load_20 rfl rfl rfl ?_
  refine am_iload_n hB d_MO_load_21 rfl rfl ?_
  have M : am_mo h m (mv.s_size (mv.s_all U (g)) (0)) := M
  have hrl : ∀ j : Nat, j < V.dr.length → g j = V.dr.getD j 0 := fun j hj => by
    have := g1 j (by omega) (by omega)
    rw [show (0 : Int) + (j : Int) = j by omega] at this
    rw [this]
    exact s2 j hj
  refine am_callV hB hR (as := [am_n V.dr.length]) M.1 (m_MO_readMapping M cg ⟨by omega, by omega⟩) c_MO_189 rfl rfl d_MO_load_22 ⟨by decide, Nat.le_of_ble_eq_true rfl⟩ ⟨by decide, by decide⟩ rfl rfl (fun rr h hp => ?_)
  obtain ⟨U1, M, q, f1, p1⟩ := hp
  have f := f.tr f1
  change (match pm_run (pm_step g) g V.dr.length ((V.dr.length : Int) + 1).toNat 0 1 ([], []) with
    | .inl row => rr = some (am_n row)
    | .inr S' => rr = some (am_n 0) ∧ mo_map U1 S') at p1
  rw [pm_run_parse hrl] at p1
  obtain ⟨⟨q1, q2, q3, q4, q5, q6⟩, ⟨q7, q8, q9, q10, q11, q12⟩, ⟨q13, q14, q15, q16, q17, q18⟩⟩ := q
  cases e : pm_parse V.dr with
  | inl row =>
    rw [e] at p1
    simp only at p1
    subst p1
    have hrow := pm_run_row _ _ _ _ _ e
    show am_Z X 25 [.ref m, am_n V.dr.length, am_u, am_u] [am_n row] h 0 0
    refine am_istore_n hB d_MO_load_25 rfl (by rw [hR.nL]; decide) rfl ?_
    refine am_aload_n hB d_MO_load_26 rfl rfl rfl ?_
    refine am_iload_n hB d_MO_load_27 rfl rfl ?_
    refine ai_zle (tgt := 35) hB d_MO_load_28 (by decide) (fun c1 => ?_) (fun c1 => ?_)
    · omega
    refine ai_const hB d_MO_load_31 ?_
    refine am_goto (tgt := 36) hB d_MO_load_32 (by decide) ?_
    refine mo_p_code hB d_MO_load_36 P_MO_113_11 M f (fun h M f => ?_)
    refine am_iload_n hB d_MO_load_39 rfl rfl ?_
    refine ai_zne (tgt := 83) hB d_MO_load_40 (by decide) (fun c2 => ?_) (fun c2 => ?_)
    rotate_left
    · omega
    refine am_aload_n hB d_MO_load_83 rfl rfl rfl ?_
    refine am_iload_n hB d_MO_load_84 rfl rfl ?_
    refine mo_p_wrongLine hB d_MO_load_85 P_MO_200_11 M f (fun h M f => ?_)
    refine am_aload_n hB d_MO_load_88 rfl rfl rfl ?_
    refine ai_const hB d_MO_load_89 ?_
    refine am_aload_n hB d_MO_load_90 rfl rfl rfl ?_
    refine am_getf hB d_MO_load_91 F_MO_193_11 M.1 rfl ?_
    show am_Z X 94 [.ref m, am_n V.dr.length, am_n row, am_u] [am_n U1.keptSize_, am_n 0, .ref m] h 0 0
    rw [show U1.keptSize_ = kt.length from q5.trans t1]
    refine ai_const hB d_MO_load_94 ?_
    refine am_callV hB hR (as := [am_n 0, am_n kt.length, am_n (sp_i true)]) M.1 (m_MO_lay M (by omega) ⟨by omega, by omega⟩ (by omega)) c_MO_185 rfl rfl d_MO_load_95 ⟨by decide, Nat.le_of_ble_eq_true rfl⟩ ⟨by decide, by decide⟩ rfl rfl (fun rr h hp => ?_)
    obtain ⟨g', rfl, M, f2, g1', g2'⟩ := hp
    have f := f.tr f2
    have ck : am_cok U1.kept_ := by rw [q4]; exact t4
    have cg' : am_cok g' := lay_cok g1' g2' ck (show am_cok U1.all_ by rw [q3]; exact cg)
    show am_Z X 98 [.ref m, am_n V.dr.length, am_n row, am_u] [] h 0 0
    refine am_aload_n hB d_MO_load_98 rfl rfl rfl ?_
    refine am_aload_n hB d_MO_load_99 rfl rfl rfl ?_
    refine am_getf hB d_MO_load_100 F_MO_193_11 M.1 rfl ?_
    show am_Z X 103 [.ref m, am_n V.dr.length, am_n row, am_u] [am_n U1.keptSize_, .ref m] h 0 0
    rw [show U1.keptSize_ = kt.length from q5.trans t1]
    refine am_callV hB hR (as := [am_n kt.length]) M.1 (m_MO_readMapping M cg' ⟨by omega, by omega⟩) c_MO_189 rfl rfl d_MO_load_103 ⟨by decide, Nat.le_of_ble_eq_true rfl⟩ ⟨by decide, by decide⟩ rfl rfl (fun rr h hp => ?_)
    obtain ⟨U2, M, z, f3, p2⟩ := hp
    have f := f.tr f3
    have hkl : ∀ j : Nat, j < kt.length → g' j = kt.getD j 0 := fun j hj => by
      have := g1' j (by omega) (by omega)
      rw [show (0 : Int) + (j : Int) = j by omega] at this
      rw [this]
      show U1.kept_ j = _
      rw [q4]
      exact t3 j hj
    change (match pm_run (pm_step g') g' kt.length ((kt.length : Int) + 1).toNat 0 1 ([], []) with
      | .inl row => rr = some (am_n row)
      | .inr S' => rr = some (am_n 0) ∧ mo_map U2 S') at p2
    rw [pm_run_parse hkl, t5] at p2
    obtain ⟨rfl, mp2⟩ := p2
    obtain ⟨⟨z1, z2, z3, z4, z5, z6⟩, ⟨z7, z8, z9, z10, z11, z12⟩, ⟨z13, z14, z15, z16, z17, z18⟩⟩ := z
    show am_Z X 106 [.ref m, am_n V.dr.length, am_n row, am_u] [am_n 0] h 0 0
    refine am_iret hB hR d_MO_load_106 rfl rfl ?_ (Nat.zero_le _) (Nat.zero_le _)
    rw [e]
    refine ⟨U2, M, f, ⟨0, rfl⟩, z17, ⟨z2.trans q2, fun j hj => absurd hj (Nat.not_lt_zero j), ?_⟩, ⟨kt, z5.trans (q5.trans t1), t2, ?_, ?_, t5⟩, ?_, z6.trans (q6.trans ld), mp2, ⟨z8.trans (q8.trans pr.1), ?_⟩, ⟨z9.trans (q9.trans dw.1), z10⟩, ⟨z11.trans (q11.trans bk.1), z12.trans (q12.trans bk.2.1), z13.trans (q13.trans bk.2.2.1), z14.trans (q14.trans bk.2.2.2.1), z15.trans (q15.trans bk.2.2.2.2.1), z16.trans (q16.trans bk.2.2.2.2.2)⟩, ?_⟩
    · rw [show U2.draft_ = U.draft_ from z1.trans q1]; exact s3
    · rw [show U2.kept_ = U.kept_ from z4.trans q4]; exact t3
    · rw [show U2.kept_ = U.kept_ from z4.trans q4]; exact t4
    · rw [z3]; exact cg'
    · rw [show U2.print_ = U.print_ from z7.trans q7]; exact pr.2
    · rw [show U2.out_ = U.out_ from z18.trans q18]; exact ho
  | inr S' =>
    rw [e] at p1
    obtain ⟨rfl, mp1⟩ := p1
    show am_Z X 25 [.ref m, am_n V.dr.length, am_u, am_u] [am_n 0] h 0 0
    refine am_istore_n hB d_MO_load_25 rfl (by rw [hR.nL]; decide) rfl ?_
    refine am_aload_n hB d_MO_load_26 rfl rfl rfl ?_
    refine am_iload_n hB d_MO_load_27 rfl rfl ?_
    refine ai_zle (tgt := 35) hB d_MO_load_28 (by decide) (fun c1 => ?_) (fun c1 => ?_)
    rotate_left
    · omega
    refine ai_const hB d_MO_load_35 ?_
    refine mo_p_code hB d_MO_load_36 P_MO_113_11 M f (fun h M f => ?_)
    refine am_iload_n hB d_MO_load_39 rfl rfl ?_
    refine ai_zne (tgt := 83) hB d_MO_load_40 (by decide) (fun c2 => ?_) (fun c2 => ?_)
    · omega
    have M : am_mo h m (mv.s_kept (mv.s_code U1 (0)) (U1.kept_)) := M
    have loop : ∀ (d : Nat) (k : Int) (kp : Int → Int) (h1 : am_H), 0 ≤ k → k + d = V.dr.length → am_cok kp → (∀ j : Nat, (j : Int) < k → kp j = V.dr.getD j 0) → am_mo h1 m (mv.s_kept (mv.s_code U1 (0)) (kp)) → ko m 35 hA h1 → am_Z X 45 [.ref m, am_n V.dr.length, am_n 0, am_n k] [] h1 0 0 := by
      intro d
      induction d with
      | zero =>
        intro k kp h1 k0 hd ck hk M f
        refine am_iload_n hB d_MO_load_45 rfl rfl ?_
        refine am_iload_n hB d_MO_load_46 rfl rfl ?_
        refine ai_jge (tgt := 68) hB d_MO_load_47 (by decide) (fun c3 => ?_) (fun c3 => ?_)
        rotate_left
        · omega
        refine am_aload_n hB d_MO_load_68 rfl rfl rfl ?_
        refine am_iload_n hB d_MO_load_69 rfl rfl ?_
        refine mo_p_keptSize hB d_MO_load_70 P_MO_193_11 M f (fun h M f => ?_)
        refine am_aload_n hB d_MO_load_73 rfl rfl rfl ?_
        refine ai_const hB d_MO_load_74 ?_
        refine mo_p_loaded hB d_MO_load_75 P_MO_196_11 M f (by first | exact Or.inl rfl | exact Or.inr rfl | omega) (fun h M f => ?_)
        refine am_aload_n hB d_MO_load_78 rfl rfl rfl ?_
        refine am_getf hB d_MO_load_79 F_MO_173_11 M.1 rfl ?_
        show am_Z X 82 [.ref m, am_n V.dr.length, am_n 0, am_n k] [am_n U1.groups_] h 0 0
        refine am_iret hB hR d_MO_load_82 rfl rfl ?_ (Nat.zero_le _) (Nat.zero_le _)
        rw [e]
        refine ⟨_, M, f, by rw [dv_gc_ld, mp1.2.2.2.2.1], rfl, ⟨q2, fun j hj => absurd hj (Nat.not_lt_zero j), ?_⟩, ⟨V.dr, rfl, hl, fun j hj => hk j (by omega), ck, e⟩, ?_, rfl, mp1, ⟨q8.trans pr.1, ?_⟩, ⟨q9.trans dw.1, q10.trans dw.2⟩, ⟨q11.trans bk.1, q12.trans bk.2.1, q13.trans bk.2.2.1, q14.trans bk.2.2.2.1, q15.trans bk.2.2.2.2.1, q16.trans bk.2.2.2.2.2⟩, ?_⟩
        · show am_cok U1.draft_
          rw [q1]; exact s3
        · show am_cok U1.all_
          rw [q3]; exact cg
        · show rl U1.print_ V.pr
          rw [q7]; exact pr.2
        · show am_cok U1.out_
          rw [q18]; exact ho
      | succ d ih =>
        intro k kp h1 k0 hd ck hk M f
        refine am_iload_n hB d_MO_load_45 rfl rfl ?_
        refine am_iload_n hB d_MO_load_46 rfl rfl ?_
        refine ai_jge (tgt := 68) hB d_MO_load_47 (by decide) (fun c3 => ?_) (fun c3 => ?_)
        · omega
        refine am_aload_n hB d_MO_load_50 rfl rfl rfl ?_
        refine am_getf hB d_MO_load_51 F_MO_16_11 M.1 rfl ?_
        refine am_iload_n hB d_MO_load_54 rfl rfl ?_
        refine am_aload_n hB d_MO_load_55 rfl rfl rfl ?_
        refine am_getf hB d_MO_load_56 F_MO_7_11 M.1 rfl ?_
        refine am_iload_n hB d_MO_load_59 rfl rfl ?_
        refine ai_iald hB d_MO_load_60 ty_1 M.draft ?_
        show am_Z X 61 [.ref m, am_n V.dr.length, am_n 0, am_n k] [am_n (U1.draft_ k), am_n k, .ref (m + 3)] h1 0 0
        have hdk := s3 k
        rw [show U1.draft_ = U.draft_ from q1]
        refine mo_s_kept hB d_MO_load_61 M f (fun h M f => ?_)
        refine ai_inc hB d_MO_load_62 rfl (by rw [hR.nL]; decide) rfl ?_
        refine am_goto (tgt := 45) hB d_MO_load_65 (by decide) (ih (k + 1) _ h (by omega) (by omega) (ck.up hdk.1 hdk.2) (fun j hj => ?_) M f)
        by_cases c : (j : Int) = k
        · rw [← c, am_up_eq]
          exact s2 j (by omega)
        · rw [am_up_ne _ _ c]
          exact hk j (by omega)
    refine ai_const hB d_MO_load_43 ?_
    refine am_istore_n hB d_MO_load_44 rfl (by rw [hR.nL]; decide) rfl ?_
    exact loop V.dr.length 0 U1.kept_ h (by omega) (by omega) (by rw [q4]; exact t4) (fun j hj => by omega) M f
