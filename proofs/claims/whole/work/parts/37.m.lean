/-! a trace is retraced -/
def sm : List Int → Int
  | [] => 0
  | x :: xs => x + sm xs
theorem sm_app : ∀ (a b : List Int), sm (a ++ b) = sm a + sm b
  | [], b => by rw [List.nil_append, sm]; omega
  | x :: xs, b => by rw [List.cons_append, sm, sm, sm_app xs b]; omega
def pm_cl (S : pm_S) (p : Nat) : pm_C := (S.1[p]?).getD ([], [])
def pm_ln (S : pm_S) (i : Nat) : pm_L := (S.2[i]?).getD (([], [], []), (0, 0, 0, 0), 0, false)
theorem pm_cl_eq {S : pm_S} {p : Nat} {c : pm_C} (h : S.1[p]? = some c) : pm_cl S p = c := by unfold pm_cl; rw [h]; rfl
theorem pm_ln_eq {S : pm_S} {p : Nat} {c : pm_L} (h : S.2[p]? = some c) : pm_ln S p = c := by unfold pm_ln; rw [h]; rfl
def r_txt (S : pm_S) (f : pt_F) : List Int := match pc_brief S f.1.1 with
  | none => w_same f
  | some p => match pf_around S p f.1.2.1 f.2.2 with
    | some a => (pf_grp S a).flatMap (w_one f.2.2)
    | none => match pf_first S p f.1.2.1 with
      | none => w_real (pm_cl S p).1 f.1.2.1 f
      | some q => w_real (pm_ln S (pf_end S q - 1)).1.1 (pm_ln S (pf_end S q - 1)).1.2.1 f
def r_fc (S : pm_S) (f : pt_F) : Int := match pc_brief S f.1.1 with
  | none => 1
  | some p => match pf_around S p f.1.2.1 f.2.2 with
    | some a => (pf_end S a : Nat) - a
    | none => 1
def r_dc (S : pm_S) (f : pt_F) : Int := match pc_brief S f.1.1 with
  | none => 0
  | some p => match pf_around S p f.1.2.1 f.2.2 with
    | some _ => 0
    | none => match pf_first S p f.1.2.1 with
      | none => 0
      | some q => sp_i (pf_unlike S p f.1.2.1 (pm_ln S (pf_end S q - 1)).1.1 (pm_ln S (pf_end S q - 1)).1.2.1).isSome
theorem pc_brief_get {S : pm_S} {n : List Int} {p : Nat} (h : pc_brief S n = some p) : ∃ c, S.1[p]? = some c ∧ c.2 = n := by
  have := sp_fd_lt _ _ h
  have hc : S.1[p]? = some (S.1[p]'(by omega)) := List.getElem?_eq_getElem (by omega)
  refine ⟨_, hc, ?_⟩
  have q := this.2.2
  rw [hc] at q
  exact of_decide_eq_true q
theorem pc_real_get {S : pm_S} {n : List Int} {p : Nat} (h : pc_real S n = some p) : ∃ c, S.1[p]? = some c ∧ c.1 = n := by
  have := sp_fd_lt _ _ h
  have hc : S.1[p]? = some (S.1[p]'(by omega)) := List.getElem?_eq_getElem (by omega)
  refine ⟨_, hc, ?_⟩
  have q := this.2.2
  rw [hc] at q
  exact of_decide_eq_true q
theorem pf_is_get {S : pm_S} {p i : Nat} {n : List Int} (h : pf_is S p n i = true) : ∃ x, S.2[i]? = some x ∧ x.2.2.1 = p ∧ x.2.2.2 = true ∧ x.1.2.2 = n := by
  unfold pf_is at h
  cases e : S.2[i]? with
  | none => rw [e] at h; cases h
  | some x =>
    rw [e] at h
    simp only [Bool.and_eq_true, decide_eq_true_eq] at h
    exact ⟨x, rfl, h.1, h.2.1, h.2.2⟩
theorem pf_in_get {S : pm_S} {i : Nat} {z : Int} {x : pm_L} (h : pf_in S z i = true) (hx : S.2[i]? = some x) : x.2.1.1 ≠ -1 ∧ x.2.1.1 ≤ z ∧ z ≤ x.2.1.2.1 := by
  unfold pf_in at h
  rw [hx] at h
  simp only [Bool.and_eq_true, decide_eq_true_eq] at h
  exact h
theorem r_fc_in {S : pm_S} (h32 : S.2.length ≤ 32) (f : pt_F) : 1 ≤ r_fc S f ∧ r_fc S f ≤ 32 := by
  unfold r_fc
  split
  · omega
  · split
    · rename_i a ha
      have := sp_fd_lt _ _ ha
      have := pf_end_le (S := S) (a := a) (by omega)
      omega
    · omega
theorem r_dc_in (S : pm_S) (f : pt_F) : 0 ≤ r_dc S f ∧ r_dc S f ≤ 1 := by
  unfold r_dc
  split
  · omega
  · split
    · omega
    · split
      · omega
      · unfold sp_i
        split <;> omega
theorem m_RW_retraceFrame {l : Launch} {G : am_G} {h : am_H} {k bT c bM kp cp z : Nat} {T : pt_S} {S : pm_S} {out : List Int} {fc dc : Int} {f : pt_F} (w : rw_W h k bT c bM kp cp T S out fc dc) (ok : pm_ok S) (hf : am_fs [k, kp, cp] h z f) (hfc : fc < 9900) (hdc : dc < 9900) : am_M l G M_RW_retraceFrame [.ref k, .ref z] h (rw_P h k bT c bM kp cp T S (out ++ r_txt S f) (fc + r_fc S f) (dc + r_dc S f)) := by
  have hf0 := hf
  obtain ⟨o, m, p, hb, hf⟩ := hf
  obtain ⟨r0, sO, sM, sP⟩ := hf h am_fr.rf
  obtain ⟨s, mc1, mc2, mc3, mc4, mc5⟩ := w.mc
  refine am_M.of (by decide) (Nat.le_of_ble_eq_true rfl) (fun X hB hR => ?_)
  show am_Z X 0 [.ref k, .ref z, am_u, am_u, am_u, am_u] [] h 0 0
  refine am_aload_n hB d_RW_retraceFrame_0 rfl rfl rfl ?_
  refine am_getf hB d_RW_retraceFrame_1 F_RW_15_6 w.1 rfl ?_
  refine am_aload_n hB d_RW_retraceFrame_4 rfl rfl rfl ?_
  refine am_getf hB d_RW_retraceFrame_5 F_RW_72_2 r0 rfl ?_
  refine am_callV hB hR (as := [.ref o]) mc1 (mn_lineOfShort w.2.2.1 sO) c_RW_39 rfl rfl d_RW_retraceFrame_8 ⟨by decide, Nat.le_of_ble_eq_true rfl⟩ ⟨by decide, by decide⟩ rfl rfl (fun rr hh hp => ?_)
  obtain ⟨rfl, rfl⟩ := hp
  show am_Z X 11 [.ref k, .ref z, am_u, am_u, am_u, am_u] [mp_rv bM (pc_brief S f.1.1)] h 0 0
  cases hpc : pc_brief S f.1.1 with
  | none =>
    show am_Z X 11 [.ref k, .ref z, am_u, am_u, am_u, am_u] [.null] h 0 0
    refine am_astore_n hB d_RW_retraceFrame_11 rfl (by rw [hR.nL]; decide) rfl rfl ?_
    refine am_aload_n hB d_RW_retraceFrame_12 rfl rfl rfl ?_
    refine am_ifnonnullN hB d_RW_retraceFrame_13 ?_
    refine am_aload_n hB d_RW_retraceFrame_16 rfl rfl rfl ?_
    refine am_aload_n hB d_RW_retraceFrame_17 rfl rfl rfl ?_
    refine am_callV hB hR (as := [.ref z]) w.1 (m_RW_writeUnchanged w hf0 (by omega)) c_RW_77 rfl rfl d_RW_retraceFrame_18 ⟨by decide, Nat.le_of_ble_eq_true rfl⟩ ⟨by decide, by decide⟩ rfl rfl (fun rr hh hp => ?_)
    obtain ⟨rfl, w1, f1⟩ := hp
    show am_Z X 21 [.ref k, .ref z, .null, am_u, am_u, am_u] [] hh 0 0
    refine am_vret hB hR d_RW_retraceFrame_21 rfl ?_ (Nat.zero_le _) (Nat.zero_le _)
    refine ⟨rfl, ?_, f1⟩
    have e1 : r_txt S f = w_same f := by unfold r_txt; rw [hpc]
    have e2 : r_fc S f = 1 := by unfold r_fc; rw [hpc]
    have e3 : r_dc S f = 0 := by unfold r_dc; rw [hpc]
    rw [e1, e2, e3, show dc + 0 = dc by omega]
    exact w1
  | some q =>
    show am_Z X 11 [.ref k, .ref z, am_u, am_u, am_u, am_u] [.ref (bM + 4 + 3 * q)] h 0 0
    obtain ⟨cc, hcc, -⟩ := pc_brief_get hpc
    obtain ⟨q8, fm, em, rcl, -, -⟩ := w.2.2.1.cls hcc
    obtain ⟨sR, sB⟩ := w.cs hcc
    refine am_astore_n hB d_RW_retraceFrame_11 rfl (by rw [hR.nL]; decide) rfl rfl ?_
    refine am_aload_n hB d_RW_retraceFrame_12 rfl rfl rfl ?_
    refine am_ifnonnullR (tgt := 22) hB d_RW_retraceFrame_13 (by decide) ?_
    refine am_aload_n hB d_RW_retraceFrame_22 rfl rfl rfl ?_
    refine am_getf hB d_RW_retraceFrame_23 F_RW_15_6 w.1 rfl ?_
    refine am_aload_n hB d_RW_retraceFrame_26 rfl rfl rfl ?_
    refine am_aload_n hB d_RW_retraceFrame_27 rfl rfl rfl ?_
    refine am_getf hB d_RW_retraceFrame_28 F_RW_80_2 r0 rfl ?_
    refine am_aload_n hB d_RW_retraceFrame_31 rfl rfl rfl ?_
    refine am_getf hB d_RW_retraceFrame_32 F_RW_83_2 r0 rfl ?_
    refine am_callV hB hR (as := [.ref (bM + 4 + 3 * q), .ref m, am_n f.2.2]) mc1 (mn_groupAround w.2.2.1 sM hcc hb) c_RW_86 rfl rfl d_RW_retraceFrame_35 ⟨by decide, Nat.le_of_ble_eq_true rfl⟩ ⟨by decide, by decide⟩ rfl rfl (fun rr hh hp => ?_)
    obtain ⟨rfl, rfl⟩ := hp
    show am_Z X 38 [.ref k, .ref z, .ref (bM + 4 + 3 * q), am_u, am_u, am_u] [am_n (sp_oi (pf_around S q f.1.2.1 f.2.2))] h 0 0
    cases har : pf_around S q f.1.2.1 f.2.2 with
    | some a =>
      have ha := sp_fd_lt _ _ har
      have ha2 := ha.2.2
      rw [Bool.and_eq_true] at ha2
      obtain ⟨x, hx, -, hl, -⟩ := pf_is_get ha2.2
      have hin := pf_in_get ha2.1 hx
      show am_Z X 38 [.ref k, .ref z, .ref (bM + 4 + 3 * q), am_u, am_u, am_u] [am_n (a : Nat)] h 0 0
      refine am_istore_n hB d_RW_retraceFrame_38 rfl (by rw [hR.nL]; decide) rfl ?_
      refine am_iload_n hB d_RW_retraceFrame_39 rfl rfl ?_
      refine ai_const hB d_RW_retraceFrame_40 ?_
      refine ai_jeq (tgt := 54) hB d_RW_retraceFrame_41 (by decide) (fun c1 => ?_) (fun c1 => ?_)
      · omega
      refine am_aload_n hB d_RW_retraceFrame_44 rfl rfl rfl ?_
      refine am_iload_n hB d_RW_retraceFrame_45 rfl rfl ?_
      refine am_aload_n hB d_RW_retraceFrame_46 rfl rfl rfl ?_
      refine am_getf hB d_RW_retraceFrame_47 F_RW_83_2 r0 rfl ?_
      refine am_callV hB hR (as := [am_n (a : Nat), am_n f.2.2]) w.1 (m_RW_writeInlined w ok hx hl hin hfc) c_RW_90 rfl rfl d_RW_retraceFrame_50 ⟨by decide, Nat.le_of_ble_eq_true rfl⟩ ⟨by decide, by decide⟩ rfl rfl (fun rr hh hp => ?_)
      obtain ⟨rfl, w1, f1⟩ := hp
      show am_Z X 53 [.ref k, .ref z, .ref (bM + 4 + 3 * q), am_n (a : Nat), am_u, am_u] [] hh 0 0
      refine am_vret hB hR d_RW_retraceFrame_53 rfl ?_ (Nat.zero_le _) (Nat.zero_le _)
      refine ⟨rfl, ?_, f1⟩
      have e1 : r_txt S f = (pf_grp S a).flatMap (w_one f.2.2) := by unfold r_txt; simp only [hpc, har]
      have e2 : r_fc S f = (pf_end S a : Nat) - a := by unfold r_fc; simp only [hpc, har]
      have e3 : r_dc S f = 0 := by unfold r_dc; simp only [hpc, har]
      rw [e1, e2, e3, show dc + 0 = dc by omega]
      exact w1
    | none =>
      show am_Z X 38 [.ref k, .ref z, .ref (bM + 4 + 3 * q), am_u, am_u, am_u] [am_n (-1)] h 0 0
      have e2 : r_fc S f = 1 := by unfold r_fc; simp only [hpc, har]
      refine am_istore_n hB d_RW_retraceFrame_38 rfl (by rw [hR.nL]; decide) rfl ?_
      refine am_iload_n hB d_RW_retraceFrame_39 rfl rfl ?_
      refine ai_const hB d_RW_retraceFrame_40 ?_
      refine ai_jeq (tgt := 54) hB d_RW_retraceFrame_41 (by decide) (fun c1 => ?_) (fun c1 => ?_)
      · refine am_aload_n hB d_RW_retraceFrame_54 rfl rfl rfl ?_
        refine am_getf hB d_RW_retraceFrame_55 F_RW_15_6 w.1 rfl ?_
        refine am_aload_n hB d_RW_retraceFrame_58 rfl rfl rfl ?_
        refine am_aload_n hB d_RW_retraceFrame_59 rfl rfl rfl ?_
        refine am_getf hB d_RW_retraceFrame_60 F_RW_80_2 r0 rfl ?_
        refine am_callV hB hR (as := [.ref (bM + 4 + 3 * q), .ref m]) mc1 (mn_firstGroup w.2.2.1 sM hcc) c_RW_94 rfl rfl d_RW_retraceFrame_63 ⟨by decide, Nat.le_of_ble_eq_true rfl⟩ ⟨by decide, by decide⟩ rfl rfl (fun rr hh hp => ?_)
        obtain ⟨rfl, rfl⟩ := hp
        show am_Z X 66 [.ref k, .ref z, .ref (bM + 4 + 3 * q), am_n (-1), am_u, am_u] [am_n (sp_oi (pf_first S q f.1.2.1))] h 0 0
        cases hfi : pf_first S q f.1.2.1 with
        | none =>
          show am_Z X 66 [.ref k, .ref z, .ref (bM + 4 + 3 * q), am_n (-1), am_u, am_u] [am_n (-1)] h 0 0
          refine am_istore hB d_RW_retraceFrame_66 (by rw [hR.nL]; decide) rfl ?_
          refine am_iload hB d_RW_retraceFrame_68 rfl ?_
          refine ai_const hB d_RW_retraceFrame_70 ?_
          refine ai_jne (tgt := 88) hB d_RW_retraceFrame_71 (by decide) (fun c2 => ?_) (fun c2 => ?_)
          · omega
          refine am_aload_n hB d_RW_retraceFrame_74 rfl rfl rfl ?_
          refine am_aload_n hB d_RW_retraceFrame_75 rfl rfl rfl ?_
          refine am_getf hB d_RW_retraceFrame_76 F_RW_45_0 rcl rfl ?_
          refine am_aload_n hB d_RW_retraceFrame_79 rfl rfl rfl ?_
          refine am_getf hB d_RW_retraceFrame_80 F_RW_80_2 r0 rfl ?_
          refine am_aload_n hB d_RW_retraceFrame_83 rfl rfl rfl ?_
          refine am_callV hB hR (as := [.ref (bM + 5 + 3 * q), .ref m, .ref z]) w.1 (m_RW_writeReal w sR (fun h' f' => (hf h' f').2.2.1) hf0 (by omega)) c_RW_98 rfl rfl d_RW_retraceFrame_84 ⟨by decide, Nat.le_of_ble_eq_true rfl⟩ ⟨by decide, by decide⟩ rfl rfl (fun rr hh hp => ?_)
          obtain ⟨rfl, w1, f1⟩ := hp
          show am_Z X 87 [.ref k, .ref z, .ref (bM + 4 + 3 * q), am_n (-1), am_n (-1), am_u] [] hh 0 0
          refine am_vret hB hR d_RW_retraceFrame_87 rfl ?_ (Nat.zero_le _) (Nat.zero_le _)
          refine ⟨rfl, ?_, f1⟩
          have e1 : r_txt S f = w_real cc.1 f.1.2.1 f := by unfold r_txt; simp only [hpc, har, hfi, pm_cl_eq hcc]
          have e3 : r_dc S f = 0 := by unfold r_dc; simp only [hpc, har, hfi]
          rw [e1, e2, e3, show dc + 0 = dc by omega]
          exact w1
        | some a =>
          have ha := sp_fd_lt _ _ hfi
          obtain ⟨x, hx, -, hl, -⟩ := pf_is_get ha.2.2
          have hen := pf_end_le (S := S) (a := a) (by omega)
          have hy : S.2[pf_end S a - 1]? = some (S.2[pf_end S a - 1]'(by omega)) := List.getElem?_eq_getElem (by omega)
          generalize (S.2[pf_end S a - 1]'(by omega)) = y at hy
          obtain ⟨j32, gs, ry, -⟩ := w.2.2.1.line hy
          obtain ⟨tO, tM, -⟩ := w.ls hy
          show am_Z X 66 [.ref k, .ref z, .ref (bM + 4 + 3 * q), am_n (-1), am_u, am_u] [am_n (a : Nat)] h 0 0
          refine am_istore hB d_RW_retraceFrame_66 (by rw [hR.nL]; decide) rfl ?_
          refine am_iload hB d_RW_retraceFrame_68 rfl ?_
          refine ai_const hB d_RW_retraceFrame_70 ?_
          refine ai_jne (tgt := 88) hB d_RW_retraceFrame_71 (by decide) (fun c2 => ?_) (fun c2 => ?_)
          · refine am_aload_n hB d_RW_retraceFrame_88 rfl rfl rfl ?_
            refine am_getf hB d_RW_retraceFrame_89 F_RW_15_6 w.1 rfl ?_
            refine am_iload hB d_RW_retraceFrame_92 rfl ?_
            refine am_callV hB hR (as := [am_n (a : Nat)]) mc1 (mn_lastLineOf w.2.2.1 hx hl) c_RW_102 rfl rfl d_RW_retraceFrame_94 ⟨by decide, Nat.le_of_ble_eq_true rfl⟩ ⟨by decide, by decide⟩ rfl rfl (fun rr hh hp => ?_)
            obtain ⟨rfl, rfl⟩ := hp
            show am_Z X 97 [.ref k, .ref z, .ref (bM + 4 + 3 * q), am_n (-1), am_n (a : Nat), am_u] [.ref (bM + 29 + 4 * (pf_end S a - 1))] h 0 0
            refine am_astore hB d_RW_retraceFrame_97 (by rw [hR.nL]; decide) rfl rfl ?_
            refine am_aload_n hB d_RW_retraceFrame_99 rfl rfl rfl ?_
            refine am_aload hB d_RW_retraceFrame_100 rfl rfl ?_
            refine am_getf hB d_RW_retraceFrame_102 F_RW_106_5 ry rfl ?_
            refine am_aload hB d_RW_retraceFrame_105 rfl rfl ?_
            refine am_getf hB d_RW_retraceFrame_107 F_RW_109_5 ry rfl ?_
            refine am_aload_n hB d_RW_retraceFrame_110 rfl rfl rfl ?_
            refine am_callV hB hR (as := [.ref (bM + 30 + 4 * (pf_end S a - 1)), .ref (bM + 31 + 4 * (pf_end S a - 1)), .ref z]) w.1 (m_RW_writeReal w tO tM hf0 (by omega)) c_RW_98 rfl rfl d_RW_retraceFrame_111 ⟨by decide, Nat.le_of_ble_eq_true rfl⟩ ⟨by decide, by decide⟩ rfl rfl (fun rr hh hp => ?_)
            obtain ⟨rfl, w1, f1⟩ := hp
            show am_Z X 114 [.ref k, .ref z, .ref (bM + 4 + 3 * q), am_n (-1), am_n (a : Nat), .ref (bM + 29 + 4 * (pf_end S a - 1))] [] hh 0 0
            obtain ⟨r1, sO1, sM1, sP1⟩ := hf _ f1
            obtain ⟨s1, mc1', -⟩ := w1.mc
            obtain ⟨-, gs1, ry1, -⟩ := w1.2.2.1.line hy
            have e1 : r_txt S f = w_real y.1.1 y.1.2.1 f := by unfold r_txt; simp only [hpc, har, hfi, pm_ln_eq hy]
            have e3 : r_dc S f = sp_i (pf_unlike S q f.1.2.1 y.1.1 y.1.2.1).isSome := by unfold r_dc; simp only [hpc, har, hfi, pm_ln_eq hy]
            refine am_aload_n hB d_RW_retraceFrame_114 rfl rfl rfl ?_
            refine am_getf hB d_RW_retraceFrame_115 F_RW_15_6 w1.1 rfl ?_
            refine am_aload_n hB d_RW_retraceFrame_118 rfl rfl rfl ?_
            refine am_aload_n hB d_RW_retraceFrame_119 rfl rfl rfl ?_
            refine am_getf hB d_RW_retraceFrame_120 F_RW_80_2 r1 rfl ?_
            refine am_aload hB d_RW_retraceFrame_123 rfl rfl ?_
            refine am_callV hB hR (as := [.ref (bM + 4 + 3 * q), .ref m, .ref (bM + 29 + 4 * (pf_end S a - 1))]) mc1' (mn_hasUnlike w1.2.2.1 sM1 hcc ry1 (tO _ f1) (tM _ f1)) c_RW_110 rfl rfl d_RW_retraceFrame_125 ⟨by decide, Nat.le_of_ble_eq_true rfl⟩ ⟨by decide, by decide⟩ rfl rfl (fun rr hh hp => ?_)
            obtain ⟨rfl, rfl⟩ := hp
            cases hun : (pf_unlike S q f.1.2.1 y.1.1 y.1.2.1).isSome with
            | false =>
              show am_Z X 128 [.ref k, .ref z, .ref (bM + 4 + 3 * q), am_n (-1), am_n (a : Nat), .ref (bM + 29 + 4 * (pf_end S a - 1))] [am_n 0] hh 0 0
              refine ai_zeq (tgt := 141) hB d_RW_retraceFrame_128 (by decide) (fun c3 => ?_) (fun c3 => ?_)
              · refine am_vret hB hR d_RW_retraceFrame_141 rfl ?_ (Nat.zero_le _) (Nat.zero_le _)
                refine ⟨rfl, ?_, f1⟩
                rw [e1, e2, e3, hun, show dc + sp_i false = dc by unfold sp_i; rw [if_neg (by decide)]; omega]
                exact w1
              · omega
            | true =>
              show am_Z X 128 [.ref k, .ref z, .ref (bM + 4 + 3 * q), am_n (-1), am_n (a : Nat), .ref (bM + 29 + 4 * (pf_end S a - 1))] [am_n 1] hh 0 0
              have b9 := w1.2.2.2.2.2.2
              obtain ⟨w2, f2⟩ := w1.put (fc + 1) (dc + 1) w1.2.2.2.2.2.1 ⟨by omega, by omega⟩
              refine ai_zeq (tgt := 141) hB d_RW_retraceFrame_128 (by decide) (fun c3 => ?_) (fun c3 => ?_)
              · omega
              refine am_aload_n hB d_RW_retraceFrame_131 rfl rfl rfl ?_
              refine am_dup hB d_RW_retraceFrame_132 rfl ?_
              refine am_getf hB d_RW_retraceFrame_133 F_RW_114_6 w1.1 rfl ?_
              refine ai_const hB d_RW_retraceFrame_136 ?_
              refine ai_add hB d_RW_retraceFrame_137 ?_
              refine am_putf hB d_RW_retraceFrame_138 P_RW_114_6 w1.1 (by simp) am_fit.i rfl ?_
              refine am_vret hB hR d_RW_retraceFrame_141 rfl ?_ (Nat.zero_le _) (Nat.zero_le _)
              refine ⟨rfl, ?_, f1.tr f2⟩
              rw [e1, e2, e3, hun]
              exact w2
          · omega
      · omega
