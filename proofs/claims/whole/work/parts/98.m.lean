/-! the model reports -/
theorem kp_in : ∀ (xs : List Int) (b : Bool), 0 ≤ kp b xs ∧ kp b xs ≤ xs.length
  | [], b => by simp [kp]
  | c :: r, b => by
    have := kp_in r (decide (c = 10))
    rw [kp, List.length_cons]
    split <;> omega
theorem m_MO_report {l : Launch} {G : am_G} {hA : am_H} {m : Nat} {U : mv} {V : dv} (M : am_mo hA m U) (R : mo_rel U V) (ok : V.ok) : am_M l G M_MO_report [.ref m] hA (fun rr h' => ∃ U', am_mo h' m U' ∧ ko m 35 hA h' ∧ (match pt_parse (cut V.dr) with
    | .inl row => rr = some (am_n 0) ∧ U'.code_ = 1 ∧ mo_rel U' (dv.s_wr (dv.s_dr V ([])) (row))
    | .inr T => if V.ld = false then rr = some (am_n 0) ∧ U'.code_ = 2 ∧ mo_rel U' (dv.s_dr V ([])) else (if (r_all V.S T T.1.length).length ≤ 1000 then (if dv_at V (r_all V.S T T.1.length) = 16 then rr = some (am_n 0) ∧ U'.code_ = 2 ∧ mo_rel U' (dv.s_dr V ([])) else rr = some (am_n (dv_at V (r_all V.S T T.1.length))) ∧ U'.code_ = 0 ∧ mo_rel U' (dv_ent (dv.s_db (dv.s_pr (dv.s_dr V ([])) (r_all V.S T T.1.length)) (t_sum (r_dc V.S) T T.1.length)) (r_all V.S T T.1.length))) else rr = some (am_n 0) ∧ U'.code_ = 2 ∧ mo_rel U' (dv.s_dr V ([]))))) := by
  have nS := R.nm
  have hn16 := ok.2.2.1
  refine am_M.of (by decide) (Nat.le_of_ble_eq_true rfl) (fun X hB hR => ?_)
  show am_Z X 0 [.ref m, am_u, am_u, am_u, am_u] [] hA 0 0
  refine am_aload_n hB d_MO_report_0 rfl rfl rfl ?_
  refine am_aload_n hB d_MO_report_1 rfl rfl rfl ?_
  refine ai_const hB d_MO_report_2 ?_
  show am_Z X 3 [.ref m, am_u, am_u, am_u, am_u] [am_n (sp_i true), .ref m, .ref m] hA 0 0
  refine am_callV hB hR (as := [am_n (sp_i true)]) M.1 (m_MO_rewrite (r := true) M R ok nS.fn nS.cx) c_MO_347 rfl rfl d_MO_report_3 ⟨by decide, Nat.le_of_ble_eq_true rfl⟩ ⟨by decide, by decide⟩ rfl rfl (fun rr h hp => ?_)
  obtain ⟨U1, M, f, -, hp⟩ := hp
  have bad : ∀ (c : Int) (V' : dv), 0 < c → c < 3 → rr = some (am_n c) → mo_rel U1 V' → (∀ (r : Option Value) (U' : mv), r = some (am_n 0) ∧ U'.code_ = c ∧ mo_rel U' V' → (match pt_parse (cut V.dr) with
    | .inl row => r = some (am_n 0) ∧ U'.code_ = 1 ∧ mo_rel U' (dv.s_wr (dv.s_dr V ([])) (row))
    | .inr T => if V.ld = false then r = some (am_n 0) ∧ U'.code_ = 2 ∧ mo_rel U' (dv.s_dr V ([])) else (if (r_all V.S T T.1.length).length ≤ 1000 then (if dv_at V (r_all V.S T T.1.length) = 16 then r = some (am_n 0) ∧ U'.code_ = 2 ∧ mo_rel U' (dv.s_dr V ([])) else r = some (am_n (dv_at V (r_all V.S T T.1.length))) ∧ U'.code_ = 0 ∧ mo_rel U' (dv_ent (dv.s_db (dv.s_pr (dv.s_dr V ([])) (r_all V.S T T.1.length)) (t_sum (r_dc V.S) T T.1.length)) (r_all V.S T T.1.length))) else r = some (am_n 0) ∧ U'.code_ = 2 ∧ mo_rel U' (dv.s_dr V ([]))))) → am_Z X 6 [.ref m, am_u, am_u, am_u, am_u] (rr.toList ++ [.ref m]) h 0 0 := by
    intro c V' c0 c3 hc rR pst
    subst hc
    show am_Z X 6 [.ref m, am_u, am_u, am_u, am_u] [am_n c, .ref m] h 0 0
    refine mo_p_code hB d_MO_report_6 P_MO_113_11 M f (fun h M f => ?_)
    refine am_aload_n hB d_MO_report_9 rfl rfl rfl ?_
    refine am_getf hB d_MO_report_10 F_MO_113_11 M.1 rfl ?_
    show am_Z X 13 [.ref m, am_u, am_u, am_u, am_u] [am_n c] h 0 0
    refine ai_zle (tgt := 18) hB d_MO_report_13 (by decide) (fun c1 => ?_) (fun c1 => ?_)
    · omega
    refine ai_const hB d_MO_report_16 ?_
    refine am_iret hB hR d_MO_report_17 rfl rfl ?_ (Nat.zero_le _) (Nat.zero_le _)
    exact ⟨_, M, f, pst _ _ ⟨rfl, rfl, rR⟩⟩
  cases e : pt_parse (cut V.dr) with
  | inl row =>
    rw [e] at hp
    obtain ⟨rfl, rR⟩ := hp
    refine bad 1 _ (by omega) (by omega) rfl rR (fun r U' q => ?_)
    rw [e]
    exact q
  | inr T =>
    rw [e] at hp
    simp only at hp
    by_cases hld : V.ld = false
    · rw [if_pos hld] at hp
      obtain ⟨rfl, rR⟩ := hp
      refine bad 2 _ (by omega) (by omega) rfl rR (fun r U' q => ?_)
      rw [e]
      simp only
      rw [if_pos hld]
      exact q
    · rw [if_neg hld, if_pos trivial] at hp
      by_cases hl : (r_all V.S T T.1.length).length ≤ 1000
      rotate_left
      · rw [if_neg hl] at hp
        obtain ⟨rfl, rR⟩ := hp
        refine bad 2 _ (by omega) (by omega) rfl rR (fun r U' q => ?_)
        rw [e]
        simp only
        rw [if_neg hld, if_neg hl]
        exact q
      rw [if_pos hl] at hp
      obtain ⟨rfl, rR, w1, w2, w3, w4, w5⟩ := hp
      have kwX := r_all_kw nS (pt_parse_nm e)
      generalize hxs : r_all V.S T T.1.length = xs at *
      generalize hdc : t_sum (r_dc V.S) T T.1.length = dc at *
      have hat := dv_at_in (V := V) (o := xs) hn16.1
      show am_Z X 6 [.ref m, am_u, am_u, am_u, am_u] [am_n 0, .ref m] h 0 0
      refine mo_p_code hB d_MO_report_6 P_MO_113_11 M f (fun h M f => ?_)
      refine am_aload_n hB d_MO_report_9 rfl rfl rfl ?_
      refine am_getf hB d_MO_report_10 F_MO_113_11 M.1 rfl ?_
      show am_Z X 13 [.ref m, am_u, am_u, am_u, am_u] [am_n 0] h 0 0
      refine ai_zle (tgt := 18) hB d_MO_report_13 (by decide) (fun c1 => ?_) (fun c1 => ?_)
      rotate_left
      · omega
      refine am_aload_n hB d_MO_report_18 rfl rfl rfl ?_
      have M : am_mo h m (mv.s_code U1 (0)) := M
      refine am_callV hB hR (as := []) M.1 (m_MO_keyOf M rR.2.2.2.2.2.2.2.2 w3 hl w4 kwX) c_MO_384 rfl rfl d_MO_report_19 ⟨by decide, Nat.le_of_ble_eq_true rfl⟩ ⟨by decide, by decide⟩ rfl rfl (fun rr h hp => ?_)
      obtain ⟨rfl, ⟨hk, M⟩, f1⟩ := hp
      have f := f.tr f1
      obtain ⟨U2, hU2, M⟩ : ∃ U2 : mv, U2 = (mv.s_hash (mv.s_code U1 (0)) (hk)) ∧ am_mo h m U2 := ⟨_, rfl, M⟩
      have R2 : mo_rel U2 (dv.s_dr V ([])) := by rw [hU2]; exact rR
      have d2 : U2.doubts_ = dc := by rw [hU2]; exact w1
      have s2 : U2.outSize_ = xs.length := by rw [hU2]; exact w3
      have o2 : rl U2.out_ xs := by rw [hU2]; exact w4
      have cd2 : U2.code_ = 0 := by rw [hU2]; rfl
      have bk := R2.2.2.2.2.2.2.2.1
      have b1 : U2.crashCount_ = V.n := bk.1
      have b3 : U2.keys_ = V.gk := bk.2.2.1
      clear hU2
      show am_Z X 22 [.ref m, am_u, am_u, am_u, am_u] [.long (dv_key xs)] h 0 0
      -- behind the search
      have tail : ∀ (U3 : mv) (h : am_H) (fr : Int), (0 ≤ fr ∧ fr ≤ 1000) → dv_at V xs ≠ 16 → am_mo h m U3 → mo_rel U3 (dv.s_db (dv.s_pr (dv.s_dr V ([])) (xs)) (dc)) → U3.code_ = 0 → ko m 35 hA h → am_Z X 75 [.ref m, .long (dv_key xs), am_u, am_n (dv_at V xs), am_u] [am_n fr] h 0 0 := by
        intro U3 h fr hfr hp16 M R3 c3 f
        obtain ⟨a1, a2, a3, a4, a5, a6, a7, ⟨a81, a82, a83, a84, a85, a86⟩, a9⟩ := R3
        refine am_istore hB d_MO_report_75 (by rw [hR.nL]; decide) rfl ?_
        refine am_aload_n hB d_MO_report_77 rfl rfl rfl ?_
        refine am_iload hB d_MO_report_78 rfl ?_
        show am_Z X 80 [.ref m, .long (dv_key xs), am_u, am_n (dv_at V xs), am_n fr] [am_n fr, .ref m] h 0 0
        refine ai_zlt (tgt := 92) hB d_MO_report_80 (by decide) (fun c4 => ?_) (fun c4 => ?_)
        · omega
        refine am_aload_n hB d_MO_report_83 rfl rfl rfl ?_
        refine am_getf hB d_MO_report_84 F_MO_391_11 M.1 rfl ?_
        refine ai_const hB d_MO_report_87 ?_
        refine ai_add hB d_MO_report_88 ?_
        refine am_goto (tgt := 96) hB d_MO_report_89 (by decide) ?_
        refine mo_p_reportCount hB d_MO_report_96 P_MO_391_11 M f (fun h M f => ?_)
        refine am_iload_n hB d_MO_report_99 rfl rfl ?_
        refine am_aload_n hB d_MO_report_100 rfl rfl rfl ?_
        refine am_getf hB d_MO_report_101 F_MO_388_11 M.1 rfl ?_
        have M : am_mo h m (mv.s_reportCount U3 (U3.reportCount_ + 1)) := M
        show am_Z X 104 [.ref m, .long (dv_key xs), am_u, am_n (dv_at V xs), am_n fr] [am_n U3.crashCount_, am_n (dv_at V xs)] h 0 0
        rw [show U3.crashCount_ = V.n from a81]
        by_cases hpn : dv_at V xs = V.n
        · refine ai_jne (tgt := 141) hB d_MO_report_104 (by decide) (fun c5 => ?_) (fun c5 => ?_)
          · exact absurd hpn c5
          refine am_aload_n hB d_MO_report_107 rfl rfl rfl ?_
          refine am_getf hB d_MO_report_108 F_MO_100_11 M.1 rfl ?_
          refine am_iload_n hB d_MO_report_111 rfl rfl ?_
          refine am_lload_n hB d_MO_report_112 rfl rfl ?_
          refine mo_s_keys hB d_MO_report_113 M f (fun h M f => ?_)
          refine am_aload_n hB d_MO_report_114 rfl rfl rfl ?_
          refine am_getf hB d_MO_report_115 F_MO_104_11 M.1 rfl ?_
          refine am_iload_n hB d_MO_report_118 rfl rfl ?_
          refine ai_const hB d_MO_report_119 ?_
          refine mo_s_times hB d_MO_report_120 M f (fun h M f => ?_)
          refine am_aload_n hB d_MO_report_121 rfl rfl rfl ?_
          refine am_getf hB d_MO_report_122 F_MO_107_11 M.1 rfl ?_
          refine am_iload_n hB d_MO_report_125 rfl rfl ?_
          refine am_aload_n hB d_MO_report_126 rfl rfl rfl ?_
          refine am_getf hB d_MO_report_127 F_MO_391_11 M.1 rfl ?_
          refine mo_s_firsts hB d_MO_report_130 M f (fun h M f => ?_)
          refine am_aload_n hB d_MO_report_131 rfl rfl rfl ?_
          refine am_dup hB d_MO_report_132 rfl ?_
          refine am_getf hB d_MO_report_133 F_MO_388_11 M.1 rfl ?_
          refine ai_const hB d_MO_report_136 ?_
          refine ai_add hB d_MO_report_137 ?_
          refine mo_p_crashCount hB d_MO_report_138 P_MO_388_11 M f (fun h M f => ?_)
          refine am_aload_n hB d_MO_report_141 rfl rfl rfl ?_
          refine am_getf hB d_MO_report_142 F_MO_104_11 M.1 rfl ?_
          refine am_iload_n hB d_MO_report_145 rfl rfl ?_
          refine am_dup2 hB d_MO_report_146 rfl rfl ?_
          refine ai_iald hB d_MO_report_147 ty_1 M.times ?_
          refine ai_const hB d_MO_report_148 ?_
          refine ai_add hB d_MO_report_149 ?_
          refine mo_s_times hB d_MO_report_150 M f (fun h M f => ?_)
          refine am_aload_n hB d_MO_report_151 rfl rfl rfl ?_
          refine am_getf hB d_MO_report_152 F_MO_110_11 M.1 rfl ?_
          refine am_iload_n hB d_MO_report_155 rfl rfl ?_
          refine am_aload_n hB d_MO_report_156 rfl rfl rfl ?_
          refine am_getf hB d_MO_report_157 F_MO_391_11 M.1 rfl ?_
          refine mo_s_lasts hB d_MO_report_160 M f (fun h M f => ?_)
          refine am_iload_n hB d_MO_report_161 rfl rfl ?_
          refine am_iret hB hR d_MO_report_162 rfl rfl ?_ (Nat.zero_le _) (Nat.zero_le _)
          refine ⟨_, M, f, ?_⟩
          rw [e]
          simp only
          rw [if_neg hld, hxs, if_pos hl, if_neg hp16, hdc]
          refine ⟨rfl, c3, a1, a2, a3, a4, a5, a6, a7, ⟨?_, ?_, ?_, ?_, ?_, ?_⟩, a9⟩
          · show U3.crashCount_ + 1 = if dv_at V xs = V.n then V.n + 1 else V.n
            rw [if_pos hpn, show U3.crashCount_ = V.n from a81]
          · show U3.reportCount_ + 1 = V.rc + 1
            rw [show U3.reportCount_ = V.rc from a82]
          · show am_upj U3.keys_ (dv_at V xs) (dv_key xs) = if dv_at V xs = V.n then am_upj V.gk (dv_at V xs) (dv_key xs) else V.gk
            rw [if_pos hpn, show U3.keys_ = V.gk from a83]
          · show am_up (am_up U3.times_ (dv_at V xs) 0) (dv_at V xs) (am_up U3.times_ (dv_at V xs) 0 (dv_at V xs) + 1) = am_up V.gt (dv_at V xs) (V.gt (dv_at V xs) + 1)
            rw [show U3.times_ = V.gt from a84, am_up_eq, ok.2.2.2.2.2 (dv_at V xs) (by omega)]
            funext j
            unfold am_up
            split <;> rfl
          · show am_up U3.firsts_ (dv_at V xs) (U3.reportCount_ + 1) = if dv_at V xs = V.n then am_up V.gf (dv_at V xs) (V.rc + 1) else V.gf
            rw [if_pos hpn, show U3.firsts_ = V.gf from a85, show U3.reportCount_ = V.rc from a82]
          · show am_up U3.lasts_ (dv_at V xs) (U3.reportCount_ + 1) = am_up V.gl (dv_at V xs) (V.rc + 1)
            rw [show U3.lasts_ = V.gl from a86, show U3.reportCount_ = V.rc from a82]
        · refine ai_jne (tgt := 141) hB d_MO_report_104 (by decide) (fun c5 => ?_) (fun c5 => ?_)
          rotate_left
          · exact absurd c5 hpn
          refine am_aload_n hB d_MO_report_141 rfl rfl rfl ?_
          refine am_getf hB d_MO_report_142 F_MO_104_11 M.1 rfl ?_
          refine am_iload_n hB d_MO_report_145 rfl rfl ?_
          refine am_dup2 hB d_MO_report_146 rfl rfl ?_
          refine ai_iald hB d_MO_report_147 ty_1 M.times ?_
          refine ai_const hB d_MO_report_148 ?_
          refine ai_add hB d_MO_report_149 ?_
          refine mo_s_times hB d_MO_report_150 M f (fun h M f => ?_)
          refine am_aload_n hB d_MO_report_151 rfl rfl rfl ?_
          refine am_getf hB d_MO_report_152 F_MO_110_11 M.1 rfl ?_
          refine am_iload_n hB d_MO_report_155 rfl rfl ?_
          refine am_aload_n hB d_MO_report_156 rfl rfl rfl ?_
          refine am_getf hB d_MO_report_157 F_MO_391_11 M.1 rfl ?_
          refine mo_s_lasts hB d_MO_report_160 M f (fun h M f => ?_)
          refine am_iload_n hB d_MO_report_161 rfl rfl ?_
          refine am_iret hB hR d_MO_report_162 rfl rfl ?_ (Nat.zero_le _) (Nat.zero_le _)
          refine ⟨_, M, f, ?_⟩
          rw [e]
          simp only
          rw [if_neg hld, hxs, if_pos hl, if_neg hp16, hdc]
          refine ⟨rfl, c3, a1, a2, a3, a4, a5, a6, a7, ⟨?_, ?_, ?_, ?_, ?_, ?_⟩, a9⟩
          · show U3.crashCount_ = if dv_at V xs = V.n then V.n + 1 else V.n
            rw [if_neg hpn, show U3.crashCount_ = V.n from a81]
          · show U3.reportCount_ + 1 = V.rc + 1
            rw [show U3.reportCount_ = V.rc from a82]
          · show U3.keys_ = if dv_at V xs = V.n then am_upj V.gk (dv_at V xs) (dv_key xs) else V.gk
            rw [if_neg hpn, show U3.keys_ = V.gk from a83]
          · show am_up U3.times_ (dv_at V xs) (U3.times_ (dv_at V xs) + 1) = am_up V.gt (dv_at V xs) (V.gt (dv_at V xs) + 1)
            rw [show U3.times_ = V.gt from a84]
          · show U3.firsts_ = if dv_at V xs = V.n then am_up V.gf (dv_at V xs) (V.rc + 1) else V.gf
            rw [if_neg hpn, show U3.firsts_ = V.gf from a85]
          · show am_up U3.lasts_ (dv_at V xs) (U3.reportCount_ + 1) = am_up V.gl (dv_at V xs) (V.rc + 1)
            rw [show U3.lasts_ = V.gl from a86, show U3.reportCount_ = V.rc from a82]
      have found : ∀ i : Int, i = dv_at V xs → am_Z X 50 [.ref m, .long (dv_key xs), am_u, am_n i, am_u] [] h 0 0 := by
        intro i hi
        subst hi
        refine am_iload_n hB d_MO_report_50 rfl rfl ?_
        refine ai_bipush hB d_MO_report_51 (by decide) ?_
        by_cases hp16 : dv_at V xs = 16
        · refine ai_jne (tgt := 63) hB d_MO_report_53 (by decide) (fun c4 => ?_) (fun c4 => ?_)
          · exact absurd hp16 c4
          refine am_aload_n hB d_MO_report_56 rfl rfl rfl ?_
          refine ai_const hB d_MO_report_57 ?_
          refine mo_p_code hB d_MO_report_58 P_MO_113_11 M f (fun h M f => ?_)
          refine ai_const hB d_MO_report_61 ?_
          refine am_iret hB hR d_MO_report_62 rfl rfl ?_ (Nat.zero_le _) (Nat.zero_le _)
          refine ⟨_, M, f, ?_⟩
          rw [e]
          simp only
          rw [if_neg hld, hxs, if_pos hl, if_pos hp16]
          exact ⟨trivial, rfl, R2⟩
        · refine ai_jne (tgt := 63) hB d_MO_report_53 (by decide) (fun c4 => ?_) (fun c4 => ?_)
          rotate_left
          · exact absurd c4 hp16
          refine am_aload_n hB d_MO_report_63 rfl rfl rfl ?_
          refine am_aload_n hB d_MO_report_64 rfl rfl rfl ?_
          refine am_getf hB d_MO_report_65 F_MO_298_11 M.1 rfl ?_
          refine mo_p_doubtsKept hB d_MO_report_68 P_MO_351_11 M f (fun h M f => ?_)
          refine am_aload_n hB d_MO_report_71 rfl rfl rfl ?_
          have M : am_mo h m (mv.s_doubtsKept U2 (U2.doubts_)) := M
          refine am_callV hB hR (as := []) M.1 (m_MO_keepPrint M R2.2.2.2.2.2.2.2.2 s2 hl o2) c_MO_354 rfl rfl d_MO_report_72 ⟨by decide, Nat.le_of_ble_eq_true rfl⟩ ⟨by decide, by decide⟩ rfl rfl (fun rr h hp => ?_)
          obtain ⟨rfl, g, M, hg, f1⟩ := hp
          have f := f.tr f1
          have kb := kp_in xs true
          refine tail (mv.s_printSize (mv.s_print (mv.s_doubtsKept U2 (U2.doubts_)) (g)) (xs.length)) h _ ⟨kb.1, by omega⟩ hp16 M ?_ cd2 f
          rw [← d2]
          exact R2.pr hg
      have loop : ∀ (d : Nat) (i : Int), 0 ≤ i → i + d = V.n → dv_at V xs = kb_ix V.gk (dv_key xs) d i → am_Z X 25 [.ref m, .long (dv_key xs), am_u, am_n i, am_u] [] h 0 0 := by
        intro d
        induction d with
        | zero =>
          intro i hi hd hs
          refine am_iload_n hB d_MO_report_25 rfl rfl ?_
          refine am_aload_n hB d_MO_report_26 rfl rfl rfl ?_
          refine am_getf hB d_MO_report_27 F_MO_388_11 M.1 rfl ?_
          show am_Z X 30 [.ref m, .long (dv_key xs), am_u, am_n i, am_u] [am_n U2.crashCount_, am_n i] h 0 0
          rw [b1]
          refine ai_jge (tgt := 50) hB d_MO_report_30 (by decide) (fun c4 => ?_) (fun c4 => ?_)
          rotate_left
          · omega
          exact found i (by rw [hs]; rfl)
        | succ d ih =>
          intro i hi hd hs
          rw [kb_ix] at hs
          refine am_iload_n hB d_MO_report_25 rfl rfl ?_
          refine am_aload_n hB d_MO_report_26 rfl rfl rfl ?_
          refine am_getf hB d_MO_report_27 F_MO_388_11 M.1 rfl ?_
          show am_Z X 30 [.ref m, .long (dv_key xs), am_u, am_n i, am_u] [am_n U2.crashCount_, am_n i] h 0 0
          rw [b1]
          refine ai_jge (tgt := 50) hB d_MO_report_30 (by decide) (fun c4 => ?_) (fun c4 => ?_)
          · omega
          refine am_aload_n hB d_MO_report_33 rfl rfl rfl ?_
          refine am_getf hB d_MO_report_34 F_MO_100_11 M.1 rfl ?_
          refine am_iload_n hB d_MO_report_37 rfl rfl ?_
          refine ai_lald hB d_MO_report_38 ty_2 M.keys ?_
          refine am_lload_n hB d_MO_report_39 rfl rfl ?_
          refine am_lcmp hB d_MO_report_40 ?_
          refine am_if_eq (tgt := 50) hB d_MO_report_41 (by decide) (fun c5 => ?_) (fun c5 => ?_)
          · have c5 : V.gk i = dv_key xs := by
              rw [← b3]
              exact (lg_cmp_eq _ _).mp c5
            rw [if_pos c5] at hs
            exact found i hs.symm
          · have c5 : ¬ V.gk i = dv_key xs := fun z => c5 ((lg_cmp_eq _ _).mpr (by rw [← b3] at z; exact z))
            rw [if_neg c5] at hs
            refine ai_inc hB d_MO_report_44 rfl (by rw [hR.nL]; decide) rfl ?_
            exact am_goto (tgt := 25) hB d_MO_report_47 (by decide) (ih (i + 1) (by omega) (by omega) hs)
      refine am_lstore_n hB d_MO_report_22 rfl (by rw [hR.nL]; decide) rfl ?_
      refine ai_const hB d_MO_report_23 ?_
      refine am_istore_n hB d_MO_report_24 rfl (by rw [hR.nL]; decide) rfl ?_
      exact loop V.n.toNat 0 (Int.le_refl 0) (by omega) rfl
