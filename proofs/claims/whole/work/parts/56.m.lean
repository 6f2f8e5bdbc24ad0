/-! the desk retraces, shortens -/
theorem m_RD_retrace {l : Launch} {G : am_G} {h : am_H} {d : Nat} {V : dv} {T : pt_S} (D : am_dk h d V) (e : pt_parse (cut V.dr) = .inr T) (hld : V.ld = true) (ho : (r_all V.S T T.1.length).length ≤ 1000) : am_M l G M_RD_retrace [.ref d] h (fun r h' => r = some (am_n (t_sum (r_fc V.S) T T.1.length)) ∧ am_dk h' d (dv.s_db (dv.s_pr (dv.s_dr V ([])) (r_all V.S T T.1.length)) (t_sum (r_dc V.S) T T.1.length)) ∧ ko d 422 h h') := by
  obtain ⟨ok, bM, bS, kp, ks, rl, D1, D2⟩ := D
  have rl' := rl
  obtain ⟨r1, r2⟩ := rl'
  refine am_M.of (by decide) (Nat.le_of_ble_eq_true rfl) (fun X hB hR => ?_)
  show am_Z X 0 [.ref d, am_u] [] h 0 0
  refine am_aload_n hB d_RD_retrace_0 rfl rfl rfl ?_
  refine am_callV hB hR (as := []) D1 (m_RD_readTrace ok rl D1 D2 e) c_RD_94 rfl rfl d_RD_retrace_1 ⟨by decide, Nat.le_of_ble_eq_true rfl⟩ ⟨by decide, by decide⟩ rfl rfl (fun rr h1 hp => ?_)
  obtain ⟨rfl, ⟨C1, C2, C3⟩, f1⟩ := hp
  show am_Z X 4 [.ref d, am_u] [] h1 1 6
  refine am_aload_n hB d_RD_retrace_4 rfl rfl rfl ?_
  refine am_callV hB hR (as := []) C1 (m_RD_newRewriter rl C1 C2 hld C3) c_RD_97 rfl rfl d_RD_retrace_5 ⟨by decide, Nat.le_of_ble_eq_true rfl⟩ ⟨by decide, by decide⟩ rfl rfl (fun rr h2 hp => ?_)
  obtain ⟨k, rfl, ⟨k1, k2⟩, B1, B2, W, f2⟩ := hp
  show am_Z X 8 [.ref d, am_u] [.ref k] h2 2 12
  refine am_astore_n hB d_RD_retrace_8 rfl (by rw [hR.nL]; decide) rfl rfl ?_
  refine am_aload_n hB d_RD_retrace_9 rfl rfl rfl ?_
  refine am_callV hB hR (as := []) W.1 (m_RW_retraceTrace W (ok.2.2.2.1 hld)) c_RD_101 rfl rfl d_RD_retrace_10 ⟨by decide, Nat.le_of_ble_eq_true rfl⟩ ⟨by decide, by decide⟩ rfl rfl (fun rr h3 hp => ?_)
  obtain ⟨rfl, W3, f3⟩ := hp
  have W3 : rw_W h3 k (d + 3) (d + 2) bM ks (ks + 1) T V.S (r_all V.S T T.1.length) (t_sum (r_fc V.S) T T.1.length) (t_sum (r_dc V.S) T T.1.length) := W3
  have A := dk_after rl k1 B1 B2 W3 f3
  show am_Z X 13 [.ref d, .ref k] [] h3 2 12
  refine am_aload_n hB d_RD_retrace_13 rfl rfl rfl ?_
  refine am_callV hB hR (as := []) A.1 (m_RD_refuseLongPrint A.1 W3.2.2.2.1 ho) c_RD_106 rfl rfl d_RD_retrace_14 ⟨by decide, Nat.le_of_ble_eq_true rfl⟩ ⟨by decide, by decide⟩ rfl rfl (fun rr h4 hp => ?_)
  obtain ⟨rfl, rfl⟩ := hp
  show am_Z X 17 [.ref d, .ref k] [] h3 3 18
  refine am_aload_n hB d_RD_retrace_17 rfl rfl rfl ?_
  refine am_aload_n hB d_RD_retrace_18 rfl rfl rfl ?_
  refine am_callV hB hR (as := [.ref k]) A.1 (m_RD_keepRetraced A.1 W3.1) c_RD_109 rfl rfl d_RD_retrace_19 ⟨by decide, Nat.le_of_ble_eq_true rfl⟩ ⟨by decide, by decide⟩ rfl rfl (fun rr h5 hp => ?_)
  obtain ⟨rfl, G1, f5⟩ := hp
  show am_Z X 22 [.ref d, .ref k] [] h5 3 18
  refine am_aload_n hB d_RD_retrace_22 rfl rfl rfl ?_
  refine am_getf hB d_RD_retrace_23 F_RD_113_6 (f5 _ _ (by omega) W3.1) rfl ?_
  refine am_iret hB hR d_RD_retrace_26 rfl rfl ?_ (by decide) (by decide)
  refine ⟨rfl, ⟨⟨Nat.zero_le _, ho, ok.2.2⟩, bM, bS, ks, kp, ⟨r1, by omega⟩, G1, A.2.1.swap rl W3.2.2.2.1 f5 _⟩, ?_⟩
  intro q x u r
  have r1 := f1 q x u r
  have r2 := f2 q x u r1
  have := am_lt r1
  exact f5 q x (by omega) ((f3.2 q (by simp only [List.mem_cons, List.not_mem_nil, or_false]; omega)).trans r2)
theorem t_RD_retrace_A {l : Launch} {G : am_G} {h : am_H} {d : Nat} {V : dv} {row : Int} (htr : l.stackTraces = false) (D : am_dk h d V) (e : pt_parse (cut V.dr) = .inl row) : am_T l G M_RD_retrace [.ref d] h eA (fun h' => am_dk h' d (dv.s_wr (dv.s_dr V ([])) (row)) ∧ ko d 422 h h') := by
  obtain ⟨ok, bM, bS, kp, ks, rl, D1, D2⟩ := D
  refine am_T.of (by decide) (Nat.le_of_ble_eq_true rfl) (fun X hB hR => ?_)
  show am_Z X 0 [.ref d, am_u] [] h 0 0
  refine am_aload_n hB d_RD_retrace_0 rfl rfl rfl ?_
  refine am_outV hB hR (as := []) D1 (t_RD_readTrace htr ok rl D1 D2 e) c_RD_94 rfl rfl d_RD_retrace_1 ⟨by decide, Nat.le_of_ble_eq_true rfl⟩ ⟨by decide, by decide⟩ ?_
  exact fun h' z => z
theorem t_RD_retrace_U {l : Launch} {G : am_G} {h : am_H} {d : Nat} {V : dv} {T : pt_S} (htr : l.stackTraces = false) (D : am_dk h d V) (e : pt_parse (cut V.dr) = .inr T) (hld : V.ld = false) : am_T l G M_RD_retrace [.ref d] h eS (fun h' => am_dk h' d (dv.s_dr V ([])) ∧ ko d 422 h h') := by
  obtain ⟨ok, bM, bS, kp, ks, rl, D1, D2⟩ := D
  refine am_T.of (by decide) (Nat.le_of_ble_eq_true rfl) (fun X hB hR => ?_)
  show am_Z X 0 [.ref d, am_u] [] h 0 0
  refine am_aload_n hB d_RD_retrace_0 rfl rfl rfl ?_
  refine am_callV0 hB hR.r0 (as := []) D1 (m_RD_readTrace ok rl D1 D2 e) c_RD_94 rfl rfl d_RD_retrace_1 ⟨by decide, Nat.le_of_ble_eq_true rfl⟩ ⟨by decide, by decide⟩ rfl rfl (fun rr h1 hp => ?_)
  obtain ⟨rfl, ⟨C1, C2, C3⟩, f1⟩ := hp
  show am_Z X 4 [.ref d, am_u] [] h1 1 6
  refine am_aload_n hB d_RD_retrace_4 rfl rfl rfl ?_
  refine am_outV hB hR (as := []) C1 (t_RD_newRewriter htr C1 hld) c_RD_97 rfl rfl d_RD_retrace_5 ⟨by decide, Nat.le_of_ble_eq_true rfl⟩ ⟨by decide, by decide⟩ ?_
  intro h' z
  subst z
  exact ⟨⟨⟨Nat.zero_le _, ok.2⟩, bM, bS, kp, ks, rl, C1, C2⟩, f1⟩
theorem t_RD_retrace_L {l : Launch} {G : am_G} {h : am_H} {d : Nat} {V : dv} {T : pt_S} (htr : l.stackTraces = false) (D : am_dk h d V) (e : pt_parse (cut V.dr) = .inr T) (hld : V.ld = true) (ho : 1000 < (r_all V.S T T.1.length).length) : am_T l G M_RD_retrace [.ref d] h eS (fun h' => am_dk h' d (dv.s_dr V ([])) ∧ ko d 422 h h') := by
  obtain ⟨ok, bM, bS, kp, ks, rl, D1, D2⟩ := D
  have rl' := rl
  obtain ⟨r1, r2⟩ := rl'
  refine am_T.of (by decide) (Nat.le_of_ble_eq_true rfl) (fun X hB hR => ?_)
  show am_Z X 0 [.ref d, am_u] [] h 0 0
  refine am_aload_n hB d_RD_retrace_0 rfl rfl rfl ?_
  refine am_callV0 hB hR.r0 (as := []) D1 (m_RD_readTrace ok rl D1 D2 e) c_RD_94 rfl rfl d_RD_retrace_1 ⟨by decide, Nat.le_of_ble_eq_true rfl⟩ ⟨by decide, by decide⟩ rfl rfl (fun rr h1 hp => ?_)
  obtain ⟨rfl, ⟨C1, C2, C3⟩, f1⟩ := hp
  show am_Z X 4 [.ref d, am_u] [] h1 1 6
  refine am_aload_n hB d_RD_retrace_4 rfl rfl rfl ?_
  refine am_callV0 hB hR.r0 (as := []) C1 (m_RD_newRewriter rl C1 C2 hld C3) c_RD_97 rfl rfl d_RD_retrace_5 ⟨by decide, Nat.le_of_ble_eq_true rfl⟩ ⟨by decide, by decide⟩ rfl rfl (fun rr h2 hp => ?_)
  obtain ⟨k, rfl, ⟨k1, k2⟩, B1, B2, W, f2⟩ := hp
  show am_Z X 8 [.ref d, am_u] [.ref k] h2 2 12
  refine am_astore_n hB d_RD_retrace_8 rfl (by rw [hR.r0.nL]; decide) rfl rfl ?_
  refine am_aload_n hB d_RD_retrace_9 rfl rfl rfl ?_
  refine am_callV0 hB hR.r0 (as := []) W.1 (m_RW_retraceTrace W (ok.2.2.2.1 hld)) c_RD_101 rfl rfl d_RD_retrace_10 ⟨by decide, Nat.le_of_ble_eq_true rfl⟩ ⟨by decide, by decide⟩ rfl rfl (fun rr h3 hp => ?_)
  obtain ⟨rfl, W3, f3⟩ := hp
  have W3 : rw_W h3 k (d + 3) (d + 2) bM ks (ks + 1) T V.S (r_all V.S T T.1.length) (t_sum (r_fc V.S) T T.1.length) (t_sum (r_dc V.S) T T.1.length) := W3
  have A := dk_after rl k1 B1 B2 W3 f3
  show am_Z X 13 [.ref d, .ref k] [] h3 2 12
  refine am_aload_n hB d_RD_retrace_13 rfl rfl rfl ?_
  refine am_outV hB hR (as := []) A.1 (t_RD_refuseLongPrint htr A.1 W3.2.2.2.1 ho) c_RD_106 rfl rfl d_RD_retrace_14 ⟨by decide, Nat.le_of_ble_eq_true rfl⟩ ⟨by decide, by decide⟩ ?_
  intro h' z
  subst z
  refine ⟨⟨⟨Nat.zero_le _, ok.2⟩, bM, bS, kp, ks, rl, A.1, A.2.1⟩, ?_⟩
  intro q x u r
  have r1 := f1 q x u r
  have r2 := f2 q x u r1
  have := am_lt r1
  exact (f3.2 q (by simp only [List.mem_cons, List.not_mem_nil, or_false]; omega)).trans r2
theorem m_RD_shorten {l : Launch} {G : am_G} {h : am_H} {d : Nat} {V : dv} {T : pt_S} (D : am_dk h d V) (e : pt_parse (cut V.dr) = .inr T) (hld : V.ld = true) (ho : (s_all V.S T T.1.length).length ≤ 1000) : am_M l G M_RD_shorten [.ref d] h (fun r h' => r = some (am_n (s_ops V.S T T.1.length)) ∧ am_dk h' d (dv.s_pr (dv.s_dr V ([])) (s_all V.S T T.1.length)) ∧ ko d 422 h h') := by
  obtain ⟨ok, bM, bS, kp, ks, rl, D1, D2⟩ := D
  have rl' := rl
  obtain ⟨r1, r2⟩ := rl'
  refine am_M.of (by decide) (Nat.le_of_ble_eq_true rfl) (fun X hB hR => ?_)
  show am_Z X 0 [.ref d, am_u] [] h 0 0
  refine am_aload_n hB d_RD_shorten_0 rfl rfl rfl ?_
  refine am_callV hB hR (as := []) D1 (m_RD_readTrace ok rl D1 D2 e) c_RD_94 rfl rfl d_RD_shorten_1 ⟨by decide, Nat.le_of_ble_eq_true rfl⟩ ⟨by decide, by decide⟩ rfl rfl (fun rr h1 hp => ?_)
  obtain ⟨rfl, ⟨C1, C2, C3⟩, f1⟩ := hp
  show am_Z X 4 [.ref d, am_u] [] h1 1 6
  refine am_aload_n hB d_RD_shorten_4 rfl rfl rfl ?_
  refine am_callV hB hR (as := []) C1 (m_RD_newRewriter rl C1 C2 hld C3) c_RD_97 rfl rfl d_RD_shorten_5 ⟨by decide, Nat.le_of_ble_eq_true rfl⟩ ⟨by decide, by decide⟩ rfl rfl (fun rr h2 hp => ?_)
  obtain ⟨k, rfl, ⟨k1, k2⟩, B1, B2, W, f2⟩ := hp
  show am_Z X 8 [.ref d, am_u] [.ref k] h2 2 12
  refine am_astore_n hB d_RD_shorten_8 rfl (by rw [hR.nL]; decide) rfl rfl ?_
  refine am_aload_n hB d_RD_shorten_9 rfl rfl rfl ?_
  refine am_callV hB hR (as := []) W.1 (m_RW_shortenTrace W (ok.2.2.2.1 hld)) c_RD_116 rfl rfl d_RD_shorten_10 ⟨by decide, Nat.le_of_ble_eq_true rfl⟩ ⟨by decide, by decide⟩ rfl rfl (fun rr h3 hp => ?_)
  obtain ⟨rfl, W3, f3⟩ := hp
  have W3 : rw_W h3 k (d + 3) (d + 2) bM ks (ks + 1) T V.S (s_all V.S T T.1.length) (s_ops V.S T T.1.length) 0 := W3
  have A := dk_after rl k1 B1 B2 W3 f3
  show am_Z X 13 [.ref d, .ref k] [] h3 2 12
  refine am_aload_n hB d_RD_shorten_13 rfl rfl rfl ?_
  refine am_callV hB hR (as := []) A.1 (m_RD_refuseLongPrint A.1 W3.2.2.2.1 ho) c_RD_106 rfl rfl d_RD_shorten_14 ⟨by decide, Nat.le_of_ble_eq_true rfl⟩ ⟨by decide, by decide⟩ rfl rfl (fun rr h4 hp => ?_)
  obtain ⟨rfl, rfl⟩ := hp
  show am_Z X 17 [.ref d, .ref k] [] h3 3 18
  refine am_aload_n hB d_RD_shorten_17 rfl rfl rfl ?_
  refine am_callV hB hR (as := []) A.1 (m_RD_swapPrints A.1) c_RD_119 rfl rfl d_RD_shorten_18 ⟨by decide, Nat.le_of_ble_eq_true rfl⟩ ⟨by decide, by decide⟩ rfl rfl (fun rr h5 hp => ?_)
  obtain ⟨rfl, G1, f5⟩ := hp
  show am_Z X 21 [.ref d, .ref k] [] h5 3 18
  refine am_aload_n hB d_RD_shorten_21 rfl rfl rfl ?_
  refine am_getf hB d_RD_shorten_22 F_RD_113_6 (f5 _ _ (by omega) W3.1) rfl ?_
  refine am_iret hB hR d_RD_shorten_25 rfl rfl ?_ (by decide) (by decide)
  refine ⟨rfl, ⟨⟨Nat.zero_le _, ho, ok.2.2⟩, bM, bS, ks, kp, ⟨r1, by omega⟩, G1, A.2.1.swap rl W3.2.2.2.1 f5 _⟩, ?_⟩
  intro q x u r
  have r1 := f1 q x u r
  have r2 := f2 q x u r1
  have := am_lt r1
  exact f5 q x (by omega) ((f3.2 q (by simp only [List.mem_cons, List.not_mem_nil, or_false]; omega)).trans r2)
theorem t_RD_shorten_A {l : Launch} {G : am_G} {h : am_H} {d : Nat} {V : dv} {row : Int} (htr : l.stackTraces = false) (D : am_dk h d V) (e : pt_parse (cut V.dr) = .inl row) : am_T l G M_RD_shorten [.ref d] h eA (fun h' => am_dk h' d (dv.s_wr (dv.s_dr V ([])) (row)) ∧ ko d 422 h h') := by
  obtain ⟨ok, bM, bS, kp, ks, rl, D1, D2⟩ := D
  refine am_T.of (by decide) (Nat.le_of_ble_eq_true rfl) (fun X hB hR => ?_)
  show am_Z X 0 [.ref d, am_u] [] h 0 0
  refine am_aload_n hB d_RD_shorten_0 rfl rfl rfl ?_
  refine am_outV hB hR (as := []) D1 (t_RD_readTrace htr ok rl D1 D2 e) c_RD_94 rfl rfl d_RD_shorten_1 ⟨by decide, Nat.le_of_ble_eq_true rfl⟩ ⟨by decide, by decide⟩ ?_
  exact fun h' z => z
theorem t_RD_shorten_U {l : Launch} {G : am_G} {h : am_H} {d : Nat} {V : dv} {T : pt_S} (htr : l.stackTraces = false) (D : am_dk h d V) (e : pt_parse (cut V.dr) = .inr T) (hld : V.ld = false) : am_T l G M_RD_shorten [.ref d] h eS (fun h' => am_dk h' d (dv.s_dr V ([])) ∧ ko d 422 h h') := by
  obtain ⟨ok, bM, bS, kp, ks, rl, D1, D2⟩ := D
  refine am_T.of (by decide) (Nat.le_of_ble_eq_true rfl) (fun X hB hR => ?_)
  show am_Z X 0 [.ref d, am_u] [] h 0 0
  refine am_aload_n hB d_RD_shorten_0 rfl rfl rfl ?_
  refine am_callV0 hB hR.r0 (as := []) D1 (m_RD_readTrace ok rl D1 D2 e) c_RD_94 rfl rfl d_RD_shorten_1 ⟨by decide, Nat.le_of_ble_eq_true rfl⟩ ⟨by decide, by decide⟩ rfl rfl (fun rr h1 hp => ?_)
  obtain ⟨rfl, ⟨C1, C2, C3⟩, f1⟩ := hp
  show am_Z X 4 [.ref d, am_u] [] h1 1 6
  refine am_aload_n hB d_RD_shorten_4 rfl rfl rfl ?_
  refine am_outV hB hR (as := []) C1 (t_RD_newRewriter htr C1 hld) c_RD_97 rfl rfl d_RD_shorten_5 ⟨by decide, Nat.le_of_ble_eq_true rfl⟩ ⟨by decide, by decide⟩ ?_
  intro h' z
  subst z
  exact ⟨⟨⟨Nat.zero_le _, ok.2⟩, bM, bS, kp, ks, rl, C1, C2⟩, f1⟩
theorem t_RD_shorten_L {l : Launch} {G : am_G} {h : am_H} {d : Nat} {V : dv} {T : pt_S} (htr : l.stackTraces = false) (D : am_dk h d V) (e : pt_parse (cut V.dr) = .inr T) (hld : V.ld = true) (ho : 1000 < (s_all V.S T T.1.length).length) : am_T l G M_RD_shorten [.ref d] h eS (fun h' => am_dk h' d (dv.s_dr V ([])) ∧ ko d 422 h h') := by
  obtain ⟨ok, bM, bS, kp, ks, rl, D1, D2⟩ := D
  have rl' := rl
  obtain ⟨r1, r2⟩ := rl'
  refine am_T.of (by decide) (Nat.le_of_ble_eq_true rfl) (fun X hB hR => ?_)
  show am_Z X 0 [.ref d, am_u] [] h 0 0
  refine am_aload_n hB d_RD_shorten_0 rfl rfl rfl ?_
  refine am_callV0 hB hR.r0 (as := []) D1 (m_RD_readTrace ok rl D1 D2 e) c_RD_94 rfl rfl d_RD_shorten_1 ⟨by decide, Nat.le_of_ble_eq_true rfl⟩ ⟨by decide, by decide⟩ rfl rfl (fun rr h1 hp => ?_)
  obtain ⟨rfl, ⟨C1, C2, C3⟩, f1⟩ := hp
  show am_Z X 4 [.ref d, am_u] [] h1 1 6
  refine am_aload_n hB d_RD_shorten_4 rfl rfl rfl ?_
  refine am_callV0 hB hR.r0 (as := []) C1 (m_RD_newRewriter rl C1 C2 hld C3) c_RD_97 rfl rfl d_RD_shorten_5 ⟨by decide, Nat.le_of_ble_eq_true rfl⟩ ⟨by decide, by decide⟩ rfl rfl (fun rr h2 hp => ?_)
  obtain ⟨k, rfl, ⟨k1, k2⟩, B1, B2, W, f2⟩ := hp
  show am_Z X 8 [.ref d, am_u] [.ref k] h2 2 12
  refine am_astore_n hB d_RD_shorten_8 rfl (by rw [hR.r0.nL]; decide) rfl rfl ?_
  refine am_aload_n hB d_RD_shorten_9 rfl rfl rfl ?_
  refine am_callV0 hB hR.r0 (as := []) W.1 (m_RW_shortenTrace W (ok.2.2.2.1 hld)) c_RD_116 rfl rfl d_RD_shorten_10 ⟨by decide, Nat.le_of_ble_eq_true rfl⟩ ⟨by decide, by decide⟩ rfl rfl (fun rr h3 hp => ?_)
  obtain ⟨rfl, W3, f3⟩ := hp
  have W3 : rw_W h3 k (d + 3) (d + 2) bM ks (ks + 1) T V.S (s_all V.S T T.1.length) (s_ops V.S T T.1.length) 0 := W3
  have A := dk_after rl k1 B1 B2 W3 f3
  show am_Z X 13 [.ref d, .ref k] [] h3 2 12
  refine am_aload_n hB d_RD_shorten_13 rfl rfl rfl ?_
  refine am_outV hB hR (as := []) A.1 (t_RD_refuseLongPrint htr A.1 W3.2.2.2.1 ho) c_RD_106 rfl rfl d_RD_shorten_14 ⟨by decide, Nat.le_of_ble_eq_true rfl⟩ ⟨by decide, by decide⟩ ?_
  intro h' z
  subst z
  refine ⟨⟨⟨Nat.zero_le _, ok.2⟩, bM, bS, kp, ks, rl, A.1, A.2.1⟩, ?_⟩
  intro q x u r
  have r1 := f1 q x u r
  have r2 := f2 q x u r1
  have := am_lt r1
  exact (f3.2 q (by simp only [List.mem_cons, List.not_mem_nil, or_false]; omega)).trans r2
theorem t_RD_report_A {l : Launch} {G : am_G} {h : am_H} {d : Nat} {V : dv} {row : Int} (htr : l.stackTraces = false) (D : am_dk h d V) (e : pt_parse (cut V.dr) = .inl row) : am_T l G M_RD_report [.ref d] h eA (fun h' => am_dk h' d (dv.s_wr (dv.s_dr V ([])) (row)) ∧ ko d 422 h h') := by
  obtain ⟨ok, bM, bS, kp, ks, rl, D1, D2⟩ := D
  refine am_T.of (by decide) (Nat.le_of_ble_eq_true rfl) (fun X hB hR => ?_)
  show am_Z X 0 [.ref d, am_u, am_u, am_u, am_u] [] h 0 0
  refine am_aload_n hB d_RD_report_0 rfl rfl rfl ?_
  refine am_outV hB hR (as := []) D1 (t_RD_readTrace htr ok rl D1 D2 e) c_RD_94 rfl rfl d_RD_report_1 ⟨by decide, Nat.le_of_ble_eq_true rfl⟩ ⟨by decide, by decide⟩ ?_
  exact fun h' z => z
theorem t_RD_report_U {l : Launch} {G : am_G} {h : am_H} {d : Nat} {V : dv} {T : pt_S} (htr : l.stackTraces = false) (D : am_dk h d V) (e : pt_parse (cut V.dr) = .inr T) (hld : V.ld = false) : am_T l G M_RD_report [.ref d] h eS (fun h' => am_dk h' d (dv.s_dr V ([])) ∧ ko d 422 h h') := by
  obtain ⟨ok, bM, bS, kp, ks, rl, D1, D2⟩ := D
  refine am_T.of (by decide) (Nat.le_of_ble_eq_true rfl) (fun X hB hR => ?_)
  show am_Z X 0 [.ref d, am_u, am_u, am_u, am_u] [] h 0 0
  refine am_aload_n hB d_RD_report_0 rfl rfl rfl ?_
  refine am_callV0 hB hR.r0 (as := []) D1 (m_RD_readTrace ok rl D1 D2 e) c_RD_94 rfl rfl d_RD_report_1 ⟨by decide, Nat.le_of_ble_eq_true rfl⟩ ⟨by decide, by decide⟩ rfl rfl (fun rr h1 hp => ?_)
  obtain ⟨rfl, ⟨C1, C2, C3⟩, f1⟩ := hp
  show am_Z X 4 [.ref d, am_u, am_u, am_u, am_u] [] h1 1 6
  refine am_aload_n hB d_RD_report_4 rfl rfl rfl ?_
  refine am_outV hB hR (as := []) C1 (t_RD_newRewriter htr C1 hld) c_RD_97 rfl rfl d_RD_report_5 ⟨by decide, Nat.le_of_ble_eq_true rfl⟩ ⟨by decide, by decide⟩ ?_
  intro h' z
  subst z
  exact ⟨⟨⟨Nat.zero_le _, ok.2⟩, bM, bS, kp, ks, rl, C1, C2⟩, f1⟩
theorem t_RD_report_L {l : Launch} {G : am_G} {h : am_H} {d : Nat} {V : dv} {T : pt_S} (htr : l.stackTraces = false) (D : am_dk h d V) (e : pt_parse (cut V.dr) = .inr T) (hld : V.ld = true) (ho : 1000 < (r_all V.S T T.1.length).length) : am_T l G M_RD_report [.ref d] h eS (fun h' => am_dk h' d (dv.s_dr V ([])) ∧ ko d 422 h h') := by
  obtain ⟨ok, bM, bS, kp, ks, rl, D1, D2⟩ := D
  have rl' := rl
  obtain ⟨r1, r2⟩ := rl'
  refine am_T.of (by decide) (Nat.le_of_ble_eq_true rfl) (fun X hB hR => ?_)
  show am_Z X 0 [.ref d, am_u, am_u, am_u, am_u] [] h 0 0
  refine am_aload_n hB d_RD_report_0 rfl rfl rfl ?_
  refine am_callV0 hB hR.r0 (as := []) D1 (m_RD_readTrace ok rl D1 D2 e) c_RD_94 rfl rfl d_RD_report_1 ⟨by decide, Nat.le_of_ble_eq_true rfl⟩ ⟨by decide, by decide⟩ rfl rfl (fun rr h1 hp => ?_)
  obtain ⟨rfl, ⟨C1, C2, C3⟩, f1⟩ := hp
  show am_Z X 4 [.ref d, am_u, am_u, am_u, am_u] [] h1 1 6
  refine am_aload_n hB d_RD_report_4 rfl rfl rfl ?_
  refine am_callV0 hB hR.r0 (as := []) C1 (m_RD_newRewriter rl C1 C2 hld C3) c_RD_97 rfl rfl d_RD_report_5 ⟨by decide, Nat.le_of_ble_eq_true rfl⟩ ⟨by decide, by decide⟩ rfl rfl (fun rr h2 hp => ?_)
  obtain ⟨k, rfl, ⟨k1, k2⟩, B1, B2, W, f2⟩ := hp
  show am_Z X 8 [.ref d, am_u, am_u, am_u, am_u] [.ref k] h2 2 12
  refine am_astore_n hB d_RD_report_8 rfl (by rw [hR.r0.nL]; decide) rfl rfl ?_
  refine am_aload_n hB d_RD_report_9 rfl rfl rfl ?_
  refine am_callV0 hB hR.r0 (as := []) W.1 (m_RW_retraceTrace W (ok.2.2.2.1 hld)) c_RD_101 rfl rfl d_RD_report_10 ⟨by decide, Nat.le_of_ble_eq_true rfl⟩ ⟨by decide, by decide⟩ rfl rfl (fun rr h3 hp => ?_)
  obtain ⟨rfl, W3, f3⟩ := hp
  have W3 : rw_W h3 k (d + 3) (d + 2) bM ks (ks + 1) T V.S (r_all V.S T T.1.length) (t_sum (r_fc V.S) T T.1.length) (t_sum (r_dc V.S) T T.1.length) := W3
  have A := dk_after rl k1 B1 B2 W3 f3
  show am_Z X 13 [.ref d, .ref k, am_u, am_u, am_u] [] h3 2 12
  refine am_aload_n hB d_RD_report_13 rfl rfl rfl ?_
  refine am_outV hB hR (as := []) A.1 (t_RD_refuseLongPrint htr A.1 W3.2.2.2.1 ho) c_RD_106 rfl rfl d_RD_report_14 ⟨by decide, Nat.le_of_ble_eq_true rfl⟩ ⟨by decide, by decide⟩ ?_
  intro h' z
  subst z
  refine ⟨⟨⟨Nat.zero_le _, ok.2⟩, bM, bS, kp, ks, rl, A.1, A.2.1⟩, ?_⟩
  intro q x u r
  have r1 := f1 q x u r
  have r2 := f2 q x u r1
  have := am_lt r1
  exact (f3.2 q (by simp only [List.mem_cons, List.not_mem_nil, or_false]; omega)).trans r2
