/-! the law's helpers: a call of the desk, its answer or the number of its exception; the desk lies at 0, the model at 422, the answer's row at 457 -/
theorem mo_rel_0 : mo_rel mv_0 dv_0 := by
  refine ⟨⟨rfl, ?_, ?_⟩, ⟨[], rfl, Nat.zero_le _, ?_, ?_, rfl⟩, ?_, rfl, ?_, ⟨rfl, ?_⟩, ⟨rfl, rfl⟩, ⟨rfl, rfl, rfl, rfl, rfl, rfl⟩, ?_⟩
  · exact fun j hj => absurd hj (Nat.not_lt_zero j)
  · exact fun j => ⟨Int.le_refl 0, (by show (0 : Int) < 65536; decide)⟩
  · exact fun j hj => absurd hj (Nat.not_lt_zero j)
  · exact fun j => ⟨Int.le_refl 0, (by show (0 : Int) < 65536; decide)⟩
  · exact fun j => ⟨Int.le_refl 0, (by show (0 : Int) < 65536; decide)⟩
  · refine ⟨rfl, Nat.zero_le _, rfl, Nat.zero_le _, rfl, fun i c hc => ?_, fun i c hc => ?_⟩
    · cases hc
    · cases hc
  · exact fun j hj => absurd hj (Nat.not_lt_zero j)
  · exact fun j => ⟨Int.le_refl 0, (by show (0 : Int) < 65536; decide)⟩
theorem am_dk.at {h : am_H} {d : Nat} {V : dv} (D : am_dk h d V) : ∃ fs, h[d]? = some (.inr (10, fs)) := by
  obtain ⟨-, bM, bS, kp, ks, -, c, -⟩ := D
  exact ⟨_, c⟩
def lw_Y (h : am_H) (c : Int) (x : Int64) (V : dv) : am_Y := fun r h' => r = some (am_n c) ∧ (0 ≤ c ∧ c < 3) ∧ am_dk h' 0 V ∧ (∃ g : Int → Int64, h'[457]? = some (am_ja 2 1 g) ∧ (c = 0 → g 0 = x)) ∧ ∃ h1, ko 0 422 h h1 ∧ ko 457 1 h1 h'
theorem lw_Yn {h h1 : am_H} {V : dv} {g : Int → Int64} {x : Int64} (D : am_dk h1 0 V) (f : ko 0 422 h h1) (O : h[457]? = some (am_ja 2 1 g)) : lw_Y h 0 x V (some (am_n 0)) (h1.set 457 (am_ja 2 1 (am_upj g 0 x))) := by
  have O1 := f 457 _ (Or.inr (by decide)) O
  exact ⟨rfl, ⟨by decide, by decide⟩, D.ag ((ko.set (a := 457) (n := 1) 457 _ (by decide) (by decide)).ag (Or.inr (by decide))), ⟨_, am_rs O1, fun _ => if_pos rfl⟩, h1, f, ko.set 457 _ (by decide) (by decide)⟩
theorem lw_Yt {h h1 : am_H} {V : dv} {g : Int → Int64} {x : Int64} {c : Int} (D : am_dk h1 0 V) (f : ko 0 422 h h1) (O : h[457]? = some (am_ja 2 1 g)) (hc : 0 < c ∧ c < 3) : lw_Y h c x V (some (am_n c)) h1 :=
  ⟨rfl, ⟨by omega, hc.2⟩, D, ⟨_, f 457 _ (Or.inr (by decide)) O, fun z => by omega⟩, h1, f, ko.rf⟩
theorem n_LW_load {l : Launch} {G : am_G} {h : am_H} {V : dv} {g : Int → Int64} (htr : l.stackTraces = false) (D : am_dk h 0 V) (O : h[457]? = some (am_ja 2 1 g)) {S : pm_S} (e : pm_parse V.dr = .inr S) : am_Mw l G M_LW_load [(0, 8, 11, 13)] [.ref 0, .ref 457] h (lw_Y h 0 ((am_i (dv_gc S)).toInt64) ((dv.s_ld (dv.s_S (dv.s_dr V ([])) (S)) (true)))) := by
  obtain ⟨fs, hk⟩ := D.at
  refine am_Mw.of (by decide) (Nat.le_of_ble_eq_true rfl) (fun X hB hR hTb => ?_)
  show am_Z X 0 [.ref 0, .ref 457, am_u] [] h 0 0
  refine am_aload_n hB d_LW_load_0 rfl rfl rfl ?_
  refine ai_const hB d_LW_load_1 ?_
  refine am_aload_n hB d_LW_load_2 rfl rfl rfl ?_
  refine am_callV hB hR (as := []) hk (m_RD_load D e) c_LW_7 rfl rfl d_LW_load_3 ⟨by decide, Nat.le_of_ble_eq_true rfl⟩ ⟨by decide, by decide⟩ rfl rfl (fun rr hh hp => ?_)
  obtain ⟨rfl, D1, f1⟩ := hp
  have O1 := f1 457 _ (Or.inr (by decide)) O
  show am_Z X 6 [.ref 0, .ref 457, am_u] [am_n (dv_gc S), am_n 0, .ref 457] hh _ _
  refine am_i2l hB d_LW_load_6 ?_
  refine ai_last hB d_LW_load_7 ty_2 O1 rfl ?_
  refine am_goto (tgt := 14) hB d_LW_load_8 (by decide) ?_
  refine ai_const hB d_LW_load_14 ?_
  refine am_iret hB hR d_LW_load_15 rfl rfl ?_ (by decide) (by decide)
  exact lw_Yn D1 f1 O
theorem x_LW_load {l : Launch} {G : am_G} {h : am_H} {V : dv} {x : Int64} {g : Int → Int64} (htr : l.stackTraces = false) (D : am_dk h 0 V) (O : h[457]? = some (am_ja 2 1 g)) {row : Int} (e : pm_parse V.dr = .inl row) : am_Mw l G M_LW_load [(0, 8, 11, 13)] [.ref 0, .ref 457] h (lw_Y h 1 x ((dv.s_wr (dv.s_dr V ([])) (row)))) := by
  obtain ⟨fs, hk⟩ := D.at
  refine am_Mw.of (by decide) (Nat.le_of_ble_eq_true rfl) (fun X hB hR hTb => ?_)
  show am_Z X 0 [.ref 0, .ref 457, am_u] [] h 0 0
  refine am_aload_n hB d_LW_load_0 rfl rfl rfl ?_
  refine ai_const hB d_LW_load_1 ?_
  refine am_aload_n hB d_LW_load_2 rfl rfl rfl ?_
  refine am_catV hB hR hTb (pre := []) (rest := []) (h1 := 0) (h2 := 8) (h3 := 11) (h4 := 13) rfl (fun y hy => by cases hy) ⟨by decide, by decide⟩ (by decide) cw_A (fun U hU => hU.2.2.2.1) (as := []) hk (t_RD_load htr D e) c_LW_7 rfl rfl d_LW_load_3 ⟨by decide, Nat.le_of_ble_eq_true rfl⟩ ⟨by decide, by decide⟩ rfl rfl (fun hh hp => ?_)
  obtain ⟨D1, f1⟩ := hp
  refine am_astore_n hB d_LW_load_11 rfl (by rw [hR.nL]; decide) rfl rfl ?_
  refine ai_const hB d_LW_load_12 ?_
  refine am_iret hB hR d_LW_load_13 rfl rfl ?_ (by decide) (by decide)
  exact lw_Yt D1 f1 O ⟨by decide, by decide⟩
theorem n_LW_retrace {l : Launch} {G : am_G} {h : am_H} {V : dv} {g : Int → Int64} (htr : l.stackTraces = false) (D : am_dk h 0 V) (O : h[457]? = some (am_ja 2 1 g)) {T : pt_S} (e : pt_parse (cut V.dr) = .inr T) (hld : V.ld = true) (ho : (r_all V.S T T.1.length).length ≤ 1000) : am_Mw l G M_LW_retrace [(0, 8, 11, 13), (0, 8, 14, 18)] [.ref 0, .ref 457] h (lw_Y h 0 ((am_i (t_sum (r_fc V.S) T T.1.length)).toInt64) ((dv.s_db (dv.s_pr (dv.s_dr V ([])) (r_all V.S T T.1.length)) (t_sum (r_dc V.S) T T.1.length)))) := by
  obtain ⟨fs, hk⟩ := D.at
  refine am_Mw.of (by decide) (Nat.le_of_ble_eq_true rfl) (fun X hB hR hTb => ?_)
  show am_Z X 0 [.ref 0, .ref 457, am_u] [] h 0 0
  refine am_aload_n hB d_LW_retrace_0 rfl rfl rfl ?_
  refine ai_const hB d_LW_retrace_1 ?_
  refine am_aload_n hB d_LW_retrace_2 rfl rfl rfl ?_
  refine am_callV hB hR (as := []) hk (m_RD_retrace D e hld ho) c_LW_15 rfl rfl d_LW_retrace_3 ⟨by decide, Nat.le_of_ble_eq_true rfl⟩ ⟨by decide, by decide⟩ rfl rfl (fun rr hh hp => ?_)
  obtain ⟨rfl, D1, f1⟩ := hp
  have O1 := f1 457 _ (Or.inr (by decide)) O
  show am_Z X 6 [.ref 0, .ref 457, am_u] [am_n (t_sum (r_fc V.S) T T.1.length), am_n 0, .ref 457] hh _ _
  refine am_i2l hB d_LW_retrace_6 ?_
  refine ai_last hB d_LW_retrace_7 ty_2 O1 rfl ?_
  refine am_goto (tgt := 17) hB d_LW_retrace_8 (by decide) ?_
  refine ai_const hB d_LW_retrace_17 ?_
  refine am_iret hB hR d_LW_retrace_18 rfl rfl ?_ (by decide) (by decide)
  exact lw_Yn D1 f1 O
theorem x_LW_retrace_A {l : Launch} {G : am_G} {h : am_H} {V : dv} {x : Int64} {g : Int → Int64} (htr : l.stackTraces = false) (D : am_dk h 0 V) (O : h[457]? = some (am_ja 2 1 g)) {row : Int} (e : pt_parse (cut V.dr) = .inl row) : am_Mw l G M_LW_retrace [(0, 8, 11, 13), (0, 8, 14, 18)] [.ref 0, .ref 457] h (lw_Y h 1 x ((dv.s_wr (dv.s_dr V ([])) (row)))) := by
  obtain ⟨fs, hk⟩ := D.at
  refine am_Mw.of (by decide) (Nat.le_of_ble_eq_true rfl) (fun X hB hR hTb => ?_)
  show am_Z X 0 [.ref 0, .ref 457, am_u] [] h 0 0
  refine am_aload_n hB d_LW_retrace_0 rfl rfl rfl ?_
  refine ai_const hB d_LW_retrace_1 ?_
  refine am_aload_n hB d_LW_retrace_2 rfl rfl rfl ?_
  refine am_catV hB hR hTb (pre := []) (rest := [(0, 8, 14, 18)]) (h1 := 0) (h2 := 8) (h3 := 11) (h4 := 13) rfl (fun y hy => by cases hy) ⟨by decide, by decide⟩ (by decide) cw_A (fun U hU => hU.2.2.2.1) (as := []) hk (t_RD_retrace_A htr D e) c_LW_15 rfl rfl d_LW_retrace_3 ⟨by decide, Nat.le_of_ble_eq_true rfl⟩ ⟨by decide, by decide⟩ rfl rfl (fun hh hp => ?_)
  obtain ⟨D1, f1⟩ := hp
  refine am_astore_n hB d_LW_retrace_11 rfl (by rw [hR.nL]; decide) rfl rfl ?_
  refine ai_const hB d_LW_retrace_12 ?_
  refine am_iret hB hR d_LW_retrace_13 rfl rfl ?_ (by decide) (by decide)
  exact lw_Yt D1 f1 O ⟨by decide, by decide⟩
theorem x_LW_retrace_U {l : Launch} {G : am_G} {h : am_H} {V : dv} {x : Int64} {g : Int → Int64} (htr : l.stackTraces = false) (D : am_dk h 0 V) (O : h[457]? = some (am_ja 2 1 g)) {T : pt_S} (e : pt_parse (cut V.dr) = .inr T) (hld : V.ld = false) : am_Mw l G M_LW_retrace [(0, 8, 11, 13), (0, 8, 14, 18)] [.ref 0, .ref 457] h (lw_Y h 2 x ((dv.s_dr V ([])))) := by
  obtain ⟨fs, hk⟩ := D.at
  refine am_Mw.of (by decide) (Nat.le_of_ble_eq_true rfl) (fun X hB hR hTb => ?_)
  show am_Z X 0 [.ref 0, .ref 457, am_u] [] h 0 0
  refine am_aload_n hB d_LW_retrace_0 rfl rfl rfl ?_
  refine ai_const hB d_LW_retrace_1 ?_
  refine am_aload_n hB d_LW_retrace_2 rfl rfl rfl ?_
  refine am_catV hB hR hTb (pre := [(0, 8, 11, 13)]) (rest := []) (h1 := 0) (h2 := 8) (h3 := 14) (h4 := 18) rfl (fun y hy => by obtain rfl := List.mem_singleton.mp hy; exact ⟨eA, by decide, cw_A, fun U hU => hU.2.2.1.1⟩) ⟨by decide, by decide⟩ (by decide) cw_S (fun U hU => hU.2.2.2.2.1) (as := []) hk (t_RD_retrace_U htr D e hld) c_LW_15 rfl rfl d_LW_retrace_3 ⟨by decide, Nat.le_of_ble_eq_true rfl⟩ ⟨by decide, by decide⟩ rfl rfl (fun hh hp => ?_)
  obtain ⟨D1, f1⟩ := hp
  refine am_astore_n hB d_LW_retrace_14 rfl (by rw [hR.nL]; decide) rfl rfl ?_
  refine ai_const hB d_LW_retrace_15 ?_
  refine am_iret hB hR d_LW_retrace_16 rfl rfl ?_ (by decide) (by decide)
  exact lw_Yt D1 f1 O ⟨by decide, by decide⟩
theorem x_LW_retrace_L {l : Launch} {G : am_G} {h : am_H} {V : dv} {x : Int64} {g : Int → Int64} (htr : l.stackTraces = false) (D : am_dk h 0 V) (O : h[457]? = some (am_ja 2 1 g)) {T : pt_S} (e : pt_parse (cut V.dr) = .inr T) (hld : V.ld = true) (ho : 1000 < (r_all V.S T T.1.length).length) : am_Mw l G M_LW_retrace [(0, 8, 11, 13), (0, 8, 14, 18)] [.ref 0, .ref 457] h (lw_Y h 2 x ((dv.s_dr V ([])))) := by
  obtain ⟨fs, hk⟩ := D.at
  refine am_Mw.of (by decide) (Nat.le_of_ble_eq_true rfl) (fun X hB hR hTb => ?_)
  show am_Z X 0 [.ref 0, .ref 457, am_u] [] h 0 0
  refine am_aload_n hB d_LW_retrace_0 rfl rfl rfl ?_
  refine ai_const hB d_LW_retrace_1 ?_
  refine am_aload_n hB d_LW_retrace_2 rfl rfl rfl ?_
  refine am_catV hB hR hTb (pre := [(0, 8, 11, 13)]) (rest := []) (h1 := 0) (h2 := 8) (h3 := 14) (h4 := 18) rfl (fun y hy => by obtain rfl := List.mem_singleton.mp hy; exact ⟨eA, by decide, cw_A, fun U hU => hU.2.2.1.1⟩) ⟨by decide, by decide⟩ (by decide) cw_S (fun U hU => hU.2.2.2.2.1) (as := []) hk (t_RD_retrace_L htr D e hld ho) c_LW_15 rfl rfl d_LW_retrace_3 ⟨by decide, Nat.le_of_ble_eq_true rfl⟩ ⟨by decide, by decide⟩ rfl rfl (fun hh hp => ?_)
  obtain ⟨D1, f1⟩ := hp
  refine am_astore_n hB d_LW_retrace_14 rfl (by rw [hR.nL]; decide) rfl rfl ?_
  refine ai_const hB d_LW_retrace_15 ?_
  refine am_iret hB hR d_LW_retrace_16 rfl rfl ?_ (by decide) (by decide)
  exact lw_Yt D1 f1 O ⟨by decide, by decide⟩
theorem n_LW_shorten {l : Launch} {G : am_G} {h : am_H} {V : dv} {g : Int → Int64} (htr : l.stackTraces = false) (D : am_dk h 0 V) (O : h[457]? = some (am_ja 2 1 g)) {T : pt_S} (e : pt_parse (cut V.dr) = .inr T) (hld : V.ld = true) (ho : (s_all V.S T T.1.length).length ≤ 1000) : am_Mw l G M_LW_shorten [(0, 8, 11, 13), (0, 8, 14, 18)] [.ref 0, .ref 457] h (lw_Y h 0 ((am_i (s_ops V.S T T.1.length)).toInt64) ((dv.s_pr (dv.s_dr V ([])) (s_all V.S T T.1.length)))) := by
  obtain ⟨fs, hk⟩ := D.at
  refine am_Mw.of (by decide) (Nat.le_of_ble_eq_true rfl) (fun X hB hR hTb => ?_)
  show am_Z X 0 [.ref 0, .ref 457, am_u] [] h 0 0
  refine am_aload_n hB d_LW_shorten_0 rfl rfl rfl ?_
  refine ai_const hB d_LW_shorten_1 ?_
  refine am_aload_n hB d_LW_shorten_2 rfl rfl rfl ?_
  refine am_callV hB hR (as := []) hk (m_RD_shorten D e hld ho) c_LW_20 rfl rfl d_LW_shorten_3 ⟨by decide, Nat.le_of_ble_eq_true rfl⟩ ⟨by decide, by decide⟩ rfl rfl (fun rr hh hp => ?_)
  obtain ⟨rfl, D1, f1⟩ := hp
  have O1 := f1 457 _ (Or.inr (by decide)) O
  show am_Z X 6 [.ref 0, .ref 457, am_u] [am_n (s_ops V.S T T.1.length), am_n 0, .ref 457] hh _ _
  refine am_i2l hB d_LW_shorten_6 ?_
  refine ai_last hB d_LW_shorten_7 ty_2 O1 rfl ?_
  refine am_goto (tgt := 17) hB d_LW_shorten_8 (by decide) ?_
  refine ai_const hB d_LW_shorten_17 ?_
  refine am_iret hB hR d_LW_shorten_18 rfl rfl ?_ (by decide) (by decide)
  exact lw_Yn D1 f1 O
theorem x_LW_shorten_A {l : Launch} {G : am_G} {h : am_H} {V : dv} {x : Int64} {g : Int → Int64} (htr : l.stackTraces = false) (D : am_dk h 0 V) (O : h[457]? = some (am_ja 2 1 g)) {row : Int} (e : pt_parse (cut V.dr) = .inl row) : am_Mw l G M_LW_shorten [(0, 8, 11, 13), (0, 8, 14, 18)] [.ref 0, .ref 457] h (lw_Y h 1 x ((dv.s_wr (dv.s_dr V ([])) (row)))) := by
  obtain ⟨fs, hk⟩ := D.at
  refine am_Mw.of (by decide) (Nat.le_of_ble_eq_true rfl) (fun X hB hR hTb => ?_)
  show am_Z X 0 [.ref 0, .ref 457, am_u] [] h 0 0
  refine am_aload_n hB d_LW_shorten_0 rfl rfl rfl ?_
  refine ai_const hB d_LW_shorten_1 ?_
  refine am_aload_n hB d_LW_shorten_2 rfl rfl rfl ?_
  refine am_catV hB hR hTb (pre := []) (rest := [(0, 8, 14, 18)]) (h1 := 0) (h2 := 8) (h3 := 11) (h4 := 13) rfl (fun y hy => by cases hy) ⟨by decide, by decide⟩ (by decide) cw_A (fun U hU => hU.2.2.2.1) (as := []) hk (t_RD_shorten_A htr D e) c_LW_20 rfl rfl d_LW_shorten_3 ⟨by decide, Nat.le_of_ble_eq_true rfl⟩ ⟨by decide, by decide⟩ rfl rfl (fun hh hp => ?_)
  obtain ⟨D1, f1⟩ := hp
  refine am_astore_n hB d_LW_shorten_11 rfl (by rw [hR.nL]; decide) rfl rfl ?_
  refine ai_const hB d_LW_shorten_12 ?_
  refine am_iret hB hR d_LW_shorten_13 rfl rfl ?_ (by decide) (by decide)
  exact lw_Yt D1 f1 O ⟨by decide, by decide⟩
theorem x_LW_shorten_U {l : Launch} {G : am_G} {h : am_H} {V : dv} {x : Int64} {g : Int → Int64} (htr : l.stackTraces = false) (D : am_dk h 0 V) (O : h[457]? = some (am_ja 2 1 g)) {T : pt_S} (e : pt_parse (cut V.dr) = .inr T) (hld : V.ld = false) : am_Mw l G M_LW_shorten [(0, 8, 11, 13), (0, 8, 14, 18)] [.ref 0, .ref 457] h (lw_Y h 2 x ((dv.s_dr V ([])))) := by
  obtain ⟨fs, hk⟩ := D.at
  refine am_Mw.of (by decide) (Nat.le_of_ble_eq_true rfl) (fun X hB hR hTb => ?_)
  show am_Z X 0 [.ref 0, .ref 457, am_u] [] h 0 0
  refine am_aload_n hB d_LW_shorten_0 rfl rfl rfl ?_
  refine ai_const hB d_LW_shorten_1 ?_
  refine am_aload_n hB d_LW_shorten_2 rfl rfl rfl ?_
  refine am_catV hB hR hTb (pre := [(0, 8, 11, 13)]) (rest := []) (h1 := 0) (h2 := 8) (h3 := 14) (h4 := 18) rfl (fun y hy => by obtain rfl := List.mem_singleton.mp hy; exact ⟨eA, by decide, cw_A, fun U hU => hU.2.2.1.1⟩) ⟨by decide, by decide⟩ (by decide) cw_S (fun U hU => hU.2.2.2.2.1) (as := []) hk (t_RD_shorten_U htr D e hld) c_LW_20 rfl rfl d_LW_shorten_3 ⟨by decide, Nat.le_of_ble_eq_true rfl⟩ ⟨by decide, by decide⟩ rfl rfl (fun hh hp => ?_)
  obtain ⟨D1, f1⟩ := hp
  refine am_astore_n hB d_LW_shorten_14 rfl (by rw [hR.nL]; decide) rfl rfl ?_
  refine ai_const hB d_LW_shorten_15 ?_
  refine am_iret hB hR d_LW_shorten_16 rfl rfl ?_ (by decide) (by decide)
  exact lw_Yt D1 f1 O ⟨by decide, by decide⟩
theorem x_LW_shorten_L {l : Launch} {G : am_G} {h : am_H} {V : dv} {x : Int64} {g : Int → Int64} (htr : l.stackTraces = false) (D : am_dk h 0 V) (O : h[457]? = some (am_ja 2 1 g)) {T : pt_S} (e : pt_parse (cut V.dr) = .inr T) (hld : V.ld = true) (ho : 1000 < (s_all V.S T T.1.length).length) : am_Mw l G M_LW_shorten [(0, 8, 11, 13), (0, 8, 14, 18)] [.ref 0, .ref 457] h (lw_Y h 2 x ((dv.s_dr V ([])))) := by
  obtain ⟨fs, hk⟩ := D.at
  refine am_Mw.of (by decide) (Nat.le_of_ble_eq_true rfl) (fun X hB hR hTb => ?_)
  show am_Z X 0 [.ref 0, .ref 457, am_u] [] h 0 0
  refine am_aload_n hB d_LW_shorten_0 rfl rfl rfl ?_
  refine ai_const hB d_LW_shorten_1 ?_
  refine am_aload_n hB d_LW_shorten_2 rfl rfl rfl ?_
  refine am_catV hB hR hTb (pre := [(0, 8, 11, 13)]) (rest := []) (h1 := 0) (h2 := 8) (h3 := 14) (h4 := 18) rfl (fun y hy => by obtain rfl := List.mem_singleton.mp hy; exact ⟨eA, by decide, cw_A, fun U hU => hU.2.2.1.1⟩) ⟨by decide, by decide⟩ (by decide) cw_S (fun U hU => hU.2.2.2.2.1) (as := []) hk (t_RD_shorten_L htr D e hld ho) c_LW_20 rfl rfl d_LW_shorten_3 ⟨by decide, Nat.le_of_ble_eq_true rfl⟩ ⟨by decide, by decide⟩ rfl rfl (fun hh hp => ?_)
  obtain ⟨D1, f1⟩ := hp
  refine am_astore_n hB d_LW_shorten_14 rfl (by rw [hR.nL]; decide) rfl rfl ?_
  refine ai_const hB d_LW_shorten_15 ?_
  refine am_iret hB hR d_LW_shorten_16 rfl rfl ?_ (by decide) (by decide)
  exact lw_Yt D1 f1 O ⟨by decide, by decide⟩
theorem n_LW_report {l : Launch} {G : am_G} {h : am_H} {V : dv} {g : Int → Int64} (htr : l.stackTraces = false) (D : am_dk h 0 V) (O : h[457]? = some (am_ja 2 1 g)) {T : pt_S} (e : pt_parse (cut V.dr) = .inr T) (hld : V.ld = true) (ho : (r_all V.S T T.1.length).length ≤ 1000) (hp16 : dv_at V (r_all V.S T T.1.length) ≠ 16) : am_Mw l G M_LW_report [(0, 8, 11, 13), (0, 8, 14, 18)] [.ref 0, .ref 457] h (lw_Y h 0 ((am_i (dv_at V (r_all V.S T T.1.length))).toInt64) (dv_ent (dv.s_db (dv.s_pr (dv.s_dr V ([])) (r_all V.S T T.1.length)) (t_sum (r_dc V.S) T T.1.length)) (r_all V.S T T.1.length))) := by
  obtain ⟨fs, hk⟩ := D.at
  refine am_Mw.of (by decide) (Nat.le_of_ble_eq_true rfl) (fun X hB hR hTb => ?_)
  show am_Z X 0 [.ref 0, .ref 457, am_u] [] h 0 0
  refine am_aload_n hB d_LW_report_0 rfl rfl rfl ?_
  refine ai_const hB d_LW_report_1 ?_
  refine am_aload_n hB d_LW_report_2 rfl rfl rfl ?_
  refine am_callV hB hR (as := []) hk (m_RD_report D e hld ho hp16) c_LW_23 rfl rfl d_LW_report_3 ⟨by decide, Nat.le_of_ble_eq_true rfl⟩ ⟨by decide, by decide⟩ rfl rfl (fun rr hh hp => ?_)
  obtain ⟨rfl, D1, f1⟩ := hp
  have O1 := f1 457 _ (Or.inr (by decide)) O
  show am_Z X 6 [.ref 0, .ref 457, am_u] [am_n (dv_at V (r_all V.S T T.1.length)), am_n 0, .ref 457] hh _ _
  refine am_i2l hB d_LW_report_6 ?_
  refine ai_last hB d_LW_report_7 ty_2 O1 rfl ?_
  refine am_goto (tgt := 17) hB d_LW_report_8 (by decide) ?_
  refine ai_const hB d_LW_report_17 ?_
  refine am_iret hB hR d_LW_report_18 rfl rfl ?_ (by decide) (by decide)
  exact lw_Yn D1 f1 O
theorem x_LW_report_A {l : Launch} {G : am_G} {h : am_H} {V : dv} {x : Int64} {g : Int → Int64} (htr : l.stackTraces = false) (D : am_dk h 0 V) (O : h[457]? = some (am_ja 2 1 g)) {row : Int} (e : pt_parse (cut V.dr) = .inl row) : am_Mw l G M_LW_report [(0, 8, 11, 13), (0, 8, 14, 18)] [.ref 0, .ref 457] h (lw_Y h 1 x ((dv.s_wr (dv.s_dr V ([])) (row)))) := by
  obtain ⟨fs, hk⟩ := D.at
  refine am_Mw.of (by decide) (Nat.le_of_ble_eq_true rfl) (fun X hB hR hTb => ?_)
  show am_Z X 0 [.ref 0, .ref 457, am_u] [] h 0 0
  refine am_aload_n hB d_LW_report_0 rfl rfl rfl ?_
  refine ai_const hB d_LW_report_1 ?_
  refine am_aload_n hB d_LW_report_2 rfl rfl rfl ?_
  refine am_catV hB hR hTb (pre := []) (rest := [(0, 8, 14, 18)]) (h1 := 0) (h2 := 8) (h3 := 11) (h4 := 13) rfl (fun y hy => by cases hy) ⟨by decide, by decide⟩ (by decide) cw_A (fun U hU => hU.2.2.2.1) (as := []) hk (t_RD_report_A htr D e) c_LW_23 rfl rfl d_LW_report_3 ⟨by decide, Nat.le_of_ble_eq_true rfl⟩ ⟨by decide, by decide⟩ rfl rfl (fun hh hp => ?_)
  obtain ⟨D1, f1⟩ := hp
  refine am_astore_n hB d_LW_report_11 rfl (by rw [hR.nL]; decide) rfl rfl ?_
  refine ai_const hB d_LW_report_12 ?_
  refine am_iret hB hR d_LW_report_13 rfl rfl ?_ (by decide) (by decide)
  exact lw_Yt D1 f1 O ⟨by decide, by decide⟩
theorem x_LW_report_U {l : Launch} {G : am_G} {h : am_H} {V : dv} {x : Int64} {g : Int → Int64} (htr : l.stackTraces = false) (D : am_dk h 0 V) (O : h[457]? = some (am_ja 2 1 g)) {T : pt_S} (e : pt_parse (cut V.dr) = .inr T) (hld : V.ld = false) : am_Mw l G M_LW_report [(0, 8, 11, 13), (0, 8, 14, 18)] [.ref 0, .ref 457] h (lw_Y h 2 x ((dv.s_dr V ([])))) := by
  obtain ⟨fs, hk⟩ := D.at
  refine am_Mw.of (by decide) (Nat.le_of_ble_eq_true rfl) (fun X hB hR hTb => ?_)
  show am_Z X 0 [.ref 0, .ref 457, am_u] [] h 0 0
  refine am_aload_n hB d_LW_report_0 rfl rfl rfl ?_
  refine ai_const hB d_LW_report_1 ?_
  refine am_aload_n hB d_LW_report_2 rfl rfl rfl ?_
  refine am_catV hB hR hTb (pre := [(0, 8, 11, 13)]) (rest := []) (h1 := 0) (h2 := 8) (h3 := 14) (h4 := 18) rfl (fun y hy => by obtain rfl := List.mem_singleton.mp hy; exact ⟨eA, by decide, cw_A, fun U hU => hU.2.2.1.1⟩) ⟨by decide, by decide⟩ (by decide) cw_S (fun U hU => hU.2.2.2.2.1) (as := []) hk (t_RD_report_U htr D e hld) c_LW_23 rfl rfl d_LW_report_3 ⟨by decide, Nat.le_of_ble_eq_true rfl⟩ ⟨by decide, by decide⟩ rfl rfl (fun hh hp => ?_)
  obtain ⟨D1, f1⟩ := hp
  refine am_astore_n hB d_LW_report_14 rfl (by rw [hR.nL]; decide) rfl rfl ?_
  refine ai_const hB d_LW_report_15 ?_
  refine am_iret hB hR d_LW_report_16 rfl rfl ?_ (by decide) (by decide)
  exact lw_Yt D1 f1 O ⟨by decide, by decide⟩
theorem x_LW_report_L {l : Launch} {G : am_G} {h : am_H} {V : dv} {x : Int64} {g : Int → Int64} (htr : l.stackTraces = false) (D : am_dk h 0 V) (O : h[457]? = some (am_ja 2 1 g)) {T : pt_S} (e : pt_parse (cut V.dr) = .inr T) (hld : V.ld = true) (ho : 1000 < (r_all V.S T T.1.length).length) : am_Mw l G M_LW_report [(0, 8, 11, 13), (0, 8, 14, 18)] [.ref 0, .ref 457] h (lw_Y h 2 x ((dv.s_dr V ([])))) := by
  obtain ⟨fs, hk⟩ := D.at
  refine am_Mw.of (by decide) (Nat.le_of_ble_eq_true rfl) (fun X hB hR hTb => ?_)
  show am_Z X 0 [.ref 0, .ref 457, am_u] [] h 0 0
  refine am_aload_n hB d_LW_report_0 rfl rfl rfl ?_
  refine ai_const hB d_LW_report_1 ?_
  refine am_aload_n hB d_LW_report_2 rfl rfl rfl ?_
  refine am_catV hB hR hTb (pre := [(0, 8, 11, 13)]) (rest := []) (h1 := 0) (h2 := 8) (h3 := 14) (h4 := 18) rfl (fun y hy => by obtain rfl := List.mem_singleton.mp hy; exact ⟨eA, by decide, cw_A, fun U hU => hU.2.2.1.1⟩) ⟨by decide, by decide⟩ (by decide) cw_S (fun U hU => hU.2.2.2.2.1) (as := []) hk (t_RD_report_L htr D e hld ho) c_LW_23 rfl rfl d_LW_report_3 ⟨by decide, Nat.le_of_ble_eq_true rfl⟩ ⟨by decide, by decide⟩ rfl rfl (fun hh hp => ?_)
  obtain ⟨D1, f1⟩ := hp
  refine am_astore_n hB d_LW_report_14 rfl (by rw [hR.nL]; decide) rfl rfl ?_
  refine ai_const hB d_LW_report_15 ?_
  refine am_iret hB hR d_LW_report_16 rfl rfl ?_ (by decide) (by decide)
  exact lw_Yt D1 f1 O ⟨by decide, by decide⟩
theorem x_LW_report_F {l : Launch} {G : am_G} {h : am_H} {V : dv} {x : Int64} {g : Int → Int64} (htr : l.stackTraces = false) (D : am_dk h 0 V) (O : h[457]? = some (am_ja 2 1 g)) {T : pt_S} (e : pt_parse (cut V.dr) = .inr T) (hld : V.ld = true) (ho : (r_all V.S T T.1.length).length ≤ 1000) (hp16 : dv_at V (r_all V.S T T.1.length) = 16) : am_Mw l G M_LW_report [(0, 8, 11, 13), (0, 8, 14, 18)] [.ref 0, .ref 457] h (lw_Y h 2 x ((dv.s_dr V ([])))) := by
  obtain ⟨fs, hk⟩ := D.at
  refine am_Mw.of (by decide) (Nat.le_of_ble_eq_true rfl) (fun X hB hR hTb => ?_)
  show am_Z X 0 [.ref 0, .ref 457, am_u] [] h 0 0
  refine am_aload_n hB d_LW_report_0 rfl rfl rfl ?_
  refine ai_const hB d_LW_report_1 ?_
  refine am_aload_n hB d_LW_report_2 rfl rfl rfl ?_
  refine am_catV hB hR hTb (pre := [(0, 8, 11, 13)]) (rest := []) (h1 := 0) (h2 := 8) (h3 := 14) (h4 := 18) rfl (fun y hy => by obtain rfl := List.mem_singleton.mp hy; exact ⟨eA, by decide, cw_A, fun U hU => hU.2.2.1.1⟩) ⟨by decide, by decide⟩ (by decide) cw_S (fun U hU => hU.2.2.2.2.1) (as := []) hk (t_RD_report_F htr D e hld ho hp16) c_LW_23 rfl rfl d_LW_report_3 ⟨by decide, Nat.le_of_ble_eq_true rfl⟩ ⟨by decide, by decide⟩ rfl rfl (fun hh hp => ?_)
  obtain ⟨D1, f1⟩ := hp
  refine am_astore_n hB d_LW_report_14 rfl (by rw [hR.nL]; decide) rfl rfl ?_
  refine ai_const hB d_LW_report_15 ?_
  refine am_iret hB hR d_LW_report_16 rfl rfl ?_ (by decide) (by decide)
  exact lw_Yt D1 f1 O ⟨by decide, by decide⟩
theorem n_LW_at {l : Launch} {G : am_G} {h : am_H} {V : dv} {g : Int → Int64} {i : Int} (htr : l.stackTraces = false) (D : am_dk h 0 V) (O : h[457]? = some (am_ja 2 1 g)) (hi : 0 ≤ i ∧ i < V.pr.length) : am_Mw l G M_LW_at [(0, 9, 12, 30)] [.ref 0, am_n i, .ref 457] h (lw_Y h 0 ((am_i (V.pr.getD i.toNat 0)).toInt64) (V)) := by
  obtain ⟨fs, hk⟩ := D.at
  refine am_Mw.of (by decide) (Nat.le_of_ble_eq_true rfl) (fun X hB hR hTb => ?_)
  show am_Z X 0 [.ref 0, am_n i, .ref 457, am_u] [] h 0 0
  refine am_aload_n hB d_LW_at_0 rfl rfl rfl ?_
  refine ai_const hB d_LW_at_1 ?_
  refine am_aload_n hB d_LW_at_2 rfl rfl rfl ?_
  refine am_iload_n hB d_LW_at_3 rfl rfl ?_
  refine am_callV hB hR (as := [am_n i]) hk (m_RD_at D hi) c_LW_26 rfl rfl d_LW_at_4 ⟨by decide, Nat.le_of_ble_eq_true rfl⟩ ⟨by decide, by decide⟩ rfl rfl (fun rr hh hp => ?_)
  obtain ⟨hr, he⟩ := hp
  rw [hr, ← he]
  have D1 := D
  have f1 : ko 0 422 h h := ko.rf
  have O1 := f1 457 _ (Or.inr (by decide)) O
  show am_Z X 7 [.ref 0, am_n i, .ref 457, am_u] [am_n (V.pr.getD i.toNat 0), am_n 0, .ref 457] h _ _
  refine am_i2l hB d_LW_at_7 ?_
  refine ai_last hB d_LW_at_8 ty_2 O1 rfl ?_
  refine am_goto (tgt := 15) hB d_LW_at_9 (by decide) ?_
  refine ai_const hB d_LW_at_15 ?_
  refine am_iret hB hR d_LW_at_16 rfl rfl ?_ (by decide) (by decide)
  exact lw_Yn D1 f1 O
theorem x_LW_at {l : Launch} {G : am_G} {h : am_H} {V : dv} {x : Int64} {g : Int → Int64} {i : Int} (htr : l.stackTraces = false) (D : am_dk h 0 V) (O : h[457]? = some (am_ja 2 1 g)) (h0 : -2147483648 ≤ i ∧ i < 2147483648) (hi : ¬ (0 ≤ i ∧ i < V.pr.length)) : am_Mw l G M_LW_at [(0, 9, 12, 30)] [.ref 0, am_n i, .ref 457] h (lw_Y h 1 x (V)) := by
  obtain ⟨fs, hk⟩ := D.at
  refine am_Mw.of (by decide) (Nat.le_of_ble_eq_true rfl) (fun X hB hR hTb => ?_)
  show am_Z X 0 [.ref 0, am_n i, .ref 457, am_u] [] h 0 0
  refine am_aload_n hB d_LW_at_0 rfl rfl rfl ?_
  refine ai_const hB d_LW_at_1 ?_
  refine am_aload_n hB d_LW_at_2 rfl rfl rfl ?_
  refine am_iload_n hB d_LW_at_3 rfl rfl ?_
  refine am_catV hB hR hTb (pre := []) (rest := []) (h1 := 0) (h2 := 9) (h3 := 12) (h4 := 30) rfl (fun y hy => by cases hy) ⟨by decide, by decide⟩ (by decide) cw_I (fun U hU => hU.2.2.2.2.2.1) (as := [am_n i]) hk (t_RD_at htr D h0 hi) c_LW_26 rfl rfl d_LW_at_4 ⟨by decide, Nat.le_of_ble_eq_true rfl⟩ ⟨by decide, by decide⟩ rfl rfl (fun hh hp => ?_)
  rw [hp]
  have D1 := D
  have f1 : ko 0 422 h h := ko.rf
  refine am_astore_n hB d_LW_at_12 rfl (by rw [hR.nL]; decide) rfl rfl ?_
  refine ai_const hB d_LW_at_13 ?_
  refine am_iret hB hR d_LW_at_14 rfl rfl ?_ (by decide) (by decide)
  exact lw_Yt D1 f1 O ⟨by decide, by decide⟩
theorem n_LW_groups {l : Launch} {G : am_G} {h : am_H} {V : dv} {g : Int → Int64} {i : Int} (htr : l.stackTraces = false) (D : am_dk h 0 V) (O : h[457]? = some (am_ja 2 1 g)) (hi : 0 ≤ i ∧ i < V.S.1.length) : am_Mw l G M_LW_groups [(0, 9, 12, 35)] [.ref 0, am_n i, .ref 457] h (lw_Y h 0 ((am_i (dv_grp V i)).toInt64) (V)) := by
  obtain ⟨fs, hk⟩ := D.at
  refine am_Mw.of (by decide) (Nat.le_of_ble_eq_true rfl) (fun X hB hR hTb => ?_)
  show am_Z X 0 [.ref 0, am_n i, .ref 457, am_u] [] h 0 0
  refine am_aload_n hB d_LW_groups_0 rfl rfl rfl ?_
  refine ai_const hB d_LW_groups_1 ?_
  refine am_aload_n hB d_LW_groups_2 rfl rfl rfl ?_
  refine am_iload_n hB d_LW_groups_3 rfl rfl ?_
  refine am_callV hB hR (as := [am_n i]) hk (m_RD_groups D hi) c_LW_32 rfl rfl d_LW_groups_4 ⟨by decide, Nat.le_of_ble_eq_true rfl⟩ ⟨by decide, by decide⟩ rfl rfl (fun rr hh hp => ?_)
  obtain ⟨hr, he⟩ := hp
  rw [hr, ← he]
  have D1 := D
  have f1 : ko 0 422 h h := ko.rf
  have O1 := f1 457 _ (Or.inr (by decide)) O
  show am_Z X 7 [.ref 0, am_n i, .ref 457, am_u] [am_n (dv_grp V i), am_n 0, .ref 457] h _ _
  refine am_i2l hB d_LW_groups_7 ?_
  refine ai_last hB d_LW_groups_8 ty_2 O1 rfl ?_
  refine am_goto (tgt := 15) hB d_LW_groups_9 (by decide) ?_
  refine ai_const hB d_LW_groups_15 ?_
  refine am_iret hB hR d_LW_groups_16 rfl rfl ?_ (by decide) (by decide)
  exact lw_Yn D1 f1 O
theorem x_LW_groups {l : Launch} {G : am_G} {h : am_H} {V : dv} {x : Int64} {g : Int → Int64} {i : Int} (htr : l.stackTraces = false) (D : am_dk h 0 V) (O : h[457]? = some (am_ja 2 1 g)) (h0 : -2147483648 ≤ i ∧ i < 2147483648) (hi : ¬ (0 ≤ i ∧ i < V.S.1.length)) (h8 : V.S.1.length ≤ 8) : am_Mw l G M_LW_groups [(0, 9, 12, 35)] [.ref 0, am_n i, .ref 457] h (lw_Y h 1 x (V)) := by
  obtain ⟨fs, hk⟩ := D.at
  refine am_Mw.of (by decide) (Nat.le_of_ble_eq_true rfl) (fun X hB hR hTb => ?_)
  show am_Z X 0 [.ref 0, am_n i, .ref 457, am_u] [] h 0 0
  refine am_aload_n hB d_LW_groups_0 rfl rfl rfl ?_
  refine ai_const hB d_LW_groups_1 ?_
  refine am_aload_n hB d_LW_groups_2 rfl rfl rfl ?_
  refine am_iload_n hB d_LW_groups_3 rfl rfl ?_
  refine am_catV hB hR hTb (pre := []) (rest := []) (h1 := 0) (h2 := 9) (h3 := 12) (h4 := 35) rfl (fun y hy => by cases hy) ⟨by decide, by decide⟩ (by decide) cw_N (fun U hU => hU.2.2.2.2.2.2) (as := [am_n i]) hk (t_RD_groups htr D h0 hi h8) c_LW_32 rfl rfl d_LW_groups_4 ⟨by decide, Nat.le_of_ble_eq_true rfl⟩ ⟨by decide, by decide⟩ rfl rfl (fun hh hp => ?_)
  rw [hp]
  have D1 := D
  have f1 : ko 0 422 h h := ko.rf
  refine am_astore_n hB d_LW_groups_12 rfl (by rw [hR.nL]; decide) rfl rfl ?_
  refine ai_const hB d_LW_groups_13 ?_
  refine am_iret hB hR d_LW_groups_14 rfl rfl ?_ (by decide) (by decide)
  exact lw_Yt D1 f1 O ⟨by decide, by decide⟩
theorem n_LW_key {l : Launch} {G : am_G} {h : am_H} {V : dv} {g : Int → Int64} {i : Int} (htr : l.stackTraces = false) (D : am_dk h 0 V) (O : h[457]? = some (am_ja 2 1 g)) (hi : 0 ≤ i ∧ i < V.n) : am_Mw l G M_LW_key [(0, 8, 11, 35)] [.ref 0, am_n i, .ref 457] h (lw_Y h 0 (V.gk i) (V)) := by
  obtain ⟨fs, hk⟩ := D.at
  refine am_Mw.of (by decide) (Nat.le_of_ble_eq_true rfl) (fun X hB hR hTb => ?_)
  show am_Z X 0 [.ref 0, am_n i, .ref 457, am_u] [] h 0 0
  refine am_aload_n hB d_LW_key_0 rfl rfl rfl ?_
  refine ai_const hB d_LW_key_1 ?_
  refine am_aload_n hB d_LW_key_2 rfl rfl rfl ?_
  refine am_iload_n hB d_LW_key_3 rfl rfl ?_
  refine am_callV hB hR (as := [am_n i]) hk (m_RD_key D hi) c_LW_37 rfl rfl d_LW_key_4 ⟨by decide, Nat.le_of_ble_eq_true rfl⟩ ⟨by decide, by decide⟩ rfl rfl (fun rr hh hp => ?_)
  obtain ⟨hr, he⟩ := hp
  rw [hr, ← he]
  have D1 := D
  have f1 : ko 0 422 h h := ko.rf
  have O1 := f1 457 _ (Or.inr (by decide)) O
  show am_Z X 7 [.ref 0, am_n i, .ref 457, am_u] [.long (V.gk i), am_n 0, .ref 457] h _ _
  refine ai_last hB d_LW_key_7 ty_2 O1 rfl ?_
  refine am_goto (tgt := 14) hB d_LW_key_8 (by decide) ?_
  refine ai_const hB d_LW_key_14 ?_
  refine am_iret hB hR d_LW_key_15 rfl rfl ?_ (by decide) (by decide)
  exact lw_Yn D1 f1 O
theorem x_LW_key {l : Launch} {G : am_G} {h : am_H} {V : dv} {x : Int64} {g : Int → Int64} {i : Int} (htr : l.stackTraces = false) (D : am_dk h 0 V) (O : h[457]? = some (am_ja 2 1 g)) (h0 : -2147483648 ≤ i ∧ i < 2147483648) (hi : ¬ (0 ≤ i ∧ i < V.n)) : am_Mw l G M_LW_key [(0, 8, 11, 35)] [.ref 0, am_n i, .ref 457] h (lw_Y h 1 x (V)) := by
  obtain ⟨fs, hk⟩ := D.at
  refine am_Mw.of (by decide) (Nat.le_of_ble_eq_true rfl) (fun X hB hR hTb => ?_)
  show am_Z X 0 [.ref 0, am_n i, .ref 457, am_u] [] h 0 0
  refine am_aload_n hB d_LW_key_0 rfl rfl rfl ?_
  refine ai_const hB d_LW_key_1 ?_
  refine am_aload_n hB d_LW_key_2 rfl rfl rfl ?_
  refine am_iload_n hB d_LW_key_3 rfl rfl ?_
  refine am_catV hB hR hTb (pre := []) (rest := []) (h1 := 0) (h2 := 8) (h3 := 11) (h4 := 35) rfl (fun y hy => by cases hy) ⟨by decide, by decide⟩ (by decide) cw_N (fun U hU => hU.2.2.2.2.2.2) (as := [am_n i]) hk (t_RD_key htr D h0 hi) c_LW_37 rfl rfl d_LW_key_4 ⟨by decide, Nat.le_of_ble_eq_true rfl⟩ ⟨by decide, by decide⟩ rfl rfl (fun hh hp => ?_)
  rw [hp]
  have D1 := D
  have f1 : ko 0 422 h h := ko.rf
  refine am_astore_n hB d_LW_key_11 rfl (by rw [hR.nL]; decide) rfl rfl ?_
  refine ai_const hB d_LW_key_12 ?_
  refine am_iret hB hR d_LW_key_13 rfl rfl ?_ (by decide) (by decide)
  exact lw_Yt D1 f1 O ⟨by decide, by decide⟩
theorem n_LW_reports {l : Launch} {G : am_G} {h : am_H} {V : dv} {g : Int → Int64} {i w : Int} (htr : l.stackTraces = false) (D : am_dk h 0 V) (O : h[457]? = some (am_ja 2 1 g)) (hi : 0 ≤ i ∧ i < V.n) (hw : 0 ≤ w ∧ w ≤ 2) : am_Mw l G M_LW_reports [(0, 10, 13, 35), (0, 10, 17, 13)] [.ref 0, am_n i, am_n w, .ref 457] h (lw_Y h 0 ((am_i (dv_rep V i w)).toInt64) (V)) := by
  obtain ⟨fs, hk⟩ := D.at
  refine am_Mw.of (by decide) (Nat.le_of_ble_eq_true rfl) (fun X hB hR hTb => ?_)
  show am_Z X 0 [.ref 0, am_n i, am_n w, .ref 457, am_u] [] h 0 0
  refine am_aload_n hB d_LW_reports_0 rfl rfl rfl ?_
  refine ai_const hB d_LW_reports_1 ?_
  refine am_aload_n hB d_LW_reports_2 rfl rfl rfl ?_
  refine am_iload_n hB d_LW_reports_3 rfl rfl ?_
  refine am_iload_n hB d_LW_reports_4 rfl rfl ?_
  refine am_callV hB hR (as := [am_n i, am_n w]) hk (m_RD_reports D hi hw) c_LW_41 rfl rfl d_LW_reports_5 ⟨by decide, Nat.le_of_ble_eq_true rfl⟩ ⟨by decide, by decide⟩ rfl rfl (fun rr hh hp => ?_)
  obtain ⟨hr, he⟩ := hp
  rw [hr, ← he]
  have D1 := D
  have f1 : ko 0 422 h h := ko.rf
  have O1 := f1 457 _ (Or.inr (by decide)) O
  show am_Z X 8 [.ref 0, am_n i, am_n w, .ref 457, am_u] [am_n (dv_rep V i w), am_n 0, .ref 457] h _ _
  refine am_i2l hB d_LW_reports_8 ?_
  refine ai_last hB d_LW_reports_9 ty_2 O1 rfl ?_
  refine am_goto (tgt := 21) hB d_LW_reports_10 (by decide) ?_
  refine ai_const hB d_LW_reports_21 ?_
  refine am_iret hB hR d_LW_reports_22 rfl rfl ?_ (by decide) (by decide)
  exact lw_Yn D1 f1 O
theorem x_LW_reports {l : Launch} {G : am_G} {h : am_H} {V : dv} {x : Int64} {g : Int → Int64} {i w : Int} (htr : l.stackTraces = false) (D : am_dk h 0 V) (O : h[457]? = some (am_ja 2 1 g)) (h0 : -2147483648 ≤ i ∧ i < 2147483648) (hi : ¬ (0 ≤ i ∧ i < V.n)) : am_Mw l G M_LW_reports [(0, 10, 13, 35), (0, 10, 17, 13)] [.ref 0, am_n i, am_n w, .ref 457] h (lw_Y h 1 x (V)) := by
  obtain ⟨fs, hk⟩ := D.at
  refine am_Mw.of (by decide) (Nat.le_of_ble_eq_true rfl) (fun X hB hR hTb => ?_)
  show am_Z X 0 [.ref 0, am_n i, am_n w, .ref 457, am_u] [] h 0 0
  refine am_aload_n hB d_LW_reports_0 rfl rfl rfl ?_
  refine ai_const hB d_LW_reports_1 ?_
  refine am_aload_n hB d_LW_reports_2 rfl rfl rfl ?_
  refine am_iload_n hB d_LW_reports_3 rfl rfl ?_
  refine am_iload_n hB d_LW_reports_4 rfl rfl ?_
  refine am_catV hB hR hTb (pre := []) (rest := [(0, 10, 17, 13)]) (h1 := 0) (h2 := 10) (h3 := 13) (h4 := 35) rfl (fun y hy => by cases hy) ⟨by decide, by decide⟩ (by decide) cw_N (fun U hU => hU.2.2.2.2.2.2) (as := [am_n i, am_n w]) hk (t_RD_reports htr D h0 hi) c_LW_41 rfl rfl d_LW_reports_5 ⟨by decide, Nat.le_of_ble_eq_true rfl⟩ ⟨by decide, by decide⟩ rfl rfl (fun hh hp => ?_)
  rw [hp]
  have D1 := D
  have f1 : ko 0 422 h h := ko.rf
  refine am_astore hB d_LW_reports_13 (by rw [hR.nL]; decide) rfl rfl ?_
  refine ai_const hB d_LW_reports_15 ?_
  refine am_iret hB hR d_LW_reports_16 rfl rfl ?_ (by decide) (by decide)
  exact lw_Yt D1 f1 O ⟨by decide, by decide⟩
theorem x_LW_reportsA {l : Launch} {G : am_G} {h : am_H} {V : dv} {x : Int64} {g : Int → Int64} {i w : Int} (htr : l.stackTraces = false) (D : am_dk h 0 V) (O : h[457]? = some (am_ja 2 1 g)) (hi : 0 ≤ i ∧ i < V.n) (h0 : -2147483648 ≤ w ∧ w < 2147483648) (hw : ¬ (0 ≤ w ∧ w ≤ 2)) : am_Mw l G M_LW_reports [(0, 10, 13, 35), (0, 10, 17, 13)] [.ref 0, am_n i, am_n w, .ref 457] h (lw_Y h 2 x (V)) := by
  obtain ⟨fs, hk⟩ := D.at
  refine am_Mw.of (by decide) (Nat.le_of_ble_eq_true rfl) (fun X hB hR hTb => ?_)
  show am_Z X 0 [.ref 0, am_n i, am_n w, .ref 457, am_u] [] h 0 0
  refine am_aload_n hB d_LW_reports_0 rfl rfl rfl ?_
  refine ai_const hB d_LW_reports_1 ?_
  refine am_aload_n hB d_LW_reports_2 rfl rfl rfl ?_
  refine am_iload_n hB d_LW_reports_3 rfl rfl ?_
  refine am_iload_n hB d_LW_reports_4 rfl rfl ?_
  refine am_catV hB hR hTb (pre := [(0, 10, 13, 35)]) (rest := []) (h1 := 0) (h2 := 10) (h3 := 17) (h4 := 13) rfl (fun y hy => by obtain rfl := List.mem_singleton.mp hy; exact ⟨eN, by decide, cw_N, fun U hU => hU.2.2.1.2⟩) ⟨by decide, by decide⟩ (by decide) cw_A (fun U hU => hU.2.2.2.1) (as := [am_n i, am_n w]) hk (t_RD_reportsA htr D hi h0 hw) c_LW_41 rfl rfl d_LW_reports_5 ⟨by decide, Nat.le_of_ble_eq_true rfl⟩ ⟨by decide, by decide⟩ rfl rfl (fun hh hp => ?_)
  rw [hp]
  have D1 := D
  have f1 : ko 0 422 h h := ko.rf
  refine am_astore hB d_LW_reports_17 (by rw [hR.nL]; decide) rfl rfl ?_
  refine ai_const hB d_LW_reports_19 ?_
  refine am_iret hB hR d_LW_reports_20 rfl rfl ?_ (by decide) (by decide)
  exact lw_Yt D1 f1 O ⟨by decide, by decide⟩
/-! what a call does: the number of the exception (0: none), the answer, what the desk holds then -/
def o_load (V : dv) : Int × Int × dv := match pm_parse V.dr with
  | .inl row => (1, 0, (dv.s_wr (dv.s_dr V ([])) (row)))
  | .inr S => (0, dv_gc S, (dv.s_ld (dv.s_S (dv.s_dr V ([])) (S)) (true)))
def o_retrace (V : dv) : Int × Int × dv := match pt_parse (cut V.dr) with
  | .inl row => (1, 0, (dv.s_wr (dv.s_dr V ([])) (row)))
  | .inr T => if V.ld = false then (2, 0, (dv.s_dr V ([]))) else if (r_all V.S T T.1.length).length ≤ 1000 then (0, t_sum (r_fc V.S) T T.1.length, (dv.s_db (dv.s_pr (dv.s_dr V ([])) (r_all V.S T T.1.length)) (t_sum (r_dc V.S) T T.1.length))) else (2, 0, (dv.s_dr V ([])))
def o_shorten (V : dv) : Int × Int × dv := match pt_parse (cut V.dr) with
  | .inl row => (1, 0, (dv.s_wr (dv.s_dr V ([])) (row)))
  | .inr T => if V.ld = false then (2, 0, (dv.s_dr V ([]))) else if (s_all V.S T T.1.length).length ≤ 1000 then (0, s_ops V.S T T.1.length, (dv.s_pr (dv.s_dr V ([])) (s_all V.S T T.1.length))) else (2, 0, (dv.s_dr V ([])))
def o_report (V : dv) : Int × Int × dv := match pt_parse (cut V.dr) with
  | .inl row => (1, 0, (dv.s_wr (dv.s_dr V ([])) (row)))
  | .inr T => if V.ld = false then (2, 0, (dv.s_dr V ([]))) else if (r_all V.S T T.1.length).length ≤ 1000 then (if dv_at V (r_all V.S T T.1.length) = 16 then (2, 0, (dv.s_dr V ([]))) else (0, dv_at V (r_all V.S T T.1.length), dv_ent (dv.s_db (dv.s_pr (dv.s_dr V ([])) (r_all V.S T T.1.length)) (t_sum (r_dc V.S) T T.1.length)) (r_all V.S T T.1.length))) else (2, 0, (dv.s_dr V ([])))
def o_at (V : dv) (i : Int) : Int × Int × dv := if 0 ≤ i ∧ i < V.pr.length then (0, V.pr.getD i.toNat 0, V) else (1, 0, V)
def o_groups (V : dv) (i : Int) : Int × Int × dv := if 0 ≤ i ∧ i < V.S.1.length then (0, dv_grp V i, V) else (1, 0, V)
def o_key (V : dv) (i : Int) : Int × Int64 × dv := if 0 ≤ i ∧ i < V.n then (0, V.gk i, V) else (1, 0, V)
def o_reports (V : dv) (i w : Int) : Int × Int × dv := if 0 ≤ i ∧ i < V.n then (if 0 ≤ w ∧ w ≤ 2 then (0, dv_rep V i w, V) else (2, 0, V)) else (1, 0, V)
theorem o_retrace_A {V : dv} {row : Int} (e : pt_parse (cut V.dr) = .inl row) : o_retrace V = (1, 0, (dv.s_wr (dv.s_dr V ([])) (row))) := by unfold o_retrace; rw [e]
theorem o_retrace_T {V : dv} {T : pt_S} (e : pt_parse (cut V.dr) = .inr T) : o_retrace V = if V.ld = false then (2, 0, (dv.s_dr V ([]))) else if (r_all V.S T T.1.length).length ≤ 1000 then (0, t_sum (r_fc V.S) T T.1.length, (dv.s_db (dv.s_pr (dv.s_dr V ([])) (r_all V.S T T.1.length)) (t_sum (r_dc V.S) T T.1.length))) else (2, 0, (dv.s_dr V ([]))) := by unfold o_retrace; rw [e]
theorem o_shorten_A {V : dv} {row : Int} (e : pt_parse (cut V.dr) = .inl row) : o_shorten V = (1, 0, (dv.s_wr (dv.s_dr V ([])) (row))) := by unfold o_shorten; rw [e]
theorem o_shorten_T {V : dv} {T : pt_S} (e : pt_parse (cut V.dr) = .inr T) : o_shorten V = if V.ld = false then (2, 0, (dv.s_dr V ([]))) else if (s_all V.S T T.1.length).length ≤ 1000 then (0, s_ops V.S T T.1.length, (dv.s_pr (dv.s_dr V ([])) (s_all V.S T T.1.length))) else (2, 0, (dv.s_dr V ([]))) := by unfold o_shorten; rw [e]
theorem o_report_A {V : dv} {row : Int} (e : pt_parse (cut V.dr) = .inl row) : o_report V = (1, 0, (dv.s_wr (dv.s_dr V ([])) (row))) := by unfold o_report; rw [e]
theorem o_report_T {V : dv} {T : pt_S} (e : pt_parse (cut V.dr) = .inr T) : o_report V = if V.ld = false then (2, 0, (dv.s_dr V ([]))) else if (r_all V.S T T.1.length).length ≤ 1000 then (if dv_at V (r_all V.S T T.1.length) = 16 then (2, 0, (dv.s_dr V ([]))) else (0, dv_at V (r_all V.S T T.1.length), dv_ent (dv.s_db (dv.s_pr (dv.s_dr V ([])) (r_all V.S T T.1.length)) (t_sum (r_dc V.S) T T.1.length)) (r_all V.S T T.1.length))) else (2, 0, (dv.s_dr V ([]))) := by unfold o_report; rw [e]
/-- the helper's contract with an answer of this kind -/
def lw_O (h : am_H) (o : Int × Int × dv) : am_Y := lw_Y h o.1 ((am_i o.2.1).toInt64) o.2.2
theorem q_LW_load {l : Launch} {G : am_G} {h : am_H} {V : dv} {g : Int → Int64} (htr : l.stackTraces = false) (D : am_dk h 0 V) (O : h[457]? = some (am_ja 2 1 g)) : am_Mw l G M_LW_load [(0, 8, 11, 13)] [.ref 0, .ref 457] h (lw_O h (o_load V)) := by
  cases e : pm_parse V.dr with
  | inl row =>
    have : o_load V = (1, 0, (dv.s_wr (dv.s_dr V ([])) (row))) := by unfold o_load; rw [e]
    rw [this]
    exact x_LW_load htr D O e
  | inr S =>
    have : o_load V = (0, dv_gc S, (dv.s_ld (dv.s_S (dv.s_dr V ([])) (S)) (true))) := by unfold o_load; rw [e]
    rw [this]
    exact n_LW_load htr D O e
theorem q_LW_retrace {l : Launch} {G : am_G} {h : am_H} {V : dv} {g : Int → Int64} (htr : l.stackTraces = false) (D : am_dk h 0 V) (O : h[457]? = some (am_ja 2 1 g)) : am_Mw l G M_LW_retrace [(0, 8, 11, 13), (0, 8, 14, 18)] [.ref 0, .ref 457] h (lw_O h (o_retrace V)) := by
  cases e : pt_parse (cut V.dr) with
  | inl row =>
    rw [o_retrace_A e]
    exact x_LW_retrace_A htr D O e
  | inr T =>
    rw [o_retrace_T e]
    cases hld : V.ld with
    | false =>
      rw [if_pos rfl]
      exact x_LW_retrace_U htr D O e hld
    | true =>
      rw [if_neg (fun z => by cases z)]
      by_cases ho : (r_all V.S T T.1.length).length ≤ 1000
      · rw [if_pos ho]
        exact n_LW_retrace htr D O e hld ho
      · rw [if_neg ho]
        exact x_LW_retrace_L htr D O e hld (by omega)
theorem q_LW_shorten {l : Launch} {G : am_G} {h : am_H} {V : dv} {g : Int → Int64} (htr : l.stackTraces = false) (D : am_dk h 0 V) (O : h[457]? = some (am_ja 2 1 g)) : am_Mw l G M_LW_shorten [(0, 8, 11, 13), (0, 8, 14, 18)] [.ref 0, .ref 457] h (lw_O h (o_shorten V)) := by
  cases e : pt_parse (cut V.dr) with
  | inl row =>
    rw [o_shorten_A e]
    exact x_LW_shorten_A htr D O e
  | inr T =>
    rw [o_shorten_T e]
    cases hld : V.ld with
    | false =>
      rw [if_pos rfl]
      exact x_LW_shorten_U htr D O e hld
    | true =>
      rw [if_neg (fun z => by cases z)]
      by_cases ho : (s_all V.S T T.1.length).length ≤ 1000
      · rw [if_pos ho]
        exact n_LW_shorten htr D O e hld ho
      · rw [if_neg ho]
        exact x_LW_shorten_L htr D O e hld (by omega)
theorem q_LW_report {l : Launch} {G : am_G} {h : am_H} {V : dv} {g : Int → Int64} (htr : l.stackTraces = false) (D : am_dk h 0 V) (O : h[457]? = some (am_ja 2 1 g)) : am_Mw l G M_LW_report [(0, 8, 11, 13), (0, 8, 14, 18)] [.ref 0, .ref 457] h (lw_O h (o_report V)) := by
  cases e : pt_parse (cut V.dr) with
  | inl row =>
    rw [o_report_A e]
    exact x_LW_report_A htr D O e
  | inr T =>
    rw [o_report_T e]
    cases hld : V.ld with
    | false =>
      rw [if_pos rfl]
      exact x_LW_report_U htr D O e hld
    | true =>
      rw [if_neg (fun z => by cases z)]
      by_cases ho : (r_all V.S T T.1.length).length ≤ 1000
      · rw [if_pos ho]
        by_cases hp : dv_at V (r_all V.S T T.1.length) = 16
        · rw [if_pos hp]
          exact x_LW_report_F htr D O e hld ho hp
        · rw [if_neg hp]
          exact n_LW_report htr D O e hld ho hp
      · rw [if_neg ho]
        exact x_LW_report_L htr D O e hld (by omega)
theorem q_LW_at {l : Launch} {G : am_G} {h : am_H} {V : dv} {g : Int → Int64} {i : Int} (htr : l.stackTraces = false) (D : am_dk h 0 V) (O : h[457]? = some (am_ja 2 1 g)) (h0 : -2147483648 ≤ i ∧ i < 2147483648) : am_Mw l G M_LW_at [(0, 9, 12, 30)] [.ref 0, am_n i, .ref 457] h (lw_O h (o_at V i)) := by
  by_cases hi : 0 ≤ i ∧ i < V.pr.length
  · rw [o_at, if_pos hi]
    exact n_LW_at htr D O hi
  · rw [o_at, if_neg hi]
    exact x_LW_at htr D O h0 hi
theorem q_LW_groups {l : Launch} {G : am_G} {h : am_H} {V : dv} {g : Int → Int64} {i : Int} (htr : l.stackTraces = false) (D : am_dk h 0 V) (O : h[457]? = some (am_ja 2 1 g)) (h0 : -2147483648 ≤ i ∧ i < 2147483648) (h8 : V.S.1.length ≤ 8) : am_Mw l G M_LW_groups [(0, 9, 12, 35)] [.ref 0, am_n i, .ref 457] h (lw_O h (o_groups V i)) := by
  by_cases hi : 0 ≤ i ∧ i < V.S.1.length
  · rw [o_groups, if_pos hi]
    exact n_LW_groups htr D O hi
  · rw [o_groups, if_neg hi]
    exact x_LW_groups htr D O h0 hi h8
theorem q_LW_key {l : Launch} {G : am_G} {h : am_H} {V : dv} {g : Int → Int64} {i : Int} (htr : l.stackTraces = false) (D : am_dk h 0 V) (O : h[457]? = some (am_ja 2 1 g)) (h0 : -2147483648 ≤ i ∧ i < 2147483648) : am_Mw l G M_LW_key [(0, 8, 11, 35)] [.ref 0, am_n i, .ref 457] h (lw_Y h (o_key V i).1 (o_key V i).2.1 (o_key V i).2.2) := by
  by_cases hi : 0 ≤ i ∧ i < V.n
  · rw [o_key, if_pos hi]
    exact n_LW_key htr D O hi
  · rw [o_key, if_neg hi]
    exact x_LW_key htr D O h0 hi
theorem q_LW_reports {l : Launch} {G : am_G} {h : am_H} {V : dv} {g : Int → Int64} {i w : Int} (htr : l.stackTraces = false) (D : am_dk h 0 V) (O : h[457]? = some (am_ja 2 1 g)) (h0 : -2147483648 ≤ i ∧ i < 2147483648) (hw0 : -2147483648 ≤ w ∧ w < 2147483648) : am_Mw l G M_LW_reports [(0, 10, 13, 35), (0, 10, 17, 13)] [.ref 0, am_n i, am_n w, .ref 457] h (lw_O h (o_reports V i w)) := by
  by_cases hi : 0 ≤ i ∧ i < V.n
  · rw [o_reports, if_pos hi]
    by_cases hw : 0 ≤ w ∧ w ≤ 2
    · rw [if_pos hw]
      exact n_LW_reports htr D O hi hw
    · rw [if_neg hw]
      exact x_LW_reportsA htr D O hi hw0 hw
  · rw [o_reports, if_neg hi]
    exact x_LW_reports htr D O h0 hi
theorem cW_load : am_cW "RetraceDeskLaw" 60 M_LW_load [(0, 8, 11, 13)] 2 := ⟨tb_412, tb_0, am_in (by decide +kernel) (by decide +kernel), by decide, by decide +kernel, tb_413⟩
theorem cW_retrace : am_cW "RetraceDeskLaw" 69 M_LW_retrace [(0, 8, 11, 13), (0, 8, 14, 18)] 2 := ⟨tb_715, tb_0, am_in (by decide +kernel) (by decide +kernel), by decide, by decide +kernel, tb_716⟩
theorem cW_shorten : am_cW "RetraceDeskLaw" 72 M_LW_shorten [(0, 8, 11, 13), (0, 8, 14, 18)] 2 := ⟨tb_890, tb_0, am_in (by decide +kernel) (by decide +kernel), by decide, by decide +kernel, tb_891⟩
theorem cW_report : am_cW "RetraceDeskLaw" 75 M_LW_report [(0, 8, 11, 13), (0, 8, 14, 18)] 2 := ⟨tb_929, tb_0, am_in (by decide +kernel) (by decide +kernel), by decide, by decide +kernel, tb_930⟩
theorem cW_at : am_cW "RetraceDeskLaw" 86 M_LW_at [(0, 9, 12, 30)] 3 := ⟨tb_980, tb_0, am_in (by decide +kernel) (by decide +kernel), by decide, by decide +kernel, tb_981⟩
theorem cW_groups : am_cW "RetraceDeskLaw" 94 M_LW_groups [(0, 9, 12, 35)] 3 := ⟨tb_1003, tb_0, am_in (by decide +kernel) (by decide +kernel), by decide, by decide +kernel, tb_1004⟩
theorem cW_key : am_cW "RetraceDeskLaw" 101 M_LW_key [(0, 8, 11, 35)] 3 := ⟨tb_1026, tb_0, am_in (by decide +kernel) (by decide +kernel), by decide, by decide +kernel, tb_1027⟩
theorem cW_reports : am_cW "RetraceDeskLaw" 104 M_LW_reports [(0, 10, 13, 35), (0, 10, 17, 13)] 4 := ⟨tb_1037, tb_0, am_in (by decide +kernel) (by decide +kernel), by decide, by decide +kernel, tb_1038⟩
