/-! the desk rewrites -/
theorem m_RW_init {l : Launch} {G : am_G} {h : am_H} {k bT bM kp : Nat} (r : h[k]? = some (.inr (6, [.null, .null, .null, .int 0, .int 0]))) : am_M l G M_RW_init [.ref k, .ref bT, .ref bM, .ref kp] h (fun r h' => r = none ∧ h'[k]? = some (ce_RW bT bM kp 0 0) ∧ ko k 1 h h') := by
  refine am_M.of (by decide) (Nat.le_of_ble_eq_true rfl) (fun X hB hR => ?_)
  show am_Z X 0 [.ref k, .ref bT, .ref bM, .ref kp] [] h 0 0
  refine am_aload_n hB d_RW_init_0 rfl rfl rfl ?_
  refine am_obj hB hR d_RW_init_1 O_RW_3 ⟨by decide, Nat.le_of_ble_eq_true rfl⟩ ?_
  refine am_aload_n hB d_RW_init_4 rfl rfl rfl ?_
  refine am_aload_n hB d_RW_init_5 rfl rfl rfl ?_
  refine am_putF hB d_RW_init_6 P_RW_9_6 (hR.name.trans rfl) r (by simp) (am_fit.r rfl (Or.inl ⟨_, rfl⟩)) rfl ?_
  refine am_aload_n hB d_RW_init_9 rfl rfl rfl ?_
  refine am_aload_n hB d_RW_init_10 rfl rfl rfl ?_
  refine am_putF hB d_RW_init_11 P_RW_15_6 (hR.name.trans rfl) (am_rs r) (by simp) (am_fit.r rfl (Or.inl ⟨_, rfl⟩)) rfl ?_
  refine am_aload_n hB d_RW_init_14 rfl rfl rfl ?_
  refine am_aload_n hB d_RW_init_15 rfl rfl rfl ?_
  refine am_putF hB d_RW_init_16 P_RW_19_6 (hR.name.trans rfl) (am_rs (am_rs r)) (by simp) (am_fit.r rfl (Or.inl ⟨_, rfl⟩)) rfl ?_
  refine am_vret hB hR d_RW_init_19 rfl ?_ (Nat.zero_le _) (Nat.zero_le _)
  exact ⟨rfl, am_rs (am_rs (am_rs r)), ((ko.set k _ (by omega) (by omega)).tr (ko.set k _ (by omega) (by omega))).tr (ko.set k _ (by omega) (by omega))⟩
theorem am_mw.ag {h h' : am_H} {b : Nat} {S : pm_S} (m : am_mw h b S) (f : agr b 157 h h') : am_mw h' b S := by
  obtain ⟨g, s, m, z⟩ := m
  exact ⟨g, s, m.ag f, z⟩
theorem am_tw.ag {h h' : am_H} {d : Nat} {T : pt_S} (m : am_tw h (d + 3) (d + 2) T) (f : agr (d + 2) 97 h h') : am_tw h' (d + 3) (d + 2) T := by
  obtain ⟨g, t, ⟨m0, m1, m2⟩, z⟩ := m
  exact ⟨g, t, ⟨fun q hq => f _ _ (by omega) (by omega) (m0 q hq), f _ _ (by omega) (by omega) m1, m2⟩, z⟩
theorem dk_r.top {h : am_H} {d bM bS kp ks : Nat} {V : dv} (rl : dk_rl d bM bS kp ks) (D2 : dk_r h d bM bS kp ks V) : d + 422 ≤ h.length := by
  obtain ⟨E1, E2, E3, E4, E5, E6, o7, E7⟩ := D2
  obtain ⟨_, _, _, _, q1, -⟩ := E6
  obtain ⟨_, _, _, _, q2, -⟩ := E7
  have a1 := am_lt q1
  have a2 := am_lt q2
  obtain ⟨r1, r2⟩ := rl
  omega
/-- another spare print -/
theorem dk_r.ks {h h' : am_H} {d bM bS kp ks : Nat} {V : dv} {o : List Int} (D2 : dk_r h d bM bS kp ks V) (rl : dk_rl d bM bS kp ks) (a : am_txt h' ks (ks + 1) 1000 o) (f : agr (d + 1) 417 h h') (f2 : agr kp 2 h h') : dk_r h' d bM bS kp ks V := by
  obtain ⟨E1, E2, E3, E4, E5, E6, o7, E7⟩ := D2
  obtain ⟨r1, r2⟩ := rl
  exact ⟨E1.ag rfl (f.sub (by omega) (by omega)), E2.ag (f.sub (by omega) (by omega)), E3.ag (f.sub (by omega) (by omega)), E4.ag (f.sub (by omega) (by omega)), E5.ag (f.sub (by omega) (by omega)), E6.ag rfl f2, o, a⟩
theorem m_RD_newRewriter {l : Launch} {G : am_G} {h : am_H} {d bM bS kp ks : Nat} {V : dv} {T : pt_S} (rl : dk_rl d bM bS kp ks) (D1 : dk_c h d bM bS kp ks V) (D2 : dk_r h d bM bS kp ks V) (hld : V.ld = true) (hT : am_tw h (d + 3) (d + 2) T) : am_M l G M_RD_newRewriter [.ref d] h (fun r h' => ∃ k, r = some (.ref k) ∧ (d + 422 ≤ k ∧ h.length ≤ k) ∧ dk_c h' d bM bS kp ks V ∧ dk_r h' d bM bS kp ks V ∧ rw_W h' k (d + 3) (d + 2) bM ks (ks + 1) T V.S [] 0 0 ∧ ko d 422 h h') := by
  have rl' := rl
  obtain ⟨r1, r2⟩ := rl'
  have DD := D2
  have tp := D2.top rl
  obtain ⟨E1, E2, E3, E4, E5, E6, o7, E7⟩ := D2
  obtain ⟨g, s, o, x1, x2, x3⟩ := id E7
  have D1' := D1
  unfold dk_c at D1'
  rw [hld] at D1'
  refine am_M.of (by decide) (Nat.le_of_ble_eq_true rfl) (fun X hB hR => ?_)
  show am_Z X 0 [.ref d] [] h 0 0
  refine am_aload_n hB d_RD_newRewriter_0 rfl rfl rfl ?_
  refine am_getf hB d_RD_newRewriter_1 F_RD_87_10 D1' rfl ?_
  show am_Z X 4 [.ref d] [am_n 1] h 0 0
  refine ai_zne (tgt := 15) hB d_RD_newRewriter_4 (by decide) (fun c1 => ?_) (fun c1 => ?_)
  rotate_left
  · omega
  refine am_aload_n hB d_RD_newRewriter_15 rfl rfl rfl ?_
  refine am_getf hB d_RD_newRewriter_16 F_RD_51_10 D1 rfl ?_
  refine am_callV hB hR (as := []) x1 (m_TX_clr x1) c_RD_70 rfl rfl d_RD_newRewriter_19 ⟨by decide, Nat.le_of_ble_eq_true rfl⟩ ⟨by decide, by decide⟩ rfl rfl (fun rr h1 hp => ?_)
  obtain ⟨rfl, e1⟩ := hp
  have u1 : am_txt h1 ks (ks + 1) 1000 [] := by rw [e1]; exact E7.clr
  have f1 : ko ks 1 h h1 := by rw [e1]; exact ko.set _ _ (by omega) (by omega)
  have l1 : h1.length = h.length := by rw [e1]; exact List.length_set
  have D1a := f1 _ _ (by omega) D1
  show am_Z X 22 [.ref d] [] h1 0 0
  refine am_new hB d_RD_newRewriter_22 N_RD_102 (by rw [hR.room]; decide) (by rw [hR.room]; decide) rfl rfl rfl rfl ?_
  refine am_dup hB d_RD_newRewriter_25 rfl ?_
  refine am_aload_n hB d_RD_newRewriter_26 rfl rfl rfl ?_
  have f2 : ∀ a n : Nat, ko a n h1 (h1 ++ [.inr (6, [.null, .null, .null, .int 0, .int 0])]) := fun a n => ko.app
  have x9 : (h1 ++ [(.inr (6, [.null, .null, .null, .int 0, .int 0]) : va_E)])[h1.length]? = some (.inr (6, [.null, .null, .null, .int 0, .int 0])) := by simp
  generalize h1 ++ [(.inr (6, [.null, .null, .null, .int 0, .int 0]) : va_E)] = h2 at f2 x9
  have D1b := f2 0 0 _ _ (by omega) D1a
  refine am_getf hB d_RD_newRewriter_27 F_RD_27_10 D1b rfl ?_
  refine am_aload_n hB d_RD_newRewriter_30 rfl rfl rfl ?_
  refine am_getf hB d_RD_newRewriter_31 F_RD_41_10 D1b rfl ?_
  refine am_aload_n hB d_RD_newRewriter_34 rfl rfl rfl ?_
  refine am_getf hB d_RD_newRewriter_35 F_RD_51_10 D1b rfl ?_
  refine am_callI hB hR (as := [.ref (d + 3), .ref bM, .ref ks]) (m_RW_init x9) c_RD_181 rfl rfl d_RD_newRewriter_38 ⟨by decide, Nat.le_of_ble_eq_true rfl⟩ ⟨by decide, by decide⟩ rfl rfl (fun rr h3 hp => ?_)
  obtain ⟨rfl, x10, f3⟩ := hp
  show am_Z X 41 [.ref d] [.ref h1.length] h3 1 5
  refine am_aret hB hR d_RD_newRewriter_41 rfl (Or.inl ⟨_, rfl⟩) rfl ?_ (by decide) (by decide)
  have F : ∀ a n : Nat, a + n ≤ d + 422 → (a + n ≤ ks ∨ ks + 1 ≤ a) → agr a n h h3 := fun a n u v => ((f1.ag (by omega)).tr ((f2 0 0).ag (by omega))).tr (f3.ag (by omega))
  have u3 : am_txt h3 ks (ks + 1) 1000 [] := (u1.ag rfl ((f2 0 0).ag (by omega))).ag rfl (f3.ag (by omega))
  obtain ⟨gm, sm, mm, hgm, -, hR4⟩ := E4
  refine ⟨h1.length, rfl, ⟨by omega, by omega⟩, f3 _ _ (by omega) D1b, DD.ks rl u3 (fun q e a b r => ?_) (F _ _ (by omega) (by omega)), ⟨x10, hT.ag (F _ _ (by omega) (by omega)), ⟨gm, sm, mm.ag (F _ _ (by omega) (by omega)), hgm, hR4 hld⟩, u3, ?_, ⟨by decide, by decide⟩, ⟨by decide, by decide⟩⟩, ?_⟩
  · exact F q 1 (by omega) (by omega) q e (by omega) (by omega) r
  · intro q hq
    simp only [List.mem_cons, List.not_mem_nil, or_false] at hq
    omega
  · exact fun q e a r => f3 _ _ (by have := am_lt r; omega) (f2 0 0 _ _ (by omega) (f1 _ _ (by omega) r))
theorem t_RD_newRewriter {l : Launch} {G : am_G} {h : am_H} {d bM bS kp ks : Nat} {V : dv} (htr : l.stackTraces = false) (D1 : dk_c h d bM bS kp ks V) (hld : V.ld = false) : am_T l G M_RD_newRewriter [.ref d] h eS (fun h' => h' = h) := by
  have D1' := D1
  unfold dk_c at D1'
  rw [hld] at D1'
  refine am_T.of (by decide) (Nat.le_of_ble_eq_true rfl) (fun X hB hR => ?_)
  show am_Z X 0 [.ref d] [] h 0 0
  refine am_aload_n hB d_RD_newRewriter_0 rfl rfl rfl ?_
  refine am_getf hB d_RD_newRewriter_1 F_RD_87_10 D1' rfl ?_
  show am_Z X 4 [.ref d] [am_n 0] h 0 0
  refine ai_zne (tgt := 15) hB d_RD_newRewriter_4 (by decide) (fun c1 => ?_) (fun c1 => ?_)
  · omega
  refine am_throw hB hR htr d_RD_newRewriter_7 d_RD_newRewriter_10 d_RD_newRewriter_11 d_RD_newRewriter_14 ⟨Or.inr (Or.inl rfl), by decide⟩ cl_S in_S ow_S ⟨by decide, by decide⟩ ⟨by decide, by decide⟩ ?_
  rfl
theorem m_RD_refuseLongPrint {l : Launch} {G : am_G} {h : am_H} {d bM bS kp ks : Nat} {V : dv} {o : List Int} (D1 : dk_c h d bM bS kp ks V) (t : am_txt h ks (ks + 1) 1000 o) (ho : o.length ≤ 1000) : am_M l G M_RD_refuseLongPrint [.ref d] h (am_ok h) := by
  obtain ⟨g, x1, -⟩ := t.all ho
  refine am_M.of (by decide) (Nat.le_of_ble_eq_true rfl) (fun X hB hR => ?_)
  show am_Z X 0 [.ref d] [] h 0 0
  refine am_aload_n hB d_RD_refuseLongPrint_0 rfl rfl rfl ?_
  refine am_getf hB d_RD_refuseLongPrint_1 F_RD_51_10 D1 rfl ?_
  refine am_getf hB d_RD_refuseLongPrint_4 F_RD_184_8 x1 rfl ?_
  refine ai_zeq (tgt := 18) hB d_RD_refuseLongPrint_7 (by decide) (fun c1 => ?_) (fun c1 => ?_)
  · refine am_vret hB hR d_RD_refuseLongPrint_18 rfl ?_ (Nat.zero_le _) (Nat.zero_le _)
    exact ⟨rfl, rfl⟩
  · omega
theorem t_RD_refuseLongPrint {l : Launch} {G : am_G} {h : am_H} {d bM bS kp ks : Nat} {V : dv} {o : List Int} (htr : l.stackTraces = false) (D1 : dk_c h d bM bS kp ks V) (t : am_txt h ks (ks + 1) 1000 o) (ho : 1000 < o.length) : am_T l G M_RD_refuseLongPrint [.ref d] h eS (fun h' => h' = h) := by
  obtain ⟨g, s, ov, x1, x2, hg, ⟨k1, k2, ⟨rfl, rfl, k3⟩ | ⟨rfl, k4⟩⟩, hN⟩ := t
  · omega
  refine am_T.of (by decide) (Nat.le_of_ble_eq_true rfl) (fun X hB hR => ?_)
  show am_Z X 0 [.ref d] [] h 0 0
  refine am_aload_n hB d_RD_refuseLongPrint_0 rfl rfl rfl ?_
  refine am_getf hB d_RD_refuseLongPrint_1 F_RD_51_10 D1 rfl ?_
  refine am_getf hB d_RD_refuseLongPrint_4 F_RD_184_8 x1 rfl ?_
  refine ai_zeq (tgt := 18) hB d_RD_refuseLongPrint_7 (by decide) (fun c1 => ?_) (fun c1 => ?_)
  · omega
  refine am_throw hB hR htr d_RD_refuseLongPrint_10 d_RD_refuseLongPrint_13 d_RD_refuseLongPrint_14 d_RD_refuseLongPrint_17 ⟨Or.inr (Or.inl rfl), by decide⟩ cl_S in_S ow_S ⟨by decide, by decide⟩ ⟨by decide, by decide⟩ ?_
  rfl
theorem m_RD_swapPrints {l : Launch} {G : am_G} {h : am_H} {d bM bS kp ks : Nat} {ld wr db : Int} (D1 : h[d]? = some (ce_RD d bM bS kp ks ld wr db)) : am_M l G M_RD_swapPrints [.ref d] h (fun r h' => r = none ∧ h'[d]? = some (ce_RD d bM bS ks kp ld wr db) ∧ ko d 1 h h') := by
  refine am_M.of (by decide) (Nat.le_of_ble_eq_true rfl) (fun X hB hR => ?_)
  show am_Z X 0 [.ref d, am_u] [] h 0 0
  refine am_aload_n hB d_RD_swapPrints_0 rfl rfl rfl ?_
  refine am_getf hB d_RD_swapPrints_1 F_RD_48_10 D1 rfl ?_
  refine am_astore_n hB d_RD_swapPrints_4 rfl (by rw [hR.nL]; decide) rfl rfl ?_
  refine am_aload_n hB d_RD_swapPrints_5 rfl rfl rfl ?_
  refine am_aload_n hB d_RD_swapPrints_6 rfl rfl rfl ?_
  refine am_getf hB d_RD_swapPrints_7 F_RD_51_10 D1 rfl ?_
  refine am_putf hB d_RD_swapPrints_10 P_RD_48_10 D1 (by simp) (am_fit.r rfl (Or.inl ⟨_, rfl⟩)) rfl ?_
  refine am_aload_n hB d_RD_swapPrints_13 rfl rfl rfl ?_
  refine am_aload_n hB d_RD_swapPrints_14 rfl rfl rfl ?_
  refine am_putf hB d_RD_swapPrints_15 P_RD_51_10 (am_rs D1) (by simp) (am_fit.r rfl (Or.inl ⟨_, rfl⟩)) rfl ?_
  refine am_vret hB hR d_RD_swapPrints_18 rfl ?_ (Nat.zero_le _) (Nat.zero_le _)
  exact ⟨rfl, am_rs (am_rs D1), (ko.set d _ (by omega) (by omega)).tr (ko.set d _ (by omega) (by omega))⟩
theorem m_RD_keepRetraced {l : Launch} {G : am_G} {h : am_H} {d bM bS kp ks k bT bN kq : Nat} {ld wr db fc dc : Int} (D1 : h[d]? = some (ce_RD d bM bS kp ks ld wr db)) (r : h[k]? = some (ce_RW bT bN kq fc dc)) : am_M l G M_RD_keepRetraced [.ref d, .ref k] h (fun r h' => r = none ∧ h'[d]? = some (ce_RD d bM bS ks kp ld wr dc) ∧ ko d 1 h h') := by
  refine am_M.of (by decide) (Nat.le_of_ble_eq_true rfl) (fun X hB hR => ?_)
  show am_Z X 0 [.ref d, .ref k] [] h 0 0
  refine am_aload_n hB d_RD_keepRetraced_0 rfl rfl rfl ?_
  refine am_aload_n hB d_RD_keepRetraced_1 rfl rfl rfl ?_
  refine am_getf hB d_RD_keepRetraced_2 F_RD_187_6 r rfl ?_
  refine am_putf hB d_RD_keepRetraced_5 P_RD_140_10 D1 (by simp) am_fit.i rfl ?_
  refine am_aload_n hB d_RD_keepRetraced_8 rfl rfl rfl ?_
  refine am_callV hB hR (as := []) (am_rs D1) (m_RD_swapPrints (am_rs D1)) c_RD_119 rfl rfl d_RD_keepRetraced_9 ⟨by decide, Nat.le_of_ble_eq_true rfl⟩ ⟨by decide, by decide⟩ rfl rfl (fun rr hh hp => ?_)
  obtain ⟨rfl, x, f⟩ := hp
  show am_Z X 12 [.ref d, .ref k] [] hh 0 0
  refine am_vret hB hR d_RD_keepRetraced_12 rfl ?_ (Nat.zero_le _) (Nat.zero_le _)
  exact ⟨rfl, x, (ko.set d _ (by omega) (by omega)).tr f⟩
/-- the spare print becomes the print -/
theorem dk_r.swap {h h' : am_H} {d bM bS kp ks : Nat} {V : dv} {o : List Int} (D2 : dk_r h d bM bS kp ks V) (rl : dk_rl d bM bS kp ks) (a : am_txt h ks (ks + 1) 1000 o) (f : ko d 1 h h') (db : Int) : dk_r h' d bM bS ks kp (dv.s_db (dv.s_pr V (o)) (db)) := by
  obtain ⟨E1, E2, E3, E4, E5, E6, o7, E7⟩ := D2
  obtain ⟨r1, r2⟩ := rl
  exact ⟨E1.ag rfl (f.ag (by omega)), E2.ag (f.ag (by omega)), E3.ag (f.ag (by omega)), E4.ag (f.ag (by omega)), E5.ag (f.ag (by omega)), a.ag rfl (f.ag (by omega)), _, E6.ag rfl (f.ag (by omega))⟩
/-- what stands behind a rewriting -/
theorem dk_after {h h' : am_H} {d bM bS kp ks k : Nat} {V : dv} {T : pt_S} {S : pm_S} {o : List Int} {fc dc : Int} (rl : dk_rl d bM bS kp ks) (hk : d + 422 ≤ k) (D1 : dk_c h d bM bS kp ks V) (D2 : dk_r h d bM bS kp ks V) (w : rw_W h' k (d + 3) (d + 2) bM ks (ks + 1) T S o fc dc) (f : am_fr [k, ks, ks + 1] h h') : dk_c h' d bM bS kp ks V ∧ dk_r h' d bM bS kp ks V ∧ ∀ q : Nat, d ≤ q → q < d + 422 → q ≠ ks → q ≠ ks + 1 → h'[q]? = h[q]? := by
  have F : ∀ q : Nat, d ≤ q → q < d + 422 → q ≠ ks → q ≠ ks + 1 → h'[q]? = h[q]? := fun q a b c e => f.2 q (by simp only [List.mem_cons, List.not_mem_nil, or_false]; omega)
  have rl' := rl
  obtain ⟨r1, r2⟩ := rl'
  exact ⟨(F d (by omega) (by omega) (by omega) (by omega)).trans D1, D2.ks rl w.2.2.2.1 (fun q e a b r => (F q (by omega) (by omega) (by omega) (by omega)).trans r) (fun q e a b r => (F q (by omega) (by omega) (by omega) (by omega)).trans r), F⟩
