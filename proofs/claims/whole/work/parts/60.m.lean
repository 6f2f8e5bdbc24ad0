/-! a desk is made -/
def dv_0 : dv := ([], ([], []), false, [], 0, 0, fun _ => 0, fun _ => 0, fun _ => 0, fun _ => 0, 0, 0)
theorem dv_0_ok : dv_0.ok := ⟨Nat.zero_le _, Nat.zero_le _, ⟨Int.le_refl 0, by decide⟩, (fun z => by cases z), fun _ => rfl, fun _ _ => rfl⟩
theorem ko.all {a n : Nat} {h h1 : am_H} (f : ∀ a n, ko a n h h1) : agr a n h h1 := fun q e _ _ w => f 0 0 q e (Or.inr (Nat.zero_le _)) w
theorem ko.agd {d j k n : Nat} {h h1 : am_H} (f : ko d j h h1) (hk : decide (j ≤ k) = true) : agr (d + k) n h h1 := f.ag (Or.inl (Nat.add_le_add_left (of_decide_eq_true hk) d))
theorem ko.agi {d i j k n : Nat} {h h1 : am_H} (f : ko (d + i) j h h1) (hk : decide (i + j ≤ k) = true ∨ decide (k + n ≤ i) = true) : agr (d + k) n h h1 := f.ag (by
  simp only [decide_eq_true_eq] at hk
  omega)
theorem ko.atd {d i j : Nat} {h h1 : am_H} {e : va_E} (f : ko (d + i) j h h1) (hi : decide (0 < i) = true) (r : h[d]? = some e) : h1[d]? = some e := f d e (Or.inl (by have := of_decide_eq_true hi; omega)) r
theorem ko.subd {d j : Nat} {h h1 : am_H} (f : ko d j h h1) (hj : decide (j ≤ 422) = true) : ko d 422 h h1 := f.sub (Nat.le_refl d) (Nat.add_le_add_left (of_decide_eq_true hj) d)
theorem ko.subi {d i j : Nat} {h h1 : am_H} (f : ko (d + i) j h h1) (hj : decide (i + j ≤ 422) = true) : ko d 422 h h1 := f.sub (Nat.le_add_right d i) (by have := of_decide_eq_true hj; omega)
theorem am_gset {X : am_C} {pc : Nat} {L st : List Value} {h : am_H} {cs sl k : Nat} {e e0 : va_E} (kk : ∀ h', h'.length = h.length → h'[k]? = some e → ko k 1 h h' → am_Z X pc L st h' cs sl) (r : h[k]? = some e0) : am_Z X pc L st (h.set k e) cs sl := kk _ List.length_set (am_rs r) (ko.set _ _ (by omega) (by omega))
theorem am_gapp {X : am_C} {pc : Nat} {L st : List Value} {h : am_H} {cs sl : Nat} {e : va_E} (kk : ∀ h', h'.length = h.length + 1 → h'[h.length]? = some e → (∀ a n, ko a n h h') → am_Z X pc L st h' cs sl) : am_Z X pc L st (h ++ [e]) cs sl := kk _ ap_len (ap_nw rfl) (fun _ _ => ko.app)
abbrev rd_o0 (d : Nat) : va_E := .inr (10, [.null, .null, .null, .null, .null, .null, .null, .int 0, .int 0, .int 0])
abbrev rd_o1 (d : Nat) : va_E := .inr (10, [.ref (d + 1), .null, .null, .null, .null, .null, .null, .int 0, .int 0, .int 0])
abbrev rd_o2 (d : Nat) : va_E := .inr (10, [.ref (d + 1), .ref (d + 3), .null, .null, .null, .null, .null, .int 0, .int 0, .int 0])
abbrev rd_o3 (d : Nat) : va_E := .inr (10, [.ref (d + 1), .ref (d + 3), .ref (d + 99), .null, .null, .null, .null, .int 0, .int 0, .int 0])
abbrev rd_o4 (d : Nat) : va_E := .inr (10, [.ref (d + 1), .ref (d + 3), .ref (d + 99), .ref (d + 104), .null, .null, .null, .int 0, .int 0, .int 0])
abbrev rd_o5 (d : Nat) : va_E := .inr (10, [.ref (d + 1), .ref (d + 3), .ref (d + 99), .ref (d + 104), .ref (d + 261), .null, .null, .int 0, .int 0, .int 0])
abbrev rd_o6 (d : Nat) : va_E := .inr (10, [.ref (d + 1), .ref (d + 3), .ref (d + 99), .ref (d + 104), .ref (d + 261), .ref (d + 418), .null, .int 0, .int 0, .int 0])
abbrev rd_o7 (d : Nat) : va_E := .inr (10, [.ref (d + 1), .ref (d + 3), .ref (d + 99), .ref (d + 104), .ref (d + 261), .ref (d + 418), .ref (d + 420), .int 0, .int 0, .int 0])
theorem m_RD_init {l : Launch} {G : am_G} {h : am_H} {d : Nat} (r : h[d]? = some (rd_o0 d)) (hl : h.length = d + 1) : am_M l G M_RD_init [.ref d] h (fun r h' => r = none ∧ h'.length = d + 422 ∧ am_dk h' d dv_0 ∧ ko d 422 h h') := by
  refine am_M.of (by decide) (Nat.le_of_ble_eq_true rfl) (fun X hB hR => ?_)
  show am_Z X 0 [.ref d] [] h 0 0
  refine am_aload_n hB d_RD_init_0 rfl rfl rfl ?_
  refine am_obj hB hR d_RD_init_1 O_RD_3 ⟨by decide, Nat.le_of_ble_eq_true rfl⟩ ?_
  refine am_aload_n hB d_RD_init_4 rfl rfl rfl ?_
  refine am_new hB d_RD_init_5 N_RD_9 (by rw [hR.room]; decide) (by rw [hR.room]; decide) (q := d + 1) hl rfl rfl rfl ?_
  refine am_gapp (fun n1 ln1 xn1 fn1 => ?_)
  rw [hl] at ln1 xn1
  have rn1 := fn1 0 0 _ _ (Or.inr (Nat.zero_le _)) r
  have Kn1 : ko d 422 h n1 := (fn1 _ _)
  refine am_dup hB d_RD_init_8 rfl ?_
  refine ai_sipush hB d_RD_init_9 (by decide) ?_
  refine am_callI hB hR (as := [am_n (600 : Nat)]) (m_TX_init (k := d + 1) xn1 ln1 (Or.inl rfl)) c_RD_11 rfl rfl d_RD_init_12 ⟨by decide, Nat.le_of_ble_eq_true rfl⟩ ⟨by decide, by decide⟩ rfl rfl (fun rr q2 hp => ?_)
  obtain ⟨rfl, lq2, mq2, fq2⟩ := hp
  have rq2 := fq2.atd rfl rn1
  have Kq2 : ko d 422 h q2 := Kn1.tr (fq2.subi rfl)
  show am_Z X 15 [.ref d] [.ref (d + 1), .ref d] q2 2 1003
  have T1 : am_txt q2 (d + 1) (d + 2) 600 [] := mq2
  refine am_putF hB d_RD_init_15 P_RD_14_10 (hR.name.trans rfl) rq2 (by simp) (am_fit.r rfl (Or.inl ⟨_, rfl⟩)) rfl ?_
  refine am_gset (e := rd_o1 d) (fun p3 lp3 rp3 fp3 => ?_) rq2
  have lp3 := lp3.trans lq2
  have T1 := T1.ag rfl (fp3.agd rfl)
  have Kp3 : ko d 422 h p3 := Kq2.tr (fp3.subd rfl)
  refine am_aload_n hB d_RD_init_18 rfl rfl rfl ?_
  refine am_new hB d_RD_init_19 N_RD_18 (by rw [hR.room]; decide) (by rw [hR.room]; decide) (q := d + 3) lp3 rfl rfl rfl ?_
  refine am_gapp (fun n4 ln4 xn4 fn4 => ?_)
  rw [lp3] at ln4 xn4
  have rn4 := fn4 0 0 _ _ (Or.inr (Nat.zero_le _)) rp3
  have T1 := T1.ag rfl (ko.all fn4)
  have Kn4 : ko d 422 h n4 := Kp3.tr (fn4 _ _)
  refine am_dup hB d_RD_init_22 rfl ?_
  refine am_aload_n hB d_RD_init_23 rfl rfl rfl ?_
  refine am_getf hB d_RD_init_24 F_RD_14_10 rn4 rfl ?_
  obtain ⟨_, _, _, tx, -⟩ := id T1
  refine am_getf hB d_RD_init_27 F_RD_20_8 tx rfl ?_
  refine am_callI hB hR (as := [.ref (d + 2)]) (m_TR_init (b := d + 3) xn4 ln4) c_RD_24 rfl rfl d_RD_init_30 ⟨by decide, Nat.le_of_ble_eq_true rfl⟩ ⟨by decide, by decide⟩ rfl rfl (fun rr q5 hp => ?_)
  obtain ⟨rfl, lq5, mq5, fq5⟩ := hp
  have rq5 := fq5.atd rfl rn4
  have T1 := T1.ag rfl (fq5.agi (Or.inr rfl))
  have Kq5 : ko d 422 h q5 := Kn4.tr (fq5.subi rfl)
  show am_Z X 33 [.ref d] [.ref (d + 3), .ref d] q5 98 1366
  have T2 : dk_tr q5 d := ⟨_, mq5⟩
  refine am_putF hB d_RD_init_33 P_RD_27_10 (hR.name.trans rfl) rq5 (by simp) (am_fit.r rfl (Or.inl ⟨_, rfl⟩)) rfl ?_
  refine am_gset (e := rd_o2 d) (fun p6 lp6 rp6 fp6 => ?_) rq5
  have lp6 := lp6.trans lq5
  have T1 := T1.ag rfl (fp6.agd rfl)
  have T2 := T2.ag (fp6.agd rfl)
  have Kp6 : ko d 422 h p6 := Kq5.tr (fp6.subd rfl)
  refine am_aload_n hB d_RD_init_36 rfl rfl rfl ?_
  refine am_new hB d_RD_init_37 N_RD_31 (by rw [hR.room]; decide) (by rw [hR.room]; decide) (q := d + 99) lp6 rfl rfl rfl ?_
  refine am_gapp (fun n7 ln7 xn7 fn7 => ?_)
  rw [lp6] at ln7 xn7
  have rn7 := fn7 0 0 _ _ (Or.inr (Nat.zero_le _)) rp6
  have T1 := T1.ag rfl (ko.all fn7)
  have T2 := T2.ag (ko.all fn7)
  have Kn7 : ko d 422 h n7 := Kp6.tr (fn7 _ _)
  refine am_dup hB d_RD_init_40 rfl ?_
  refine am_callI hB hR (as := []) (m_CB_init (k := d + 99) xn7 ln7) c_RD_33 rfl rfl d_RD_init_41 ⟨by decide, Nat.le_of_ble_eq_true rfl⟩ ⟨by decide, by decide⟩ rfl rfl (fun rr q8 hp => ?_)
  obtain ⟨rfl, lq8, mq8, fq8⟩ := hp
  have rq8 := fq8.atd rfl rn7
  have T1 := T1.ag rfl (fq8.agi (Or.inr rfl))
  have T2 := T2.ag (fq8.agi (Or.inr rfl))
  have Kq8 : ko d 422 h q8 := Kn7.tr (fq8.subi rfl)
  show am_Z X 44 [.ref d] [.ref (d + 99), .ref d] q8 103 1436
  have T3 := mq8
  refine am_putF hB d_RD_init_44 P_RD_34_10 (hR.name.trans rfl) rq8 (by simp) (am_fit.r rfl (Or.inl ⟨_, rfl⟩)) rfl ?_
  refine am_gset (e := rd_o3 d) (fun p9 lp9 rp9 fp9 => ?_) rq8
  have lp9 := lp9.trans lq8
  have T1 := T1.ag rfl (fp9.agd rfl)
  have T2 := T2.ag (fp9.agd rfl)
  have T3 := T3.ag (fp9.agd rfl)
  have Kp9 : ko d 422 h p9 := Kq8.tr (fp9.subd rfl)
  refine am_aload_n hB d_RD_init_47 rfl rfl rfl ?_
  refine am_new hB d_RD_init_48 N_RD_38 (by rw [hR.room]; decide) (by rw [hR.room]; decide) (q := d + 104) lp9 rfl rfl rfl ?_
  refine am_gapp (fun n10 ln10 xn10 fn10 => ?_)
  rw [lp9] at ln10 xn10
  have rn10 := fn10 0 0 _ _ (Or.inr (Nat.zero_le _)) rp9
  have T1 := T1.ag rfl (ko.all fn10)
  have T2 := T2.ag (ko.all fn10)
  have T3 := T3.ag (ko.all fn10)
  have Kn10 : ko d 422 h n10 := Kp9.tr (fn10 _ _)
  refine am_dup hB d_RD_init_51 rfl ?_
  refine ai_sipush hB d_RD_init_52 (by decide) ?_
  refine am_newC hB d_RD_init_55 ty_0 tb_58 (by decide) (N := 600) (by decide) (by decide) (by rw [hR.room]; decide) (by rw [hR.room]; decide) (q := d + 105) ln10 rfl rfl rfl ?_
  refine am_gapp (fun c11 lc11 xc11 fc11 => ?_)
  rw [ln10] at lc11 xc11
  have rc11 := fc11 0 0 _ _ (Or.inr (Nat.zero_le _)) rn10
  have T1 := T1.ag rfl (ko.all fc11)
  have T2 := T2.ag (ko.all fc11)
  have T3 := T3.ag (ko.all fc11)
  have Kc11 : ko d 422 h c11 := Kn10.tr (fc11 _ _)
  have y4 := fc11 0 0 _ _ (Or.inr (Nat.zero_le _)) xn10
  refine am_callI hB hR (as := [.ref (d + 105)]) (m_MA_init (b := d + 104) (g := fun _ => 0) y4 xc11 lc11) c_RD_40 rfl rfl d_RD_init_57 ⟨by decide, Nat.le_of_ble_eq_true rfl⟩ ⟨by decide, by decide⟩ rfl rfl (fun rr q12 hp => ?_)
  obtain ⟨rfl, lq12, mq12, fq12⟩ := hp
  have rq12 := fq12.atd rfl rc11
  have T1 := T1.ag rfl (fq12.agi (Or.inr rfl))
  have T2 := T2.ag (fq12.agi (Or.inr rfl))
  have T3 := T3.ag (fq12.agi (Or.inr rfl))
  have Kq12 : ko d 422 h q12 := Kc11.tr (fq12.subi rfl)
  show am_Z X 60 [.ref d] [.ref (d + 104), .ref d] q12 260 2753
  have T4 : dk_mp q12 (d + 104) ([], []) false := ⟨_, _, mq12, am_cok0, rfl, (fun z => by cases z)⟩
  refine am_putf hB d_RD_init_60 P_RD_41_10 rq12 (by simp) (am_fit.r rfl (Or.inl ⟨_, rfl⟩)) rfl ?_
  refine am_gset (e := rd_o4 d) (fun p13 lp13 rp13 fp13 => ?_) rq12
  have lp13 := lp13.trans lq12
  have T1 := T1.ag rfl (fp13.agd rfl)
  have T2 := T2.ag (fp13.agd rfl)
  have T3 := T3.ag (fp13.agd rfl)
  have T4 := T4.ag (fp13.agd rfl)
  have Kp13 : ko d 422 h p13 := Kq12.tr (fp13.subd rfl)
  refine am_aload_n hB d_RD_init_63 rfl rfl rfl ?_
  refine am_new hB d_RD_init_64 N_RD_38 (by rw [hR.room]; decide) (by rw [hR.room]; decide) (q := d + 261) lp13 rfl rfl rfl ?_
  refine am_gapp (fun n14 ln14 xn14 fn14 => ?_)
  rw [lp13] at ln14 xn14
  have rn14 := fn14 0 0 _ _ (Or.inr (Nat.zero_le _)) rp13
  have T1 := T1.ag rfl (ko.all fn14)
  have T2 := T2.ag (ko.all fn14)
  have T3 := T3.ag (ko.all fn14)
  have T4 := T4.ag (ko.all fn14)
  have Kn14 : ko d 422 h n14 := Kp13.tr (fn14 _ _)
  refine am_dup hB d_RD_init_67 rfl ?_
  refine ai_sipush hB d_RD_init_68 (by decide) ?_
  refine am_newC hB d_RD_init_71 ty_0 tb_58 (by decide) (N := 600) (by decide) (by decide) (by rw [hR.room]; decide) (by rw [hR.room]; decide) (q := d + 262) ln14 rfl rfl rfl ?_
  refine am_gapp (fun c15 lc15 xc15 fc15 => ?_)
  rw [ln14] at lc15 xc15
  have rc15 := fc15 0 0 _ _ (Or.inr (Nat.zero_le _)) rn14
  have T1 := T1.ag rfl (ko.all fc15)
  have T2 := T2.ag (ko.all fc15)
  have T3 := T3.ag (ko.all fc15)
  have T4 := T4.ag (ko.all fc15)
  have Kc15 : ko d 422 h c15 := Kn14.tr (fc15 _ _)
  have y5 := fc15 0 0 _ _ (Or.inr (Nat.zero_le _)) xn14
  refine am_callI hB hR (as := [.ref (d + 262)]) (m_MA_init (b := d + 261) (g := fun _ => 0) y5 xc15 lc15) c_RD_40 rfl rfl d_RD_init_73 ⟨by decide, Nat.le_of_ble_eq_true rfl⟩ ⟨by decide, by decide⟩ rfl rfl (fun rr q16 hp => ?_)
  obtain ⟨rfl, lq16, mq16, fq16⟩ := hp
  have rq16 := fq16.atd rfl rc15
  have T1 := T1.ag rfl (fq16.agi (Or.inr rfl))
  have T2 := T2.ag (fq16.agi (Or.inr rfl))
  have T3 := T3.ag (fq16.agi (Or.inr rfl))
  have T4 := T4.ag (fq16.agi (Or.inr rfl))
  have Kq16 : ko d 422 h q16 := Kc15.tr (fq16.subi rfl)
  show am_Z X 76 [.ref d] [.ref (d + 261), .ref d] q16 417 4070
  have T5 : dk_sp q16 (d + 261) := ⟨_, _, mq16, am_cok0⟩
  refine am_putf hB d_RD_init_76 P_RD_45_10 rq16 (by simp) (am_fit.r rfl (Or.inl ⟨_, rfl⟩)) rfl ?_
  refine am_gset (e := rd_o5 d) (fun p17 lp17 rp17 fp17 => ?_) rq16
  have lp17 := lp17.trans lq16
  have T1 := T1.ag rfl (fp17.agd rfl)
  have T2 := T2.ag (fp17.agd rfl)
  have T3 := T3.ag (fp17.agd rfl)
  have T4 := T4.ag (fp17.agd rfl)
  have T5 := T5.ag (fp17.agd rfl)
  have Kp17 : ko d 422 h p17 := Kq16.tr (fp17.subd rfl)
  refine am_aload_n hB d_RD_init_79 rfl rfl rfl ?_
  refine am_new hB d_RD_init_80 N_RD_9 (by rw [hR.room]; decide) (by rw [hR.room]; decide) (q := d + 418) lp17 rfl rfl rfl ?_
  refine am_gapp (fun n18 ln18 xn18 fn18 => ?_)
  rw [lp17] at ln18 xn18
  have rn18 := fn18 0 0 _ _ (Or.inr (Nat.zero_le _)) rp17
  have T1 := T1.ag rfl (ko.all fn18)
  have T2 := T2.ag (ko.all fn18)
  have T3 := T3.ag (ko.all fn18)
  have T4 := T4.ag (ko.all fn18)
  have T5 := T5.ag (ko.all fn18)
  have Kn18 : ko d 422 h n18 := Kp17.tr (fn18 _ _)
  refine am_dup hB d_RD_init_83 rfl ?_
  refine ai_sipush hB d_RD_init_84 (by decide) ?_
  refine am_callI hB hR (as := [am_n (1000 : Nat)]) (m_TX_init (k := d + 418) xn18 ln18 (Or.inr rfl)) c_RD_11 rfl rfl d_RD_init_87 ⟨by decide, Nat.le_of_ble_eq_true rfl⟩ ⟨by decide, by decide⟩ rfl rfl (fun rr q19 hp => ?_)
  obtain ⟨rfl, lq19, mq19, fq19⟩ := hp
  have rq19 := fq19.atd rfl rn18
  have T1 := T1.ag rfl (fq19.agi (Or.inr rfl))
  have T2 := T2.ag (fq19.agi (Or.inr rfl))
  have T3 := T3.ag (fq19.agi (Or.inr rfl))
  have T4 := T4.ag (fq19.agi (Or.inr rfl))
  have T5 := T5.ag (fq19.agi (Or.inr rfl))
  have Kq19 : ko d 422 h q19 := Kn18.tr (fq19.subi rfl)
  show am_Z X 90 [.ref d] [.ref (d + 418), .ref d] q19 419 5073
  have T6 : am_txt q19 (d + 418) (d + 418 + 1) 1000 [] := mq19
  refine am_putf hB d_RD_init_90 P_RD_48_10 rq19 (by simp) (am_fit.r rfl (Or.inl ⟨_, rfl⟩)) rfl ?_
  refine am_gset (e := rd_o6 d) (fun p20 lp20 rp20 fp20 => ?_) rq19
  have lp20 := lp20.trans lq19
  have T1 := T1.ag rfl (fp20.agd rfl)
  have T2 := T2.ag (fp20.agd rfl)
  have T3 := T3.ag (fp20.agd rfl)
  have T4 := T4.ag (fp20.agd rfl)
  have T5 := T5.ag (fp20.agd rfl)
  have T6 := T6.ag rfl (fp20.agd rfl)
  have Kp20 : ko d 422 h p20 := Kq19.tr (fp20.subd rfl)
  refine am_aload_n hB d_RD_init_93 rfl rfl rfl ?_
  refine am_new hB d_RD_init_94 N_RD_9 (by rw [hR.room]; decide) (by rw [hR.room]; decide) (q := d + 420) lp20 rfl rfl rfl ?_
  refine am_gapp (fun n21 ln21 xn21 fn21 => ?_)
  rw [lp20] at ln21 xn21
  have rn21 := fn21 0 0 _ _ (Or.inr (Nat.zero_le _)) rp20
  have T1 := T1.ag rfl (ko.all fn21)
  have T2 := T2.ag (ko.all fn21)
  have T3 := T3.ag (ko.all fn21)
  have T4 := T4.ag (ko.all fn21)
  have T5 := T5.ag (ko.all fn21)
  have T6 := T6.ag rfl (ko.all fn21)
  have Kn21 : ko d 422 h n21 := Kp20.tr (fn21 _ _)
  refine am_dup hB d_RD_init_97 rfl ?_
  refine ai_sipush hB d_RD_init_98 (by decide) ?_
  refine am_callI hB hR (as := [am_n (1000 : Nat)]) (m_TX_init (k := d + 420) xn21 ln21 (Or.inr rfl)) c_RD_11 rfl rfl d_RD_init_101 ⟨by decide, Nat.le_of_ble_eq_true rfl⟩ ⟨by decide, by decide⟩ rfl rfl (fun rr q22 hp => ?_)
  obtain ⟨rfl, lq22, mq22, fq22⟩ := hp
  have rq22 := fq22.atd rfl rn21
  have T1 := T1.ag rfl (fq22.agi (Or.inr rfl))
  have T2 := T2.ag (fq22.agi (Or.inr rfl))
  have T3 := T3.ag (fq22.agi (Or.inr rfl))
  have T4 := T4.ag (fq22.agi (Or.inr rfl))
  have T5 := T5.ag (fq22.agi (Or.inr rfl))
  have T6 := T6.ag rfl (fq22.agi (Or.inr rfl))
  have Kq22 : ko d 422 h q22 := Kn21.tr (fq22.subi rfl)
  show am_Z X 104 [.ref d] [.ref (d + 420), .ref d] q22 421 6076
  have T7 : am_txt q22 (d + 420) (d + 420 + 1) 1000 [] := mq22
  refine am_putf hB d_RD_init_104 P_RD_51_10 rq22 (by simp) (am_fit.r rfl (Or.inl ⟨_, rfl⟩)) rfl ?_
  refine am_gset (e := rd_o7 d) (fun p23 lp23 rp23 fp23 => ?_) rq22
  have lp23 := lp23.trans lq22
  have T1 := T1.ag rfl (fp23.agd rfl)
  have T2 := T2.ag (fp23.agd rfl)
  have T3 := T3.ag (fp23.agd rfl)
  have T4 := T4.ag (fp23.agd rfl)
  have T5 := T5.ag (fp23.agd rfl)
  have T6 := T6.ag rfl (fp23.agd rfl)
  have T7 := T7.ag rfl (fp23.agd rfl)
  have Kp23 : ko d 422 h p23 := Kq22.tr (fp23.subd rfl)
  refine am_vret hB hR d_RD_init_107 rfl ?_ (by decide) (by decide)
  exact ⟨rfl, lp23, ⟨dv_0_ok, d + 104, d + 261, d + 418, d + 420, ⟨Or.inl ⟨rfl, rfl⟩, Or.inl ⟨rfl, rfl⟩⟩, rp23, ⟨T1, T2, T3, T4, T5, T6, [], T7⟩⟩, Kp23⟩
