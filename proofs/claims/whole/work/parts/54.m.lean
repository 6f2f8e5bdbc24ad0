/-! the desk reads a mapping, a trace -/
theorem pm_run_row {α : Type} {st : α → Int → Int → Option α} {g : Int → Int} {n : Int} : ∀ (f : Nat) (a row : Int) (S : α) (r : Int), pm_run st g n f a row S = .inl r → row ≤ r ∧ r < row + f
  | 0, _, _, _, _, h => by cases h
  | f + 1, a, row, S, r, h => by
    unfold pm_run at h
    split at h
    · cases e : st S a (sp_ix g 10 a (n - a).toNat) with
      | none =>
        rw [e] at h
        cases h
        omega
      | some S' =>
        rw [e] at h
        have := pm_run_row f _ _ S' r h
        omega
    · cases h
def cut (dr : List Int) : List Int := if dr.getLast? = some 10 then dr.dropLast else dr
theorem cut_len (dr : List Int) : (cut dr).length ≤ dr.length := by
  unfold cut
  split
  · rw [List.length_dropLast]; omega
  · exact Nat.le_refl _
theorem cut_get {dr : List Int} {j : Nat} (h : j < (cut dr).length) : (cut dr).getD j 0 = dr.getD j 0 := by
  unfold cut at h ⊢
  split
  · rename_i c
    rw [if_pos c] at h
    rw [List.getD_eq_getElem?_getD, List.getD_eq_getElem?_getD, List.getElem?_dropLast]
    rw [List.length_dropLast] at h
    rw [if_pos h]
  · rfl
theorem cut_size {dr : List Int} {g : Int → Int} (h : ∀ j : Nat, j < dr.length → g j = dr.getD j 0) : (if 0 < (dr.length : Int) ∧ g ((dr.length : Int) - 1) = 10 then (dr.length : Int) - 1 else dr.length) = (cut dr).length := by
  unfold cut
  by_cases h0 : dr.length = 0
  · have : dr = [] := List.length_eq_zero_iff.mp h0
    subst this
    rfl
  · have e1 : ((dr.length : Int) - 1) = ((dr.length - 1 : Nat) : Int) := by omega
    have e2 : dr.getLast? = some (dr.getD (dr.length - 1) 0) := by
      rw [List.getLast?_eq_getElem?, List.getD_eq_getElem?_getD, List.getElem?_eq_getElem (by omega)]
      rfl
    rw [e1, h _ (by omega), e2]
    by_cases c : dr.getD (dr.length - 1) 0 = 10
    · rw [if_pos ⟨by omega, c⟩, if_pos (by rw [c]), List.length_dropLast]
    · rw [if_neg (fun z => c z.2), if_neg (fun z => c (Option.some.inj z))]
def dv_gc (S : pm_S) : Int := ((S.2.filter (fun x => x.2.2.2)).length : Nat)
theorem m_RD_load {l : Launch} {G : am_G} {h : am_H} {d : Nat} {V : dv} {S' : pm_S} (D : am_dk h d V) (e : pm_parse V.dr = .inr S') : am_M l G M_RD_load [.ref d] h (fun r h' => r = some (am_n (dv_gc S')) ∧ am_dk h' d (dv.s_ld (dv.s_S (dv.s_dr V ([])) (S')) (true)) ∧ ko d 422 h h') := by
  obtain ⟨ok, bM, bS, kp, ks, rl, D1, D2⟩ := D
  have hl := ok.1
  have rl' := rl
  obtain ⟨r1, r2⟩ := rl'
  obtain ⟨E1, E2, E3, E4, E5, E6, o7, E7⟩ := D2
  obtain ⟨g, x1, x2, hg, x3, -⟩ := am_txt.all E1 ok.1
  obtain ⟨gs, ss, ms, hgs⟩ := E5
  refine am_M.of (by decide) (Nat.le_of_ble_eq_true rfl) (fun X hB hR => ?_)
  show am_Z X 0 [.ref d, am_u, am_u, am_u] [] h 0 0
  refine am_aload_n hB d_RD_load_0 rfl rfl rfl ?_
  refine am_getf hB d_RD_load_1 F_RD_14_10 D1 rfl ?_
  refine am_getf hB d_RD_load_4 F_RD_54_8 x1 rfl ?_
  refine am_istore_n hB d_RD_load_7 rfl (by rw [hR.nL]; decide) rfl ?_
  refine am_aload_n hB d_RD_load_8 rfl rfl rfl ?_
  refine am_getf hB d_RD_load_9 F_RD_45_10 D1 rfl ?_
  refine am_aload_n hB d_RD_load_12 rfl rfl rfl ?_
  refine am_getf hB d_RD_load_13 F_RD_14_10 D1 rfl ?_
  refine am_callV hB hR (as := [.ref (d + 1)]) ms.1 (m_MA_begin ms hgs x1 x2 hg ⟨by omega, by omega⟩ ⟨by omega, by omega⟩ (by omega) (by omega)) c_RD_73 rfl rfl d_RD_load_16 ⟨by decide, Nat.le_of_ble_eq_true rfl⟩ ⟨by decide, by decide⟩ rfl rfl (fun rr h1 hp => ?_)
  obtain ⟨rfl, s1, ⟨m1, f1⟩, R1⟩ := hp
  have f1 : ko bS 157 h h1 := f1.ko
  have hg1 : am_cok (am_cp g gs 0 0 V.dr.length) := hg.cp hgs
  have p1 := pm_run_parse (g := am_cp g gs 0 0 V.dr.length) (dr := V.dr) (fun j hj => by
    unfold am_cp
    rw [if_pos (by omega), show (0 : Int) + ((j : Int) - 0) = j by omega]
    exact x3 j hj)
  show am_Z X 19 [.ref d, am_n V.dr.length, am_u, am_u] [] h1 0 0
  have y1 := f1 _ _ (by omega) x1
  have D1a := f1 _ _ (by omega) D1
  have t1 : am_txt h1 (d + 1) (d + 2) 600 V.dr := E1.ag rfl (f1.ag (by omega))
  refine am_aload_n hB d_RD_load_19 rfl rfl rfl ?_
  refine am_getf hB d_RD_load_20 F_RD_14_10 D1a rfl ?_
  refine am_callV hB hR (as := []) y1 (m_TX_clr y1) c_RD_70 rfl rfl d_RD_load_23 ⟨by decide, Nat.le_of_ble_eq_true rfl⟩ ⟨by decide, by decide⟩ rfl rfl (fun rr h2 hp => ?_)
  obtain ⟨rfl, e2⟩ := hp
  have t2 : am_txt h2 (d + 1) (d + 2) 600 [] := by rw [e2]; exact t1.clr
  have f2 : ko (d + 1) 1 h1 h2 := by rw [e2]; exact ko.set _ _ (by omega) (by omega)
  have D1b := f2 _ _ (by omega) D1a
  have m2 := m1.ag (f2.ag (by omega))
  show am_Z X 26 [.ref d, am_n V.dr.length, am_u, am_u] [] h2 0 0
  refine am_aload_n hB d_RD_load_26 rfl rfl rfl ?_
  refine am_getf hB d_RD_load_27 F_RD_45_10 D1b rfl ?_
  refine am_iload_n hB d_RD_load_30 rfl rfl ?_
  refine am_callU hB hR (as := [am_n V.dr.length]) m2.1 (m_MA_firstWrongLine m2 hg1 R1 ⟨by omega, by omega⟩) c_RD_77_4 rfl rfl d_RD_load_31 ⟨by decide, Nat.le_of_ble_eq_true rfl⟩ ⟨by decide, by decide⟩ rfl rfl (fun rr h3 hp => ?_)
  rw [p1, e] at hp
  obtain ⟨rfl, s3, ⟨m3, f3⟩, R3⟩ := hp
  have f3 : ko bS 157 h2 h3 := f3.ko
  have D1c := f3 _ _ (by omega) D1b
  have fin : ∀ h4, ko d 1 h3 h4 → h4[d]? = some (ce_RD d bS bM kp ks (sp_i true) V.wr V.db) → am_dk h4 d (dv.s_ld (dv.s_S (dv.s_dr V ([])) (S')) (true)) ∧ ko d 422 h h4 := by
    intro h4 f4 D1d
    have F : ∀ a n : Nat, (a + n ≤ bS ∨ bS + 157 ≤ a) → d + 2 ≤ a → agr a n h h4 := fun a n u v => (((f1.ag (by omega)).tr (f2.ag (by omega))).tr (f3.ag (by omega))).tr (f4.ag (by omega))
    refine ⟨⟨⟨Nat.zero_le _, ok.2.1, ok.2.2.1, fun _ => pm_parse_ok e, (fun z => by cases z), ok.2.2.2.2.2⟩, bS, bM, kp, ks, ⟨by omega, r2⟩, D1d, ?_⟩, ?_⟩
    · exact ⟨(t2.ag rfl (f3.ag (by omega))).ag rfl (f4.ag (by omega)), E2.ag (F _ _ (by omega) (by omega)), E3.ag (F _ _ (by omega) (by omega)), ⟨_, s3, m3.ag (f4.ag (by omega)), hg1, R3.1, fun _ => R3⟩, E4.sp.ag (F _ _ (by omega) (by omega)), E6.ag rfl (F _ _ (by omega) (by omega)), o7, E7.ag rfl (F _ _ (by omega) (by omega))⟩
    · exact (((f1.sub (by omega) (by omega)).tr (f2.sub (by omega) (by omega))).tr (f3.sub (by omega) (by omega))).tr (f4.sub (by omega) (by omega))
  show am_Z X 34 [.ref d, am_n V.dr.length, am_u, am_u] [am_n (-1)] h3 0 0
  refine am_istore_n hB d_RD_load_34 rfl (by rw [hR.nL]; decide) rfl ?_
  refine am_iload_n hB d_RD_load_35 rfl rfl ?_
  refine ai_const hB d_RD_load_36 ?_
  refine ai_jeq (tgt := 53) hB d_RD_load_37 (by decide) (fun c1 => ?_) (fun c1 => ?_)
  rotate_left
  · omega
  refine am_aload_n hB d_RD_load_53 rfl rfl rfl ?_
  refine am_getf hB d_RD_load_54 F_RD_41_10 D1c rfl ?_
  refine am_astore_n hB d_RD_load_57 rfl (by rw [hR.nL]; decide) rfl rfl ?_
  refine am_aload_n hB d_RD_load_58 rfl rfl rfl ?_
  refine am_aload_n hB d_RD_load_59 rfl rfl rfl ?_
  refine am_getf hB d_RD_load_60 F_RD_45_10 D1c rfl ?_
  refine am_putf hB d_RD_load_63 P_RD_41_10 D1c (by simp) (am_fit.r rfl (Or.inl ⟨_, rfl⟩)) rfl ?_
  refine am_aload_n hB d_RD_load_66 rfl rfl rfl ?_
  refine am_aload_n hB d_RD_load_67 rfl rfl rfl ?_
  refine am_putf hB d_RD_load_68 P_RD_45_10 (am_rs D1c) (by simp) (am_fit.r rfl (Or.inl ⟨_, rfl⟩)) rfl ?_
  refine am_aload_n hB d_RD_load_71 rfl rfl rfl ?_
  refine ai_const hB d_RD_load_72 ?_
  refine am_putf hB d_RD_load_73 P_RD_87_10 (am_rs (am_rs D1c)) (by simp) (am_fit.z (Or.inr rfl)) rfl ?_
  refine am_aload_n hB d_RD_load_76 rfl rfl rfl ?_
  refine am_getf hB d_RD_load_77 F_RD_41_10 (am_rs (am_rs (am_rs D1c))) rfl ?_
  refine am_getf hB d_RD_load_80 F_RD_91_4 (am_rn (by omega) (am_rn (by omega) (am_rn (by omega) m3.1))) rfl ?_
  refine am_iret hB hR d_RD_load_83 rfl rfl ?_ (Nat.zero_le _) (Nat.zero_le _)
  exact ⟨by rw [R3.2.2.2.2.1]; rfl, fin _ (((ko.set d _ (by omega) (by omega)).tr (ko.set d _ (by omega) (by omega))).tr (ko.set d _ (by omega) (by omega))) (am_rs (am_rs (am_rs D1c)))⟩
theorem t_RD_load {l : Launch} {G : am_G} {h : am_H} {d : Nat} {V : dv} {row : Int} (htr : l.stackTraces = false) (D : am_dk h d V) (e : pm_parse V.dr = .inl row) : am_T l G M_RD_load [.ref d] h eA (fun h' => am_dk h' d (dv.s_wr (dv.s_dr V ([])) (row)) ∧ ko d 422 h h') := by
  obtain ⟨ok, bM, bS, kp, ks, rl, D1, D2⟩ := D
  have hl := ok.1
  have rl' := rl
  obtain ⟨r1, r2⟩ := rl'
  obtain ⟨E1, E2, E3, E4, E5, E6, o7, E7⟩ := D2
  obtain ⟨g, x1, x2, hg, x3, -⟩ := am_txt.all E1 ok.1
  obtain ⟨gs, ss, ms, hgs⟩ := E5
  have hrow := pm_run_row _ _ _ _ _ e
  refine am_T.of (by decide) (Nat.le_of_ble_eq_true rfl) (fun X hB hR => ?_)
  show am_Z X 0 [.ref d, am_u, am_u, am_u] [] h 0 0
  refine am_aload_n hB d_RD_load_0 rfl rfl rfl ?_
  refine am_getf hB d_RD_load_1 F_RD_14_10 D1 rfl ?_
  refine am_getf hB d_RD_load_4 F_RD_54_8 x1 rfl ?_
  refine am_istore_n hB d_RD_load_7 rfl (by rw [hR.r0.nL]; decide) rfl ?_
  refine am_aload_n hB d_RD_load_8 rfl rfl rfl ?_
  refine am_getf hB d_RD_load_9 F_RD_45_10 D1 rfl ?_
  refine am_aload_n hB d_RD_load_12 rfl rfl rfl ?_
  refine am_getf hB d_RD_load_13 F_RD_14_10 D1 rfl ?_
  refine am_callV0 hB hR.r0 (as := [.ref (d + 1)]) ms.1 (m_MA_begin ms hgs x1 x2 hg ⟨by omega, by omega⟩ ⟨by omega, by omega⟩ (by omega) (by omega)) c_RD_73 rfl rfl d_RD_load_16 ⟨by decide, Nat.le_of_ble_eq_true rfl⟩ ⟨by decide, by decide⟩ rfl rfl (fun rr h1 hp => ?_)
  obtain ⟨rfl, s1, ⟨m1, f1⟩, R1⟩ := hp
  have f1 : ko bS 157 h h1 := f1.ko
  have hg1 : am_cok (am_cp g gs 0 0 V.dr.length) := hg.cp hgs
  have p1 := pm_run_parse (g := am_cp g gs 0 0 V.dr.length) (dr := V.dr) (fun j hj => by
    unfold am_cp
    rw [if_pos (by omega), show (0 : Int) + ((j : Int) - 0) = j by omega]
    exact x3 j hj)
  show am_Z X 19 [.ref d, am_n V.dr.length, am_u, am_u] [] h1 0 0
  have y1 := f1 _ _ (by omega) x1
  have D1a := f1 _ _ (by omega) D1
  have t1 : am_txt h1 (d + 1) (d + 2) 600 V.dr := E1.ag rfl (f1.ag (by omega))
  refine am_aload_n hB d_RD_load_19 rfl rfl rfl ?_
  refine am_getf hB d_RD_load_20 F_RD_14_10 D1a rfl ?_
  refine am_callV0 hB hR.r0 (as := []) y1 (m_TX_clr y1) c_RD_70 rfl rfl d_RD_load_23 ⟨by decide, Nat.le_of_ble_eq_true rfl⟩ ⟨by decide, by decide⟩ rfl rfl (fun rr h2 hp => ?_)
  obtain ⟨rfl, e2⟩ := hp
  have t2 : am_txt h2 (d + 1) (d + 2) 600 [] := by rw [e2]; exact t1.clr
  have f2 : ko (d + 1) 1 h1 h2 := by rw [e2]; exact ko.set _ _ (by omega) (by omega)
  have D1b := f2 _ _ (by omega) D1a
  have m2 := m1.ag (f2.ag (by omega))
  show am_Z X 26 [.ref d, am_n V.dr.length, am_u, am_u] [] h2 0 0
  refine am_aload_n hB d_RD_load_26 rfl rfl rfl ?_
  refine am_getf hB d_RD_load_27 F_RD_45_10 D1b rfl ?_
  refine am_iload_n hB d_RD_load_30 rfl rfl ?_
  refine am_callU0 hB hR.r0 (as := [am_n V.dr.length]) m2.1 (m_MA_firstWrongLine m2 hg1 R1 ⟨by omega, by omega⟩) c_RD_77_4 rfl rfl d_RD_load_31 ⟨by decide, Nat.le_of_ble_eq_true rfl⟩ ⟨by decide, by decide⟩ rfl rfl (fun rr h3 hp => ?_)
  rw [p1, e] at hp
  obtain ⟨rfl, s3, m3, f3⟩ := hp
  have f3 : ko bS 157 h2 h3 := f3.ko
  have D1c := f3 _ _ (by omega) D1b
  have fin : ∀ h4, ko d 1 h3 h4 → h4[d]? = some (ce_RD d bM bS kp ks (sp_i V.ld) row V.db) → am_dk h4 d (dv.s_wr (dv.s_dr V ([])) (row)) ∧ ko d 422 h h4 := by
    intro h4 f4 D1d
    have F : ∀ a n : Nat, (a + n ≤ bS ∨ bS + 157 ≤ a) → d + 2 ≤ a → agr a n h h4 := fun a n u v => (((f1.ag (by omega)).tr (f2.ag (by omega))).tr (f3.ag (by omega))).tr (f4.ag (by omega))
    refine ⟨⟨⟨Nat.zero_le _, ok.2⟩, bM, bS, kp, ks, rl, D1d, ?_⟩, ?_⟩
    · exact ⟨(t2.ag rfl (f3.ag (by omega))).ag rfl (f4.ag (by omega)), E2.ag (F _ _ (by omega) (by omega)), E3.ag (F _ _ (by omega) (by omega)), E4.ag (F _ _ (by omega) (by omega)), ⟨_, s3, m3.ag (f4.ag (by omega)), hg1⟩, E6.ag rfl (F _ _ (by omega) (by omega)), o7, E7.ag rfl (F _ _ (by omega) (by omega))⟩
    · exact (((f1.sub (by omega) (by omega)).tr (f2.sub (by omega) (by omega))).tr (f3.sub (by omega) (by omega))).tr (f4.sub (by omega) (by omega))
  show am_Z X 34 [.ref d, am_n V.dr.length, am_u, am_u] [am_n row] h3 0 0
  refine am_istore_n hB d_RD_load_34 rfl (by rw [hR.r0.nL]; decide) rfl ?_
  refine am_iload_n hB d_RD_load_35 rfl rfl ?_
  refine ai_const hB d_RD_load_36 ?_
  refine ai_jeq (tgt := 53) hB d_RD_load_37 (by decide) (fun c1 => ?_) (fun c1 => ?_)
  · omega
  refine am_aload_n hB d_RD_load_40 rfl rfl rfl ?_
  refine am_iload_n hB d_RD_load_41 rfl rfl ?_
  refine am_putf hB d_RD_load_42 P_RD_81_10 D1c (by simp) am_fit.i rfl ?_
  refine am_throw hB hR htr d_RD_load_45 d_RD_load_48 d_RD_load_49 d_RD_load_52 ⟨Or.inl rfl, by decide⟩ cl_A in_A ow_A ⟨by decide, by decide⟩ ⟨by decide, by decide⟩ ?_
  exact fin _ (ko.set d _ (by omega) (by omega)) (am_rs D1c)
/-- a desk's trace as the rewriter sees it -/
theorem m_RD_readTrace {l : Launch} {G : am_G} {h : am_H} {d bM bS kp ks : Nat} {V : dv} {T : pt_S} (ok : V.ok) (rl : dk_rl d bM bS kp ks) (D1 : dk_c h d bM bS kp ks V) (D2 : dk_r h d bM bS kp ks V) (e : pt_parse (cut V.dr) = .inr T) : am_M l G M_RD_readTrace [.ref d] h (fun r h' => r = none ∧ (dk_c h' d bM bS kp ks (dv.s_dr V ([])) ∧ dk_r h' d bM bS kp ks (dv.s_dr V ([])) ∧ am_tw h' (d + 3) (d + 2) T) ∧ ko d 422 h h') := by
  have hl := ok.1
  have hcl := cut_len V.dr
  have rl' := rl
  obtain ⟨r1, r2⟩ := rl'
  obtain ⟨E1, E2, E3, E4, E5, E6, o7, E7⟩ := D2
  obtain ⟨g, x1, x2, hg, x3, -⟩ := am_txt.all E1 ok.1
  obtain ⟨t0, mt⟩ := E2
  have mt : am_tr h (d + 3) (d + 2) g t0 := ⟨mt, x2, Or.inl (by omega)⟩
  refine am_M.of (by decide) (Nat.le_of_ble_eq_true rfl) (fun X hB hR => ?_)
  show am_Z X 0 [.ref d, am_u] [] h 0 0
  refine am_aload_n hB d_RD_readTrace_0 rfl rfl rfl ?_
  refine am_getf hB d_RD_readTrace_1 F_RD_27_10 D1 rfl ?_
  refine am_callV hB hR (as := []) mt.o (m_TR_begin mt) c_RD_174 rfl rfl d_RD_readTrace_4 ⟨by decide, Nat.le_of_ble_eq_true rfl⟩ ⟨by decide, by decide⟩ rfl rfl (fun rr h1 hp => ?_)
  obtain ⟨rfl, t1, ⟨m1, f1⟩, R1⟩ := hp
  have f1 : ko (d + 3) 96 h h1 := f1.ko
  have D1a := f1 _ _ (by omega) D1
  have y1 := f1 _ _ (by omega) x1
  have y2 := f1 _ _ (by omega) x2
  show am_Z X 7 [.ref d, am_u] [] h1 0 0
  refine am_aload_n hB d_RD_readTrace_7 rfl rfl rfl ?_
  refine am_getf hB d_RD_readTrace_8 F_RD_27_10 D1a rfl ?_
  refine am_aload_n hB d_RD_readTrace_11 rfl rfl rfl ?_
  refine am_getf hB d_RD_readTrace_12 F_RD_14_10 D1a rfl ?_
  refine am_callV hB hR (as := []) y1 (m_TX_sizeW y1 y2 hg (by omega) (by omega) (by omega)) c_RD_176 rfl rfl d_RD_readTrace_15 ⟨by decide, Nat.le_of_ble_eq_true rfl⟩ ⟨by decide, by decide⟩ rfl rfl (fun rr hh hp => ?_)
  obtain ⟨rfl, rfl⟩ := hp
  rw [cut_size x3]
  show am_Z X 18 [.ref d, am_u] [am_n (cut V.dr).length, .ref (d + 3)] h1 0 0
  refine am_callU hB hR (as := [am_n (cut V.dr).length]) m1.o (m_TR_firstWrongLine m1 hg R1 ⟨by omega, by omega⟩) c_RD_180_9 rfl rfl d_RD_readTrace_18 ⟨by decide, Nat.le_of_ble_eq_true rfl⟩ ⟨by decide, by decide⟩ rfl rfl (fun rr h2 hp => ?_)
  rw [pt_run_parse (fun j hj => (x3 j (by omega)).trans (cut_get hj).symm), e] at hp
  obtain ⟨rfl, t2, ⟨m2, f2⟩, R2⟩ := hp
  have f2 : ko (d + 3) 96 h1 h2 := f2.ko
  have D1b := f2 _ _ (by omega) D1a
  have z1 := f2 _ _ (by omega) y1
  have u2 : am_txt h2 (d + 1) (d + 2) 600 V.dr := (E1.ag rfl (f1.ag (by omega))).ag rfl (f2.ag (by omega))
  show am_Z X 21 [.ref d, am_u] [am_n (-1)] h2 0 0
  refine am_istore_n hB d_RD_readTrace_21 rfl (by rw [hR.nL]; decide) rfl ?_
  refine am_aload_n hB d_RD_readTrace_22 rfl rfl rfl ?_
  refine am_getf hB d_RD_readTrace_23 F_RD_14_10 D1b rfl ?_
  refine am_callV hB hR (as := []) z1 (m_TX_clr z1) c_RD_70 rfl rfl d_RD_readTrace_26 ⟨by decide, Nat.le_of_ble_eq_true rfl⟩ ⟨by decide, by decide⟩ rfl rfl (fun rr h3 hp => ?_)
  obtain ⟨rfl, e3⟩ := hp
  have u3 : am_txt h3 (d + 1) (d + 2) 600 [] := by rw [e3]; exact u2.clr
  have f3 : ko (d + 1) 1 h2 h3 := by rw [e3]; exact ko.set _ _ (by omega) (by omega)
  show am_Z X 29 [.ref d, am_n (-1)] [] h3 0 0
  refine am_iload_n hB d_RD_readTrace_29 rfl rfl ?_
  refine ai_const hB d_RD_readTrace_30 ?_
  refine ai_jeq (tgt := 47) hB d_RD_readTrace_31 (by decide) (fun c1 => ?_) (fun c1 => ?_)
  rotate_left
  · omega
  refine am_vret hB hR d_RD_readTrace_47 rfl ?_ (Nat.zero_le _) (Nat.zero_le _)
  have F : ∀ a n : Nat, d + 99 ≤ a → agr a n h h3 := fun a n u => ((f1.ag (by omega)).tr (f2.ag (by omega))).tr (f3.ag (by omega))
  have m3 : am_tr h3 (d + 3) (d + 2) g t2 := ⟨fun q hq => f3 _ _ (by omega) (m2.1 q hq), f3 _ _ (by omega) m2.2.1, m2.2.2⟩
  refine ⟨rfl, ⟨f3 _ _ (by omega) D1b, ⟨u3, ⟨t2, m3.1⟩, E3.ag (F _ _ (by omega)), E4.ag (F _ _ (by omega)), E5.ag (F _ _ (by omega)), E6.ag rfl (F _ _ (by omega)), o7, E7.ag rfl (F _ _ (by omega))⟩, ⟨g, t2, m3, hg, R2⟩⟩, ?_⟩
  exact ((f1.sub (by omega) (by omega)).tr (f2.sub (by omega) (by omega))).tr (f3.sub (by omega) (by omega))
theorem t_RD_readTrace {l : Launch} {G : am_G} {h : am_H} {d bM bS kp ks : Nat} {V : dv} {row : Int} (htr : l.stackTraces = false) (ok : V.ok) (rl : dk_rl d bM bS kp ks) (D1 : dk_c h d bM bS kp ks V) (D2 : dk_r h d bM bS kp ks V) (e : pt_parse (cut V.dr) = .inl row) : am_T l G M_RD_readTrace [.ref d] h eA (fun h' => am_dk h' d (dv.s_wr (dv.s_dr V ([])) (row)) ∧ ko d 422 h h') := by
  have hl := ok.1
  have hcl := cut_len V.dr
  have hrow := pm_run_row _ _ _ _ _ e
  have rl' := rl
  obtain ⟨r1, r2⟩ := rl'
  obtain ⟨E1, E2, E3, E4, E5, E6, o7, E7⟩ := D2
  obtain ⟨g, x1, x2, hg, x3, -⟩ := am_txt.all E1 ok.1
  obtain ⟨t0, mt⟩ := E2
  have mt : am_tr h (d + 3) (d + 2) g t0 := ⟨mt, x2, Or.inl (by omega)⟩
  refine am_T.of (by decide) (Nat.le_of_ble_eq_true rfl) (fun X hB hR => ?_)
  show am_Z X 0 [.ref d, am_u] [] h 0 0
  refine am_aload_n hB d_RD_readTrace_0 rfl rfl rfl ?_
  refine am_getf hB d_RD_readTrace_1 F_RD_27_10 D1 rfl ?_
  refine am_callV0 hB hR.r0 (as := []) mt.o (m_TR_begin mt) c_RD_174 rfl rfl d_RD_readTrace_4 ⟨by decide, Nat.le_of_ble_eq_true rfl⟩ ⟨by decide, by decide⟩ rfl rfl (fun rr h1 hp => ?_)
  obtain ⟨rfl, t1, ⟨m1, f1⟩, R1⟩ := hp
  have f1 : ko (d + 3) 96 h h1 := f1.ko
  have D1a := f1 _ _ (by omega) D1
  have y1 := f1 _ _ (by omega) x1
  have y2 := f1 _ _ (by omega) x2
  show am_Z X 7 [.ref d, am_u] [] h1 0 0
  refine am_aload_n hB d_RD_readTrace_7 rfl rfl rfl ?_
  refine am_getf hB d_RD_readTrace_8 F_RD_27_10 D1a rfl ?_
  refine am_aload_n hB d_RD_readTrace_11 rfl rfl rfl ?_
  refine am_getf hB d_RD_readTrace_12 F_RD_14_10 D1a rfl ?_
  refine am_callV0 hB hR.r0 (as := []) y1 (m_TX_sizeW y1 y2 hg (by omega) (by omega) (by omega)) c_RD_176 rfl rfl d_RD_readTrace_15 ⟨by decide, Nat.le_of_ble_eq_true rfl⟩ ⟨by decide, by decide⟩ rfl rfl (fun rr hh hp => ?_)
  obtain ⟨rfl, rfl⟩ := hp
  rw [cut_size x3]
  show am_Z X 18 [.ref d, am_u] [am_n (cut V.dr).length, .ref (d + 3)] h1 0 0
  refine am_callU0 hB hR.r0 (as := [am_n (cut V.dr).length]) m1.o (m_TR_firstWrongLine m1 hg R1 ⟨by omega, by omega⟩) c_RD_180_9 rfl rfl d_RD_readTrace_18 ⟨by decide, Nat.le_of_ble_eq_true rfl⟩ ⟨by decide, by decide⟩ rfl rfl (fun rr h2 hp => ?_)
  rw [pt_run_parse (fun j hj => (x3 j (by omega)).trans (cut_get hj).symm), e] at hp
  obtain ⟨rfl, t2, m2, f2⟩ := hp
  have f2 : ko (d + 3) 96 h1 h2 := f2.ko
  have D1b := f2 _ _ (by omega) D1a
  have z1 := f2 _ _ (by omega) y1
  have u2 : am_txt h2 (d + 1) (d + 2) 600 V.dr := (E1.ag rfl (f1.ag (by omega))).ag rfl (f2.ag (by omega))
  show am_Z X 21 [.ref d, am_u] [am_n row] h2 0 0
  refine am_istore_n hB d_RD_readTrace_21 rfl (by rw [hR.r0.nL]; decide) rfl ?_
  refine am_aload_n hB d_RD_readTrace_22 rfl rfl rfl ?_
  refine am_getf hB d_RD_readTrace_23 F_RD_14_10 D1b rfl ?_
  refine am_callV0 hB hR.r0 (as := []) z1 (m_TX_clr z1) c_RD_70 rfl rfl d_RD_readTrace_26 ⟨by decide, Nat.le_of_ble_eq_true rfl⟩ ⟨by decide, by decide⟩ rfl rfl (fun rr h3 hp => ?_)
  obtain ⟨rfl, e3⟩ := hp
  have u3 : am_txt h3 (d + 1) (d + 2) 600 [] := by rw [e3]; exact u2.clr
  have f3 : ko (d + 1) 1 h2 h3 := by rw [e3]; exact ko.set _ _ (by omega) (by omega)
  have D1c := f3 _ _ (by omega) D1b
  have fin : ∀ h4, ko d 1 h3 h4 → h4[d]? = some (ce_RD d bM bS kp ks (sp_i V.ld) row V.db) → am_dk h4 d (dv.s_wr (dv.s_dr V ([])) (row)) ∧ ko d 422 h h4 := by
    intro h4 f4 D1d
    have F : ∀ a n : Nat, d + 99 ≤ a → agr a n h h4 := fun a n u => (((f1.ag (by omega)).tr (f2.ag (by omega))).tr (f3.ag (by omega))).tr (f4.ag (by omega))
    refine ⟨⟨⟨Nat.zero_le _, ok.2⟩, bM, bS, kp, ks, rl, D1d, ⟨u3.ag rfl (f4.ag (by omega)), ⟨t2, fun q hq => f4 _ _ (by omega) (f3 _ _ (by omega) (m2.1 q hq))⟩, E3.ag (F _ _ (by omega)), E4.ag (F _ _ (by omega)), E5.ag (F _ _ (by omega)), E6.ag rfl (F _ _ (by omega)), o7, E7.ag rfl (F _ _ (by omega))⟩⟩, ?_⟩
    exact (((f1.sub (by omega) (by omega)).tr (f2.sub (by omega) (by omega))).tr (f3.sub (by omega) (by omega))).tr (f4.sub (by omega) (by omega))
  show am_Z X 29 [.ref d, am_n row] [] h3 0 0
  refine am_iload_n hB d_RD_readTrace_29 rfl rfl ?_
  refine ai_const hB d_RD_readTrace_30 ?_
  refine ai_jeq (tgt := 47) hB d_RD_readTrace_31 (by decide) (fun c1 => ?_) (fun c1 => ?_)
  · omega
  refine am_aload_n hB d_RD_readTrace_34 rfl rfl rfl ?_
  refine am_iload_n hB d_RD_readTrace_35 rfl rfl ?_
  refine am_putf hB d_RD_readTrace_36 P_RD_81_10 D1c (by simp) am_fit.i rfl ?_
  refine am_throw hB hR htr d_RD_readTrace_39 d_RD_readTrace_42 d_RD_readTrace_43 d_RD_readTrace_46 ⟨Or.inl rfl, by decide⟩ cl_A in_A ow_A ⟨by decide, by decide⟩ ⟨by decide, by decide⟩ ?_
  exact fin _ (ko.set d _ (by omega) (by omega)) (am_rs D1c)
