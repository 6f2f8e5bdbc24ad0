/-! the desk's short methods -/
def cds (x : Int64) : Nat → List Int
  | 0 => []
  | n + 1 => cd x n :: cds x n
theorem cds_len (x : Int64) : ∀ n : Nat, (cds x n).length = n
  | 0 => rfl
  | n + 1 => by rw [cds, List.length_cons, cds_len x n]
def dv_put (V : dv) (n : Int) (x : Int64) : Bool := decide (1 ≤ n ∧ n ≤ 8 ∧ V.dr.length + n ≤ 600) && (cds x n.toNat).all dc_ok
theorem m_RD_put {l : Launch} {G : am_G} {h : am_H} {d : Nat} {V : dv} {n : Int} {x : Int64} (D : am_dk h d V) (hn : -2147483648 ≤ n ∧ n < 2147483648) : am_M l G M_RD_put [.ref d, am_n n, .long x] h (fun r h' => r = some (am_n (sp_i (dv_put V n x))) ∧ am_dk h' d (if dv_put V n x = true then (dv.s_dr V (V.dr ++ cds x n.toNat)) else V) ∧ ko d 422 h h') := by
  have DD := D
  obtain ⟨ok, bM, bS, kp, ks, rl, D1, D2⟩ := D
  have hl := ok.1
  obtain ⟨g, x1, x2, hg, -, -⟩ := am_txt.all D2.1 ok.1
  refine am_M.of (by decide) (Nat.le_of_ble_eq_true rfl) (fun X hB hR => ?_)
  show am_Z X 0 [.ref d, am_n n, .long x, am_u, am_u] [] h 0 0
  have no : ¬ (1 ≤ n ∧ n ≤ 8 ∧ V.dr.length + n ≤ 600) → am_Z X 26 [.ref d, am_n n, .long x, am_u, am_u] [] h 0 0 := by
    intro hz
    have e : dv_put V n x = false := by
      unfold dv_put
      rw [decide_eq_false hz]
      rfl
    refine ai_const hB d_RD_put_26 ?_
    refine am_iret hB hR d_RD_put_27 rfl (by decide) ?_ (Nat.zero_le _) (Nat.zero_le _)
    rw [e]
    exact ⟨rfl, DD, ko.rf⟩
  refine am_iload_n hB d_RD_put_0 rfl rfl ?_
  refine ai_const hB d_RD_put_1 ?_
  refine ai_jlt (tgt := 26) hB d_RD_put_2 (by decide) (fun c1 => ?_) (fun c1 => ?_)
  · exact no (by omega)
  refine am_iload_n hB d_RD_put_5 rfl rfl ?_
  refine ai_bipush hB d_RD_put_6 (by decide) ?_
  refine ai_jgt (tgt := 26) hB d_RD_put_8 (by decide) (fun c2 => ?_) (fun c2 => ?_)
  · exact no (by omega)
  refine am_aload_n hB d_RD_put_11 rfl rfl rfl ?_
  refine am_getf hB d_RD_put_12 F_RD_14_10 D1 rfl ?_
  refine am_getf hB d_RD_put_15 F_RD_54_8 x1 rfl ?_
  refine am_iload_n hB d_RD_put_18 rfl rfl ?_
  refine ai_add hB d_RD_put_19 ?_
  refine ai_sipush hB d_RD_put_20 (by decide) ?_
  refine ai_jle (tgt := 28) hB d_RD_put_23 (by decide) (fun c3 => ?_) (fun c3 => ?_)
  rotate_left
  · exact no (by omega)
  have yes : decide (1 ≤ n ∧ n ≤ 8 ∧ V.dr.length + n ≤ 600) = true := decide_eq_true ⟨by omega, by omega, by omega⟩
  have add : (cds x n.toNat).all dc_ok = true → ∀ (m : Nat) (i : Int) (xs : List Int) (h1 : am_H), i = (m : Int) - 1 → (m : Int) ≤ n → V.dr ++ cds x n.toNat = xs ++ cds x m → am_txt h1 (d + 1) (d + 2) 600 xs → am_fr [d + 1, d + 2] h h1 → am_Z X 63 [.ref d, am_n n, .long x, am_u, am_n i] [] h1 0 0 := by
    intro al m
    induction m with
    | zero =>
      intro i xs h1 hi hm hs a1 f1
      refine am_iload hB d_RD_put_63 rfl ?_
      refine ai_zlt (tgt := 87) hB d_RD_put_65 (by decide) (fun c4 => ?_) (fun c4 => ?_)
      · refine ai_const hB d_RD_put_87 ?_
        refine am_iret hB hR d_RD_put_88 rfl (by decide) ?_ (Nat.zero_le _) (Nat.zero_le _)
        have e : dv_put V n x = true := by
          unfold dv_put
          rw [yes, al]
          rfl
        have f2 : ko (d + 1) 2 h h1 := f1.ko (by intro q hq; simp only [List.mem_cons, List.not_mem_nil, or_false] at hq; omega)
        rw [e, if_pos rfl, hs]
        simp only [cds, List.append_nil] at hs ⊢
        refine ⟨rfl, ⟨⟨?_, ok.2⟩, bM, bS, kp, ks, rl, f2 _ _ (by omega) D1, D2.dr rl a1 (f2.ag (by omega))⟩, f2.sub (by omega) (by omega)⟩
        show xs.length ≤ 600
        rw [← hs, List.length_append, cds_len]
        omega
      · omega
    | succ m ih =>
      intro i xs h1 hi hm hs a1 f1
      have hi' : i = (m : Int) := by omega
      subst hi'
      obtain ⟨g', s', o', y1, -⟩ := id a1
      have c0 := cd_in x m
      refine am_iload hB d_RD_put_63 rfl ?_
      refine ai_zlt (tgt := 87) hB d_RD_put_65 (by decide) (fun c4 => ?_) (fun c4 => ?_)
      · omega
      refine am_aload_n hB d_RD_put_68 rfl rfl rfl ?_
      refine am_getf hB d_RD_put_69 F_RD_14_10 (f1.get (by simp) D1) rfl ?_
      refine am_lload_n hB d_RD_put_72 rfl rfl ?_
      refine am_iload hB d_RD_put_73 rfl ?_
      refine am_callS hB hR (as := [.long x, am_n m]) (m_RD_codeIn h1) c_RD_58 rfl rfl d_RD_put_75 ⟨by decide, Nat.le_of_ble_eq_true rfl⟩ ⟨by decide, by decide⟩ rfl rfl (fun rr hh hp => ?_)
      obtain ⟨rfl, rfl⟩ := hp
      show am_Z X 78 [.ref d, am_n n, .long x, am_u, am_n m] [am_n (cd x m), .ref (d + 1)] h1 0 0
      refine am_callV hB hR (as := [am_n (cd x m)]) y1 (m_TX_add a1 c0.1 (by omega)) c_RD_66 rfl rfl d_RD_put_78 ⟨by decide, Nat.le_of_ble_eq_true rfl⟩ ⟨by decide, by decide⟩ rfl rfl (fun rr hh hp => ?_)
      obtain ⟨rfl, a2, f2⟩ := hp
      show am_Z X 81 [.ref d, am_n n, .long x, am_u, am_n m] [] hh 0 0
      refine ai_inc hB d_RD_put_81 rfl (by rw [hR.nL]; decide) rfl ?_
      exact am_goto (tgt := 63) hB d_RD_put_84 (by decide) (ih ((m : Int) + -1) (xs ++ [cd x m]) hh (by omega) (by omega) (by rw [hs, cds]; simp) a2 (f1.tr f2))
  have chk : ∀ (m : Nat) (i : Int), i = (m : Int) - 1 → (m : Int) ≤ n → (cds x n.toNat).all dc_ok = (cds x m).all dc_ok → am_Z X 33 [.ref d, am_n n, .long x, am_u, am_n i] [] h 0 0 := by
    intro m
    induction m with
    | zero =>
      intro i hi hm hs
      refine am_iload hB d_RD_put_33 rfl ?_
      refine ai_zlt (tgt := 58) hB d_RD_put_35 (by decide) (fun c4 => ?_) (fun c4 => ?_)
      · refine am_iload_n hB d_RD_put_58 rfl rfl ?_
        refine ai_const hB d_RD_put_59 ?_
        refine ai_sub hB d_RD_put_60 ?_
        refine am_istore hB d_RD_put_61 (by rw [hR.nL]; decide) rfl ?_
        exact add hs n.toNat (n - 1) V.dr h (by omega) (by omega) rfl D2.1 am_fr.rf
      · omega
    | succ m ih =>
      intro i hi hm hs
      have hi' : i = (m : Int) := by omega
      subst hi'
      have c0 := cd_in x m
      refine am_iload hB d_RD_put_33 rfl ?_
      refine ai_zlt (tgt := 58) hB d_RD_put_35 (by decide) (fun c4 => ?_) (fun c4 => ?_)
      · omega
      refine am_lload_n hB d_RD_put_38 rfl rfl ?_
      refine am_iload hB d_RD_put_39 rfl ?_
      refine am_callS hB hR (as := [.long x, am_n m]) (m_RD_codeIn h) c_RD_58 rfl rfl d_RD_put_41 ⟨by decide, Nat.le_of_ble_eq_true rfl⟩ ⟨by decide, by decide⟩ rfl rfl (fun rr hh hp => ?_)
      obtain ⟨rfl, rfl⟩ := hp
      show am_Z X 44 [.ref d, am_n n, .long x, am_u, am_n m] [am_n (cd x m)] h 0 0
      refine am_callS hB hR (as := [am_n (cd x m)]) (m_RD_isDraftCode c0.1 (by omega) h) c_RD_62 rfl rfl d_RD_put_44 ⟨by decide, Nat.le_of_ble_eq_true rfl⟩ ⟨by decide, by decide⟩ rfl rfl (fun rr hh hp => ?_)
      obtain ⟨rfl, rfl⟩ := hp
      show am_Z X 47 [.ref d, am_n n, .long x, am_u, am_n m] [am_n (sp_i (dc_ok (cd x m)))] h 0 0
      cases q : dc_ok (cd x m) with
      | true =>
        show am_Z X 47 [.ref d, am_n n, .long x, am_u, am_n m] [am_n 1] h 0 0
        refine ai_zne (tgt := 52) hB d_RD_put_47 (by decide) (fun c5 => ?_) (fun c5 => ?_)
        · refine ai_inc hB d_RD_put_52 rfl (by rw [hR.nL]; decide) rfl ?_
          exact am_goto (tgt := 33) hB d_RD_put_55 (by decide) (ih ((m : Int) + -1) (by omega) (by omega) (by rw [hs, cds, List.all_cons, q]; rfl))
        · omega
      | false =>
        show am_Z X 47 [.ref d, am_n n, .long x, am_u, am_n m] [am_n 0] h 0 0
        refine ai_zne (tgt := 52) hB d_RD_put_47 (by decide) (fun c5 => ?_) (fun c5 => ?_)
        · omega
        refine ai_const hB d_RD_put_50 ?_
        refine am_iret hB hR d_RD_put_51 rfl (by decide) ?_ (Nat.zero_le _) (Nat.zero_le _)
        have e : dv_put V n x = false := by
          unfold dv_put
          rw [yes, hs, cds, List.all_cons, q]
          rfl
        rw [e]
        exact ⟨rfl, DD, ko.rf⟩
  refine am_iload_n hB d_RD_put_28 rfl rfl ?_
  refine ai_const hB d_RD_put_29 ?_
  refine ai_sub hB d_RD_put_30 ?_
  refine am_istore hB d_RD_put_31 (by rw [hR.nL]; decide) rfl ?_
  exact chk n.toNat (n - 1) (by omega) (by omega) rfl
theorem m_RD_wrong {l : Launch} {G : am_G} {h : am_H} {d : Nat} {V : dv} (D : am_dk h d V) : am_M l G M_RD_wrong [.ref d] h (am_is (am_n V.wr) h) := by
  obtain ⟨ok, bM, bS, kp, ks, rl, D1, D2⟩ := D
  refine am_M.of (by decide) (Nat.le_of_ble_eq_true rfl) (fun X hB hR => ?_)
  show am_Z X 0 [.ref d] [] h 0 0
  refine am_aload_n hB d_RD_wrong_0 rfl rfl rfl ?_
  refine am_getf hB d_RD_wrong_1 F_RD_81_10 D1 rfl ?_
  refine am_iret hB hR d_RD_wrong_4 rfl rfl ?_ (Nat.zero_le _) (Nat.zero_le _)
  exact ⟨rfl, rfl⟩
theorem m_RD_length {l : Launch} {G : am_G} {h : am_H} {d : Nat} {V : dv} (D : am_dk h d V) : am_M l G M_RD_length [.ref d] h (am_is (am_n V.pr.length) h) := by
  obtain ⟨ok, bM, bS, kp, ks, rl, D1, D2⟩ := D
  obtain ⟨g, x1, x2, hg, -, -⟩ := am_txt.all D2.2.2.2.2.2.1 ok.2.1
  refine am_M.of (by decide) (Nat.le_of_ble_eq_true rfl) (fun X hB hR => ?_)
  show am_Z X 0 [.ref d] [] h 0 0
  refine am_aload_n hB d_RD_length_0 rfl rfl rfl ?_
  refine am_getf hB d_RD_length_1 F_RD_48_10 D1 rfl ?_
  refine am_getf hB d_RD_length_4 F_RD_54_8 x1 rfl ?_
  refine am_iret hB hR d_RD_length_7 rfl rfl ?_ (Nat.zero_le _) (Nat.zero_le _)
  exact ⟨rfl, rfl⟩
theorem m_RD_doubtful {l : Launch} {G : am_G} {h : am_H} {d : Nat} {V : dv} (D : am_dk h d V) : am_M l G M_RD_doubtful [.ref d] h (am_is (am_n V.db) h) := by
  obtain ⟨ok, bM, bS, kp, ks, rl, D1, D2⟩ := D
  refine am_M.of (by decide) (Nat.le_of_ble_eq_true rfl) (fun X hB hR => ?_)
  show am_Z X 0 [.ref d] [] h 0 0
  refine am_aload_n hB d_RD_doubtful_0 rfl rfl rfl ?_
  refine am_getf hB d_RD_doubtful_1 F_RD_140_10 D1 rfl ?_
  refine am_iret hB hR d_RD_doubtful_4 rfl rfl ?_ (Nat.zero_le _) (Nat.zero_le _)
  exact ⟨rfl, rfl⟩
theorem m_RD_crashes {l : Launch} {G : am_G} {h : am_H} {d : Nat} {V : dv} (D : am_dk h d V) : am_M l G M_RD_crashes [.ref d] h (am_is (am_n V.n) h) := by
  obtain ⟨ok, bM, bS, kp, ks, rl, D1, D2⟩ := D
  have b := D2.2.2.1
  refine am_M.of (by decide) (Nat.le_of_ble_eq_true rfl) (fun X hB hR => ?_)
  show am_Z X 0 [.ref d] [] h 0 0
  refine am_aload_n hB d_RD_crashes_0 rfl rfl rfl ?_
  refine am_getf hB d_RD_crashes_1 F_RD_34_10 D1 rfl ?_
  refine am_getf hB d_RD_crashes_4 F_RD_156_1 b.1 rfl ?_
  refine am_iret hB hR d_RD_crashes_7 rfl rfl ?_ (Nat.zero_le _) (Nat.zero_le _)
  exact ⟨rfl, rfl⟩
theorem m_RD_at {l : Launch} {G : am_G} {h : am_H} {d : Nat} {V : dv} {i : Int} (D : am_dk h d V) (hi : 0 ≤ i ∧ i < V.pr.length) : am_M l G M_RD_at [.ref d, am_n i] h (am_is (am_n (V.pr.getD i.toNat 0)) h) := by
  obtain ⟨ok, bM, bS, kp, ks, rl, D1, D2⟩ := D
  have hl := ok.2.1
  obtain ⟨g, x1, x2, hg, x3, -⟩ := am_txt.all D2.2.2.2.2.2.1 ok.2.1
  refine am_M.of (by decide) (Nat.le_of_ble_eq_true rfl) (fun X hB hR => ?_)
  show am_Z X 0 [.ref d, am_n i] [] h 0 0
  refine am_iload_n hB d_RD_at_0 rfl rfl ?_
  refine ai_zlt (tgt := 15) hB d_RD_at_1 (by decide) (fun c1 => ?_) (fun c1 => ?_)
  · omega
  refine am_iload_n hB d_RD_at_4 rfl rfl ?_
  refine am_aload_n hB d_RD_at_5 rfl rfl rfl ?_
  refine am_getf hB d_RD_at_6 F_RD_48_10 D1 rfl ?_
  refine am_getf hB d_RD_at_9 F_RD_54_8 x1 rfl ?_
  refine ai_jlt (tgt := 23) hB d_RD_at_12 (by decide) (fun c2 => ?_) (fun c2 => ?_)
  · refine am_aload_n hB d_RD_at_23 rfl rfl rfl ?_
    refine am_getf hB d_RD_at_24 F_RD_48_10 D1 rfl ?_
    refine am_getf hB d_RD_at_27 F_RD_20_8 x1 rfl ?_
    refine am_iload_n hB d_RD_at_30 rfl rfl ?_
    refine ai_cald hB d_RD_at_31 ty_0 x2 ?_
    refine am_iret hB hR d_RD_at_32 rfl rfl ?_ (Nat.zero_le _) (Nat.zero_le _)
    have e := x3 i.toNat (by omega)
    rw [show ((i.toNat : Nat) : Int) = i by omega] at e
    rw [e]
    exact ⟨rfl, rfl⟩
  · omega
theorem t_RD_at {l : Launch} {G : am_G} {h : am_H} {d : Nat} {V : dv} {i : Int} (htr : l.stackTraces = false) (D : am_dk h d V) (h0 : -2147483648 ≤ i ∧ i < 2147483648) (hi : ¬ (0 ≤ i ∧ i < V.pr.length)) : am_T l G M_RD_at [.ref d, am_n i] h eI (fun h' => h' = h) := by
  obtain ⟨ok, bM, bS, kp, ks, rl, D1, D2⟩ := D
  have hl := ok.2.1
  obtain ⟨g, x1, x2, hg, x3, -⟩ := am_txt.all D2.2.2.2.2.2.1 ok.2.1
  refine am_T.of (by decide) (Nat.le_of_ble_eq_true rfl) (fun X hB hR => ?_)
  show am_Z X 0 [.ref d, am_n i] [] h 0 0
  have no : am_Z X 15 [.ref d, am_n i] [] h 0 0 := by
    refine am_throw hB hR htr d_RD_at_15 d_RD_at_18 d_RD_at_19 d_RD_at_22 ⟨Or.inr (Or.inr (Or.inl rfl)), by decide⟩ cl_I in_I ow_I ⟨by decide, by decide⟩ ⟨by decide, by decide⟩ ?_
    rfl
  refine am_iload_n hB d_RD_at_0 rfl rfl ?_
  refine ai_zlt (tgt := 15) hB d_RD_at_1 (by decide) (fun c1 => ?_) (fun c1 => ?_)
  · exact no
  refine am_iload_n hB d_RD_at_4 rfl rfl ?_
  refine am_aload_n hB d_RD_at_5 rfl rfl rfl ?_
  refine am_getf hB d_RD_at_6 F_RD_48_10 D1 rfl ?_
  refine am_getf hB d_RD_at_9 F_RD_54_8 x1 rfl ?_
  refine ai_jlt (tgt := 23) hB d_RD_at_12 (by decide) (fun c2 => ?_) (fun c2 => ?_)
  · omega
  · exact no
/-- how many groups stand for a class line -/
def dv_grp (V : dv) (i : Int) : Int := ((V.S.2.filter (fun x => x.2.2.2 && decide (x.2.2.1 = i.toNat))).length : Nat)
theorem m_RD_groups {l : Launch} {G : am_G} {h : am_H} {d : Nat} {V : dv} {i : Int} (D : am_dk h d V) (hi : 0 ≤ i ∧ i < V.S.1.length) : am_M l G M_RD_groups [.ref d, am_n i] h (am_is (am_n (dv_grp V i)) h) := by
  obtain ⟨ok, bM, bS, kp, ks, rl, D1, D2⟩ := D
  obtain ⟨g, s, m, hg, e2, R⟩ := D2.2.2.2.1
  have hld : V.ld = true := by
    cases q : V.ld with
    | true => rfl
    | false =>
      have e := ok.2.2.2.2.1 q
      rw [e] at hi
      simp at hi
      omega
  have R := R hld
  have h8 := R.2.1
  have hc := m.2.2.2.2.2.1 i.toNat (by omega)
  have hrc := R.2.2.2.2.2.1 i.toNat _ (List.getElem?_eq_getElem (show i.toNat < V.S.1.length by omega))
  refine am_M.of (by decide) (Nat.le_of_ble_eq_true rfl) (fun X hB hR => ?_)
  show am_Z X 0 [.ref d, am_n i] [] h 0 0
  refine am_iload_n hB d_RD_groups_0 rfl rfl ?_
  refine ai_zlt (tgt := 15) hB d_RD_groups_1 (by decide) (fun c1 => ?_) (fun c1 => ?_)
  · omega
  refine am_iload_n hB d_RD_groups_4 rfl rfl ?_
  refine am_aload_n hB d_RD_groups_5 rfl rfl rfl ?_
  refine am_getf hB d_RD_groups_6 F_RD_41_10 D1 rfl ?_
  refine am_getf hB d_RD_groups_9 F_RD_143_4 m.1 rfl ?_
  rw [e2]
  refine ai_jlt (tgt := 23) hB d_RD_groups_12 (by decide) (fun c2 => ?_) (fun c2 => ?_)
  · refine am_aload_n hB d_RD_groups_23 rfl rfl rfl ?_
    refine am_getf hB d_RD_groups_24 F_RD_41_10 D1 rfl ?_
    refine am_getf hB d_RD_groups_27 F_RD_149_4 m.1 rfl ?_
    refine am_iload_n hB d_RD_groups_30 rfl rfl ?_
    refine ai_aald hB d_RD_groups_31 ty_3 m.2.2.2.1 (z := bM + 4 + 3 * i.toNat) (if_pos (by omega)) ?_
    refine am_getf hB d_RD_groups_32 F_RD_153_0 hc.1 rfl ?_
    refine am_iret hB hR d_RD_groups_35 rfl rfl ?_ (Nat.zero_le _) (Nat.zero_le _)
    rw [hrc.2.2.2.2.2.2.1]
    exact ⟨rfl, rfl⟩
  · omega
theorem t_RD_groups {l : Launch} {G : am_G} {h : am_H} {d : Nat} {V : dv} {i : Int} (htr : l.stackTraces = false) (D : am_dk h d V) (h0 : -2147483648 ≤ i ∧ i < 2147483648) (hi : ¬ (0 ≤ i ∧ i < V.S.1.length)) (h8 : V.S.1.length ≤ 8) : am_T l G M_RD_groups [.ref d, am_n i] h eN (fun h' => h' = h) := by
  obtain ⟨ok, bM, bS, kp, ks, rl, D1, D2⟩ := D
  obtain ⟨g, s, m, hg, e2, R⟩ := D2.2.2.2.1
  refine am_T.of (by decide) (Nat.le_of_ble_eq_true rfl) (fun X hB hR => ?_)
  show am_Z X 0 [.ref d, am_n i] [] h 0 0
  have no : am_Z X 15 [.ref d, am_n i] [] h 0 0 := by
    refine am_throw hB hR htr d_RD_groups_15 d_RD_groups_18 d_RD_groups_19 d_RD_groups_22 ⟨Or.inr (Or.inr (Or.inr rfl)), by decide⟩ cl_N in_N ow_N ⟨by decide, by decide⟩ ⟨by decide, by decide⟩ ?_
    rfl
  refine am_iload_n hB d_RD_groups_0 rfl rfl ?_
  refine ai_zlt (tgt := 15) hB d_RD_groups_1 (by decide) (fun c1 => ?_) (fun c1 => ?_)
  · exact no
  refine am_iload_n hB d_RD_groups_4 rfl rfl ?_
  refine am_aload_n hB d_RD_groups_5 rfl rfl rfl ?_
  refine am_getf hB d_RD_groups_6 F_RD_41_10 D1 rfl ?_
  refine am_getf hB d_RD_groups_9 F_RD_143_4 m.1 rfl ?_
  rw [e2]
  refine ai_jlt (tgt := 23) hB d_RD_groups_12 (by decide) (fun c2 => ?_) (fun c2 => ?_)
  · omega
  · exact no
theorem m_RD_refuseUnknownCrash {l : Launch} {G : am_G} {h : am_H} {d : Nat} {V : dv} {i : Int} (D : am_dk h d V) (hi : 0 ≤ i ∧ i < V.n) : am_M l G M_RD_refuseUnknownCrash [.ref d, am_n i] h (am_ok h) := by
  obtain ⟨ok, bM, bS, kp, ks, rl, D1, D2⟩ := D
  have hn := ok.2.2.1
  have b := D2.2.2.1
  refine am_M.of (by decide) (Nat.le_of_ble_eq_true rfl) (fun X hB hR => ?_)
  show am_Z X 0 [.ref d, am_n i] [] h 0 0
  refine am_iload_n hB d_RD_refuseUnknownCrash_0 rfl rfl ?_
  refine ai_zlt (tgt := 15) hB d_RD_refuseUnknownCrash_1 (by decide) (fun c1 => ?_) (fun c1 => ?_)
  · omega
  refine am_iload_n hB d_RD_refuseUnknownCrash_4 rfl rfl ?_
  refine am_aload_n hB d_RD_refuseUnknownCrash_5 rfl rfl rfl ?_
  refine am_getf hB d_RD_refuseUnknownCrash_6 F_RD_34_10 D1 rfl ?_
  refine am_getf hB d_RD_refuseUnknownCrash_9 F_RD_156_1 b.1 rfl ?_
  refine ai_jlt (tgt := 23) hB d_RD_refuseUnknownCrash_12 (by decide) (fun c2 => ?_) (fun c2 => ?_)
  · refine am_vret hB hR d_RD_refuseUnknownCrash_23 rfl ?_ (Nat.zero_le _) (Nat.zero_le _)
    exact ⟨rfl, rfl⟩
  · omega
theorem t_RD_refuseUnknownCrash {l : Launch} {G : am_G} {h : am_H} {d : Nat} {V : dv} {i : Int} (htr : l.stackTraces = false) (D : am_dk h d V) (h0 : -2147483648 ≤ i ∧ i < 2147483648) (hi : ¬ (0 ≤ i ∧ i < V.n)) : am_T l G M_RD_refuseUnknownCrash [.ref d, am_n i] h eN (fun h' => h' = h) := by
  obtain ⟨ok, bM, bS, kp, ks, rl, D1, D2⟩ := D
  have hn := ok.2.2.1
  have b := D2.2.2.1
  refine am_T.of (by decide) (Nat.le_of_ble_eq_true rfl) (fun X hB hR => ?_)
  show am_Z X 0 [.ref d, am_n i] [] h 0 0
  have no : am_Z X 15 [.ref d, am_n i] [] h 0 0 := by
    refine am_throw hB hR htr d_RD_refuseUnknownCrash_15 d_RD_refuseUnknownCrash_18 d_RD_refuseUnknownCrash_19 d_RD_refuseUnknownCrash_22 ⟨Or.inr (Or.inr (Or.inr rfl)), by decide⟩ cl_N in_N ow_N ⟨by decide, by decide⟩ ⟨by decide, by decide⟩ ?_
    rfl
  refine am_iload_n hB d_RD_refuseUnknownCrash_0 rfl rfl ?_
  refine ai_zlt (tgt := 15) hB d_RD_refuseUnknownCrash_1 (by decide) (fun c1 => ?_) (fun c1 => ?_)
  · exact no
  refine am_iload_n hB d_RD_refuseUnknownCrash_4 rfl rfl ?_
  refine am_aload_n hB d_RD_refuseUnknownCrash_5 rfl rfl rfl ?_
  refine am_getf hB d_RD_refuseUnknownCrash_6 F_RD_34_10 D1 rfl ?_
  refine am_getf hB d_RD_refuseUnknownCrash_9 F_RD_156_1 b.1 rfl ?_
  refine ai_jlt (tgt := 23) hB d_RD_refuseUnknownCrash_12 (by decide) (fun c2 => ?_) (fun c2 => ?_)
  · omega
  · exact no
theorem m_RD_key {l : Launch} {G : am_G} {h : am_H} {d : Nat} {V : dv} {i : Int} (D : am_dk h d V) (hi : 0 ≤ i ∧ i < V.n) : am_M l G M_RD_key [.ref d, am_n i] h (am_is (.long (V.gk i)) h) := by
  have DD := D
  obtain ⟨ok, bM, bS, kp, ks, rl, D1, D2⟩ := D
  have hn := ok.2.2.1
  have b := D2.2.2.1
  refine am_M.of (by decide) (Nat.le_of_ble_eq_true rfl) (fun X hB hR => ?_)
  show am_Z X 0 [.ref d, am_n i] [] h 0 0
  refine am_aload_n hB d_RD_key_0 rfl rfl rfl ?_
  refine am_iload_n hB d_RD_key_1 rfl rfl ?_
  refine am_callV hB hR (as := [am_n i]) D1 (m_RD_refuseUnknownCrash DD hi) c_RD_157 rfl rfl d_RD_key_2 ⟨by decide, Nat.le_of_ble_eq_true rfl⟩ ⟨by decide, by decide⟩ rfl rfl (fun rr hh hp => ?_)
  obtain ⟨rfl, rfl⟩ := hp
  show am_Z X 5 [.ref d, am_n i] [] h 1 6
  refine am_aload_n hB d_RD_key_5 rfl rfl rfl ?_
  refine am_getf hB d_RD_key_6 F_RD_34_10 D1 rfl ?_
  refine am_getf hB d_RD_key_9 F_RD_160_1 b.1 rfl ?_
  refine am_iload_n hB d_RD_key_12 rfl rfl ?_
  refine ai_lald hB d_RD_key_13 ty_2 b.2.1 ?_
  refine am_lret hB hR d_RD_key_14 rfl ?_ (by decide) (by decide)
  exact ⟨rfl, rfl⟩
theorem t_RD_key {l : Launch} {G : am_G} {h : am_H} {d : Nat} {V : dv} {i : Int} (htr : l.stackTraces = false) (D : am_dk h d V) (h0 : -2147483648 ≤ i ∧ i < 2147483648) (hi : ¬ (0 ≤ i ∧ i < V.n)) : am_T l G M_RD_key [.ref d, am_n i] h eN (fun h' => h' = h) := by
  have DD := D
  obtain ⟨ok, bM, bS, kp, ks, rl, D1, D2⟩ := D
  refine am_T.of (by decide) (Nat.le_of_ble_eq_true rfl) (fun X hB hR => ?_)
  show am_Z X 0 [.ref d, am_n i] [] h 0 0
  refine am_aload_n hB d_RD_key_0 rfl rfl rfl ?_
  refine am_iload_n hB d_RD_key_1 rfl rfl ?_
  refine am_outV hB hR (as := [am_n i]) D1 (t_RD_refuseUnknownCrash htr DD h0 hi) c_RD_157 rfl rfl d_RD_key_2 ⟨by decide, Nat.le_of_ble_eq_true rfl⟩ ⟨by decide, by decide⟩ ?_
  exact fun h' e => e
def dv_rep (V : dv) (i w : Int) : Int := if w = 0 then V.gt i else if w = 1 then V.gf i else V.gl i
theorem m_RD_reports {l : Launch} {G : am_G} {h : am_H} {d : Nat} {V : dv} {i w : Int} (D : am_dk h d V) (hi : 0 ≤ i ∧ i < V.n) (hw : 0 ≤ w ∧ w ≤ 2) : am_M l G M_RD_reports [.ref d, am_n i, am_n w] h (am_is (am_n (dv_rep V i w)) h) := by
  have DD := D
  obtain ⟨ok, bM, bS, kp, ks, rl, D1, D2⟩ := D
  have hn := ok.2.2.1
  have b := D2.2.2.1
  refine am_M.of (by decide) (Nat.le_of_ble_eq_true rfl) (fun X hB hR => ?_)
  show am_Z X 0 [.ref d, am_n i, am_n w] [] h 0 0
  refine am_aload_n hB d_RD_reports_0 rfl rfl rfl ?_
  refine am_iload_n hB d_RD_reports_1 rfl rfl ?_
  refine am_callV hB hR (as := [am_n i]) D1 (m_RD_refuseUnknownCrash DD hi) c_RD_157 rfl rfl d_RD_reports_2 ⟨by decide, Nat.le_of_ble_eq_true rfl⟩ ⟨by decide, by decide⟩ rfl rfl (fun rr hh hp => ?_)
  obtain ⟨rfl, rfl⟩ := hp
  show am_Z X 5 [.ref d, am_n i, am_n w] [] h 1 6
  refine am_iload_n hB d_RD_reports_5 rfl rfl ?_
  refine ai_zlt (tgt := 14) hB d_RD_reports_6 (by decide) (fun c1 => ?_) (fun c1 => ?_)
  · omega
  refine am_iload_n hB d_RD_reports_9 rfl rfl ?_
  refine ai_const hB d_RD_reports_10 ?_
  refine ai_jle (tgt := 22) hB d_RD_reports_11 (by decide) (fun c2 => ?_) (fun c2 => ?_)
  rotate_left
  · omega
  refine am_iload_n hB d_RD_reports_22 rfl rfl ?_
  refine ai_zne (tgt := 36) hB d_RD_reports_23 (by decide) (fun c3 => ?_) (fun c3 => ?_)
  · refine am_iload_n hB d_RD_reports_36 rfl rfl ?_
    refine ai_const hB d_RD_reports_37 ?_
    refine ai_jne (tgt := 53) hB d_RD_reports_38 (by decide) (fun c4 => ?_) (fun c4 => ?_)
    · refine am_aload_n hB d_RD_reports_53 rfl rfl rfl ?_
      refine am_getf hB d_RD_reports_54 F_RD_34_10 D1 rfl ?_
      refine am_getf hB d_RD_reports_57 F_RD_171_1 b.1 rfl ?_
      refine am_iload_n hB d_RD_reports_60 rfl rfl ?_
      refine ai_iald hB d_RD_reports_61 ty_1 b.2.2.2.2 ?_
      refine am_iret hB hR d_RD_reports_62 rfl rfl ?_ (by decide) (by decide)
      unfold dv_rep
      rw [if_neg c3, if_neg c4]
      exact ⟨rfl, rfl⟩
    · refine am_aload_n hB d_RD_reports_41 rfl rfl rfl ?_
      refine am_getf hB d_RD_reports_42 F_RD_34_10 D1 rfl ?_
      refine am_getf hB d_RD_reports_45 F_RD_168_1 b.1 rfl ?_
      refine am_iload_n hB d_RD_reports_48 rfl rfl ?_
      refine ai_iald hB d_RD_reports_49 ty_1 b.2.2.2.1 ?_
      refine am_goto (tgt := 62) hB d_RD_reports_50 (by decide) ?_
      refine am_iret hB hR d_RD_reports_62 rfl rfl ?_ (by decide) (by decide)
      unfold dv_rep
      rw [if_neg c3, if_pos c4]
      exact ⟨rfl, rfl⟩
  · refine am_aload_n hB d_RD_reports_26 rfl rfl rfl ?_
    refine am_getf hB d_RD_reports_27 F_RD_34_10 D1 rfl ?_
    refine am_getf hB d_RD_reports_30 F_RD_164_1 b.1 rfl ?_
    refine am_iload_n hB d_RD_reports_33 rfl rfl ?_
    refine ai_iald hB d_RD_reports_34 ty_1 b.2.2.1 ?_
    refine am_iret hB hR d_RD_reports_35 rfl rfl ?_ (by decide) (by decide)
    unfold dv_rep
    rw [if_pos c3]
    exact ⟨rfl, rfl⟩
theorem t_RD_reports {l : Launch} {G : am_G} {h : am_H} {d : Nat} {V : dv} {i w : Int} (htr : l.stackTraces = false) (D : am_dk h d V) (h0 : -2147483648 ≤ i ∧ i < 2147483648) (hi : ¬ (0 ≤ i ∧ i < V.n)) : am_T l G M_RD_reports [.ref d, am_n i, am_n w] h eN (fun h' => h' = h) := by
  have DD := D
  obtain ⟨ok, bM, bS, kp, ks, rl, D1, D2⟩ := D
  refine am_T.of (by decide) (Nat.le_of_ble_eq_true rfl) (fun X hB hR => ?_)
  show am_Z X 0 [.ref d, am_n i, am_n w] [] h 0 0
  refine am_aload_n hB d_RD_reports_0 rfl rfl rfl ?_
  refine am_iload_n hB d_RD_reports_1 rfl rfl ?_
  refine am_outV hB hR (as := [am_n i]) D1 (t_RD_refuseUnknownCrash htr DD h0 hi) c_RD_157 rfl rfl d_RD_reports_2 ⟨by decide, Nat.le_of_ble_eq_true rfl⟩ ⟨by decide, by decide⟩ ?_
  exact fun h' e => e
theorem t_RD_reportsA {l : Launch} {G : am_G} {h : am_H} {d : Nat} {V : dv} {i w : Int} (htr : l.stackTraces = false) (D : am_dk h d V) (hi : 0 ≤ i ∧ i < V.n) (h0 : -2147483648 ≤ w ∧ w < 2147483648) (hw : ¬ (0 ≤ w ∧ w ≤ 2)) : am_T l G M_RD_reports [.ref d, am_n i, am_n w] h eA (fun h' => h' = h) := by
  have DD := D
  obtain ⟨ok, bM, bS, kp, ks, rl, D1, D2⟩ := D
  refine am_T.of (by decide) (Nat.le_of_ble_eq_true rfl) (fun X hB hR => ?_)
  show am_Z X 0 [.ref d, am_n i, am_n w] [] h 0 0
  refine am_aload_n hB d_RD_reports_0 rfl rfl rfl ?_
  refine am_iload_n hB d_RD_reports_1 rfl rfl ?_
  refine am_callV0 hB hR.r0 (as := [am_n i]) D1 (m_RD_refuseUnknownCrash DD hi) c_RD_157 rfl rfl d_RD_reports_2 ⟨by decide, Nat.le_of_ble_eq_true rfl⟩ ⟨by decide, by decide⟩ rfl rfl (fun rr hh hp => ?_)
  obtain ⟨rfl, rfl⟩ := hp
  show am_Z X 5 [.ref d, am_n i, am_n w] [] h 1 6
  have no : am_Z X 14 [.ref d, am_n i, am_n w] [] h 1 6 := by
    refine am_throw hB hR htr d_RD_reports_14 d_RD_reports_17 d_RD_reports_18 d_RD_reports_21 ⟨Or.inl rfl, by decide⟩ cl_A in_A ow_A ⟨by decide, by decide⟩ ⟨by decide, by decide⟩ ?_
    rfl
  refine am_iload_n hB d_RD_reports_5 rfl rfl ?_
  refine ai_zlt (tgt := 14) hB d_RD_reports_6 (by decide) (fun c1 => ?_) (fun c1 => ?_)
  · exact no
  refine am_iload_n hB d_RD_reports_9 rfl rfl ?_
  refine ai_const hB d_RD_reports_10 ?_
  refine ai_jle (tgt := 22) hB d_RD_reports_11 (by decide) (fun c2 => ?_) (fun c2 => ?_)
  · omega
  · exact no
