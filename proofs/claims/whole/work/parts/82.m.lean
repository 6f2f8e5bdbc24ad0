/-! the model prints pieces of lines -/
def fn_ok (n : List Int) : Prop := n ≠ [] ∧ n.getLast? ≠ some 46
theorem nm_last {g : Int → Int} {a b : Int} (h : a < b) : (nm g a b).getLast? = some (g (b - 1)) := by
  rw [← nm_app g (show a ≤ b - 1 by omega) (show b - 1 ≤ b by omega), nm_cons g (show b - 1 < b by omega), nm_nil g (show b ≤ b - 1 + 1 by omega)]
  simp
theorem fn_pos {g : Int → Int} {a b : Int} (h : fn_ok (nm g a b)) : a < b ∧ g (b - 1) ≠ 46 := by
  have hab : a < b := by
    rcases Int.lt_or_le a b with z | z
    · exact z
    · exact absurd (nm_nil g z) h.1
  refine ⟨hab, fun z => h.2 ?_⟩
  rw [nm_last hab, z]
def pm_fn (S : pm_S) : Prop := (∀ (i : Nat) c, S.1[i]? = some c → fn_ok c.1) ∧ (∀ (i : Nat) x, S.2[i]? = some x → fn_ok x.1.1)
theorem m_MO_hasFile {l : Launch} {G : am_G} {h : am_H} {m : Nat} {U : mv} {k : Nat} {f : pt_F} (M : am_mo h m U) (hk : k < 32) (lf : mo_ln U k (.inr (.inl f))) : am_M l G M_MO_hasFile [.ref m, am_n k] h (am_is (am_n (sp_i f.2.1)) h) := by
  obtain ⟨-, r, -, -, -, hf, -⟩ := lf
  refine am_M.of (by decide) (Nat.le_of_ble_eq_true rfl) (fun X hB hR => ?_)
  show am_Z X 0 [.ref m, am_n k] [] h 0 0
  refine am_aload_n hB d_MO_hasFile_0 rfl rfl rfl ?_
  refine am_getf hB d_MO_hasFile_1 F_MO_88_11 M.1 rfl ?_
  refine am_iload_n hB d_MO_hasFile_4 rfl rfl ?_
  refine ai_iald hB d_MO_hasFile_5 ty_1 M.fileTo ?_
  refine am_aload_n hB d_MO_hasFile_6 rfl rfl rfl ?_
  refine am_getf hB d_MO_hasFile_7 F_MO_85_11 M.1 rfl ?_
  refine am_iload_n hB d_MO_hasFile_10 rfl rfl ?_
  refine ai_iald hB d_MO_hasFile_11 ty_1 M.fileFrom ?_
  refine ai_jle (tgt := 19) hB d_MO_hasFile_12 (by decide) (fun c1 => ?_) (fun c1 => ?_)
  · refine ai_const hB d_MO_hasFile_19 ?_
    refine am_iret hB hR d_MO_hasFile_20 rfl (by decide) ?_ (Nat.zero_le _) (Nat.zero_le _)
    have : f.2.1 = false := by
      cases z : f.2.1 with
      | false => rfl
      | true => have := hf.mpr z; omega
    rw [this]
    exact ⟨rfl, rfl⟩
  · refine ai_const hB d_MO_hasFile_15 ?_
    refine am_goto (tgt := 20) hB d_MO_hasFile_16 (by decide) ?_
    refine am_iret hB hR d_MO_hasFile_20 rfl (by decide) ?_ (Nat.zero_le _) (Nat.zero_le _)
    rw [hf.mp c1]
    exact ⟨rfl, rfl⟩
theorem m_MO_emitTail {l : Launch} {G : am_G} {hA : am_H} {m : Nat} {U : mv} {xs : List Int} {dc : Int} {k : Nat} {f : pt_F} (S : mo_S hA m U xs dc) (hg : am_cok U.all_) (hk : k < 32) (lf : mo_ln U k (.inr (.inl f))) : am_M l G M_MO_emitTail [.ref m, am_n k] hA (mo_X hA m U (xs ++ ((if f.2.1 = true then [] else f.1.2.2) ++ w_close f.2.2)) dc) := by
  obtain ⟨-, r, -, -, -, -, ht, -⟩ := lf
  obtain ⟨o, s, v, M, q⟩ := id S
  refine am_M.of (by decide) (Nat.le_of_ble_eq_true rfl) (fun X hB hR => ?_)
  show am_Z X 0 [.ref m, am_n k] [] hA 0 0
  refine am_aload_n hB d_MO_emitTail_0 rfl rfl rfl ?_
  refine am_aload_n hB d_MO_emitTail_1 rfl rfl rfl ?_
  refine am_getf hB d_MO_emitTail_2 F_MO_88_11 M.1 rfl ?_
  refine am_iload_n hB d_MO_emitTail_5 rfl rfl ?_
  refine ai_iald hB d_MO_emitTail_6 ty_1 M.fileTo ?_
  refine am_aload_n hB d_MO_emitTail_7 rfl rfl rfl ?_
  refine am_getf hB d_MO_emitTail_8 F_MO_73_11 M.1 rfl ?_
  refine am_iload_n hB d_MO_emitTail_11 rfl rfl ?_
  refine ai_iald hB d_MO_emitTail_12 ty_1 M.lineTo ?_
  show am_Z X 13 [.ref m, am_n k] [am_n (U.lineTo_ k), am_n (U.fileTo_ k), .ref m] hA 0 0
  refine am_callV hB hR (as := [am_n (U.fileTo_ k), am_n (U.lineTo_ k)]) M.1 (m_MO_emitText S hg (by omega) (by omega) (by omega)) c_MO_255 rfl rfl d_MO_emitTail_13 ⟨by decide, Nat.le_of_ble_eq_true rfl⟩ ⟨by decide, by decide⟩ rfl rfl (fun rr h hp => ?_)
  obtain ⟨rfl, S, f1⟩ := hp
  obtain ⟨o, s, v, M, q⟩ := id S
  show am_Z X 16 [.ref m, am_n k] [] h 0 0
  refine am_aload_n hB d_MO_emitTail_16 rfl rfl rfl ?_
  refine ai_bipush hB d_MO_emitTail_17 (by decide) ?_
  refine am_callV hB hR (as := [am_n 10]) M.1 (m_MO_emit S (by omega) (by omega)) c_MO_251 rfl rfl d_MO_emitTail_19 ⟨by decide, Nat.le_of_ble_eq_true rfl⟩ ⟨by decide, by decide⟩ rfl rfl (fun rr h hp => ?_)
  obtain ⟨rfl, S, f2⟩ := hp
  show am_Z X 22 [.ref m, am_n k] [] h 0 0
  refine am_vret hB hR d_MO_emitTail_22 rfl ?_ (Nat.zero_le _) (Nat.zero_le _)
  rw [List.append_assoc, ht] at S
  exact ⟨rfl, S, f1.tr f2⟩
theorem m_MO_emitSource {l : Launch} {G : am_G} {hA : am_H} {m : Nat} {U : mv} {xs : List Int} {dc : Int} (S : mo_S hA m U xs dc) : am_M l G M_MO_emitSource [.ref m] hA (mo_X hA m U (xs ++ sp_wd 14) dc) := by
  have w14 : wbs 6012153161717204585 8 ++ wbs 27749 2 = sp_wd 14 := by decide
  obtain ⟨o, s, v, M, q⟩ := id S
  refine am_M.of (by decide) (Nat.le_of_ble_eq_true rfl) (fun X hB hR => ?_)
  show am_Z X 0 [.ref m] [] hA 0 0
  refine am_aload_n hB d_MO_emitSource_0 rfl rfl rfl ?_
  refine am_ldc2 hB d_MO_emitSource_1 J_MO_265 ?_
  refine ai_bipush hB d_MO_emitSource_4 (by decide) ?_
  refine am_callV hB hR (as := [.long 6012153161717204585, am_n (8 : Nat)]) M.1 (m_MO_emitWord S (by omega)) c_MO_261 rfl rfl d_MO_emitSource_6 ⟨by decide, Nat.le_of_ble_eq_true rfl⟩ ⟨by decide, by decide⟩ rfl rfl (fun rr h hp => ?_)
  obtain ⟨rfl, S, f1⟩ := hp
  obtain ⟨o, s, v, M, q⟩ := id S
  show am_Z X 9 [.ref m] [] h 0 0
  refine am_aload_n hB d_MO_emitSource_9 rfl rfl rfl ?_
  refine am_ldc2 hB d_MO_emitSource_10 J_MO_267 ?_
  refine ai_const hB d_MO_emitSource_13 ?_
  refine am_callV hB hR (as := [.long 27749, am_n (2 : Nat)]) M.1 (m_MO_emitWord S (by omega)) c_MO_261 rfl rfl d_MO_emitSource_14 ⟨by decide, Nat.le_of_ble_eq_true rfl⟩ ⟨by decide, by decide⟩ rfl rfl (fun rr h hp => ?_)
  obtain ⟨rfl, S, f2⟩ := hp
  show am_Z X 17 [.ref m] [] h 0 0
  refine am_vret hB hR d_MO_emitSource_17 rfl ?_ (Nat.zero_le _) (Nat.zero_le _)
  rw [List.append_assoc, w14] at S
  exact ⟨rfl, S, f1.tr f2⟩
theorem m_MO_emitHeader {l : Launch} {G : am_G} {hA : am_H} {m : Nat} {U : mv} {xs : List Int} {dc a b : Int} {k i : Nat} {hd : List Int × Bool × List Int} (S : mo_S hA m U xs dc) (hg : am_cok U.all_) (hk : k < 32) (lf : mo_ln U k (.inl (i, hd))) (h0 : 0 ≤ a) (hab : a ≤ b) (h2 : b ≤ 1200) : am_M l G M_MO_emitHeader [.ref m, am_n k, am_n a, am_n b] hA (mo_X hA m U (xs ++ ((if i = 0 then [] else sp_wd 3) ++ nm U.all_ a b ++ (if hd.2.1 = true then sp_wd 4 ++ hd.2.2 else []) ++ [10])) dc) := by
  obtain ⟨-, r, t1, -, t3⟩ := lf
  obtain ⟨o, s, v, M, q⟩ := id S
  refine am_M.of (by decide) (Nat.le_of_ble_eq_true rfl) (fun X hB hR => ?_)
  show am_Z X 0 [.ref m, am_n k, am_n a, am_n b] [] hA 0 0
  refine am_aload_n hB d_MO_emitHeader_0 rfl rfl rfl ?_
  refine am_aload_n hB d_MO_emitHeader_1 rfl rfl rfl ?_
  refine am_getf hB d_MO_emitHeader_2 F_MO_70_11 M.1 rfl ?_
  refine am_iload_n hB d_MO_emitHeader_5 rfl rfl ?_
  refine ai_iald hB d_MO_emitHeader_6 ty_1 M.lineFrom ?_
  refine am_aload_n hB d_MO_emitHeader_7 rfl rfl rfl ?_
  refine am_getf hB d_MO_emitHeader_8 F_MO_76_11 M.1 rfl ?_
  refine am_iload_n hB d_MO_emitHeader_11 rfl rfl ?_
  refine ai_iald hB d_MO_emitHeader_12 ty_1 M.nameFrom ?_
  show am_Z X 13 [.ref m, am_n k, am_n a, am_n b] [am_n (U.nameFrom_ k), am_n (U.lineFrom_ k), .ref m] hA 0 0
  refine am_callV hB hR (as := [am_n (U.lineFrom_ k), am_n (U.nameFrom_ k)]) M.1 (m_MO_emitText S hg (by omega) (by omega) (by omega)) c_MO_255 rfl rfl d_MO_emitHeader_13 ⟨by decide, Nat.le_of_ble_eq_true rfl⟩ ⟨by decide, by decide⟩ rfl rfl (fun rr h hp => ?_)
  obtain ⟨rfl, S, f1⟩ := hp
  obtain ⟨o, s, v, M, q⟩ := id S
  show am_Z X 16 [.ref m, am_n k, am_n a, am_n b] [] h 0 0
  refine am_aload_n hB d_MO_emitHeader_16 rfl rfl rfl ?_
  refine am_iload_n hB d_MO_emitHeader_17 rfl rfl ?_
  refine am_iload_n hB d_MO_emitHeader_18 rfl rfl ?_
  refine am_callV hB hR (as := [am_n a, am_n b]) M.1 (m_MO_emitText S hg h0 hab h2) c_MO_255 rfl rfl d_MO_emitHeader_19 ⟨by decide, Nat.le_of_ble_eq_true rfl⟩ ⟨by decide, by decide⟩ rfl rfl (fun rr h hp => ?_)
  obtain ⟨rfl, S, f2⟩ := hp
  obtain ⟨o, s, v, M, q⟩ := id S
  show am_Z X 22 [.ref m, am_n k, am_n a, am_n b] [] h 0 0
  refine am_aload_n hB d_MO_emitHeader_22 rfl rfl rfl ?_
  refine am_aload_n hB d_MO_emitHeader_23 rfl rfl rfl ?_
  refine am_getf hB d_MO_emitHeader_24 F_MO_79_11 M.1 rfl ?_
  refine am_iload_n hB d_MO_emitHeader_27 rfl rfl ?_
  refine ai_iald hB d_MO_emitHeader_28 ty_1 M.nameTo ?_
  refine am_aload_n hB d_MO_emitHeader_29 rfl rfl rfl ?_
  refine am_getf hB d_MO_emitHeader_30 F_MO_73_11 M.1 rfl ?_
  refine am_iload_n hB d_MO_emitHeader_33 rfl rfl ?_
  refine ai_iald hB d_MO_emitHeader_34 ty_1 M.lineTo ?_
  show am_Z X 35 [.ref m, am_n k, am_n a, am_n b] [am_n (U.lineTo_ k), am_n (U.nameTo_ k), .ref m] h 0 0
  refine am_callV hB hR (as := [am_n (U.nameTo_ k), am_n (U.lineTo_ k)]) M.1 (m_MO_emitText S hg (by omega) (by omega) (by omega)) c_MO_255 rfl rfl d_MO_emitHeader_35 ⟨by decide, Nat.le_of_ble_eq_true rfl⟩ ⟨by decide, by decide⟩ rfl rfl (fun rr h hp => ?_)
  obtain ⟨rfl, S, f3⟩ := hp
  obtain ⟨o, s, v, M, q⟩ := id S
  show am_Z X 38 [.ref m, am_n k, am_n a, am_n b] [] h 0 0
  refine am_aload_n hB d_MO_emitHeader_38 rfl rfl rfl ?_
  refine ai_bipush hB d_MO_emitHeader_39 (by decide) ?_
  refine am_callV hB hR (as := [am_n 10]) M.1 (m_MO_emit S (by omega) (by omega)) c_MO_251 rfl rfl d_MO_emitHeader_41 ⟨by decide, Nat.le_of_ble_eq_true rfl⟩ ⟨by decide, by decide⟩ rfl rfl (fun rr h hp => ?_)
  obtain ⟨rfl, S, f4⟩ := hp
  show am_Z X 44 [.ref m, am_n k, am_n a, am_n b] [] h 0 0
  refine am_vret hB hR d_MO_emitHeader_44 rfl ?_ (Nat.zero_le _) (Nat.zero_le _)
  rw [t1, t3] at S
  simp only [List.append_assoc] at S ⊢
  exact ⟨rfl, S, ((f1.tr f2).tr f3).tr f4⟩
theorem m_MO_emitCall {l : Launch} {G : am_G} {hA : am_H} {m : Nat} {U : mv} {xs : List Int} {dc : Int} {i : Nat} {L : List pm_L} {x : pm_L} (S : mo_S hA m U xs dc) (hg : am_cok U.all_) (hi : i < 32) (lx : mo_L U L i x) : am_M l G M_MO_emitCall [.ref m, am_n i] hA (mo_X hA m U (xs ++ w_open x.1.1 x.1.2.1) dc) := by
  have w5 : wbs 157381664 4 = sp_wd 5 := by decide
  obtain ⟨⟨r1, r2, -⟩, ⟨n1, n2, -⟩, -⟩ := lx
  obtain ⟨o, s, v, M, q⟩ := id S
  refine am_M.of (by decide) (Nat.le_of_ble_eq_true rfl) (fun X hB hR => ?_)
  show am_Z X 0 [.ref m, am_n i] [] hA 0 0
  refine am_aload_n hB d_MO_emitCall_0 rfl rfl rfl ?_
  refine am_ldc2 hB d_MO_emitCall_1 J_MO_223 ?_
  refine ai_const hB d_MO_emitCall_4 ?_
  refine am_callV hB hR (as := [.long 157381664, am_n (4 : Nat)]) M.1 (m_MO_emitWord S (by omega)) c_MO_261 rfl rfl d_MO_emitCall_5 ⟨by decide, Nat.le_of_ble_eq_true rfl⟩ ⟨by decide, by decide⟩ rfl rfl (fun rr h hp => ?_)
  obtain ⟨rfl, S, f1⟩ := hp
  obtain ⟨o, s, v, M, q⟩ := id S
  show am_Z X 8 [.ref m, am_n i] [] h 0 0
  refine am_aload_n hB d_MO_emitCall_8 rfl rfl rfl ?_
  refine am_aload_n hB d_MO_emitCall_9 rfl rfl rfl ?_
  refine am_getf hB d_MO_emitCall_10 F_MO_31_11 M.1 rfl ?_
  refine am_iload_n hB d_MO_emitCall_13 rfl rfl ?_
  refine ai_iald hB d_MO_emitCall_14 ty_1 M.ownFrom ?_
  refine am_aload_n hB d_MO_emitCall_15 rfl rfl rfl ?_
  refine am_getf hB d_MO_emitCall_16 F_MO_34_11 M.1 rfl ?_
  refine am_iload_n hB d_MO_emitCall_19 rfl rfl ?_
  refine ai_iald hB d_MO_emitCall_20 ty_1 M.ownTo ?_
  show am_Z X 21 [.ref m, am_n i] [am_n (U.ownTo_ i), am_n (U.ownFrom_ i), .ref m] h 0 0
  refine am_callV hB hR (as := [am_n (U.ownFrom_ i), am_n (U.ownTo_ i)]) M.1 (m_MO_emitText S hg (by omega) (by omega) (by omega)) c_MO_255 rfl rfl d_MO_emitCall_21 ⟨by decide, Nat.le_of_ble_eq_true rfl⟩ ⟨by decide, by decide⟩ rfl rfl (fun rr h hp => ?_)
  obtain ⟨rfl, S, f2⟩ := hp
  obtain ⟨o, s, v, M, q⟩ := id S
  show am_Z X 24 [.ref m, am_n i] [] h 0 0
  refine am_aload_n hB d_MO_emitCall_24 rfl rfl rfl ?_
  refine ai_bipush hB d_MO_emitCall_25 (by decide) ?_
  refine am_callV hB hR (as := [am_n 46]) M.1 (m_MO_emit S (by omega) (by omega)) c_MO_251 rfl rfl d_MO_emitCall_27 ⟨by decide, Nat.le_of_ble_eq_true rfl⟩ ⟨by decide, by decide⟩ rfl rfl (fun rr h hp => ?_)
  obtain ⟨rfl, S, f3⟩ := hp
  obtain ⟨o, s, v, M, q⟩ := id S
  show am_Z X 30 [.ref m, am_n i] [] h 0 0
  refine am_aload_n hB d_MO_emitCall_30 rfl rfl rfl ?_
  refine am_aload_n hB d_MO_emitCall_31 rfl rfl rfl ?_
  refine am_getf hB d_MO_emitCall_32 F_MO_37_11 M.1 rfl ?_
  refine am_iload_n hB d_MO_emitCall_35 rfl rfl ?_
  refine ai_iald hB d_MO_emitCall_36 ty_1 M.callFrom ?_
  refine am_aload_n hB d_MO_emitCall_37 rfl rfl rfl ?_
  refine am_getf hB d_MO_emitCall_38 F_MO_40_11 M.1 rfl ?_
  refine am_iload_n hB d_MO_emitCall_41 rfl rfl ?_
  refine ai_iald hB d_MO_emitCall_42 ty_1 M.callTo ?_
  show am_Z X 43 [.ref m, am_n i] [am_n (U.callTo_ i), am_n (U.callFrom_ i), .ref m] h 0 0
  refine am_callV hB hR (as := [am_n (U.callFrom_ i), am_n (U.callTo_ i)]) M.1 (m_MO_emitText S hg (by omega) (by omega) (by omega)) c_MO_255 rfl rfl d_MO_emitCall_43 ⟨by decide, Nat.le_of_ble_eq_true rfl⟩ ⟨by decide, by decide⟩ rfl rfl (fun rr h hp => ?_)
  obtain ⟨rfl, S, f4⟩ := hp
  obtain ⟨o, s, v, M, q⟩ := id S
  show am_Z X 46 [.ref m, am_n i] [] h 0 0
  refine am_aload_n hB d_MO_emitCall_46 rfl rfl rfl ?_
  refine ai_bipush hB d_MO_emitCall_47 (by decide) ?_
  refine am_callV hB hR (as := [am_n 40]) M.1 (m_MO_emit S (by omega) (by omega)) c_MO_251 rfl rfl d_MO_emitCall_49 ⟨by decide, Nat.le_of_ble_eq_true rfl⟩ ⟨by decide, by decide⟩ rfl rfl (fun rr h hp => ?_)
  obtain ⟨rfl, S, f5⟩ := hp
  show am_Z X 52 [.ref m, am_n i] [] h 0 0
  refine am_vret hB hR d_MO_emitCall_52 rfl ?_ (Nat.zero_le _) (Nat.zero_le _)
  rw [w5, n1, n2] at S
  unfold w_open
  simp only [List.append_assoc] at S ⊢
  exact ⟨rfl, S, (((f1.tr f2).tr f3).tr f4).tr f5⟩
theorem m_MO_isFor {l : Launch} {G : am_G} {h : am_H} {m : Nat} {U : mv} {S : pm_S} {i k p : Nat} {x : pm_L} {f : pt_F} (M : am_mo h m U) (hg : am_cok U.all_) (mp : mo_map U S) (hx : S.2[i]? = some x) (hl : x.2.2.2 = true) (hk : k < 32) (lf : mo_ln U k (.inr (.inl f))) (hp8 : p < 8) : am_M l G M_MO_isFor [.ref m, am_n (pm_ld S.2 i), am_n p, am_n k] h (am_is (am_n (sp_i (pf_is S p f.1.2.1 i))) h) := by
  obtain ⟨-, r, -, -, t2, -⟩ := lf
  have hi := am_lt hx
  have m4 := mp.2.2.2.1
  obtain ⟨⟨-, -, y1⟩, ⟨-, -, y2⟩, -, y5, -, y6⟩ := mp.2.2.2.2.2.2 i x hx
  have z1 := y6.1
  have hpf : pf_is S p f.1.2.1 i = (decide (x.2.2.1 = p) && decide (x.1.2.2 = f.1.2.1)) := by
    unfold pf_is
    rw [hx]
    simp only [hl, Bool.true_and]
  refine am_M.of (by decide) (Nat.le_of_ble_eq_true rfl) (fun X hB hR => ?_)
  show am_Z X 0 [.ref m, am_n (pm_ld S.2 i), am_n p, am_n k, am_u] [] h 0 0
  refine am_aload_n hB d_MO_isFor_0 rfl rfl rfl ?_
  refine am_iload_n hB d_MO_isFor_1 rfl rfl ?_
  refine am_callV hB hR (as := [am_n (pm_ld S.2 i)]) M.1 (m_MO_lineOf M mp hx hl) c_MO_269 rfl rfl d_MO_isFor_2 ⟨by decide, Nat.le_of_ble_eq_true rfl⟩ ⟨by decide, by decide⟩ rfl rfl (fun rr h hp => ?_)
  obtain ⟨rfl, rfl⟩ := hp
  show am_Z X 5 [.ref m, am_n (pm_ld S.2 i), am_n p, am_n k, am_u] [am_n i] h 0 0
  have no : pf_is S p f.1.2.1 i = false → am_Z X 55 [.ref m, am_n (pm_ld S.2 i), am_n p, am_n k, am_n i] [] h 0 0 := by
    intro hz
    refine ai_const hB d_MO_isFor_55 ?_
    refine am_iret hB hR d_MO_isFor_56 rfl (by decide) ?_ (Nat.zero_le _) (Nat.zero_le _)
    rw [hz]
    exact ⟨rfl, rfl⟩
  refine am_istore hB d_MO_isFor_5 (by rw [hR.nL]; decide) rfl ?_
  refine am_aload_n hB d_MO_isFor_7 rfl rfl rfl ?_
  refine am_getf hB d_MO_isFor_8 F_MO_61_11 M.1 rfl ?_
  refine am_iload hB d_MO_isFor_11 rfl ?_
  refine ai_iald hB d_MO_isFor_13 ty_1 M.classOf ?_
  rw [y5]
  refine am_iload_n hB d_MO_isFor_14 rfl rfl ?_
  refine ai_jne (tgt := 55) hB d_MO_isFor_15 (by decide) (fun c1 => ?_) (fun c1 => ?_)
  · exact no (by rw [hpf, decide_eq_false (fun z => c1 (by omega))]; rfl)
  refine am_aload_n hB d_MO_isFor_18 rfl rfl rfl ?_
  refine am_aload_n hB d_MO_isFor_19 rfl rfl rfl ?_
  refine am_getf hB d_MO_isFor_20 F_MO_43_11 M.1 rfl ?_
  refine am_iload hB d_MO_isFor_23 rfl ?_
  refine ai_iald hB d_MO_isFor_25 ty_1 M.nickFrom ?_
  refine am_aload_n hB d_MO_isFor_26 rfl rfl rfl ?_
  refine am_getf hB d_MO_isFor_27 F_MO_46_11 M.1 rfl ?_
  refine am_iload hB d_MO_isFor_30 rfl ?_
  refine ai_iald hB d_MO_isFor_32 ty_1 M.nickTo ?_
  refine am_aload_n hB d_MO_isFor_33 rfl rfl rfl ?_
  refine am_getf hB d_MO_isFor_34 F_MO_82_11 M.1 rfl ?_
  refine am_iload_n hB d_MO_isFor_37 rfl rfl ?_
  refine ai_iald hB d_MO_isFor_38 ty_1 M.methodFrom ?_
  refine am_aload_n hB d_MO_isFor_39 rfl rfl rfl ?_
  refine am_getf hB d_MO_isFor_40 F_MO_79_11 M.1 rfl ?_
  refine am_iload_n hB d_MO_isFor_43 rfl rfl ?_
  refine ai_iald hB d_MO_isFor_44 ty_1 M.nameTo ?_
  refine am_callV hB hR (as := [am_n (U.nickFrom_ i), am_n (U.nickTo_ i), am_n (U.methodFrom_ k), am_n (U.nameTo_ k)]) M.1 (m_MO_same M hg y1.1 y1.2.1 (by omega) (by omega) (by omega) (by omega)) c_MO_154 rfl rfl d_MO_isFor_45 ⟨by decide, Nat.le_of_ble_eq_true rfl⟩ ⟨by decide, by decide⟩ rfl rfl (fun rr h hp => ?_)
  obtain ⟨rfl, rfl⟩ := hp
  show am_Z X 48 [.ref m, am_n (pm_ld S.2 i), am_n p, am_n k, am_n i] [am_n (sp_i (sp_eq U.all_ (U.nickFrom_ i) (U.nickTo_ i) U.all_ (U.methodFrom_ k) (U.nameTo_ k)))] h 0 0
  rw [sp_eq_nm y1.2.1 (by omega), y2, t2]
  rw [decide_eq_true (show x.2.2.1 = p by omega), Bool.true_and] at hpf
  rw [← hpf]
  cases q : pf_is S p f.1.2.1 i with
  | false =>
    show am_Z X 48 [.ref m, am_n (pm_ld S.2 i), am_n p, am_n k, am_n i] [am_n 0] h 0 0
    refine ai_zeq (tgt := 55) hB d_MO_isFor_48 (by decide) (fun c2 => ?_) (fun c2 => ?_)
    · exact no q
    · omega
  | true =>
    show am_Z X 48 [.ref m, am_n (pm_ld S.2 i), am_n p, am_n k, am_n i] [am_n 1] h 0 0
    refine ai_zeq (tgt := 55) hB d_MO_isFor_48 (by decide) (fun c2 => ?_) (fun c2 => ?_)
    · omega
    refine ai_const hB d_MO_isFor_51 ?_
    refine am_goto (tgt := 56) hB d_MO_isFor_52 (by decide) ?_
    refine am_iret hB hR d_MO_isFor_56 rfl (by decide) ?_ (Nat.zero_le _) (Nat.zero_le _)
    rw [q]
    exact ⟨rfl, rfl⟩
theorem m_MO_differ {l : Launch} {G : am_G} {h : am_H} {m : Nat} {U : mv} {S : pm_S} {i j : Nat} {x y : pm_L} (M : am_mo h m U) (hg : am_cok U.all_) (mp : mo_map U S) (hx : S.2[i]? = some x) (hl : x.2.2.2 = true) (hy : S.2[j]? = some y) (hl2 : y.2.2.2 = true) : am_M l G M_MO_differ [.ref m, am_n (pm_ld S.2 i), am_n (pm_ld S.2 j)] h (am_is (am_n (sp_i (!pf_call S (pf_end S j - 1) (pm_ln S (pf_end S i - 1)).1.1 (pm_ln S (pf_end S i - 1)).1.2.1))) h) := by
  have m4 := mp.2.2.2.1
  have ei := pf_end_le (S := S) (am_lt hx)
  have ej := pf_end_le (S := S) (am_lt hy)
  have hu := List.getElem?_eq_getElem (show pf_end S i - 1 < S.2.length by omega)
  have hw := List.getElem?_eq_getElem (show pf_end S j - 1 < S.2.length by omega)
  generalize S.2[pf_end S i - 1]'(by omega) = u at hu
  generalize S.2[pf_end S j - 1]'(by omega) = w at hw
  rw [pm_ln_eq hu]
  have hpc : pf_call S (pf_end S j - 1) u.1.1 u.1.2.1 = (decide (w.1.1 = u.1.1) && decide (w.1.2.1 = u.1.2.1)) := by
    unfold pf_call
    rw [hw]
  obtain ⟨⟨a1, a2, -⟩, ⟨a3, a4, -⟩, -⟩ := mp.2.2.2.2.2.2 _ u hu
  obtain ⟨⟨b1, b2, -⟩, ⟨b3, b4, -⟩, -⟩ := mp.2.2.2.2.2.2 _ w hw
  rw [show ((pf_end S i - 1 : Nat) : Int) = (pf_end S i : Int) - 1 by omega] at a1 a2 a3 a4
  rw [show ((pf_end S j - 1 : Nat) : Int) = (pf_end S j : Int) - 1 by omega] at b1 b2 b3 b4
  generalize hI : (pf_end S i : Int) - 1 = I at a1 a2 a3 a4
  generalize hJ : (pf_end S j : Int) - 1 = J at b1 b2 b3 b4
  refine am_M.of (by decide) (Nat.le_of_ble_eq_true rfl) (fun X hB hR => ?_)
  show am_Z X 0 [.ref m, am_n (pm_ld S.2 i), am_n (pm_ld S.2 j), am_u, am_u] [] h 0 0
  refine am_aload_n hB d_MO_differ_0 rfl rfl rfl ?_
  refine am_iload_n hB d_MO_differ_1 rfl rfl ?_
  refine am_callV hB hR (as := [am_n (pm_ld S.2 i)]) M.1 (m_MO_lastOf M mp hx hl) c_MO_272 rfl rfl d_MO_differ_2 ⟨by decide, Nat.le_of_ble_eq_true rfl⟩ ⟨by decide, by decide⟩ rfl rfl (fun rr h hp => ?_)
  obtain ⟨rfl, rfl⟩ := hp
  rw [hI]
  show am_Z X 5 [.ref m, am_n (pm_ld S.2 i), am_n (pm_ld S.2 j), am_u, am_u] [am_n I] h 0 0
  refine am_istore_n hB d_MO_differ_5 rfl (by rw [hR.nL]; decide) rfl ?_
  refine am_aload_n hB d_MO_differ_6 rfl rfl rfl ?_
  refine am_iload_n hB d_MO_differ_7 rfl rfl ?_
  refine am_callV hB hR (as := [am_n (pm_ld S.2 j)]) M.1 (m_MO_lastOf M mp hy hl2) c_MO_272 rfl rfl d_MO_differ_8 ⟨by decide, Nat.le_of_ble_eq_true rfl⟩ ⟨by decide, by decide⟩ rfl rfl (fun rr h hp => ?_)
  obtain ⟨rfl, rfl⟩ := hp
  rw [hJ]
  show am_Z X 11 [.ref m, am_n (pm_ld S.2 i), am_n (pm_ld S.2 j), am_n I, am_u] [am_n J] h 0 0
  have yes : pf_call S (pf_end S j - 1) u.1.1 u.1.2.1 = false → am_Z X 79 [.ref m, am_n (pm_ld S.2 i), am_n (pm_ld S.2 j), am_n I, am_n J] [] h 0 0 := by
    intro hz
    refine ai_const hB d_MO_differ_79 ?_
    refine am_goto (tgt := 84) hB d_MO_differ_80 (by decide) ?_
    refine am_iret hB hR d_MO_differ_84 rfl (by decide) ?_ (Nat.zero_le _) (Nat.zero_le _)
    rw [hz]
    exact ⟨rfl, rfl⟩
  refine am_istore hB d_MO_differ_11 (by rw [hR.nL]; decide) rfl ?_
  refine am_aload_n hB d_MO_differ_13 rfl rfl rfl ?_
  refine am_aload_n hB d_MO_differ_14 rfl rfl rfl ?_
  refine am_getf hB d_MO_differ_15 F_MO_31_11 M.1 rfl ?_
  refine am_iload_n hB d_MO_differ_18 rfl rfl ?_
  refine ai_iald hB d_MO_differ_19 ty_1 M.ownFrom ?_
  refine am_aload_n hB d_MO_differ_20 rfl rfl rfl ?_
  refine am_getf hB d_MO_differ_21 F_MO_34_11 M.1 rfl ?_
  refine am_iload_n hB d_MO_differ_24 rfl rfl ?_
  refine ai_iald hB d_MO_differ_25 ty_1 M.ownTo ?_
  refine am_aload_n hB d_MO_differ_26 rfl rfl rfl ?_
  refine am_getf hB d_MO_differ_27 F_MO_31_11 M.1 rfl ?_
  refine am_iload hB d_MO_differ_30 rfl ?_
  refine ai_iald hB d_MO_differ_32 ty_1 M.ownFrom ?_
  refine am_aload_n hB d_MO_differ_33 rfl rfl rfl ?_
  refine am_getf hB d_MO_differ_34 F_MO_34_11 M.1 rfl ?_
  refine am_iload hB d_MO_differ_37 rfl ?_
  refine ai_iald hB d_MO_differ_39 ty_1 M.ownTo ?_
  refine am_callV hB hR (as := [am_n (U.ownFrom_ I), am_n (U.ownTo_ I), am_n (U.ownFrom_ J), am_n (U.ownTo_ J)]) M.1 (m_MO_same M hg a1.1 a1.2.1 (by omega) b1.1 b1.2.1 (by omega)) c_MO_154 rfl rfl d_MO_differ_40 ⟨by decide, Nat.le_of_ble_eq_true rfl⟩ ⟨by decide, by decide⟩ rfl rfl (fun rr h hp => ?_)
  obtain ⟨rfl, rfl⟩ := hp
  show am_Z X 43 [.ref m, am_n (pm_ld S.2 i), am_n (pm_ld S.2 j), am_n I, am_n J] [am_n (sp_i (sp_eq U.all_ (U.ownFrom_ I) (U.ownTo_ I) U.all_ (U.ownFrom_ J) (U.ownTo_ J)))] h 0 0
  rw [sp_eq_nm a1.2.1 b1.2.1, a3, b3]
  by_cases z : u.1.1 = w.1.1
  rotate_left
  · rw [decide_eq_false z]
    show am_Z X 43 [.ref m, am_n (pm_ld S.2 i), am_n (pm_ld S.2 j), am_n I, am_n J] [am_n 0] h 0 0
    refine ai_zeq (tgt := 79) hB d_MO_differ_43 (by decide) (fun c1 => ?_) (fun c1 => ?_)
    · exact yes (by rw [hpc, decide_eq_false (fun q => z q.symm)]; rfl)
    · omega
  rw [decide_eq_true z]
  rw [decide_eq_true z.symm, Bool.true_and] at hpc
  show am_Z X 43 [.ref m, am_n (pm_ld S.2 i), am_n (pm_ld S.2 j), am_n I, am_n J] [am_n 1] h 0 0
  refine ai_zeq (tgt := 79) hB d_MO_differ_43 (by decide) (fun c1 => ?_) (fun c1 => ?_)
  · omega
  refine am_aload_n hB d_MO_differ_46 rfl rfl rfl ?_
  refine am_aload_n hB d_MO_differ_47 rfl rfl rfl ?_
  refine am_getf hB d_MO_differ_48 F_MO_37_11 M.1 rfl ?_
  refine am_iload_n hB d_MO_differ_51 rfl rfl ?_
  refine ai_iald hB d_MO_differ_52 ty_1 M.callFrom ?_
  refine am_aload_n hB d_MO_differ_53 rfl rfl rfl ?_
  refine am_getf hB d_MO_differ_54 F_MO_40_11 M.1 rfl ?_
  refine am_iload_n hB d_MO_differ_57 rfl rfl ?_
  refine ai_iald hB d_MO_differ_58 ty_1 M.callTo ?_
  refine am_aload_n hB d_MO_differ_59 rfl rfl rfl ?_
  refine am_getf hB d_MO_differ_60 F_MO_37_11 M.1 rfl ?_
  refine am_iload hB d_MO_differ_63 rfl ?_
  refine ai_iald hB d_MO_differ_65 ty_1 M.callFrom ?_
  refine am_aload_n hB d_MO_differ_66 rfl rfl rfl ?_
  refine am_getf hB d_MO_differ_67 F_MO_40_11 M.1 rfl ?_
  refine am_iload hB d_MO_differ_70 rfl ?_
  refine ai_iald hB d_MO_differ_72 ty_1 M.callTo ?_
  refine am_callV hB hR (as := [am_n (U.callFrom_ I), am_n (U.callTo_ I), am_n (U.callFrom_ J), am_n (U.callTo_ J)]) M.1 (m_MO_same M hg a2.1 a2.2.1 (by omega) b2.1 b2.2.1 (by omega)) c_MO_154 rfl rfl d_MO_differ_73 ⟨by decide, Nat.le_of_ble_eq_true rfl⟩ ⟨by decide, by decide⟩ rfl rfl (fun rr h hp => ?_)
  obtain ⟨rfl, rfl⟩ := hp
  show am_Z X 76 [.ref m, am_n (pm_ld S.2 i), am_n (pm_ld S.2 j), am_n I, am_n J] [am_n (sp_i (sp_eq U.all_ (U.callFrom_ I) (U.callTo_ I) U.all_ (U.callFrom_ J) (U.callTo_ J)))] h 0 0
  rw [sp_eq_nm a2.2.1 b2.2.1, a4, b4]
  by_cases z2 : u.1.2.1 = w.1.2.1
  · rw [decide_eq_true z2]
    show am_Z X 76 [.ref m, am_n (pm_ld S.2 i), am_n (pm_ld S.2 j), am_n I, am_n J] [am_n 1] h 0 0
    refine ai_zne (tgt := 83) hB d_MO_differ_76 (by decide) (fun c2 => ?_) (fun c2 => ?_)
    · refine ai_const hB d_MO_differ_83 ?_
      refine am_iret hB hR d_MO_differ_84 rfl (by decide) ?_ (Nat.zero_le _) (Nat.zero_le _)
      rw [hpc, decide_eq_true z2.symm]
      exact ⟨rfl, rfl⟩
    · omega
  · rw [decide_eq_false z2]
    show am_Z X 76 [.ref m, am_n (pm_ld S.2 i), am_n (pm_ld S.2 j), am_n I, am_n J] [am_n 0] h 0 0
    refine ai_zne (tgt := 83) hB d_MO_differ_76 (by decide) (fun c2 => ?_) (fun c2 => ?_)
    · omega
    · exact yes (by rw [hpc, decide_eq_false (fun q => z2 q.symm)])
