/-! the model retraces a frame -/
theorem w_close_num {z : Int} (h : 0 ≤ z) : [58] ++ sp_num z ++ [41] ++ [10] = w_close z := by
  unfold w_close
  rw [if_neg (by omega)]
  have : sp_wd 12 = [41, 10] := rfl
  rw [this]
  simp
theorem m_MO_inlined {l : Launch} {G : am_G} {hA : am_H} {m : Nat} {U : mv} {xs : List Int} {dc ln : Int} {Sm : pm_S} {i : Nat} {x : pm_L} (S : mo_S hA m U xs dc) (hg : am_cok U.all_) (mp : mo_map U Sm) (ok : pm_ok Sm) (fn : pm_fn Sm) (hx : Sm.2[i]? = some x) (hl : x.2.2.2 = true) (hlo : x.2.1.1 ≠ -1) (h1 : x.2.1.1 ≤ ln) (h2 : ln ≤ x.2.1.2.1) : am_M l G M_MO_inlined [.ref m, am_n (pm_ld Sm.2 i), am_n ln] hA (mo_X hA m U (xs ++ (pf_grp Sm i).flatMap (w_one ln)) dc) := by
  have hi := am_lt hx
  have m4 := mp.2.2.2.1
  have ei := pf_end_le (S := Sm) hi
  have hgl := pf_grp_len (S := Sm) hi
  obtain ⟨o, s, v, M, q⟩ := id S
  refine am_M.of (by decide) (Nat.le_of_ble_eq_true rfl) (fun X hB hR => ?_)
  show am_Z X 0 [.ref m, am_n (pm_ld Sm.2 i), am_n ln, am_u] [] hA 0 0
  have loop : ∀ (d j : Nat) (ys : List Int) (h1 : am_H), i ≤ j → j + d = pf_end Sm i → xs ++ (pf_grp Sm i).flatMap (w_one ln) = ys ++ ((pf_grp Sm i).drop (j - i)).flatMap (w_one ln) → mo_S h1 m U ys dc → ko m 35 hA h1 → am_Z X 6 [.ref m, am_n (pm_ld Sm.2 i), am_n ln, am_n j] [] h1 0 0 := by
    intro d
    induction d with
    | zero =>
      intro j ys h1 j1 hd hs S f
      obtain ⟨o, s, v, M, q⟩ := id S
      refine am_iload_n hB d_MO_inlined_6 rfl rfl ?_
      refine am_aload_n hB d_MO_inlined_7 rfl rfl rfl ?_
      refine am_iload_n hB d_MO_inlined_8 rfl rfl ?_
      refine am_callV hB hR (as := [am_n (pm_ld Sm.2 i)]) M.1 (m_MO_lastOf M mp hx hl) c_MO_272 rfl rfl d_MO_inlined_9 ⟨by decide, Nat.le_of_ble_eq_true rfl⟩ ⟨by decide, by decide⟩ rfl rfl (fun rr h hp => ?_)
      obtain ⟨rfl, rfl⟩ := hp
      show am_Z X 12 [.ref m, am_n (pm_ld Sm.2 i), am_n ln, am_n j] [am_n ((pf_end Sm i : Int) - 1), am_n j] h1 0 0
      refine ai_jgt (tgt := 103) hB d_MO_inlined_12 (by decide) (fun c1 => ?_) (fun c1 => ?_)
      rotate_left
      · omega
      refine am_vret hB hR d_MO_inlined_103 rfl ?_ (Nat.zero_le _) (Nat.zero_le _)
      rw [List.drop_eq_nil_of_le (by omega)] at hs
      simp only [List.flatMap_nil, List.append_nil] at hs
      rw [hs]
      exact ⟨rfl, S, f⟩
    | succ d ih =>
      intro j ys h1 j1 hd hs S f
      have hjl : j - i < (pf_grp Sm i).length := by omega
      have hj : Sm.2[j]? = some (pf_grp Sm i)[j - i] := by
        have e1 := pf_grp_get (S := Sm) (a := i) (i := j - i) (by omega)
        rw [show i + (j - i) = j by omega] at e1
        rw [← e1]
        exact List.getElem?_eq_getElem hjl
      rw [List.drop_eq_getElem_cons hjl, List.flatMap_cons] at hs
      have hjm := am_lt hj
      have sm := pf_same ok hx (j - i) (y := (pf_grp Sm i)[j - i]) (by omega) (by rw [show i + (j - i) = j by omega]; exact hj)
      have lo := (ok j _ hj).1
      have fo := fn.2 j _ hj
      have mL := mp.2.2.2.2.2.2 j _ hj
      generalize (pf_grp Sm i)[j - i] = y at hj hs sm lo fo mL
      have mL0 := mL
      obtain ⟨⟨r1, r2, -⟩, ⟨n1, n2, -⟩, ⟨g1, g2, g3, g4⟩, -⟩ := mL
      rw [← n1] at fo
      obtain ⟨fp1, fp2⟩ := fn_pos fo
      obtain ⟨sm1, sm2, sm3, sm4⟩ := sm
      have lo := lo.resolve_left (fun z => hlo (by omega))
      obtain ⟨o, s, v, M, q⟩ := id S
      refine am_iload_n hB d_MO_inlined_6 rfl rfl ?_
      refine am_aload_n hB d_MO_inlined_7 rfl rfl rfl ?_
      refine am_iload_n hB d_MO_inlined_8 rfl rfl ?_
      refine am_callV hB hR (as := [am_n (pm_ld Sm.2 i)]) M.1 (m_MO_lastOf M mp hx hl) c_MO_272 rfl rfl d_MO_inlined_9 ⟨by decide, Nat.le_of_ble_eq_true rfl⟩ ⟨by decide, by decide⟩ rfl rfl (fun rr h hp => ?_)
      obtain ⟨rfl, rfl⟩ := hp
      show am_Z X 12 [.ref m, am_n (pm_ld Sm.2 i), am_n ln, am_n j] [am_n ((pf_end Sm i : Int) - 1), am_n j] h1 0 0
      refine ai_jgt (tgt := 103) hB d_MO_inlined_12 (by decide) (fun c1 => ?_) (fun c1 => ?_)
      · omega
      refine am_aload_n hB d_MO_inlined_15 rfl rfl rfl ?_
      refine am_iload_n hB d_MO_inlined_16 rfl rfl ?_
      refine am_callV hB hR (as := [am_n j]) M.1 (m_MO_emitCall S hg (by omega) mL0) c_MO_275 rfl rfl d_MO_inlined_17 ⟨by decide, Nat.le_of_ble_eq_true rfl⟩ ⟨by decide, by decide⟩ rfl rfl (fun rr h hp => ?_)
      obtain ⟨rfl, S, f1⟩ := hp
      obtain ⟨o, s, v, M, q⟩ := id S
      show am_Z X 20 [.ref m, am_n (pm_ld Sm.2 i), am_n ln, am_n j] [] h 0 0
      refine am_aload_n hB d_MO_inlined_20 rfl rfl rfl ?_
      refine am_aload_n hB d_MO_inlined_21 rfl rfl rfl ?_
      refine am_getf hB d_MO_inlined_22 F_MO_31_11 M.1 rfl ?_
      refine am_iload_n hB d_MO_inlined_25 rfl rfl ?_
      refine ai_iald hB d_MO_inlined_26 ty_1 M.ownFrom ?_
      refine am_aload_n hB d_MO_inlined_27 rfl rfl rfl ?_
      refine am_getf hB d_MO_inlined_28 F_MO_34_11 M.1 rfl ?_
      refine am_iload_n hB d_MO_inlined_31 rfl rfl ?_
      refine ai_iald hB d_MO_inlined_32 ty_1 M.ownTo ?_
      show am_Z X 33 [.ref m, am_n (pm_ld Sm.2 i), am_n ln, am_n j] [am_n (U.ownTo_ j), am_n (U.ownFrom_ j), .ref m] h 0 0
      refine am_callV hB hR (as := [am_n (U.ownFrom_ j), am_n (U.ownTo_ j)]) M.1 (m_MO_emitFile S hg (by omega) fp1 (by omega) fp2) c_MO_278 rfl rfl d_MO_inlined_33 ⟨by decide, Nat.le_of_ble_eq_true rfl⟩ ⟨by decide, by decide⟩ rfl rfl (fun rr h hp => ?_)
      obtain ⟨rfl, S, f2⟩ := hp
      rw [sp_file_nm (by omega) (by omega), n1] at S
      obtain ⟨o, s, v, M, q⟩ := id S
      show am_Z X 36 [.ref m, am_n (pm_ld Sm.2 i), am_n ln, am_n j] [] h 0 0
      refine am_aload_n hB d_MO_inlined_36 rfl rfl rfl ?_
      refine ai_bipush hB d_MO_inlined_37 (by decide) ?_
      refine am_callV hB hR (as := [am_n 58]) M.1 (m_MO_emit S (by omega) (by omega)) c_MO_251 rfl rfl d_MO_inlined_39 ⟨by decide, Nat.le_of_ble_eq_true rfl⟩ ⟨by decide, by decide⟩ rfl rfl (fun rr h hp => ?_)
      obtain ⟨rfl, S, f3⟩ := hp
      obtain ⟨o, s, v, M, q⟩ := id S
      show am_Z X 42 [.ref m, am_n (pm_ld Sm.2 i), am_n ln, am_n j] [] h 0 0
      have fin : ∀ z : Int, z = y.2.1.2.2.1 + (if y.2.1.2.2.1 = y.2.1.2.2.2 then 0 else ln - y.2.1.1) → 0 ≤ z → z < 10000 → am_Z X 82 [.ref m, am_n (pm_ld Sm.2 i), am_n ln, am_n j] [am_n z, .ref m] h 0 0 := by
        intro z hz z0 z1
        refine am_callV hB hR (as := [am_n z]) M.1 (m_MO_emitNumber S z0 z1) c_MO_281 rfl rfl d_MO_inlined_82 ⟨by decide, Nat.le_of_ble_eq_true rfl⟩ ⟨by decide, by decide⟩ rfl rfl (fun rr h hp => ?_)
        obtain ⟨rfl, S, f4⟩ := hp
        obtain ⟨o, s, v, M, q⟩ := id S
        show am_Z X 85 [.ref m, am_n (pm_ld Sm.2 i), am_n ln, am_n j] [] h 0 0
        refine am_aload_n hB d_MO_inlined_85 rfl rfl rfl ?_
        refine ai_bipush hB d_MO_inlined_86 (by decide) ?_
        refine am_callV hB hR (as := [am_n 41]) M.1 (m_MO_emit S (by omega) (by omega)) c_MO_251 rfl rfl d_MO_inlined_88 ⟨by decide, Nat.le_of_ble_eq_true rfl⟩ ⟨by decide, by decide⟩ rfl rfl (fun rr h hp => ?_)
        obtain ⟨rfl, S, f5⟩ := hp
        obtain ⟨o, s, v, M, q⟩ := id S
        show am_Z X 91 [.ref m, am_n (pm_ld Sm.2 i), am_n ln, am_n j] [] h 0 0
        refine am_aload_n hB d_MO_inlined_91 rfl rfl rfl ?_
        refine ai_bipush hB d_MO_inlined_92 (by decide) ?_
        refine am_callV hB hR (as := [am_n 10]) M.1 (m_MO_emit S (by omega) (by omega)) c_MO_251 rfl rfl d_MO_inlined_94 ⟨by decide, Nat.le_of_ble_eq_true rfl⟩ ⟨by decide, by decide⟩ rfl rfl (fun rr h hp => ?_)
        obtain ⟨rfl, S, f6⟩ := hp
        show am_Z X 97 [.ref m, am_n (pm_ld Sm.2 i), am_n ln, am_n j] [] h 0 0
        refine ai_inc hB d_MO_inlined_97 rfl (by rw [hR.nL]; decide) rfl ?_
        refine am_goto (tgt := 6) hB d_MO_inlined_100 (by decide) (ih (j + 1) (ys ++ w_one ln y) h (by omega) (by omega) (by rw [hs, show j + 1 - i = j - i + 1 by omega, List.append_assoc]) ?_ ((((((f.tr f1).tr f2).tr f3).tr f4).tr f5).tr f6))
        unfold w_one
        rw [← hz, ← w_close_num z0]
        simp only [List.append_assoc] at S ⊢
        exact S
      refine am_aload_n hB d_MO_inlined_42 rfl rfl rfl ?_
      refine am_aload_n hB d_MO_inlined_43 rfl rfl rfl ?_
      refine am_getf hB d_MO_inlined_44 F_MO_58_11 M.1 rfl ?_
      refine am_iload_n hB d_MO_inlined_47 rfl rfl ?_
      refine ai_iald hB d_MO_inlined_48 ty_1 M.last ?_
      refine am_aload_n hB d_MO_inlined_49 rfl rfl rfl ?_
      refine am_getf hB d_MO_inlined_50 F_MO_55_11 M.1 rfl ?_
      refine am_iload_n hB d_MO_inlined_53 rfl rfl ?_
      refine ai_iald hB d_MO_inlined_54 ty_1 M.first ?_
      show am_Z X 55 [.ref m, am_n (pm_ld Sm.2 i), am_n ln, am_n j] [am_n (U.first_ j), am_n (U.last_ j), .ref m] h 0 0
      rw [g3, g4]
      refine ai_jne (tgt := 67) hB d_MO_inlined_55 (by decide) (fun c2 => ?_) (fun c2 => ?_)
      · refine am_aload_n hB d_MO_inlined_67 rfl rfl rfl ?_
        refine am_getf hB d_MO_inlined_68 F_MO_55_11 M.1 rfl ?_
        refine am_iload_n hB d_MO_inlined_71 rfl rfl ?_
        refine ai_iald hB d_MO_inlined_72 ty_1 M.first ?_
        refine am_iload_n hB d_MO_inlined_73 rfl rfl ?_
        refine ai_add hB d_MO_inlined_74 ?_
        refine am_aload_n hB d_MO_inlined_75 rfl rfl rfl ?_
        refine am_getf hB d_MO_inlined_76 F_MO_49_11 M.1 rfl ?_
        refine am_iload_n hB d_MO_inlined_79 rfl rfl ?_
        refine ai_iald hB d_MO_inlined_80 ty_1 M.low ?_
        refine ai_sub hB d_MO_inlined_81 ?_
        show am_Z X 82 [.ref m, am_n (pm_ld Sm.2 i), am_n ln, am_n j] [am_n (U.first_ j + ln - U.low_ j), .ref m] h 0 0
        rw [g3, g1]
        exact fin _ (by rw [if_neg (by omega)]; omega) (by omega) (by omega)
      · refine am_aload_n hB d_MO_inlined_58 rfl rfl rfl ?_
        refine am_getf hB d_MO_inlined_59 F_MO_55_11 M.1 rfl ?_
        refine am_iload_n hB d_MO_inlined_62 rfl rfl ?_
        refine ai_iald hB d_MO_inlined_63 ty_1 M.first ?_
        refine am_goto (tgt := 82) hB d_MO_inlined_64 (by decide) ?_
        show am_Z X 82 [.ref m, am_n (pm_ld Sm.2 i), am_n ln, am_n j] [am_n (U.first_ j), .ref m] h 0 0
        rw [g3]
        exact fin _ (by rw [if_pos (by omega)]; omega) (by omega) (by omega)
  refine am_aload_n hB d_MO_inlined_0 rfl rfl rfl ?_
  refine am_iload_n hB d_MO_inlined_1 rfl rfl ?_
  refine am_callV hB hR (as := [am_n (pm_ld Sm.2 i)]) M.1 (m_MO_lineOf M mp hx hl) c_MO_269 rfl rfl d_MO_inlined_2 ⟨by decide, Nat.le_of_ble_eq_true rfl⟩ ⟨by decide, by decide⟩ rfl rfl (fun rr h hp => ?_)
  obtain ⟨rfl, rfl⟩ := hp
  show am_Z X 5 [.ref m, am_n (pm_ld Sm.2 i), am_n ln, am_u] [am_n i] hA 0 0
  refine am_istore_n hB d_MO_inlined_5 rfl (by rw [hR.nL]; decide) rfl ?_
  exact loop (pf_end Sm i - i) i xs hA (Nat.le_refl i) (by omega) (by rw [Nat.sub_self]; rfl) S ko.rf
