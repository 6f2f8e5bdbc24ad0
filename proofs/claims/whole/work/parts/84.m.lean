/-! the model retraces a frame: the loop over groups -/
theorem sp_fd_at {P : Nat → Bool} {i i' len : Nat} (h1 : i ≤ i') (h2 : i' < len) (hno : ∀ j, i ≤ j → j < i' → P j = false) : sp_fd P i (len - i) = if P i' = true then some i' else sp_fd P (i' + 1) (len - (i' + 1)) := by
  have := sp_fd_skip (P := P) (len - i') (i' - i) i (fun j a b => hno j a (by omega))
  rw [show i' - i + (len - i') = len - i by omega, show i + (i' - i) = i' by omega] at this
  rw [this, show len - i' = (len - (i' + 1)) + 1 by omega, sp_fd]
theorem sp_fd_nil {P : Nat → Bool} {i len : Nat} (hno : ∀ j, i ≤ j → j < len → P j = false) : sp_fd P i (len - i) = none := (sp_fd_none _ _).mpr (fun j a b => hno j a (by omega))
/-- what the loop over groups knows: the first group that fits, whether a later one is unlike -/
def rf_lk (S : pm_S) (p : Nat) (n : List Int) (i : Nat) (sm : Int) (b : Bool) : Prop := (sm = -1 ∧ b = false ∧ pf_first S p n = sp_fd (pf_is S p n) i (S.2.length - i)) ∨ ∃ (q : Nat) (x : pm_L), S.2[q]? = some x ∧ x.2.2.2 = true ∧ q < i ∧ pf_first S p n = some q ∧ sm = (pm_ld S.2 q : Nat) ∧ (pf_unlike S p n (pm_ln S (pf_end S q - 1)).1.1 (pm_ln S (pf_end S q - 1)).1.2.1).isSome = (b || (sp_fd (fun i => pf_is S p n i && !pf_call S (pf_end S i - 1) (pm_ln S (pf_end S q - 1)).1.1 (pm_ln S (pf_end S q - 1)).1.2.1) i (S.2.length - i)).isSome)
theorem pf_no {S : pm_S} {p j : Nat} {n : List Int} {y : pm_L} (hy : S.2[j]? = some y) (h : y.2.2.2 = false) : pf_is S p n j = false := by
  unfold pf_is
  rw [hy]
  simp only [h, Bool.false_and, Bool.and_false]
theorem pf_call_self {S : pm_S} {i : Nat} (h : i < S.2.length) : pf_call S (pf_end S i - 1) (pm_ln S (pf_end S i - 1)).1.1 (pm_ln S (pf_end S i - 1)).1.2.1 = true := by
  have ei := pf_end_le (S := S) h
  have hu := List.getElem?_eq_getElem (show pf_end S i - 1 < S.2.length by omega)
  unfold pf_call
  rw [pm_ln_eq hu, hu]
  simp
theorem m_MO_retraceFrame {l : Launch} {G : am_G} {hA : am_H} {m : Nat} {U : mv} {xs : List Int} {dc : Int} {Sm : pm_S} {k : Nat} {FF : pt_F} (S : mo_S hA m U xs dc) (hg : am_cok U.all_) (mp : mo_map U Sm) (ok : pm_ok Sm) (fn : pm_fn Sm) (hk : k < 32) (lf : mo_ln U k (.inr (.inl FF))) : am_M l G M_MO_retraceFrame [.ref m, am_n k] hA (mo_X hA m U (xs ++ r_txt Sm FF) (dc + r_dc Sm FF)) := by
  have lf0 := lf
  obtain ⟨-, rg, t0, t1, t2, t3, t4, t5, t6⟩ := lf
  have m1 := mp.1
  have m2 := mp.2.1
  have m4 := mp.2.2.2.1
  have m5 := mp.2.2.2.2.1
  have hbig : pm_ld Sm.2 Sm.2.length ≤ 32 := by
    have : pm_ld Sm.2 Sm.2.length ≤ Sm.2.length := by
      unfold pm_ld
      exact Nat.le_trans (List.length_filter_le _ _) (by rw [List.length_take]; omega)
    omega
  have w5 : wbs 157381664 4 = sp_wd 5 := by decide
  obtain ⟨o, s, v, M, q⟩ := id S
  refine am_M.of (by decide) (Nat.le_of_ble_eq_true rfl) (fun X hB hR => ?_)
  show am_Z X 0 [.ref m, am_n k, am_u, am_u, am_u, am_u, am_u, am_u] [] hA 0 0
  refine am_aload_n hB d_MO_retraceFrame_0 rfl rfl rfl ?_
  refine am_aload_n hB d_MO_retraceFrame_1 rfl rfl rfl ?_
  refine am_getf hB d_MO_retraceFrame_2 F_MO_76_11 M.1 rfl ?_
  refine am_iload_n hB d_MO_retraceFrame_5 rfl rfl ?_
  refine ai_iald hB d_MO_retraceFrame_6 ty_1 M.nameFrom ?_
  refine am_aload_n hB d_MO_retraceFrame_7 rfl rfl rfl ?_
  refine am_getf hB d_MO_retraceFrame_8 F_MO_82_11 M.1 rfl ?_
  refine am_iload_n hB d_MO_retraceFrame_11 rfl rfl ?_
  refine ai_iald hB d_MO_retraceFrame_12 ty_1 M.methodFrom ?_
  refine ai_const hB d_MO_retraceFrame_13 ?_
  refine ai_sub hB d_MO_retraceFrame_14 ?_
  refine ai_const hB d_MO_retraceFrame_15 ?_
  show am_Z X 16 [.ref m, am_n k, am_u, am_u, am_u, am_u, am_u, am_u] [am_n 0, am_n (U.methodFrom_ k - 1), am_n (U.nameFrom_ k), .ref m] hA 0 0
  refine am_callV hB hR (as := [am_n (U.nameFrom_ k), am_n (U.methodFrom_ k - 1), am_n (sp_i false)]) M.1 (m_MO_classLineOf M hg mp (by omega) (by omega) (by omega)) c_MO_284 rfl rfl d_MO_retraceFrame_16 ⟨by decide, Nat.le_of_ble_eq_true rfl⟩ ⟨by decide, by decide⟩ rfl rfl (fun rr h hp => ?_)
  obtain ⟨rfl, rfl⟩ := hp
  show am_Z X 19 [.ref m, am_n k, am_u, am_u, am_u, am_u, am_u, am_u] [am_n (sp_oi (pc_brief Sm (nm U.all_ (U.nameFrom_ k) (U.methodFrom_ k - 1))))] hA 0 0
  rw [t1]
  cases ep : pc_brief Sm FF.1.1 with
  | none =>
    have er : r_txt Sm FF = w_same FF := by unfold r_txt; rw [ep]
    have ed : r_dc Sm FF = 0 := by unfold r_dc; rw [ep]
    show am_Z X 19 [.ref m, am_n k, am_u, am_u, am_u, am_u, am_u, am_u] [am_n (-1)] hA 0 0
    refine am_istore_n hB d_MO_retraceFrame_19 rfl (by rw [hR.nL]; decide) rfl ?_
    refine am_iload_n hB d_MO_retraceFrame_20 rfl rfl ?_
    refine ai_zge (tgt := 47) hB d_MO_retraceFrame_21 (by decide) (fun c1 => ?_) (fun c1 => ?_)
    · omega
    refine am_aload_n hB d_MO_retraceFrame_24 rfl rfl rfl ?_
    refine am_aload_n hB d_MO_retraceFrame_25 rfl rfl rfl ?_
    refine am_getf hB d_MO_retraceFrame_26 F_MO_70_11 M.1 rfl ?_
    refine am_iload_n hB d_MO_retraceFrame_29 rfl rfl ?_
    refine ai_iald hB d_MO_retraceFrame_30 ty_1 M.lineFrom ?_
    refine am_aload_n hB d_MO_retraceFrame_31 rfl rfl rfl ?_
    refine am_getf hB d_MO_retraceFrame_32 F_MO_73_11 M.1 rfl ?_
    refine am_iload_n hB d_MO_retraceFrame_35 rfl rfl ?_
    refine ai_iald hB d_MO_retraceFrame_36 ty_1 M.lineTo ?_
    show am_Z X 37 [.ref m, am_n k, am_n (-1), am_u, am_u, am_u, am_u, am_u] [am_n (U.lineTo_ k), am_n (U.lineFrom_ k), .ref m] hA 0 0
    refine am_callV hB hR (as := [am_n (U.lineFrom_ k), am_n (U.lineTo_ k)]) M.1 (m_MO_emitText S hg (by omega) (by omega) (by omega)) c_MO_255 rfl rfl d_MO_retraceFrame_37 ⟨by decide, Nat.le_of_ble_eq_true rfl⟩ ⟨by decide, by decide⟩ rfl rfl (fun rr h hp => ?_)
    obtain ⟨rfl, S, f1⟩ := hp
    obtain ⟨o, s, v, M, q⟩ := id S
    show am_Z X 40 [.ref m, am_n k, am_n (-1), am_u, am_u, am_u, am_u, am_u] [] h 0 0
    refine am_aload_n hB d_MO_retraceFrame_40 rfl rfl rfl ?_
    refine ai_bipush hB d_MO_retraceFrame_41 (by decide) ?_
    refine am_callV hB hR (as := [am_n 10]) M.1 (m_MO_emit S (by omega) (by omega)) c_MO_251 rfl rfl d_MO_retraceFrame_43 ⟨by decide, Nat.le_of_ble_eq_true rfl⟩ ⟨by decide, by decide⟩ rfl rfl (fun rr h hp => ?_)
    obtain ⟨rfl, S, f2⟩ := hp
    show am_Z X 46 [.ref m, am_n k, am_n (-1), am_u, am_u, am_u, am_u, am_u] [] h 0 0
    refine am_vret hB hR d_MO_retraceFrame_46 rfl ?_ (Nat.zero_le _) (Nat.zero_le _)
    rw [er, ed, Int.add_zero, ← t0, ← List.append_assoc]
    exact ⟨rfl, S, f1.tr f2⟩
  | some p =>
    have hp := sp_fd_lt _ _ ep
    have hpl : p < Sm.1.length := by omega
    have hc := List.getElem?_eq_getElem hpl
    generalize Sm.1[p]'hpl = C at hc
    have fc := fn.1 p C hc
    obtain ⟨cr1, cr2, cr3, cr4⟩ := mp.2.2.2.2.2.1 p C hc
    have hcl : pm_cl Sm p = C := pm_cl_eq hc
    show am_Z X 19 [.ref m, am_n k, am_u, am_u, am_u, am_u, am_u, am_u] [am_n p] hA 0 0
    have wr : ∀ (mm sm bb gg a b ca cb : Int) (on mn : List Int) (dc' : Int) (v6 v7 : Value) (h1 : am_H), mo_S h1 m U xs dc' → ko m 35 hA h1 → (0 ≤ a ∧ b ≤ 600) → fn_ok (nm U.all_ a b) → nm U.all_ a b = on → (0 ≤ ca ∧ ca ≤ cb ∧ cb ≤ 1200) → nm U.all_ ca cb = mn → r_txt Sm FF = w_real on mn FF → dc' = dc + r_dc Sm FF → ((mm = -1 ∧ a = U.realFrom_ p ∧ b = U.realTo_ p ∧ ca = U.methodFrom_ k ∧ cb = U.nameTo_ k) ∨ (0 ≤ mm ∧ mm < 32 ∧ a = U.ownFrom_ mm ∧ b = U.ownTo_ mm ∧ ca = U.callFrom_ mm ∧ cb = U.callTo_ mm)) → am_Z X 225 [.ref m, am_n k, am_n p, am_n sm, am_n bb, am_n gg, v6, v7] [am_n mm] h1 0 0 := by
      intro mm sm bb gg a b ca cb on mn dc' v6 v7 h1 S f hab hfn hon hcab hmn htx hdc hmm
      obtain ⟨fp1, fp2⟩ := fn_pos hfn
      obtain ⟨o, s, v, M, q⟩ := id S
      have j273 : am_Z X 273 [.ref m, am_n k, am_n p, am_n sm, am_n bb, am_n mm, am_n a, am_n b] [] h1 0 0 := by
        refine am_aload_n hB d_MO_retraceFrame_273 rfl rfl rfl ?_
        refine am_ldc2 hB d_MO_retraceFrame_274 J_MO_223 ?_
        refine ai_const hB d_MO_retraceFrame_277 ?_
        refine am_callV hB hR (as := [.long 157381664, am_n (4 : Nat)]) M.1 (m_MO_emitWord S (by omega)) c_MO_261 rfl rfl d_MO_retraceFrame_278 ⟨by decide, Nat.le_of_ble_eq_true rfl⟩ ⟨by decide, by decide⟩ rfl rfl (fun rr h hp => ?_)
        obtain ⟨rfl, S, f1⟩ := hp
        have f := f.tr f1
        obtain ⟨o, s, v, M, q⟩ := id S
        show am_Z X 281 [.ref m, am_n k, am_n p, am_n sm, am_n bb, am_n mm, am_n a, am_n b] [] h 0 0
        refine am_aload_n hB d_MO_retraceFrame_281 rfl rfl rfl ?_
        refine am_iload hB d_MO_retraceFrame_282 rfl ?_
        refine am_iload hB d_MO_retraceFrame_284 rfl ?_
        refine am_callV hB hR (as := [am_n a, am_n b]) M.1 (m_MO_emitText S hg (by omega) (by omega) (by omega)) c_MO_255 rfl rfl d_MO_retraceFrame_286 ⟨by decide, Nat.le_of_ble_eq_true rfl⟩ ⟨by decide, by decide⟩ rfl rfl (fun rr h hp => ?_)
        obtain ⟨rfl, S, f2⟩ := hp
        have f := f.tr f2
        obtain ⟨o, s, v, M, q⟩ := id S
        show am_Z X 289 [.ref m, am_n k, am_n p, am_n sm, am_n bb, am_n mm, am_n a, am_n b] [] h 0 0
        refine am_aload_n hB d_MO_retraceFrame_289 rfl rfl rfl ?_
        refine ai_bipush hB d_MO_retraceFrame_290 (by decide) ?_
        refine am_callV hB hR (as := [am_n 46]) M.1 (m_MO_emit S (by omega) (by omega)) c_MO_251 rfl rfl d_MO_retraceFrame_292 ⟨by decide, Nat.le_of_ble_eq_true rfl⟩ ⟨by decide, by decide⟩ rfl rfl (fun rr h hp => ?_)
        obtain ⟨rfl, S, f3⟩ := hp
        have f := f.tr f3
        obtain ⟨o, s, v, M, q⟩ := id S
        show am_Z X 295 [.ref m, am_n k, am_n p, am_n sm, am_n bb, am_n mm, am_n a, am_n b] [] h 0 0
        have j338 : am_Z X 338 [.ref m, am_n k, am_n p, am_n sm, am_n bb, am_n mm, am_n a, am_n b] [am_n cb, am_n ca, .ref m] h 0 0 := by
          refine am_callV hB hR (as := [am_n ca, am_n cb]) M.1 (m_MO_emitText S hg (by omega) (by omega) (by omega)) c_MO_255 rfl rfl d_MO_retraceFrame_338 ⟨by decide, Nat.le_of_ble_eq_true rfl⟩ ⟨by decide, by decide⟩ rfl rfl (fun rr h hp => ?_)
          obtain ⟨rfl, S, f4⟩ := hp
          have f := f.tr f4
          obtain ⟨o, s, v, M, q⟩ := id S
          show am_Z X 341 [.ref m, am_n k, am_n p, am_n sm, am_n bb, am_n mm, am_n a, am_n b] [] h 0 0
          refine am_aload_n hB d_MO_retraceFrame_341 rfl rfl rfl ?_
          refine ai_bipush hB d_MO_retraceFrame_342 (by decide) ?_
          refine am_callV hB hR (as := [am_n 40]) M.1 (m_MO_emit S (by omega) (by omega)) c_MO_251 rfl rfl d_MO_retraceFrame_344 ⟨by decide, Nat.le_of_ble_eq_true rfl⟩ ⟨by decide, by decide⟩ rfl rfl (fun rr h hp => ?_)
          obtain ⟨rfl, S, f5⟩ := hp
          have f := f.tr f5
          obtain ⟨o, s, v, M, q⟩ := id S
          rw [w5, hon, hmn] at S
          show am_Z X 347 [.ref m, am_n k, am_n p, am_n sm, am_n bb, am_n mm, am_n a, am_n b] [] h 0 0
          refine am_aload_n hB d_MO_retraceFrame_347 rfl rfl rfl ?_
          refine am_iload_n hB d_MO_retraceFrame_348 rfl rfl ?_
          refine am_callV hB hR (as := [am_n k]) M.1 (m_MO_hasFile M hk lf0) c_MO_301 rfl rfl d_MO_retraceFrame_349 ⟨by decide, Nat.le_of_ble_eq_true rfl⟩ ⟨by decide, by decide⟩ rfl rfl (fun rr h hp => ?_)
          obtain ⟨rfl, rfl⟩ := hp
          show am_Z X 352 [.ref m, am_n k, am_n p, am_n sm, am_n bb, am_n mm, am_n a, am_n b] [am_n (sp_i FF.2.1)] h 0 0
          have fin : ∀ (ys : List Int) (h1 : am_H), mo_S h1 m U ys dc' → ko m 35 hA h1 → xs ++ r_txt Sm FF = ys ++ ((if FF.2.1 = true then [] else FF.1.2.2) ++ w_close FF.2.2) → am_Z X 363 [.ref m, am_n k, am_n p, am_n sm, am_n bb, am_n mm, am_n a, am_n b] [] h1 0 0 := by
            intro ys h1 S f hs
            obtain ⟨o, s, v, M, q⟩ := id S
            refine am_aload_n hB d_MO_retraceFrame_363 rfl rfl rfl ?_
            refine am_iload_n hB d_MO_retraceFrame_364 rfl rfl ?_
            refine am_callV hB hR (as := [am_n k]) M.1 (m_MO_emitTail S hg hk lf0) c_MO_304 rfl rfl d_MO_retraceFrame_365 ⟨by decide, Nat.le_of_ble_eq_true rfl⟩ ⟨by decide, by decide⟩ rfl rfl (fun rr h hp => ?_)
            obtain ⟨rfl, S, f6⟩ := hp
            show am_Z X 368 [.ref m, am_n k, am_n p, am_n sm, am_n bb, am_n mm, am_n a, am_n b] [] h 0 0
            refine am_vret hB hR d_MO_retraceFrame_368 rfl ?_ (Nat.zero_le _) (Nat.zero_le _)
            rw [hs, ← hdc]
            exact ⟨rfl, S, f.tr f6⟩
          cases hf : FF.2.1 with
          | false =>
            show am_Z X 352 [.ref m, am_n k, am_n p, am_n sm, am_n bb, am_n mm, am_n a, am_n b] [am_n 0] h 0 0
            refine ai_zeq (tgt := 363) hB d_MO_retraceFrame_352 (by decide) (fun c9 => ?_) (fun c9 => ?_)
            · refine fin _ h S f ?_
              rw [htx]
              unfold w_real w_open
              rw [hf]
              simp
            · omega
          | true =>
            show am_Z X 352 [.ref m, am_n k, am_n p, am_n sm, am_n bb, am_n mm, am_n a, am_n b] [am_n 1] h 0 0
            refine ai_zeq (tgt := 363) hB d_MO_retraceFrame_352 (by decide) (fun c9 => ?_) (fun c9 => ?_)
            · omega
            refine am_aload_n hB d_MO_retraceFrame_355 rfl rfl rfl ?_
            refine am_iload hB d_MO_retraceFrame_356 rfl ?_
            refine am_iload hB d_MO_retraceFrame_358 rfl ?_
            refine am_callV hB hR (as := [am_n a, am_n b]) M.1 (m_MO_emitFile S hg (by omega) fp1 (by omega) fp2) c_MO_278 rfl rfl d_MO_retraceFrame_360 ⟨by decide, Nat.le_of_ble_eq_true rfl⟩ ⟨by decide, by decide⟩ rfl rfl (fun rr h hp => ?_)
            obtain ⟨rfl, S, f7⟩ := hp
            rw [sp_file_nm (by omega) (by omega), hon] at S
            show am_Z X 363 [.ref m, am_n k, am_n p, am_n sm, am_n bb, am_n mm, am_n a, am_n b] [] h 0 0
            refine fin _ h S (f.tr f7) ?_
            rw [htx]
            unfold w_real w_open
            rw [hf]
            simp
        rcases hmm with ⟨hm1, ha, hb, hca, hcb⟩ | ⟨hm1, hm2, ha, hb, hca, hcb⟩
        · refine am_aload_n hB d_MO_retraceFrame_295 rfl rfl rfl ?_
          refine am_iload hB d_MO_retraceFrame_296 rfl ?_
          refine ai_zge (tgt := 310) hB d_MO_retraceFrame_298 (by decide) (fun d1 => ?_) (fun d1 => ?_)
          · omega
          refine am_aload_n hB d_MO_retraceFrame_301 rfl rfl rfl ?_
          refine am_getf hB d_MO_retraceFrame_302 F_MO_82_11 M.1 rfl ?_
          refine am_iload_n hB d_MO_retraceFrame_305 rfl rfl ?_
          refine ai_iald hB d_MO_retraceFrame_306 ty_1 M.methodFrom ?_
          refine am_goto (tgt := 317) hB d_MO_retraceFrame_307 (by decide) ?_
          refine am_iload hB d_MO_retraceFrame_317 rfl ?_
          show am_Z X 319 [.ref m, am_n k, am_n p, am_n sm, am_n bb, am_n mm, am_n a, am_n b] [am_n mm, am_n (U.methodFrom_ k), .ref m] h 0 0
          refine ai_zge (tgt := 331) hB d_MO_retraceFrame_319 (by decide) (fun d2 => ?_) (fun d2 => ?_)
          · omega
          refine am_aload_n hB d_MO_retraceFrame_322 rfl rfl rfl ?_
          refine am_getf hB d_MO_retraceFrame_323 F_MO_79_11 M.1 rfl ?_
          refine am_iload_n hB d_MO_retraceFrame_326 rfl rfl ?_
          refine ai_iald hB d_MO_retraceFrame_327 ty_1 M.nameTo ?_
          refine am_goto (tgt := 338) hB d_MO_retraceFrame_328 (by decide) ?_
          show am_Z X 338 [.ref m, am_n k, am_n p, am_n sm, am_n bb, am_n mm, am_n a, am_n b] [am_n (U.nameTo_ k), am_n (U.methodFrom_ k), .ref m] h 0 0
          rw [← hca, ← hcb]
          exact j338
        · refine am_aload_n hB d_MO_retraceFrame_295 rfl rfl rfl ?_
          refine am_iload hB d_MO_retraceFrame_296 rfl ?_
          refine ai_zge (tgt := 310) hB d_MO_retraceFrame_298 (by decide) (fun d1 => ?_) (fun d1 => ?_)
          rotate_left
          · omega
          refine am_aload_n hB d_MO_retraceFrame_310 rfl rfl rfl ?_
          refine am_getf hB d_MO_retraceFrame_311 F_MO_37_11 M.1 rfl ?_
          refine am_iload hB d_MO_retraceFrame_314 rfl ?_
          refine ai_iald hB d_MO_retraceFrame_316 ty_1 M.callFrom ?_
          refine am_iload hB d_MO_retraceFrame_317 rfl ?_
          show am_Z X 319 [.ref m, am_n k, am_n p, am_n sm, am_n bb, am_n mm, am_n a, am_n b] [am_n mm, am_n (U.callFrom_ mm), .ref m] h 0 0
          refine ai_zge (tgt := 331) hB d_MO_retraceFrame_319 (by decide) (fun d2 => ?_) (fun d2 => ?_)
          rotate_left
          · omega
          refine am_aload_n hB d_MO_retraceFrame_331 rfl rfl rfl ?_
          refine am_getf hB d_MO_retraceFrame_332 F_MO_40_11 M.1 rfl ?_
          refine am_iload hB d_MO_retraceFrame_335 rfl ?_
          refine ai_iald hB d_MO_retraceFrame_337 ty_1 M.callTo ?_
          show am_Z X 338 [.ref m, am_n k, am_n p, am_n sm, am_n bb, am_n mm, am_n a, am_n b] [am_n (U.callTo_ mm), am_n (U.callFrom_ mm), .ref m] h 0 0
          rw [← hca, ← hcb]
          exact j338
      rcases hmm with ⟨hm1, ha, hb, hca, hcb⟩ | ⟨hm1, hm2, ha, hb, hca, hcb⟩
      · refine am_istore hB d_MO_retraceFrame_225 (by rw [hR.nL]; decide) rfl ?_
        refine am_iload hB d_MO_retraceFrame_227 rfl ?_
        refine ai_zge (tgt := 241) hB d_MO_retraceFrame_229 (by decide) (fun d1 => ?_) (fun d1 => ?_)
        · omega
        refine am_aload_n hB d_MO_retraceFrame_232 rfl rfl rfl ?_
        refine am_getf hB d_MO_retraceFrame_233 F_MO_19_11 M.1 rfl ?_
        refine am_iload_n hB d_MO_retraceFrame_236 rfl rfl ?_
        refine ai_iald hB d_MO_retraceFrame_237 ty_1 M.realFrom ?_
        refine am_goto (tgt := 248) hB d_MO_retraceFrame_238 (by decide) ?_
        refine am_istore hB d_MO_retraceFrame_248 (by rw [hR.nL]; decide) rfl ?_
        refine am_iload hB d_MO_retraceFrame_250 rfl ?_
        show am_Z X 252 [.ref m, am_n k, am_n p, am_n sm, am_n bb, am_n mm, am_n (U.realFrom_ p), v7] [am_n mm] h1 0 0
        refine ai_zge (tgt := 264) hB d_MO_retraceFrame_252 (by decide) (fun d2 => ?_) (fun d2 => ?_)
        · omega
        refine am_aload_n hB d_MO_retraceFrame_255 rfl rfl rfl ?_
        refine am_getf hB d_MO_retraceFrame_256 F_MO_22_11 M.1 rfl ?_
        refine am_iload_n hB d_MO_retraceFrame_259 rfl rfl ?_
        refine ai_iald hB d_MO_retraceFrame_260 ty_1 M.realTo ?_
        refine am_goto (tgt := 271) hB d_MO_retraceFrame_261 (by decide) ?_
        refine am_istore hB d_MO_retraceFrame_271 (by rw [hR.nL]; decide) rfl ?_
        show am_Z X 273 [.ref m, am_n k, am_n p, am_n sm, am_n bb, am_n mm, am_n (U.realFrom_ p), am_n (U.realTo_ p)] [] h1 0 0
        rw [← ha, ← hb]
        exact j273
      · refine am_istore hB d_MO_retraceFrame_225 (by rw [hR.nL]; decide) rfl ?_
        refine am_iload hB d_MO_retraceFrame_227 rfl ?_
        refine ai_zge (tgt := 241) hB d_MO_retraceFrame_229 (by decide) (fun d1 => ?_) (fun d1 => ?_)
        rotate_left
        · omega
        refine am_aload_n hB d_MO_retraceFrame_241 rfl rfl rfl ?_
        refine am_getf hB d_MO_retraceFrame_242 F_MO_31_11 M.1 rfl ?_
        refine am_iload hB d_MO_retraceFrame_245 rfl ?_
        refine ai_iald hB d_MO_retraceFrame_247 ty_1 M.ownFrom ?_
        refine am_istore hB d_MO_retraceFrame_248 (by rw [hR.nL]; decide) rfl ?_
        refine am_iload hB d_MO_retraceFrame_250 rfl ?_
        show am_Z X 252 [.ref m, am_n k, am_n p, am_n sm, am_n bb, am_n mm, am_n (U.ownFrom_ mm), v7] [am_n mm] h1 0 0
        refine ai_zge (tgt := 264) hB d_MO_retraceFrame_252 (by decide) (fun d2 => ?_) (fun d2 => ?_)
        rotate_left
        · omega
        refine am_aload_n hB d_MO_retraceFrame_264 rfl rfl rfl ?_
        refine am_getf hB d_MO_retraceFrame_265 F_MO_34_11 M.1 rfl ?_
        refine am_iload hB d_MO_retraceFrame_268 rfl ?_
        refine ai_iald hB d_MO_retraceFrame_270 ty_1 M.ownTo ?_
        refine am_istore hB d_MO_retraceFrame_271 (by rw [hR.nL]; decide) rfl ?_
        show am_Z X 273 [.ref m, am_n k, am_n p, am_n sm, am_n bb, am_n mm, am_n (U.ownFrom_ mm), am_n (U.ownTo_ mm)] [] h1 0 0
        rw [← ha, ← hb]
        exact j273
    have loop : ∀ (d i : Nat) (sm : Int) (b : Bool) (v6 v7 : Value), i ≤ Sm.2.length → pm_ld Sm.2 i + d = pm_ld Sm.2 Sm.2.length → pf_around Sm p FF.1.2.1 FF.2.2 = sp_fd (fun i => pf_in Sm FF.2.2 i && pf_is Sm p FF.1.2.1 i) i (Sm.2.length - i) → rf_lk Sm p FF.1.2.1 i sm b → am_Z X 55 [.ref m, am_n k, am_n p, am_n sm, am_n (sp_i b), am_n (pm_ld Sm.2 i), v6, v7] [] hA 0 0 := by
      intro d
      induction d with
      | zero =>
        intro i sm b v6 v7 hi hd ha lk
        have hno : ∀ j, i ≤ j → j < Sm.2.length → pf_is Sm p FF.1.2.1 j = false := fun j a c => pf_no (List.getElem?_eq_getElem c) (ld_none (i := i) (by omega) a (List.getElem?_eq_getElem c))
        rw [sp_fd_nil (fun j a c => by rw [hno j a c, Bool.and_false])] at ha
        have hd : ∀ (h1 : am_H), mo_S h1 m U xs (dc + sp_i b) → ko m 35 hA h1 → am_Z X 212 [.ref m, am_n k, am_n p, am_n sm, am_n (sp_i b), am_n (pm_ld Sm.2 i), v6, v7] [] h1 0 0 := by
          intro h1 S f
          obtain ⟨o, s, v, M, q⟩ := id S
          rcases lk with ⟨l1, l2, l3⟩ | ⟨qi, x, l1, l2, lq, l3, l4, l5⟩
          · rw [sp_fd_nil hno] at l3
            have er : r_txt Sm FF = w_real C.1 FF.1.2.1 FF := by unfold r_txt; rw [ep]; simp only [ha, l3, hcl]
            have ed : r_dc Sm FF = 0 := by unfold r_dc; rw [ep]; simp only [ha, l3]
            refine am_iload_n hB d_MO_retraceFrame_212 rfl rfl ?_
            refine ai_zge (tgt := 220) hB d_MO_retraceFrame_213 (by decide) (fun e1 => ?_) (fun e1 => ?_)
            · omega
            refine ai_const hB d_MO_retraceFrame_216 ?_
            refine am_goto (tgt := 225) hB d_MO_retraceFrame_217 (by decide) ?_
            rw [l2] at S
            exact wr (-1) sm (sp_i b) (pm_ld Sm.2 i) _ _ _ _ C.1 FF.1.2.1 (dc + 0) v6 v7 h1 S f ⟨cr1.1, cr1.2.2⟩ (by rw [cr3]; exact fc) cr3 ⟨by omega, by omega, by omega⟩ t2 er (by rw [ed]) (Or.inl ⟨rfl, rfl, rfl, rfl, rfl⟩)
          · rw [sp_fd_nil (fun j a c => by rw [hno j a c, Bool.false_and])] at l5
            have ql := am_lt l1
            have lq2 := pm_ld_le2 (L := Sm.2) (show qi ≤ Sm.2.length by omega)
            have eq1 := pf_end_le (S := Sm) ql
            have hu := List.getElem?_eq_getElem (show pf_end Sm qi - 1 < Sm.2.length by omega)
            generalize Sm.2[pf_end Sm qi - 1]'(by omega) = u at hu
            rw [pm_ln_eq hu] at l5
            have fu := fn.2 _ u hu
            obtain ⟨⟨u1, u2, -⟩, ⟨u3, u4, -⟩, -⟩ := mp.2.2.2.2.2.2 _ u hu
            rw [show ((pf_end Sm qi - 1 : Nat) : Int) = (pf_end Sm qi : Int) - 1 by omega] at u1 u2 u3 u4
            have er : r_txt Sm FF = w_real u.1.1 u.1.2.1 FF := by unfold r_txt; rw [ep]; simp only [ha, l3, pm_ln_eq hu]
            have ed : r_dc Sm FF = sp_i b := by
              unfold r_dc
              rw [ep]
              simp only [ha, l3, pm_ln_eq hu]
              rw [l5]
              simp
            refine am_iload_n hB d_MO_retraceFrame_212 rfl rfl ?_
            refine ai_zge (tgt := 220) hB d_MO_retraceFrame_213 (by decide) (fun e1 => ?_) (fun e1 => ?_)
            rotate_left
            · omega
            refine am_aload_n hB d_MO_retraceFrame_220 rfl rfl rfl ?_
            refine am_iload_n hB d_MO_retraceFrame_221 rfl rfl ?_
            rw [l4]
            refine am_callV hB hR (as := [am_n (pm_ld Sm.2 qi)]) M.1 (m_MO_lastOf M mp l1 l2) c_MO_272 rfl rfl d_MO_retraceFrame_222 ⟨by decide, Nat.le_of_ble_eq_true rfl⟩ ⟨by decide, by decide⟩ rfl rfl (fun rr h hp => ?_)
            obtain ⟨rfl, rfl⟩ := hp
            show am_Z X 225 [.ref m, am_n k, am_n p, am_n (pm_ld Sm.2 qi), am_n (sp_i b), am_n (pm_ld Sm.2 i), v6, v7] [am_n ((pf_end Sm qi : Int) - 1)] h1 0 0
            exact wr _ _ (sp_i b) (pm_ld Sm.2 i) _ _ _ _ u.1.1 u.1.2.1 _ v6 v7 h1 S f ⟨u1.1, u1.2.2⟩ (by rw [u3]; exact fu) u3 ⟨by omega, by omega, by omega⟩ u4 er (by rw [ed]) (Or.inr ⟨by omega, by omega, rfl, rfl, rfl, rfl⟩)
        have dpt : ∀ z : Int, z = dc + sp_i b → am_Z X 209 [.ref m, am_n k, am_n p, am_n sm, am_n (sp_i b), am_n (pm_ld Sm.2 i), v6, v7] [am_n z, .ref m] hA 0 0 := by
          intro z hz
          have f : ko m 35 hA hA := ko.rf
          refine mo_p_doubts hB d_MO_retraceFrame_209 P_MO_298_11 M f (fun h M f => ?_)
          refine hd h ⟨o, s, v, ?_, q⟩ f
          rw [← hz]
          exact M
        refine am_iload hB d_MO_retraceFrame_55 rfl ?_
        refine am_aload_n hB d_MO_retraceFrame_57 rfl rfl rfl ?_
        refine am_getf hB d_MO_retraceFrame_58 F_MO_173_11 M.1 rfl ?_
        show am_Z X 61 [.ref m, am_n k, am_n p, am_n sm, am_n (sp_i b), am_n (pm_ld Sm.2 i), v6, v7] [am_n U.groups_, am_n (pm_ld Sm.2 i)] hA 0 0
        rw [m5]
        refine ai_jge (tgt := 190) hB d_MO_retraceFrame_61 (by decide) (fun e2 => ?_) (fun e2 => ?_)
        rotate_left
        · omega
        refine am_aload_n hB d_MO_retraceFrame_190 rfl rfl rfl ?_
        refine am_iload hB d_MO_retraceFrame_191 rfl ?_
        cases b with
        | false =>
          show am_Z X 193 [.ref m, am_n k, am_n p, am_n sm, am_n 0, am_n (pm_ld Sm.2 i), v6, v7] [am_n 0, .ref m] hA 0 0
          refine ai_zeq (tgt := 205) hB d_MO_retraceFrame_193 (by decide) (fun e3 => ?_) (fun e3 => ?_)
          rotate_left
          · omega
          refine am_aload_n hB d_MO_retraceFrame_205 rfl rfl rfl ?_
          refine am_getf hB d_MO_retraceFrame_206 F_MO_298_11 M.1 rfl ?_
          exact dpt dc (by show dc = dc + 0; omega)
        | true =>
          show am_Z X 193 [.ref m, am_n k, am_n p, am_n sm, am_n 1, am_n (pm_ld Sm.2 i), v6, v7] [am_n 1, .ref m] hA 0 0
          refine ai_zeq (tgt := 205) hB d_MO_retraceFrame_193 (by decide) (fun e3 => ?_) (fun e3 => ?_)
          · omega
          refine am_aload_n hB d_MO_retraceFrame_196 rfl rfl rfl ?_
          refine am_getf hB d_MO_retraceFrame_197 F_MO_298_11 M.1 rfl ?_
          refine ai_const hB d_MO_retraceFrame_200 ?_
          refine ai_add hB d_MO_retraceFrame_201 ?_
          refine am_goto (tgt := 209) hB d_MO_retraceFrame_202 (by decide) ?_
          exact dpt (dc + 1) rfl
      | succ d ih =>
        intro i sm b v6 v7 hi hd ha lk
        obtain ⟨i', x, n1, n2, n3, n4, n5, n6⟩ := ld_next hi (by omega)
        have hs := pm_ld_s n3
        rw [if_pos n4] at hs
        have hle := pm_ld_le2 (L := Sm.2) (show i' + 1 ≤ Sm.2.length by omega)
        rw [← n5] at hd ⊢
        have hno : ∀ j, i ≤ j → j < i' → pf_is Sm p FF.1.2.1 j = false := fun j a c => pf_no (List.getElem?_eq_getElem (show j < Sm.2.length by omega)) (n6 j _ a c (List.getElem?_eq_getElem (show j < Sm.2.length by omega)))
        rw [sp_fd_at n1 n2 (fun j a c => by rw [hno j a c, Bool.and_false])] at ha
        obtain ⟨-, -, ⟨y3, y4, -, -⟩, -, -, y6⟩ := mp.2.2.2.2.2.2 i' x n3
        have lox := (ok i' x n3).1
        have nx : ∀ (sm : Int) (b : Bool) (v6 v7 : Value), pf_around Sm p FF.1.2.1 FF.2.2 = sp_fd (fun i => pf_in Sm FF.2.2 i && pf_is Sm p FF.1.2.1 i) (i' + 1) (Sm.2.length - (i' + 1)) → rf_lk Sm p FF.1.2.1 (i' + 1) sm b → am_Z X 184 [.ref m, am_n k, am_n p, am_n sm, am_n (sp_i b), am_n (pm_ld Sm.2 i'), v6, v7] [] hA 0 0 := by
          intro sm b v6 v7 ha lk
          refine ai_inc hB d_MO_retraceFrame_184 rfl (by rw [hR.nL]; decide) rfl ?_
          have z := ih (i' + 1) sm b v6 v7 (by omega) (by omega) ha lk
          rw [hs, show ((pm_ld Sm.2 i' + 1 : Nat) : Int) = (pm_ld Sm.2 i' : Int) + 1 by omega] at z
          exact am_goto (tgt := 55) hB d_MO_retraceFrame_187 (by decide) z
        refine am_iload hB d_MO_retraceFrame_55 rfl ?_
        refine am_aload_n hB d_MO_retraceFrame_57 rfl rfl rfl ?_
        refine am_getf hB d_MO_retraceFrame_58 F_MO_173_11 M.1 rfl ?_
        show am_Z X 61 [.ref m, am_n k, am_n p, am_n sm, am_n (sp_i b), am_n (pm_ld Sm.2 i'), v6, v7] [am_n U.groups_, am_n (pm_ld Sm.2 i')] hA 0 0
        rw [m5]
        refine ai_jge (tgt := 190) hB d_MO_retraceFrame_61 (by decide) (fun e1 => ?_) (fun e1 => ?_)
        · omega
        refine am_aload_n hB d_MO_retraceFrame_64 rfl rfl rfl ?_
        refine am_iload hB d_MO_retraceFrame_65 rfl ?_
        refine am_iload_n hB d_MO_retraceFrame_67 rfl rfl ?_
        refine am_iload_n hB d_MO_retraceFrame_68 rfl rfl ?_
        refine am_callV hB hR (as := [am_n (pm_ld Sm.2 i'), am_n p, am_n k]) M.1 (m_MO_isFor M hg mp n3 n4 hk lf0 (by omega)) c_MO_288 rfl rfl d_MO_retraceFrame_69 ⟨by decide, Nat.le_of_ble_eq_true rfl⟩ ⟨by decide, by decide⟩ rfl rfl (fun rr h hp => ?_)
        obtain ⟨rfl, rfl⟩ := hp
        show am_Z X 72 [.ref m, am_n k, am_n p, am_n sm, am_n (sp_i b), am_n (pm_ld Sm.2 i'), v6, v7] [am_n (sp_i (pf_is Sm p FF.1.2.1 i'))] hA 0 0
        cases hq : pf_is Sm p FF.1.2.1 i' with
        | false =>
          show am_Z X 72 [.ref m, am_n k, am_n p, am_n sm, am_n (sp_i b), am_n (pm_ld Sm.2 i'), v6, v7] [am_n 0] hA 0 0
          refine ai_zeq (tgt := 184) hB d_MO_retraceFrame_72 (by decide) (fun e2 => ?_) (fun e2 => ?_)
          rotate_left
          · omega
          refine nx sm b v6 v7 (by rw [ha, hq, Bool.and_false, if_neg (by decide)]) ?_
          rcases lk with ⟨l1, l2, l3⟩ | ⟨qi, w, l1, l2, lq, l3, l4, l5⟩
          · refine Or.inl ⟨l1, l2, ?_⟩
            rw [l3, sp_fd_at n1 n2 hno, hq, if_neg (by decide)]
          · refine Or.inr ⟨qi, w, l1, l2, by omega, l3, l4, ?_⟩
            rw [l5, sp_fd_at n1 n2 (fun j a c => by rw [hno j a c, Bool.false_and]), hq, Bool.false_and, if_neg (by decide)]
        | true =>
          show am_Z X 72 [.ref m, am_n k, am_n p, am_n sm, am_n (sp_i b), am_n (pm_ld Sm.2 i'), v6, v7] [am_n 1] hA 0 0
          refine ai_zeq (tgt := 184) hB d_MO_retraceFrame_72 (by decide) (fun e2 => ?_) (fun e2 => ?_)
          · omega
          rw [hq, Bool.and_true] at ha
          have hpin : pf_in Sm FF.2.2 i' = (decide (x.2.1.1 ≠ -1) && (decide (x.2.1.1 ≤ FF.2.2) && decide (FF.2.2 ≤ x.2.1.2.1))) := by
            unfold pf_in
            rw [n3]
          have j147 : pf_in Sm FF.2.2 i' = false → am_Z X 147 [.ref m, am_n k, am_n p, am_n sm, am_n (sp_i b), am_n (pm_ld Sm.2 i'), am_n i', v7] [] hA 0 0 := by
            intro hz
            rw [if_neg (by rw [hz]; decide)] at ha
            have j171 : ∀ b' : Bool, ((sm = -1 ∧ b' = false ∧ pf_first Sm p FF.1.2.1 = some i') ∨ (0 ≤ sm ∧ rf_lk Sm p FF.1.2.1 (i' + 1) sm b')) → am_Z X 171 [.ref m, am_n k, am_n p, am_n sm, am_n (sp_i b), am_n (pm_ld Sm.2 i'), am_n i', v7] [am_n (sp_i b')] hA 0 0 := by
              intro b' hb'
              have smr : sm < 40 := by
                rcases lk with ⟨l1, l2, l3⟩ | ⟨qi, w, l1, l2, lq, l3, l4, l5⟩
                · omega
                · have := pm_ld_le2 (L := Sm.2) (show qi ≤ Sm.2.length from Nat.le_of_lt (am_lt l1))
                  omega
              rcases hb' with ⟨b1, b2, b3⟩ | ⟨b1, b2⟩
              · refine am_istore hB d_MO_retraceFrame_171 (by rw [hR.nL]; decide) rfl ?_
                refine am_iload_n hB d_MO_retraceFrame_173 rfl rfl ?_
                refine ai_zge (tgt := 182) hB d_MO_retraceFrame_174 (by decide) (fun e3 => ?_) (fun e3 => ?_)
                · omega
                refine am_iload hB d_MO_retraceFrame_177 rfl ?_
                refine am_goto (tgt := 183) hB d_MO_retraceFrame_179 (by decide) ?_
                refine am_istore_n hB d_MO_retraceFrame_183 rfl (by rw [hR.nL]; decide) rfl ?_
                refine nx _ b' _ v7 ha (Or.inr ⟨i', x, n3, n4, by omega, b3, rfl, ?_⟩)
                have hbef := sp_fd_bef _ _ b3
                rw [b2, Bool.false_or]
                unfold pf_unlike
                have e0 := sp_fd_at (P := fun i => pf_is Sm p FF.1.2.1 i && !pf_call Sm (pf_end Sm i - 1) (pm_ln Sm (pf_end Sm i' - 1)).1.1 (pm_ln Sm (pf_end Sm i' - 1)).1.2.1) (i := 0) (i' := i') (len := Sm.2.length) (by omega) n2 (fun j a c => by rw [hbef j (by omega) c, Bool.false_and])
                rw [Nat.sub_zero] at e0
                rw [e0, if_neg (by rw [pf_call_self n2]; simp)]
              · refine am_istore hB d_MO_retraceFrame_171 (by rw [hR.nL]; decide) rfl ?_
                refine am_iload_n hB d_MO_retraceFrame_173 rfl rfl ?_
                refine ai_zge (tgt := 182) hB d_MO_retraceFrame_174 (by decide) (fun e3 => ?_) (fun e3 => ?_)
                rotate_left
                · omega
                refine am_iload_n hB d_MO_retraceFrame_182 rfl rfl ?_
                refine am_istore_n hB d_MO_retraceFrame_183 rfl (by rw [hR.nL]; decide) rfl ?_
                exact nx sm b' _ v7 ha b2
            refine am_iload hB d_MO_retraceFrame_147 rfl ?_
            cases b with
            | true =>
              show am_Z X 149 [.ref m, am_n k, am_n p, am_n sm, am_n 1, am_n (pm_ld Sm.2 i'), am_n i', v7] [am_n 1] hA 0 0
              refine ai_zne (tgt := 166) hB d_MO_retraceFrame_149 (by decide) (fun e4 => ?_) (fun e4 => ?_)
              rotate_left
              · omega
              refine ai_const hB d_MO_retraceFrame_166 ?_
              refine am_goto (tgt := 171) hB d_MO_retraceFrame_167 (by decide) ?_
              refine j171 true ?_
              rcases lk with ⟨l1, l2, l3⟩ | ⟨qi, w, l1, l2, lq, l3, l4, l5⟩
              · cases l2
              · exact Or.inr ⟨by omega, Or.inr ⟨qi, w, l1, l2, by omega, l3, l4, by rw [l5]; rfl⟩⟩
            | false =>
              show am_Z X 149 [.ref m, am_n k, am_n p, am_n sm, am_n 0, am_n (pm_ld Sm.2 i'), am_n i', v7] [am_n 0] hA 0 0
              refine ai_zne (tgt := 166) hB d_MO_retraceFrame_149 (by decide) (fun e4 => ?_) (fun e4 => ?_)
              · omega
              rcases lk with ⟨l1, l2, l3⟩ | ⟨qi, w, l1, l2, lq, l3, l4, l5⟩
              · refine am_iload_n hB d_MO_retraceFrame_152 rfl rfl ?_
                refine ai_zlt (tgt := 170) hB d_MO_retraceFrame_153 (by decide) (fun e5 => ?_) (fun e5 => ?_)
                rotate_left
                · omega
                refine ai_const hB d_MO_retraceFrame_170 ?_
                exact j171 false (Or.inl ⟨l1, rfl, by rw [l3, sp_fd_at n1 n2 hno, hq, if_pos rfl]⟩)
              · have lq2 := pm_ld_le2 (L := Sm.2) (show qi ≤ Sm.2.length from Nat.le_of_lt (am_lt l1))
                refine am_iload_n hB d_MO_retraceFrame_152 rfl rfl ?_
                refine ai_zlt (tgt := 170) hB d_MO_retraceFrame_153 (by decide) (fun e5 => ?_) (fun e5 => ?_)
                · omega
                refine am_aload_n hB d_MO_retraceFrame_156 rfl rfl rfl ?_
                refine am_iload_n hB d_MO_retraceFrame_157 rfl rfl ?_
                refine am_iload hB d_MO_retraceFrame_158 rfl ?_
                rw [sp_fd_at n1 n2 (fun j a c => by rw [hno j a c, Bool.false_and]), hq, Bool.true_and, Bool.false_or] at l5
                have cont : ∀ z : Bool, z = !pf_call Sm (pf_end Sm i' - 1) (pm_ln Sm (pf_end Sm qi - 1)).1.1 (pm_ln Sm (pf_end Sm qi - 1)).1.2.1 → (0 ≤ sm ∧ rf_lk Sm p FF.1.2.1 (i' + 1) sm z) := by
                  intro z hz
                  refine ⟨by omega, Or.inr ⟨qi, w, l1, l2, by omega, l3, l4, ?_⟩⟩
                  rw [l5, ← hz]
                  cases z <;> rfl
                rw [l4]
                rw [l4] at j171 cont
                refine am_callV hB hR (as := [am_n (pm_ld Sm.2 qi), am_n (pm_ld Sm.2 i')]) M.1 (m_MO_differ M hg mp l1 l2 n3 n4) c_MO_295 rfl rfl d_MO_retraceFrame_160 ⟨by decide, Nat.le_of_ble_eq_true rfl⟩ ⟨by decide, by decide⟩ rfl rfl (fun rr h hp => ?_)
                obtain ⟨rfl, rfl⟩ := hp
                show am_Z X 163 [.ref m, am_n k, am_n p, am_n (pm_ld Sm.2 qi), am_n 0, am_n (pm_ld Sm.2 i'), am_n i', v7] [am_n (sp_i (!pf_call Sm (pf_end Sm i' - 1) (pm_ln Sm (pf_end Sm qi - 1)).1.1 (pm_ln Sm (pf_end Sm qi - 1)).1.2.1))] hA 0 0
                cases hz2 : !pf_call Sm (pf_end Sm i' - 1) (pm_ln Sm (pf_end Sm qi - 1)).1.1 (pm_ln Sm (pf_end Sm qi - 1)).1.2.1 with
                | false =>
                  show am_Z X 163 [.ref m, am_n k, am_n p, am_n (pm_ld Sm.2 qi), am_n 0, am_n (pm_ld Sm.2 i'), am_n i', v7] [am_n 0] hA 0 0
                  refine ai_zeq (tgt := 170) hB d_MO_retraceFrame_163 (by decide) (fun e6 => ?_) (fun e6 => ?_)
                  · refine ai_const hB d_MO_retraceFrame_170 ?_
                    exact j171 false (Or.inr (cont false hz2.symm))
                  · omega
                | true =>
                  show am_Z X 163 [.ref m, am_n k, am_n p, am_n (pm_ld Sm.2 qi), am_n 0, am_n (pm_ld Sm.2 i'), am_n i', v7] [am_n 1] hA 0 0
                  refine ai_zeq (tgt := 170) hB d_MO_retraceFrame_163 (by decide) (fun e6 => ?_) (fun e6 => ?_)
                  · omega
                  refine ai_const hB d_MO_retraceFrame_166 ?_
                  refine am_goto (tgt := 171) hB d_MO_retraceFrame_167 (by decide) ?_
                  exact j171 true (Or.inr (cont true hz2.symm))
          refine am_aload_n hB d_MO_retraceFrame_75 rfl rfl rfl ?_
          refine am_iload hB d_MO_retraceFrame_76 rfl ?_
          refine am_callV hB hR (as := [am_n (pm_ld Sm.2 i')]) M.1 (m_MO_lineOf M mp n3 n4) c_MO_269 rfl rfl d_MO_retraceFrame_78 ⟨by decide, Nat.le_of_ble_eq_true rfl⟩ ⟨by decide, by decide⟩ rfl rfl (fun rr h hp => ?_)
          obtain ⟨rfl, rfl⟩ := hp
          show am_Z X 81 [.ref m, am_n k, am_n p, am_n sm, am_n (sp_i b), am_n (pm_ld Sm.2 i'), v6, v7] [am_n i'] hA 0 0
          refine am_istore hB d_MO_retraceFrame_81 (by rw [hR.nL]; decide) rfl ?_
          refine am_aload_n hB d_MO_retraceFrame_83 rfl rfl rfl ?_
          refine am_getf hB d_MO_retraceFrame_84 F_MO_91_11 M.1 rfl ?_
          refine am_iload_n hB d_MO_retraceFrame_87 rfl rfl ?_
          refine ai_iald hB d_MO_retraceFrame_88 ty_1 M.number ?_
          show am_Z X 89 [.ref m, am_n k, am_n p, am_n sm, am_n (sp_i b), am_n (pm_ld Sm.2 i'), am_n i', v7] [am_n (U.number_ k)] hA 0 0
          rw [t5]
          obtain ⟨z1, z2, z3, -, -⟩ := y6
          have nopin : ¬ (x.2.1.1 ≠ -1 ∧ x.2.1.1 ≤ FF.2.2 ∧ FF.2.2 ≤ x.2.1.2.1) → pf_in Sm FF.2.2 i' = false := by
            intro hz
            rw [hpin, ← Bool.decide_and, ← Bool.decide_and]
            exact decide_eq_false hz
          refine ai_zlt (tgt := 147) hB d_MO_retraceFrame_89 (by decide) (fun e3 => ?_) (fun e3 => ?_)
          · exact j147 (nopin (by omega))
          refine am_aload_n hB d_MO_retraceFrame_92 rfl rfl rfl ?_
          refine am_getf hB d_MO_retraceFrame_93 F_MO_49_11 M.1 rfl ?_
          refine am_iload hB d_MO_retraceFrame_96 rfl ?_
          refine ai_iald hB d_MO_retraceFrame_98 ty_1 M.low ?_
          show am_Z X 99 [.ref m, am_n k, am_n p, am_n sm, am_n (sp_i b), am_n (pm_ld Sm.2 i'), am_n i', v7] [am_n (U.low_ i')] hA 0 0
          rw [y3]
          refine ai_zlt (tgt := 147) hB d_MO_retraceFrame_99 (by decide) (fun e4 => ?_) (fun e4 => ?_)
          · exact j147 (nopin (by omega))
          refine am_aload_n hB d_MO_retraceFrame_102 rfl rfl rfl ?_
          refine am_getf hB d_MO_retraceFrame_103 F_MO_49_11 M.1 rfl ?_
          refine am_iload hB d_MO_retraceFrame_106 rfl ?_
          refine ai_iald hB d_MO_retraceFrame_108 ty_1 M.low ?_
          refine am_aload_n hB d_MO_retraceFrame_109 rfl rfl rfl ?_
          refine am_getf hB d_MO_retraceFrame_110 F_MO_91_11 M.1 rfl ?_
          refine am_iload_n hB d_MO_retraceFrame_113 rfl rfl ?_
          refine ai_iald hB d_MO_retraceFrame_114 ty_1 M.number ?_
          show am_Z X 115 [.ref m, am_n k, am_n p, am_n sm, am_n (sp_i b), am_n (pm_ld Sm.2 i'), am_n i', v7] [am_n (U.number_ k), am_n (U.low_ i')] hA 0 0
          rw [y3, t5]
          refine ai_jgt (tgt := 147) hB d_MO_retraceFrame_115 (by decide) (fun e5 => ?_) (fun e5 => ?_)
          · exact j147 (nopin (by omega))
          refine am_aload_n hB d_MO_retraceFrame_118 rfl rfl rfl ?_
          refine am_getf hB d_MO_retraceFrame_119 F_MO_91_11 M.1 rfl ?_
          refine am_iload_n hB d_MO_retraceFrame_122 rfl rfl ?_
          refine ai_iald hB d_MO_retraceFrame_123 ty_1 M.number ?_
          refine am_aload_n hB d_MO_retraceFrame_124 rfl rfl rfl ?_
          refine am_getf hB d_MO_retraceFrame_125 F_MO_52_11 M.1 rfl ?_
          refine am_iload hB d_MO_retraceFrame_128 rfl ?_
          refine ai_iald hB d_MO_retraceFrame_130 ty_1 M.high ?_
          show am_Z X 131 [.ref m, am_n k, am_n p, am_n sm, am_n (sp_i b), am_n (pm_ld Sm.2 i'), am_n i', v7] [am_n (U.high_ i'), am_n (U.number_ k)] hA 0 0
          rw [y4, t5]
          refine ai_jgt (tgt := 147) hB d_MO_retraceFrame_131 (by decide) (fun e6 => ?_) (fun e6 => ?_)
          · exact j147 (nopin (by omega))
          have hyes : pf_in Sm FF.2.2 i' = true := by
            rw [hpin, ← Bool.decide_and, ← Bool.decide_and]
            exact decide_eq_true ⟨by omega, by omega, by omega⟩
          rw [if_pos hyes] at ha
          have er : r_txt Sm FF = (pf_grp Sm i').flatMap (w_one FF.2.2) := by unfold r_txt; rw [ep]; simp only [ha]
          have ed : r_dc Sm FF = 0 := by unfold r_dc; rw [ep]; simp only [ha]
          refine am_aload_n hB d_MO_retraceFrame_134 rfl rfl rfl ?_
          refine am_iload hB d_MO_retraceFrame_135 rfl ?_
          refine am_aload_n hB d_MO_retraceFrame_137 rfl rfl rfl ?_
          refine am_getf hB d_MO_retraceFrame_138 F_MO_91_11 M.1 rfl ?_
          refine am_iload_n hB d_MO_retraceFrame_141 rfl rfl ?_
          refine ai_iald hB d_MO_retraceFrame_142 ty_1 M.number ?_
          show am_Z X 143 [.ref m, am_n k, am_n p, am_n sm, am_n (sp_i b), am_n (pm_ld Sm.2 i'), am_n i', v7] [am_n (U.number_ k), am_n (pm_ld Sm.2 i'), .ref m] hA 0 0
          rw [t5]
          refine am_callV hB hR (as := [am_n (pm_ld Sm.2 i'), am_n FF.2.2]) M.1 (m_MO_inlined S hg mp ok fn n3 n4 (by omega) (by omega) (by omega)) c_MO_292 rfl rfl d_MO_retraceFrame_143 ⟨by decide, Nat.le_of_ble_eq_true rfl⟩ ⟨by decide, by decide⟩ rfl rfl (fun rr h hp => ?_)
          obtain ⟨rfl, S, f9⟩ := hp
          show am_Z X 146 [.ref m, am_n k, am_n p, am_n sm, am_n (sp_i b), am_n (pm_ld Sm.2 i'), am_n i', v7] [] h 0 0
          refine am_vret hB hR d_MO_retraceFrame_146 rfl ?_ (Nat.zero_le _) (Nat.zero_le _)
          rw [er, ed, Int.add_zero]
          exact ⟨rfl, S, f9⟩
    refine am_istore_n hB d_MO_retraceFrame_19 rfl (by rw [hR.nL]; decide) rfl ?_
    refine am_iload_n hB d_MO_retraceFrame_20 rfl rfl ?_
    refine ai_zge (tgt := 47) hB d_MO_retraceFrame_21 (by decide) (fun c1 => ?_) (fun c1 => ?_)
    rotate_left
    · omega
    refine ai_const hB d_MO_retraceFrame_47 ?_
    refine am_istore_n hB d_MO_retraceFrame_48 rfl (by rw [hR.nL]; decide) rfl ?_
    refine ai_const hB d_MO_retraceFrame_49 ?_
    refine am_istore hB d_MO_retraceFrame_50 (by rw [hR.nL]; decide) rfl ?_
    refine ai_const hB d_MO_retraceFrame_52 ?_
    refine am_istore hB d_MO_retraceFrame_53 (by rw [hR.nL]; decide) rfl ?_
    exact loop (pm_ld Sm.2 Sm.2.length) 0 (-1) false am_u am_u (by omega) (by rw [show pm_ld Sm.2 0 = 0 from rfl]; omega) rfl (Or.inl ⟨rfl, rfl, rfl⟩)
