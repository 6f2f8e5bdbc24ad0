/-! the model shortens a frame -/
def pm_cx (S : pm_S) : Prop := ∀ (i : Nat) x, S.2[i]? = some x → x.2.2.1 < S.1.length
theorem m_MO_shortenFrame {l : Launch} {G : am_G} {hA : am_H} {m : Nat} {U : mv} {xs : List Int} {dc : Int} {Sm : pm_S} {L : List ln_T} {k : Nat} {FF : pt_F} (S : mo_S hA m U xs dc) (hg : am_cok U.all_) (mp : mo_map U Sm) (ok : pm_ok Sm) (cx : pm_cx Sm) (tc : mo_trc U L) (hL : L.length ≤ 32) (hk : L[k]? = some (.inr (.inl FF))) : am_M l G M_MO_shortenFrame [.ref m, am_n k] hA (fun r h' => r = some (am_n (k + s_cnt Sm (fr_run (L.drop k)))) ∧ mo_S h' m U (xs ++ s_txt Sm (fr_run (L.drop k))) dc ∧ ko m 35 hA h') := by
  have kl := am_lt hk
  have hrun : fr_run (L.drop k) = FF :: fr_run (L.drop (k + 1)) := by
    rw [drop_cons hk]
    rfl
  have lf := tc.2 k _ hk
  have lf0 := lf
  obtain ⟨-, rg, t0, t1, t2, t3, t4, t5, t6⟩ := lf
  have m2 := mp.2.1
  have m3 := mp.2.2.1
  have m4 := mp.2.2.2.1
  have m5 := mp.2.2.2.2.1
  have hbig : pm_ld Sm.2 Sm.2.length ≤ 32 := by
    have : pm_ld Sm.2 Sm.2.length ≤ Sm.2.length := by
      unfold pm_ld
      exact Nat.le_trans (List.length_filter_le _ _) (by rw [List.length_take]; omega)
    omega
  obtain ⟨o, s, v, M, q⟩ := id S
  refine am_M.of (by decide) (Nat.le_of_ble_eq_true rfl) (fun X hB hR => ?_)
  show am_Z X 0 [.ref m, am_n k, am_u, am_u, am_u] [] hA 0 0
  -- alone
  have alone : (sf_best Sm (fr_run (L.drop k)) Sm.2.length 0 (-1, 0, 0)).1 = -1 → ∀ v3 v4 : Value, am_Z X 158 [.ref m, am_n k, am_n (-1), v3, v4] [] hA 0 0 := by
    intro hb v3 v4
    have et : s_txt Sm (fr_run (L.drop k)) = s_alone Sm FF := by
      unfold s_txt
      rw [if_pos hb, hrun]
    have ec : s_cnt Sm (fr_run (L.drop k)) = 1 := by
      unfold s_cnt
      rw [if_pos hb]
    have short : ∀ (p : Nat) (C : pm_C) (a b : Int) (mn : List Int) (vv : Int) (v4 : Value) (pc : Nat), p < 8 → mo_C U p C → (0 ≤ a ∧ a ≤ b ∧ b ≤ 1200) → nm U.all_ a b = mn → s_alone Sm FF = w_short C.2 mn FF → (pc = 205 ∨ pc = 261) → am_Z X pc [.ref m, am_n k, am_n (-1), am_n vv, v4] [am_n b, am_n a, am_n p, .ref m] hA 0 0 := by
      intro p C a b mn vv v4 pc hp8 cC hab hmn htx hpc
      have hend : ∀ h1, mo_S h1 m U (xs ++ w_open C.2 (nm U.all_ a b) ++ ((if FF.2.1 = true then sp_wd 14 else FF.1.2.2) ++ w_close FF.2.2)) dc → mo_S h1 m U (xs ++ s_txt Sm (fr_run (L.drop k))) dc := by
        intro h1 S
        rw [et, htx]
        unfold w_short
        rw [hmn] at S
        simp only [List.append_assoc] at S ⊢
        exact S
      rcases hpc with rfl | rfl
      · refine am_callV hB hR (as := [am_n p, am_n a, am_n b]) M.1 (m_MO_emitShort S hg hp8 cC hab.1 hab.2.1 hab.2.2) c_MO_323 rfl rfl d_MO_shortenFrame_205 ⟨by decide, Nat.le_of_ble_eq_true rfl⟩ ⟨by decide, by decide⟩ rfl rfl (fun rr h hp => ?_)
        obtain ⟨rfl, S, f1⟩ := hp
        obtain ⟨o, s, v, M, q⟩ := id S
        show am_Z X 208 [.ref m, am_n k, am_n (-1), am_n vv, v4] [] h 0 0
        refine am_aload_n hB d_MO_shortenFrame_208 rfl rfl rfl ?_
        refine am_iload_n hB d_MO_shortenFrame_209 rfl rfl ?_
        refine am_callV hB hR (as := [am_n k]) M.1 (m_MO_emitPlace S hg (by omega) lf0) c_MO_326 rfl rfl d_MO_shortenFrame_210 ⟨by decide, Nat.le_of_ble_eq_true rfl⟩ ⟨by decide, by decide⟩ rfl rfl (fun rr h hp => ?_)
        obtain ⟨rfl, S, f2⟩ := hp
        show am_Z X 213 [.ref m, am_n k, am_n (-1), am_n vv, v4] [] h 0 0
        refine am_iload_n hB d_MO_shortenFrame_213 rfl rfl ?_
        refine ai_const hB d_MO_shortenFrame_214 ?_
        refine ai_add hB d_MO_shortenFrame_215 ?_
        refine am_iret hB hR d_MO_shortenFrame_216 rfl rfl ?_ (Nat.zero_le _) (Nat.zero_le _)
        rw [ec]
        exact ⟨rfl, hend h S, f1.tr f2⟩
      · refine am_callV hB hR (as := [am_n p, am_n a, am_n b]) M.1 (m_MO_emitShort S hg hp8 cC hab.1 hab.2.1 hab.2.2) c_MO_323 rfl rfl d_MO_shortenFrame_261 ⟨by decide, Nat.le_of_ble_eq_true rfl⟩ ⟨by decide, by decide⟩ rfl rfl (fun rr h hp => ?_)
        obtain ⟨rfl, S, f1⟩ := hp
        obtain ⟨o, s, v, M, q⟩ := id S
        show am_Z X 264 [.ref m, am_n k, am_n (-1), am_n vv, v4] [] h 0 0
        refine am_aload_n hB d_MO_shortenFrame_264 rfl rfl rfl ?_
        refine am_iload_n hB d_MO_shortenFrame_265 rfl rfl ?_
        refine am_callV hB hR (as := [am_n k]) M.1 (m_MO_emitPlace S hg (by omega) lf0) c_MO_326 rfl rfl d_MO_shortenFrame_266 ⟨by decide, Nat.le_of_ble_eq_true rfl⟩ ⟨by decide, by decide⟩ rfl rfl (fun rr h hp => ?_)
        obtain ⟨rfl, S, f2⟩ := hp
        show am_Z X 269 [.ref m, am_n k, am_n (-1), am_n vv, v4] [] h 0 0
        refine am_goto (tgt := 294) hB d_MO_shortenFrame_269 (by decide) ?_
        refine am_iload_n hB d_MO_shortenFrame_294 rfl rfl ?_
        refine ai_const hB d_MO_shortenFrame_295 ?_
        refine ai_add hB d_MO_shortenFrame_296 ?_
        refine am_iret hB hR d_MO_shortenFrame_297 rfl rfl ?_ (Nat.zero_le _) (Nat.zero_le _)
        rw [ec]
        exact ⟨rfl, hend h S, f1.tr f2⟩
    have cls : pf_bare Sm FF.1.1 FF.1.2.1 = none → ∀ (vv : Int) (v4 : Value), am_Z X 223 [.ref m, am_n k, am_n (-1), am_n vv, v4] [] hA 0 0 := by
      intro hbare vv v4
      refine am_aload_n hB d_MO_shortenFrame_223 rfl rfl rfl ?_
      refine am_aload_n hB d_MO_shortenFrame_224 rfl rfl rfl ?_
      refine am_getf hB d_MO_shortenFrame_225 F_MO_76_11 M.1 rfl ?_
      refine am_iload_n hB d_MO_shortenFrame_228 rfl rfl ?_
      refine ai_iald hB d_MO_shortenFrame_229 ty_1 M.nameFrom ?_
      refine am_aload_n hB d_MO_shortenFrame_230 rfl rfl rfl ?_
      refine am_getf hB d_MO_shortenFrame_231 F_MO_82_11 M.1 rfl ?_
      refine am_iload_n hB d_MO_shortenFrame_234 rfl rfl ?_
      refine ai_iald hB d_MO_shortenFrame_235 ty_1 M.methodFrom ?_
      refine ai_const hB d_MO_shortenFrame_236 ?_
      refine ai_sub hB d_MO_shortenFrame_237 ?_
      refine ai_const hB d_MO_shortenFrame_238 ?_
      show am_Z X 239 [.ref m, am_n k, am_n (-1), am_n vv, v4] [am_n 1, am_n (U.methodFrom_ k - 1), am_n (U.nameFrom_ k), .ref m] hA 0 0
      refine am_callV hB hR (as := [am_n (U.nameFrom_ k), am_n (U.methodFrom_ k - 1), am_n (sp_i true)]) M.1 (m_MO_classLineOf M hg mp (by omega) (by omega) (by omega)) c_MO_284 rfl rfl d_MO_shortenFrame_239 ⟨by decide, Nat.le_of_ble_eq_true rfl⟩ ⟨by decide, by decide⟩ rfl rfl (fun rr h hp => ?_)
      obtain ⟨rfl, rfl⟩ := hp
      show am_Z X 242 [.ref m, am_n k, am_n (-1), am_n vv, v4] [am_n (sp_oi (pc_real Sm (nm U.all_ (U.nameFrom_ k) (U.methodFrom_ k - 1))))] hA 0 0
      rw [t1]
      cases ep : pc_real Sm FF.1.1 with
      | none =>
        have ea : s_alone Sm FF = w_same FF := by unfold s_alone; rw [hbare]; simp only [ep]
        show am_Z X 242 [.ref m, am_n k, am_n (-1), am_n vv, v4] [am_n (-1)] hA 0 0
        refine am_istore_n hB d_MO_shortenFrame_242 rfl (by rw [hR.nL]; decide) rfl ?_
        refine am_iload_n hB d_MO_shortenFrame_243 rfl rfl ?_
        refine ai_zlt (tgt := 272) hB d_MO_shortenFrame_244 (by decide) (fun c1 => ?_) (fun c1 => ?_)
        rotate_left
        · omega
        refine am_aload_n hB d_MO_shortenFrame_272 rfl rfl rfl ?_
        refine am_aload_n hB d_MO_shortenFrame_273 rfl rfl rfl ?_
        refine am_getf hB d_MO_shortenFrame_274 F_MO_70_11 M.1 rfl ?_
        refine am_iload_n hB d_MO_shortenFrame_277 rfl rfl ?_
        refine ai_iald hB d_MO_shortenFrame_278 ty_1 M.lineFrom ?_
        refine am_aload_n hB d_MO_shortenFrame_279 rfl rfl rfl ?_
        refine am_getf hB d_MO_shortenFrame_280 F_MO_73_11 M.1 rfl ?_
        refine am_iload_n hB d_MO_shortenFrame_283 rfl rfl ?_
        refine ai_iald hB d_MO_shortenFrame_284 ty_1 M.lineTo ?_
        show am_Z X 285 [.ref m, am_n k, am_n (-1), am_n (-1), v4] [am_n (U.lineTo_ k), am_n (U.lineFrom_ k), .ref m] hA 0 0
        refine am_callV hB hR (as := [am_n (U.lineFrom_ k), am_n (U.lineTo_ k)]) M.1 (m_MO_emitText S hg (by omega) (by omega) (by omega)) c_MO_255 rfl rfl d_MO_shortenFrame_285 ⟨by decide, Nat.le_of_ble_eq_true rfl⟩ ⟨by decide, by decide⟩ rfl rfl (fun rr h hp => ?_)
        obtain ⟨rfl, S, f1⟩ := hp
        obtain ⟨o, s, v, M, q⟩ := id S
        show am_Z X 288 [.ref m, am_n k, am_n (-1), am_n (-1), v4] [] h 0 0
        refine am_aload_n hB d_MO_shortenFrame_288 rfl rfl rfl ?_
        refine ai_bipush hB d_MO_shortenFrame_289 (by decide) ?_
        refine am_callV hB hR (as := [am_n 10]) M.1 (m_MO_emit S (by omega) (by omega)) c_MO_251 rfl rfl d_MO_shortenFrame_291 ⟨by decide, Nat.le_of_ble_eq_true rfl⟩ ⟨by decide, by decide⟩ rfl rfl (fun rr h hp => ?_)
        obtain ⟨rfl, S, f2⟩ := hp
        show am_Z X 294 [.ref m, am_n k, am_n (-1), am_n (-1), v4] [] h 0 0
        refine am_iload_n hB d_MO_shortenFrame_294 rfl rfl ?_
        refine ai_const hB d_MO_shortenFrame_295 ?_
        refine ai_add hB d_MO_shortenFrame_296 ?_
        refine am_iret hB hR d_MO_shortenFrame_297 rfl rfl ?_ (Nat.zero_le _) (Nat.zero_le _)
        rw [List.append_assoc, t0, ← ea, ← et] at S
        rw [ec]
        exact ⟨rfl, S, f1.tr f2⟩
      | some p =>
        have hpp := sp_fd_lt _ _ ep
        have hpl : p < Sm.1.length := by omega
        have hc := List.getElem?_eq_getElem hpl
        have cC := mp.2.2.2.2.2.1 p _ hc
        have ea : s_alone Sm FF = w_short (Sm.1[p]'hpl).2 FF.1.2.1 FF := by
          unfold s_alone
          rw [hbare]
          simp only [ep]
          rw [pm_cl_eq hc]
        show am_Z X 242 [.ref m, am_n k, am_n (-1), am_n vv, v4] [am_n p] hA 0 0
        refine am_istore_n hB d_MO_shortenFrame_242 rfl (by rw [hR.nL]; decide) rfl ?_
        refine am_iload_n hB d_MO_shortenFrame_243 rfl rfl ?_
        refine ai_zlt (tgt := 272) hB d_MO_shortenFrame_244 (by decide) (fun c1 => ?_) (fun c1 => ?_)
        · omega
        refine am_aload_n hB d_MO_shortenFrame_247 rfl rfl rfl ?_
        refine am_iload_n hB d_MO_shortenFrame_248 rfl rfl ?_
        refine am_aload_n hB d_MO_shortenFrame_249 rfl rfl rfl ?_
        refine am_getf hB d_MO_shortenFrame_250 F_MO_82_11 M.1 rfl ?_
        refine am_iload_n hB d_MO_shortenFrame_253 rfl rfl ?_
        refine ai_iald hB d_MO_shortenFrame_254 ty_1 M.methodFrom ?_
        refine am_aload_n hB d_MO_shortenFrame_255 rfl rfl rfl ?_
        refine am_getf hB d_MO_shortenFrame_256 F_MO_79_11 M.1 rfl ?_
        refine am_iload_n hB d_MO_shortenFrame_259 rfl rfl ?_
        refine ai_iald hB d_MO_shortenFrame_260 ty_1 M.nameTo ?_
        exact short p _ (U.methodFrom_ k) (U.nameTo_ k) FF.1.2.1 p v4 261 (by omega) cC ⟨by omega, by omega, by omega⟩ t2 ea (Or.inr rfl)
    have bare : ∀ (d j : Nat) (v4 : Value), j + d = Sm.2.length → pf_bare Sm FF.1.1 FF.1.2.1 = sp_fd (fun i => !(match Sm.2[i]? with
        | none => true
        | some x => decide (x.2.1.1 ≠ -1)) && pf_call Sm i FF.1.1 FF.1.2.1) j d → am_Z X 160 [.ref m, am_n k, am_n (-1), am_n j, v4] [] hA 0 0 := by
      intro d
      induction d with
      | zero =>
        intro j v4 hj hs
        refine am_iload_n hB d_MO_shortenFrame_160 rfl rfl ?_
        refine am_aload_n hB d_MO_shortenFrame_161 rfl rfl rfl ?_
        refine am_getf hB d_MO_shortenFrame_162 F_MO_163_11 M.1 rfl ?_
        show am_Z X 165 [.ref m, am_n k, am_n (-1), am_n j, v4] [am_n U.methods_, am_n j] hA 0 0
        rw [m3]
        refine ai_jge (tgt := 223) hB d_MO_shortenFrame_165 (by decide) (fun c1 => ?_) (fun c1 => ?_)
        rotate_left
        · omega
        exact cls hs j v4
      | succ d ih =>
        intro j v4 hj hs
        have hx := List.getElem?_eq_getElem (show j < Sm.2.length by omega)
        rw [sp_fd] at hs
        have mL := mp.2.2.2.2.2.2 j _ hx
        have hpc : pf_call Sm j FF.1.1 FF.1.2.1 = (decide ((Sm.2[j]'(by omega)).1.1 = FF.1.1) && decide ((Sm.2[j]'(by omega)).1.2.1 = FF.1.2.1)) := by
          unfold pf_call
          rw [hx]
        simp only [hx] at hs
        generalize hy : Sm.2[j]'(by omega) = x at hx hs mL hpc
        have mL0 := mL
        obtain ⟨⟨-, -, y1⟩, ⟨-, -, y2⟩, ⟨g1, g2, g3, g4⟩, g5, -, g6⟩ := mL
        obtain ⟨c8, lo, -, -, -⟩ := g6
        have nx : (!decide (x.2.1.1 ≠ -1) && pf_call Sm j FF.1.1 FF.1.2.1) = false → am_Z X 217 [.ref m, am_n k, am_n (-1), am_n j, v4] [] hA 0 0 := by
          intro hz
          rw [if_neg (by rw [hz]; decide)] at hs
          refine ai_inc hB d_MO_shortenFrame_217 rfl (by rw [hR.nL]; decide) rfl ?_
          exact am_goto (tgt := 160) hB d_MO_shortenFrame_220 (by decide) (ih (j + 1) v4 (by omega) hs)
        refine am_iload_n hB d_MO_shortenFrame_160 rfl rfl ?_
        refine am_aload_n hB d_MO_shortenFrame_161 rfl rfl rfl ?_
        refine am_getf hB d_MO_shortenFrame_162 F_MO_163_11 M.1 rfl ?_
        show am_Z X 165 [.ref m, am_n k, am_n (-1), am_n j, v4] [am_n U.methods_, am_n j] hA 0 0
        rw [m3]
        refine ai_jge (tgt := 223) hB d_MO_shortenFrame_165 (by decide) (fun c1 => ?_) (fun c1 => ?_)
        · omega
        refine am_aload_n hB d_MO_shortenFrame_168 rfl rfl rfl ?_
        refine am_getf hB d_MO_shortenFrame_169 F_MO_49_11 M.1 rfl ?_
        refine am_iload_n hB d_MO_shortenFrame_172 rfl rfl ?_
        refine ai_iald hB d_MO_shortenFrame_173 ty_1 M.low ?_
        show am_Z X 174 [.ref m, am_n k, am_n (-1), am_n j, v4] [am_n (U.low_ j)] hA 0 0
        rw [g1]
        refine ai_zge (tgt := 217) hB d_MO_shortenFrame_174 (by decide) (fun c2 => ?_) (fun c2 => ?_)
        · exact nx (by rw [decide_eq_true (show x.2.1.1 ≠ -1 by omega)]; rfl)
        have hm1 : x.2.1.1 = -1 := by omega
        refine am_aload_n hB d_MO_shortenFrame_177 rfl rfl rfl ?_
        refine am_iload_n hB d_MO_shortenFrame_178 rfl rfl ?_
        refine am_iload_n hB d_MO_shortenFrame_179 rfl rfl ?_
        refine am_callV hB hR (as := [am_n k, am_n j]) M.1 (m_MO_calls M hg (by omega) (by omega) lf0 mL0) c_MO_314 rfl rfl d_MO_shortenFrame_180 ⟨by decide, Nat.le_of_ble_eq_true rfl⟩ ⟨by decide, by decide⟩ rfl rfl (fun rr h hp => ?_)
        obtain ⟨rfl, rfl⟩ := hp
        show am_Z X 183 [.ref m, am_n k, am_n (-1), am_n j, v4] [am_n (sp_i (decide (FF.1.1 = x.1.1) && decide (FF.1.2.1 = x.1.2.1)))] hA 0 0
        by_cases hcall : FF.1.1 = x.1.1 ∧ FF.1.2.1 = x.1.2.1
        rotate_left
        · rw [← Bool.decide_and, decide_eq_false hcall]
          show am_Z X 183 [.ref m, am_n k, am_n (-1), am_n j, v4] [am_n 0] hA 0 0
          refine ai_zeq (tgt := 217) hB d_MO_shortenFrame_183 (by decide) (fun c3 => ?_) (fun c3 => ?_)
          · exact nx (by rw [hpc, ← Bool.decide_and, decide_eq_false (show ¬ (x.1.1 = FF.1.1 ∧ x.1.2.1 = FF.1.2.1) from fun w => hcall ⟨w.1.symm, w.2.symm⟩), Bool.and_false])
          · omega
        rw [← Bool.decide_and, decide_eq_true hcall]
        show am_Z X 183 [.ref m, am_n k, am_n (-1), am_n j, v4] [am_n 1] hA 0 0
        refine ai_zeq (tgt := 217) hB d_MO_shortenFrame_183 (by decide) (fun c3 => ?_) (fun c3 => ?_)
        · omega
        have hyes : (!decide (x.2.1.1 ≠ -1) && pf_call Sm j FF.1.1 FF.1.2.1) = true := by
          rw [hpc, ← Bool.decide_and, decide_eq_true (show x.1.1 = FF.1.1 ∧ x.1.2.1 = FF.1.2.1 from ⟨hcall.1.symm, hcall.2.symm⟩), hm1]
          rfl
        rw [if_pos hyes] at hs
        have hcl : x.2.2.1 < Sm.1.length := cx j x hx
        have hc := List.getElem?_eq_getElem hcl
        have cC := mp.2.2.2.2.2.1 _ _ hc
        have ea : s_alone Sm FF = w_short (Sm.1[x.2.2.1]'hcl).2 x.1.2.2 FF := by
          unfold s_alone
          rw [hs]
          simp only
          rw [pm_ln_eq hx, pm_cl_eq hc]
        refine am_aload_n hB d_MO_shortenFrame_186 rfl rfl rfl ?_
        refine am_aload_n hB d_MO_shortenFrame_187 rfl rfl rfl ?_
        refine am_getf hB d_MO_shortenFrame_188 F_MO_61_11 M.1 rfl ?_
        refine am_iload_n hB d_MO_shortenFrame_191 rfl rfl ?_
        refine ai_iald hB d_MO_shortenFrame_192 ty_1 M.classOf ?_
        refine am_aload_n hB d_MO_shortenFrame_193 rfl rfl rfl ?_
        refine am_getf hB d_MO_shortenFrame_194 F_MO_43_11 M.1 rfl ?_
        refine am_iload_n hB d_MO_shortenFrame_197 rfl rfl ?_
        refine ai_iald hB d_MO_shortenFrame_198 ty_1 M.nickFrom ?_
        refine am_aload_n hB d_MO_shortenFrame_199 rfl rfl rfl ?_
        refine am_getf hB d_MO_shortenFrame_200 F_MO_46_11 M.1 rfl ?_
        refine am_iload_n hB d_MO_shortenFrame_203 rfl rfl ?_
        refine ai_iald hB d_MO_shortenFrame_204 ty_1 M.nickTo ?_
        show am_Z X 205 [.ref m, am_n k, am_n (-1), am_n j, v4] [am_n (U.nickTo_ j), am_n (U.nickFrom_ j), am_n (U.classOf_ j), .ref m] hA 0 0
        rw [g5]
        exact short x.2.2.1 _ _ _ x.1.2.2 j v4 205 (by omega) cC ⟨by omega, by omega, by omega⟩ y2 ea (Or.inl rfl)
    refine ai_const hB d_MO_shortenFrame_158 ?_
    refine am_istore_n hB d_MO_shortenFrame_159 rfl (by rw [hR.nL]; decide) rfl ?_
    exact bare Sm.2.length 0 v4 (by omega) rfl
  -- the best group is written
  have best : ∀ (b : Nat) (x : pm_L) (v3 v4 : Value), Sm.2[b]? = some x → x.2.2.2 = true → sf_fit Sm (fr_run (L.drop k)) b ≠ -1 → sq_P Sm (fr_run (L.drop k)) 0 (some b) → am_Z X 79 [.ref m, am_n k, am_n (pm_ld Sm.2 b), v3, v4] [] hA 0 0 := by
    intro b x v3 v4 hx hl hf sq
    have be := best_eq sq
    have bl := am_lt hx
    have be1 : (sf_best Sm (fr_run (L.drop k)) Sm.2.length 0 (-1, 0, 0)).1 = (b : Int) := be.1
    obtain ⟨be2, be3⟩ := be.2 b rfl
    have fi := sf_fit_in ok hx hf
    have eb := pf_end_le (S := Sm) bl
    obtain ⟨⟨-, -, y1⟩, ⟨-, -, y2⟩, ⟨g1, g2, g3, g4⟩, g5, -, g6⟩ := mp.2.2.2.2.2.2 b x hx
    have hcl := cx b x hx
    have hc := List.getElem?_eq_getElem hcl
    have cC := mp.2.2.2.2.2.1 _ _ hc
    have et : s_txt Sm (fr_run (L.drop k)) = w_open (Sm.1[x.2.2.1]'hcl).2 x.1.2.2 ++ sp_wd 14 ++ w_close (x.2.1.1 + sf_fit Sm (fr_run (L.drop k)) b) := by
      unfold s_txt
      rw [if_neg (by rw [be1]; omega), be1, be3, show ((b : Int)).toNat = b by omega, pm_ln_eq hx, pm_cl_eq hc]
    have ec : s_cnt Sm (fr_run (L.drop k)) = (pf_end Sm b : Int) - b := by
      unfold s_cnt
      rw [if_neg (by rw [be1]; omega), be2]
    refine am_aload_n hB d_MO_shortenFrame_79 rfl rfl rfl ?_
    refine am_iload_n hB d_MO_shortenFrame_80 rfl rfl ?_
    refine am_callV hB hR (as := [am_n (pm_ld Sm.2 b)]) M.1 (m_MO_lineOf M mp hx hl) c_MO_269 rfl rfl d_MO_shortenFrame_81 ⟨by decide, Nat.le_of_ble_eq_true rfl⟩ ⟨by decide, by decide⟩ rfl rfl (fun rr h hp => ?_)
    obtain ⟨rfl, rfl⟩ := hp
    show am_Z X 84 [.ref m, am_n k, am_n (pm_ld Sm.2 b), v3, v4] [am_n b] hA 0 0
    refine am_istore_n hB d_MO_shortenFrame_84 rfl (by rw [hR.nL]; decide) rfl ?_
    refine am_aload_n hB d_MO_shortenFrame_85 rfl rfl rfl ?_
    refine am_aload_n hB d_MO_shortenFrame_86 rfl rfl rfl ?_
    refine am_getf hB d_MO_shortenFrame_87 F_MO_61_11 M.1 rfl ?_
    refine am_iload_n hB d_MO_shortenFrame_90 rfl rfl ?_
    refine ai_iald hB d_MO_shortenFrame_91 ty_1 M.classOf ?_
    refine am_aload_n hB d_MO_shortenFrame_92 rfl rfl rfl ?_
    refine am_getf hB d_MO_shortenFrame_93 F_MO_43_11 M.1 rfl ?_
    refine am_iload_n hB d_MO_shortenFrame_96 rfl rfl ?_
    refine ai_iald hB d_MO_shortenFrame_97 ty_1 M.nickFrom ?_
    refine am_aload_n hB d_MO_shortenFrame_98 rfl rfl rfl ?_
    refine am_getf hB d_MO_shortenFrame_99 F_MO_46_11 M.1 rfl ?_
    refine am_iload_n hB d_MO_shortenFrame_102 rfl rfl ?_
    refine ai_iald hB d_MO_shortenFrame_103 ty_1 M.nickTo ?_
    show am_Z X 104 [.ref m, am_n k, am_n (pm_ld Sm.2 b), am_n b, v4] [am_n (U.nickTo_ b), am_n (U.nickFrom_ b), am_n (U.classOf_ b), .ref m] hA 0 0
    rw [g5]
    refine am_callV hB hR (as := [am_n x.2.2.1, am_n (U.nickFrom_ b), am_n (U.nickTo_ b)]) M.1 (m_MO_emitShort S hg (by omega) cC (by omega) (by omega) (by omega)) c_MO_323 rfl rfl d_MO_shortenFrame_104 ⟨by decide, Nat.le_of_ble_eq_true rfl⟩ ⟨by decide, by decide⟩ rfl rfl (fun rr h hp => ?_)
    obtain ⟨rfl, S, f1⟩ := hp
    rw [y2] at S
    obtain ⟨o, s, v, M, q⟩ := id S
    show am_Z X 107 [.ref m, am_n k, am_n (pm_ld Sm.2 b), am_n b, v4] [] h 0 0
    refine am_aload_n hB d_MO_shortenFrame_107 rfl rfl rfl ?_
    refine am_callV hB hR (as := []) M.1 (m_MO_emitSource S) c_MO_317 rfl rfl d_MO_shortenFrame_108 ⟨by decide, Nat.le_of_ble_eq_true rfl⟩ ⟨by decide, by decide⟩ rfl rfl (fun rr h hp => ?_)
    obtain ⟨rfl, S, f2⟩ := hp
    obtain ⟨o, s, v, M, q⟩ := id S
    show am_Z X 111 [.ref m, am_n k, am_n (pm_ld Sm.2 b), am_n b, v4] [] h 0 0
    refine am_aload_n hB d_MO_shortenFrame_111 rfl rfl rfl ?_
    refine ai_bipush hB d_MO_shortenFrame_112 (by decide) ?_
    refine am_callV hB hR (as := [am_n 58]) M.1 (m_MO_emit S (by omega) (by omega)) c_MO_251 rfl rfl d_MO_shortenFrame_114 ⟨by decide, Nat.le_of_ble_eq_true rfl⟩ ⟨by decide, by decide⟩ rfl rfl (fun rr h hp => ?_)
    obtain ⟨rfl, S, f3⟩ := hp
    obtain ⟨o, s, v, M, q⟩ := id S
    show am_Z X 117 [.ref m, am_n k, am_n (pm_ld Sm.2 b), am_n b, v4] [] h 0 0
    refine am_aload_n hB d_MO_shortenFrame_117 rfl rfl rfl ?_
    refine am_aload_n hB d_MO_shortenFrame_118 rfl rfl rfl ?_
    refine am_getf hB d_MO_shortenFrame_119 F_MO_49_11 M.1 rfl ?_
    refine am_iload_n hB d_MO_shortenFrame_122 rfl rfl ?_
    refine ai_iald hB d_MO_shortenFrame_123 ty_1 M.low ?_
    refine am_aload_n hB d_MO_shortenFrame_124 rfl rfl rfl ?_
    refine am_iload_n hB d_MO_shortenFrame_125 rfl rfl ?_
    refine am_iload_n hB d_MO_shortenFrame_126 rfl rfl ?_
    show am_Z X 127 [.ref m, am_n k, am_n (pm_ld Sm.2 b), am_n b, v4] [am_n k, am_n (pm_ld Sm.2 b), .ref m, am_n (U.low_ b), .ref m] h 0 0
    rw [g1]
    refine am_callV hB hR (as := [am_n (pm_ld Sm.2 b), am_n k]) M.1 (m_MO_fit M hg mp ok tc hL hx hl (by omega)) c_MO_320 rfl rfl d_MO_shortenFrame_127 ⟨by decide, Nat.le_of_ble_eq_true rfl⟩ ⟨by decide, by decide⟩ rfl rfl (fun rr h hp => ?_)
    obtain ⟨rfl, rfl⟩ := hp
    show am_Z X 130 [.ref m, am_n k, am_n (pm_ld Sm.2 b), am_n b, v4] [am_n (sf_fit Sm (fr_run (L.drop k)) b), am_n x.2.1.1, .ref m] h 0 0
    refine ai_add hB d_MO_shortenFrame_130 ?_
    refine am_callV hB hR (as := [am_n (x.2.1.1 + sf_fit Sm (fr_run (L.drop k)) b)]) M.1 (m_MO_emitNumber S (by omega) (by omega)) c_MO_281 rfl rfl d_MO_shortenFrame_131 ⟨by decide, Nat.le_of_ble_eq_true rfl⟩ ⟨by decide, by decide⟩ rfl rfl (fun rr h hp => ?_)
    obtain ⟨rfl, S, f4⟩ := hp
    obtain ⟨o, s, v, M, q⟩ := id S
    show am_Z X 134 [.ref m, am_n k, am_n (pm_ld Sm.2 b), am_n b, v4] [] h 0 0
    refine am_aload_n hB d_MO_shortenFrame_134 rfl rfl rfl ?_
    refine ai_bipush hB d_MO_shortenFrame_135 (by decide) ?_
    refine am_callV hB hR (as := [am_n 41]) M.1 (m_MO_emit S (by omega) (by omega)) c_MO_251 rfl rfl d_MO_shortenFrame_137 ⟨by decide, Nat.le_of_ble_eq_true rfl⟩ ⟨by decide, by decide⟩ rfl rfl (fun rr h hp => ?_)
    obtain ⟨rfl, S, f5⟩ := hp
    obtain ⟨o, s, v, M, q⟩ := id S
    show am_Z X 140 [.ref m, am_n k, am_n (pm_ld Sm.2 b), am_n b, v4] [] h 0 0
    refine am_aload_n hB d_MO_shortenFrame_140 rfl rfl rfl ?_
    refine ai_bipush hB d_MO_shortenFrame_141 (by decide) ?_
    refine am_callV hB hR (as := [am_n 10]) M.1 (m_MO_emit S (by omega) (by omega)) c_MO_251 rfl rfl d_MO_shortenFrame_143 ⟨by decide, Nat.le_of_ble_eq_true rfl⟩ ⟨by decide, by decide⟩ rfl rfl (fun rr h hp => ?_)
    obtain ⟨rfl, S, f6⟩ := hp
    obtain ⟨o, s, v, M, q⟩ := id S
    show am_Z X 146 [.ref m, am_n k, am_n (pm_ld Sm.2 b), am_n b, v4] [] h 0 0
    refine am_iload_n hB d_MO_shortenFrame_146 rfl rfl ?_
    refine am_aload_n hB d_MO_shortenFrame_147 rfl rfl rfl ?_
    refine am_iload_n hB d_MO_shortenFrame_148 rfl rfl ?_
    refine am_callV hB hR (as := [am_n (pm_ld Sm.2 b)]) M.1 (m_MO_lastOf M mp hx hl) c_MO_272 rfl rfl d_MO_shortenFrame_149 ⟨by decide, Nat.le_of_ble_eq_true rfl⟩ ⟨by decide, by decide⟩ rfl rfl (fun rr h hp => ?_)
    obtain ⟨rfl, rfl⟩ := hp
    show am_Z X 152 [.ref m, am_n k, am_n (pm_ld Sm.2 b), am_n b, v4] [am_n ((pf_end Sm b : Int) - 1), am_n k] h 0 0
    refine ai_add hB d_MO_shortenFrame_152 ?_
    refine am_iload_n hB d_MO_shortenFrame_153 rfl rfl ?_
    refine ai_sub hB d_MO_shortenFrame_154 ?_
    refine ai_const hB d_MO_shortenFrame_155 ?_
    refine ai_add hB d_MO_shortenFrame_156 ?_
    refine am_iret hB hR d_MO_shortenFrame_157 rfl rfl ?_ (Nat.zero_le _) (Nat.zero_le _)
    refine ⟨by rw [ec, show (k : Int) + ((pf_end Sm b : Int) - 1) - b + 1 = k + ((pf_end Sm b : Int) - b) by omega], ?_, ((((f1.tr f2).tr f3).tr f4).tr f5).tr f6⟩
    rw [et, ← w_close_num (by omega)]
    simp only [List.append_assoc] at S ⊢
    exact S
  have loop : ∀ (g e : Nat) (gi bi : Int) (ob : Option Nat) (v4 : Value), gi = (g : Int) - 1 → e ≤ Sm.2.length → pm_ld Sm.2 e = g → sq_P Sm (fr_run (L.drop k)) e ob → bi = (match ob with
      | none => -1
      | some b => (pm_ld Sm.2 b : Int)) → am_Z X 9 [.ref m, am_n k, am_n bi, am_n gi, v4] [] hA 0 0 := by
    intro g
    induction g with
    | zero =>
      intro e gi bi ob v4 hgi he hld sq hbi
      have sq0 : sq_P Sm (fr_run (L.drop k)) 0 ob := by
        have hno : ∀ (j : Nat) y, j < e → Sm.2[j]? = some y → y.2.2.2 = false := fun j y hj hy => by
          cases c : y.2.2.2 with
          | false => rfl
          | true =>
            have s1 := pm_ld_s hy
            rw [if_pos c] at s1
            have l1 := pm_ld_le2 (L := Sm.2) (show j + 1 ≤ e by omega)
            omega
        cases ob with
        | none =>
          intro j y hj hy hl
          rcases Nat.lt_or_ge j e with z | z
          · rw [hno j y z hy] at hl
            cases hl
          · exact sq j y z hy hl
        | some b =>
          obtain ⟨x, q1, q2, q3, q4, q5, q6⟩ := sq
          refine ⟨x, q1, q2, Nat.zero_le _, q4, fun j y hj hy hl hf => ?_, fun j y hj hjb hy hl hf => ?_⟩
          · rcases Nat.lt_or_ge j e with z | z
            · rw [hno j y z hy] at hl
              cases hl
            · exact q5 j y z hy hl hf
          · rcases Nat.lt_or_ge j e with z | z
            · rw [hno j y z hy] at hl
              cases hl
            · exact q6 j y z hjb hy hl hf
      refine am_iload_n hB d_MO_shortenFrame_9 rfl rfl ?_
      refine ai_zlt (tgt := 75) hB d_MO_shortenFrame_10 (by decide) (fun c1 => ?_) (fun c1 => ?_)
      rotate_left
      · omega
      refine am_iload_n hB d_MO_shortenFrame_75 rfl rfl ?_
      cases ob with
      | none =>
        subst hbi
        show am_Z X 76 [.ref m, am_n k, am_n (-1), am_n gi, v4] [am_n (-1)] hA 0 0
        refine ai_zlt (tgt := 158) hB d_MO_shortenFrame_76 (by decide) (fun c2 => ?_) (fun c2 => ?_)
        · exact alone (best_eq sq0).1 _ v4
        · omega
      | some b =>
        subst hbi
        obtain ⟨x, q1, q2, q3, q4, -, -⟩ := id sq0
        have l2 := pm_ld_le2 (L := Sm.2) (show b ≤ Sm.2.length from Nat.le_of_lt (am_lt q1))
        show am_Z X 76 [.ref m, am_n k, am_n (pm_ld Sm.2 b), am_n gi, v4] [am_n (pm_ld Sm.2 b)] hA 0 0
        refine ai_zlt (tgt := 158) hB d_MO_shortenFrame_76 (by decide) (fun c2 => ?_) (fun c2 => ?_)
        · omega
        exact best b x _ v4 q1 q2 q4 sq0
    | succ g ih =>
      intro e gi bi ob v4 hgi he hld sq hbi
      obtain ⟨i, x, p1, p2, p3, p4, p5⟩ := ld_prev (L := Sm.2) (g := g) e he hld
      have gl := pm_ld_le2 (L := Sm.2) (show i ≤ Sm.2.length by omega)
      have hgi' : gi = (pm_ld Sm.2 i : Int) := by omega
      subst hgi'
      have fiin : sf_fit Sm (fr_run (L.drop k)) i = -1 ∨ (0 ≤ sf_fit Sm (fr_run (L.drop k)) i ∧ sf_fit Sm (fr_run (L.drop k)) i < 10000) := by
        by_cases z : sf_fit Sm (fr_run (L.drop k)) i = -1
        · exact Or.inl z
        · have := sf_fit_in ok p2 z
          exact Or.inr (by omega)
      have szi := sf_sz_lead p2 p3
      have only : ∀ (j : Nat) y, i ≤ j → Sm.2[j]? = some y → y.2.2.2 = true → j = i ∨ e ≤ j := fun j y hj hy hl => by
        rcases Nat.lt_or_ge j e with z | z
        · by_cases w : j = i
          · exact Or.inl w
          · rw [p5 j y (by omega) z hy] at hl
            cases hl
        · exact Or.inr z
      have nxt : ∀ (bi2 : Int) (ob2 : Option Nat) (v4 : Value), sq_P Sm (fr_run (L.drop k)) i ob2 → bi2 = (match ob2 with
          | none => -1
          | some b => (pm_ld Sm.2 b : Int)) → am_Z X 68 [.ref m, am_n k, am_n bi, am_n (pm_ld Sm.2 i), v4] [am_n bi2] hA 0 0 := by
        intro bi2 ob2 v4 sq2 hb2
        refine am_istore_n hB d_MO_shortenFrame_68 rfl (by rw [hR.nL]; decide) rfl ?_
        refine ai_inc hB d_MO_shortenFrame_69 rfl (by rw [hR.nL]; decide) rfl ?_
        exact am_goto (tgt := 9) hB d_MO_shortenFrame_72 (by decide) (ih i _ bi2 ob2 v4 (by omega) (by omega) p4 sq2 hb2)
      have keep : (sf_fit Sm (fr_run (L.drop k)) i = -1 ∨ ∃ b, ob = some b ∧ sf_sz Sm i < sf_sz Sm b) → ∀ v4 : Value, am_Z X 67 [.ref m, am_n k, am_n bi, am_n (pm_ld Sm.2 i), v4] [] hA 0 0 := by
        intro hz v4
        refine am_iload_n hB d_MO_shortenFrame_67 rfl rfl ?_
        refine nxt bi ob v4 ?_ hbi
        cases ob with
        | none =>
          have hz : sf_fit Sm (fr_run (L.drop k)) i = -1 := hz.resolve_right (fun ⟨b, hb, _⟩ => by cases hb)
          intro j y hj hy hl
          rcases only j y hj hy hl with w | w
          · rw [w]; exact hz
          · exact sq j y w hy hl
        | some b =>
          obtain ⟨w, q1, q2, q3, q4, q5, q6⟩ := sq
          have hz : sf_fit Sm (fr_run (L.drop k)) i = -1 ∨ sf_sz Sm i < sf_sz Sm b := by
            rcases hz with z | ⟨b', hb', z⟩
            · exact Or.inl z
            · cases hb'; exact Or.inr z
          refine ⟨w, q1, q2, by omega, q4, fun j y hj hy hl hf => ?_, fun j y hj hjb hy hl hf => ?_⟩
          · rcases only j y hj hy hl with w | w
            · rw [w] at hf ⊢
              rcases hz with z | z
              · exact absurd z hf
              · omega
            · exact q5 j y w hy hl hf
          · rcases only j y hj hy hl with w | w
            · rw [w] at hf ⊢
              rcases hz with z | z
              · exact absurd z hf
              · exact z
            · exact q6 j y w hjb hy hl hf
      have take : (ob = none ∨ ∃ b, ob = some b ∧ sf_sz Sm b ≤ sf_sz Sm i) → am_Z X 54 [.ref m, am_n k, am_n bi, am_n (pm_ld Sm.2 i), am_n 1] [] hA 0 0 := by
        intro hz
        refine am_aload_n hB d_MO_shortenFrame_54 rfl rfl rfl ?_
        refine am_iload_n hB d_MO_shortenFrame_55 rfl rfl ?_
        refine am_iload_n hB d_MO_shortenFrame_56 rfl rfl ?_
        refine am_callV hB hR (as := [am_n (pm_ld Sm.2 i), am_n k]) M.1 (m_MO_fit M hg mp ok tc hL p2 p3 (by omega)) c_MO_320 rfl rfl d_MO_shortenFrame_57 ⟨by decide, Nat.le_of_ble_eq_true rfl⟩ ⟨by decide, by decide⟩ rfl rfl (fun rr h hp => ?_)
        obtain ⟨rfl, rfl⟩ := hp
        show am_Z X 60 [.ref m, am_n k, am_n bi, am_n (pm_ld Sm.2 i), am_n 1] [am_n (sf_fit Sm (fr_run (L.drop k)) i)] hA 0 0
        refine ai_zlt (tgt := 67) hB d_MO_shortenFrame_60 (by decide) (fun c3 => ?_) (fun c3 => ?_)
        · exact keep (Or.inl (by omega)) _
        refine am_iload_n hB d_MO_shortenFrame_63 rfl rfl ?_
        refine am_goto (tgt := 68) hB d_MO_shortenFrame_64 (by decide) ?_
        refine nxt _ (some i) _ ?_ rfl
        refine ⟨x, p2, p3, Nat.le_refl i, by omega, fun j y hj hy hl hf => ?_, fun j y hj hjb => by omega⟩
        rcases only j y hj hy hl with w | w
        · rw [w]; exact Int.le_refl _
        · rcases hz with z | ⟨b, hb, z⟩
          · rw [z] at sq
            exact absurd (sq j y w hy hl) hf
          · rw [hb] at sq
            obtain ⟨w', q1, q2, q3, q4, q5, q6⟩ := sq
            have := q5 j y w hy hl hf
            omega
      refine am_iload_n hB d_MO_shortenFrame_9 rfl rfl ?_
      refine ai_zlt (tgt := 75) hB d_MO_shortenFrame_10 (by decide) (fun c1 => ?_) (fun c1 => ?_)
      · omega
      refine am_iload_n hB d_MO_shortenFrame_13 rfl rfl ?_
      cases ob with
      | none =>
        subst hbi
        show am_Z X 14 [.ref m, am_n k, am_n (-1), am_n (pm_ld Sm.2 i), v4] [am_n (-1)] hA 0 0
        refine ai_zlt (tgt := 42) hB d_MO_shortenFrame_14 (by decide) (fun c2 => ?_) (fun c2 => ?_)
        rotate_left
        · omega
        refine ai_const hB d_MO_shortenFrame_42 ?_
        refine am_goto (tgt := 47) hB d_MO_shortenFrame_43 (by decide) ?_
        refine am_istore hB d_MO_shortenFrame_47 (by rw [hR.nL]; decide) rfl ?_
        refine am_iload hB d_MO_shortenFrame_49 rfl ?_
        show am_Z X 51 [.ref m, am_n k, am_n (-1), am_n (pm_ld Sm.2 i), am_n 1] [am_n 1] hA 0 0
        refine ai_zeq (tgt := 67) hB d_MO_shortenFrame_51 (by decide) (fun c4 => ?_) (fun c4 => ?_)
        · omega
        exact take (Or.inl rfl)
      | some b =>
        subst hbi
        obtain ⟨w, q1, q2, q3, q4, -, -⟩ := id sq
        have l2 := pm_ld_le2 (L := Sm.2) (show b ≤ Sm.2.length from Nat.le_of_lt (am_lt q1))
        have szb := sf_sz_lead q1 q2
        have ebl := pf_end_le (S := Sm) (am_lt q1)
        have eil := pf_end_le (S := Sm) (am_lt p2)
        show am_Z X 14 [.ref m, am_n k, am_n (pm_ld Sm.2 b), am_n (pm_ld Sm.2 i), v4] [am_n (pm_ld Sm.2 b)] hA 0 0
        refine ai_zlt (tgt := 42) hB d_MO_shortenFrame_14 (by decide) (fun c2 => ?_) (fun c2 => ?_)
        · omega
        refine am_aload_n hB d_MO_shortenFrame_17 rfl rfl rfl ?_
        refine am_iload_n hB d_MO_shortenFrame_18 rfl rfl ?_
        refine am_callV hB hR (as := [am_n (pm_ld Sm.2 i)]) M.1 (m_MO_lastOf M mp p2 p3) c_MO_272 rfl rfl d_MO_shortenFrame_19 ⟨by decide, Nat.le_of_ble_eq_true rfl⟩ ⟨by decide, by decide⟩ rfl rfl (fun rr h hp => ?_)
        obtain ⟨rfl, rfl⟩ := hp
        show am_Z X 22 [.ref m, am_n k, am_n (pm_ld Sm.2 b), am_n (pm_ld Sm.2 i), v4] [am_n ((pf_end Sm i : Int) - 1)] hA 0 0
        refine am_aload_n hB d_MO_shortenFrame_22 rfl rfl rfl ?_
        refine am_iload_n hB d_MO_shortenFrame_23 rfl rfl ?_
        refine am_callV hB hR (as := [am_n (pm_ld Sm.2 i)]) M.1 (m_MO_lineOf M mp p2 p3) c_MO_269 rfl rfl d_MO_shortenFrame_24 ⟨by decide, Nat.le_of_ble_eq_true rfl⟩ ⟨by decide, by decide⟩ rfl rfl (fun rr h hp => ?_)
        obtain ⟨rfl, rfl⟩ := hp
        show am_Z X 27 [.ref m, am_n k, am_n (pm_ld Sm.2 b), am_n (pm_ld Sm.2 i), v4] [am_n i, am_n ((pf_end Sm i : Int) - 1)] hA 0 0
        refine ai_sub hB d_MO_shortenFrame_27 ?_
        refine am_aload_n hB d_MO_shortenFrame_28 rfl rfl rfl ?_
        refine am_iload_n hB d_MO_shortenFrame_29 rfl rfl ?_
        refine am_callV hB hR (as := [am_n (pm_ld Sm.2 b)]) M.1 (m_MO_lastOf M mp q1 q2) c_MO_272 rfl rfl d_MO_shortenFrame_30 ⟨by decide, Nat.le_of_ble_eq_true rfl⟩ ⟨by decide, by decide⟩ rfl rfl (fun rr h hp => ?_)
        obtain ⟨rfl, rfl⟩ := hp
        show am_Z X 33 [.ref m, am_n k, am_n (pm_ld Sm.2 b), am_n (pm_ld Sm.2 i), v4] [am_n ((pf_end Sm b : Int) - 1), am_n ((pf_end Sm i : Int) - 1 - i)] hA 0 0
        refine am_aload_n hB d_MO_shortenFrame_33 rfl rfl rfl ?_
        refine am_iload_n hB d_MO_shortenFrame_34 rfl rfl ?_
        refine am_callV hB hR (as := [am_n (pm_ld Sm.2 b)]) M.1 (m_MO_lineOf M mp q1 q2) c_MO_269 rfl rfl d_MO_shortenFrame_35 ⟨by decide, Nat.le_of_ble_eq_true rfl⟩ ⟨by decide, by decide⟩ rfl rfl (fun rr h hp => ?_)
        obtain ⟨rfl, rfl⟩ := hp
        show am_Z X 38 [.ref m, am_n k, am_n (pm_ld Sm.2 b), am_n (pm_ld Sm.2 i), v4] [am_n b, am_n ((pf_end Sm b : Int) - 1), am_n ((pf_end Sm i : Int) - 1 - i)] hA 0 0
        refine ai_sub hB d_MO_shortenFrame_38 ?_
        refine ai_jlt (tgt := 46) hB d_MO_shortenFrame_39 (by decide) (fun c3 => ?_) (fun c3 => ?_)
        · refine ai_const hB d_MO_shortenFrame_46 ?_
          refine am_istore hB d_MO_shortenFrame_47 (by rw [hR.nL]; decide) rfl ?_
          refine am_iload hB d_MO_shortenFrame_49 rfl ?_
          show am_Z X 51 [.ref m, am_n k, am_n (pm_ld Sm.2 b), am_n (pm_ld Sm.2 i), am_n 0] [am_n 0] hA 0 0
          refine ai_zeq (tgt := 67) hB d_MO_shortenFrame_51 (by decide) (fun c4 => ?_) (fun c4 => ?_)
          rotate_left
          · omega
          exact keep (Or.inr ⟨b, rfl, by omega⟩) _
        · refine ai_const hB d_MO_shortenFrame_42 ?_
          refine am_goto (tgt := 47) hB d_MO_shortenFrame_43 (by decide) ?_
          refine am_istore hB d_MO_shortenFrame_47 (by rw [hR.nL]; decide) rfl ?_
          refine am_iload hB d_MO_shortenFrame_49 rfl ?_
          show am_Z X 51 [.ref m, am_n k, am_n (pm_ld Sm.2 b), am_n (pm_ld Sm.2 i), am_n 1] [am_n 1] hA 0 0
          refine ai_zeq (tgt := 67) hB d_MO_shortenFrame_51 (by decide) (fun c4 => ?_) (fun c4 => ?_)
          · omega
          exact take (Or.inr ⟨b, rfl, by omega⟩)
  refine ai_const hB d_MO_shortenFrame_0 ?_
  refine am_istore_n hB d_MO_shortenFrame_1 rfl (by rw [hR.nL]; decide) rfl ?_
  refine am_aload_n hB d_MO_shortenFrame_2 rfl rfl rfl ?_
  refine am_getf hB d_MO_shortenFrame_3 F_MO_173_11 M.1 rfl ?_
  show am_Z X 6 [.ref m, am_n k, am_n (-1), am_u, am_u] [am_n U.groups_] hA 0 0
  rw [m5]
  refine ai_const hB d_MO_shortenFrame_6 ?_
  refine ai_sub hB d_MO_shortenFrame_7 ?_
  refine am_istore_n hB d_MO_shortenFrame_8 rfl (by rw [hR.nL]; decide) rfl ?_
  exact loop (pm_ld Sm.2 Sm.2.length) Sm.2.length _ (-1) none am_u rfl (Nat.le_refl _) rfl (fun j y hj hy => by have := am_lt hy; omega) rfl
