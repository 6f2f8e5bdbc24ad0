/-! the model: a method line -/
def ml_opt (g : Int → Int) (S : pm_S) (a e : Int) : Option pm_S := match S.1.getLast? with
    | none => none
    | some c => if S.2.length = 32 then none else (match pm_ml g c.1 a e with
      | none => none
      | some w => some (S.1, S.2 ++ [(w.1, w.2, S.1.length - 1, !pm_on S.2 w (S.1.length - 1))]))
/-- the range before a method line's call, as the model leaves it -/
def rg_lk (g : Int → Int) (a e : Int) (k lo hi : Int) (b : Bool) : Prop := (sp_rg g a e = none ∧ (k = -1 ∨ (0 ≤ k ∧ k ≤ e ∧ b = true ∧ (-1 ≤ lo ∧ lo < 100000) ∧ (-1 ≤ hi ∧ hi < 100000) ∧ hi < lo))) ∨ (sp_rg g a e = some (k, lo, hi) ∧ ((lo = -1 ∧ hi = -1 ∧ b = false) ∨ (0 ≤ lo ∧ lo ≤ hi ∧ hi < 10000 ∧ b = true)))
theorem m_MO_methodLine {l : Launch} {G : am_G} {hA : am_H} {m : Nat} {U : mv} {S : pm_S} {a e : Int} (M : am_mo hA m U) (hg : am_cok U.all_) (mp : mo_map U S) (h0 : 0 ≤ a) (hae : a + 4 ≤ e) (h2 : e ≤ 600) : am_M l G M_MO_methodLine [.ref m, am_n a, am_n e] hA (mo_R hA m U (ml_opt U.all_ S (a + 4) e)) := by
  have f : ko m 35 hA hA := ko.rf
  have m1 := mp.1
  have m2 := mp.2.1
  have m3 := mp.2.2.1
  have m4 := mp.2.2.2.1
  refine am_M.of (by decide) (Nat.le_of_ble_eq_true rfl) (fun X hB hR => ?_)
  show am_Z X 0 [.ref m, am_n a, am_n e, am_u, am_u, am_u, am_u] [] hA 0 0
  have no16 : ml_opt U.all_ S (a + 4) e = none → am_Z X 16 [.ref m, am_n a, am_n e, am_u, am_u, am_u, am_u] [] hA 0 0 := by
    intro hz
    refine ai_const hB d_MO_methodLine_16 ?_
    refine am_iret hB hR d_MO_methodLine_17 rfl (by decide) ?_ (Nat.zero_le _) (Nat.zero_le _)
    rw [hz]
    exact ⟨_, M, mo_q.rf _, f, rfl⟩
  refine am_aload_n hB d_MO_methodLine_0 rfl rfl rfl ?_
  refine am_getf hB d_MO_methodLine_1 F_MO_145_11 M.1 rfl ?_
  rw [m1]
  by_cases hC : S.1.length = 0
  · have : S.1 = [] := List.length_eq_zero_iff.mp hC
    refine ai_zeq (tgt := 16) hB d_MO_methodLine_4 (by decide) (fun c1 => ?_) (fun c1 => ?_)
    · exact no16 (by unfold ml_opt; rw [this]; rfl)
    · omega
  have hlast : S.1.getLast? = some (S.1[S.1.length - 1]'(by omega)) := by
    rw [List.getLast?_eq_getElem?, List.getElem?_eq_getElem]
  have hc := mp.2.2.2.2.2.1 (S.1.length - 1) _ (List.getElem?_eq_getElem (show S.1.length - 1 < S.1.length by omega))
  generalize S.1[S.1.length - 1]'(by omega) = C at hlast hc
  obtain ⟨y1, -, y2, -⟩ := hc
  rw [show (((S.1.length - 1 : Nat)) : Int) = (S.1.length : Int) - 1 by omega] at y1 y2
  refine ai_zeq (tgt := 16) hB d_MO_methodLine_4 (by decide) (fun c1 => ?_) (fun c1 => ?_)
  · omega
  refine am_aload_n hB d_MO_methodLine_7 rfl rfl rfl ?_
  refine am_getf hB d_MO_methodLine_8 F_MO_163_11 M.1 rfl ?_
  refine ai_bipush hB d_MO_methodLine_11 (by decide) ?_
  rw [m3]
  refine ai_jne (tgt := 18) hB d_MO_methodLine_13 (by decide) (fun c2 => ?_) (fun c2 => ?_)
  rotate_left
  · exact no16 (by unfold ml_opt; rw [hlast]; simp only; rw [if_pos (by omega)])
  have h32 : S.2.length ≠ 32 := by omega
  have hopt : ml_opt U.all_ S (a + 4) e = (match pm_ml U.all_ C.1 (a + 4) e with
      | none => none
      | some w => some (S.1, S.2 ++ [(w.1, w.2, S.1.length - 1, !pm_on S.2 w (S.1.length - 1))])) := by
    unfold ml_opt
    rw [hlast]
    simp only
    rw [if_neg h32]
  have C155 : ∀ (k lo hi : Int) (b : Bool) (v6 : Value) (U1 : mv) (h1 : am_H), mo_u U U1 S.2.length → U1.low_ S.2.length = lo → U1.high_ S.2.length = hi → rg_lk U.all_ (a + 4) e k lo hi b → am_mo h1 m U1 → ko m 35 hA h1 → am_Z X 155 [.ref m, am_n a, am_n e, am_n S.2.length, am_n k, am_n (sp_i b), v6] [] h1 0 0 := by
    intro k lo hi b v6 U1 h1 u e1 e2 lk M f
    have qa := u.1.1.2.2.1
    have hg1 : am_cok U1.all_ := by rw [qa]; exact hg
    have no : ∀ (v : Int) (U1 : mv) (h1 : am_H), v < 0 → v = -1 → mo_q U U1 → am_mo h1 m U1 → ko m 35 hA h1 → ml_opt U.all_ S (a + 4) e = none → am_Z X 193 [.ref m, am_n a, am_n e, am_n S.2.length, am_n k, am_n (sp_i b), am_n v] [] h1 0 0 := by
      intro v U1 h1 hv hv' q M f hz
      refine am_iload hB d_MO_methodLine_193 rfl ?_
      refine ai_zge (tgt := 200) hB d_MO_methodLine_195 (by decide) (fun c9 => ?_) (fun c9 => ?_)
      · omega
      refine ai_const hB d_MO_methodLine_198 ?_
      refine am_iret hB hR d_MO_methodLine_199 rfl (by decide) ?_ (Nat.zero_le _) (Nat.zero_le _)
      rw [hz]
      exact ⟨U1, M, q, f, rfl⟩
    have bad : sp_rg U.all_ (a + 4) e = none → am_Z X 180 [.ref m, am_n a, am_n e, am_n S.2.length, am_n k, am_n (sp_i b), v6] [] h1 0 0 := by
      intro hz
      refine ai_const hB d_MO_methodLine_180 ?_
      refine am_goto (tgt := 191) hB d_MO_methodLine_181 (by decide) ?_
      refine am_istore hB d_MO_methodLine_191 (by rw [hR.nL]; decide) rfl ?_
      exact no (-1) U1 h1 (by omega) rfl u.1 M f (by rw [hopt]; unfold pm_ml sp_mline; rw [hz])
    refine am_iload hB d_MO_methodLine_155 rfl ?_
    rcases lk with ⟨lk, hk⟩ | ⟨lk, hb⟩
    · rcases hk with hk | ⟨k0, ke, rfl, hlo, hhi, hlt⟩
      · refine ai_zlt (tgt := 180) hB d_MO_methodLine_157 (by decide) (fun c3 => ?_) (fun c3 => ?_)
        · exact bad lk
        · omega
      · refine ai_zlt (tgt := 180) hB d_MO_methodLine_157 (by decide) (fun c3 => ?_) (fun c3 => ?_)
        · omega
        refine am_iload hB d_MO_methodLine_160 rfl ?_
        show am_Z X 162 [.ref m, am_n a, am_n e, am_n S.2.length, am_n k, am_n 1, v6] [am_n 1] h1 0 0
        refine ai_zeq (tgt := 184) hB d_MO_methodLine_162 (by decide) (fun c4 => ?_) (fun c4 => ?_)
        · omega
        refine am_aload_n hB d_MO_methodLine_165 rfl rfl rfl ?_
        refine am_getf hB d_MO_methodLine_166 F_MO_49_11 M.1 rfl ?_
        refine am_iload_n hB d_MO_methodLine_169 rfl rfl ?_
        refine ai_iald hB d_MO_methodLine_170 ty_1 M.low ?_
        refine am_aload_n hB d_MO_methodLine_171 rfl rfl rfl ?_
        refine am_getf hB d_MO_methodLine_172 F_MO_52_11 M.1 rfl ?_
        refine am_iload_n hB d_MO_methodLine_175 rfl rfl ?_
        refine ai_iald hB d_MO_methodLine_176 ty_1 M.high ?_
        rw [e1, e2]
        refine ai_jle (tgt := 184) hB d_MO_methodLine_177 (by decide) (fun c5 => ?_) (fun c5 => ?_)
        · omega
        · exact bad lk
    have rin := sp_rg_in hae lk
    have j184 : am_Z X 184 [.ref m, am_n a, am_n e, am_n S.2.length, am_n k, am_n (sp_i b), v6] [] h1 0 0 := by
      refine am_aload_n hB d_MO_methodLine_184 rfl rfl rfl ?_
      refine am_iload hB d_MO_methodLine_185 rfl ?_
      refine am_iload_n hB d_MO_methodLine_187 rfl rfl ?_
      refine am_callV hB hR (as := [am_n k, am_n e]) M.1 (m_MO_nameEnd M hg1 (by omega) (by omega) (by omega)) c_MO_142 rfl rfl d_MO_methodLine_188 ⟨by decide, Nat.le_of_ble_eq_true rfl⟩ ⟨by decide, by decide⟩ rfl rfl (fun rr h hp => ?_)
      obtain ⟨p, lp, rfl, M, f2, np⟩ := hp
      have f := f.tr f2
      have u5_0 := u.tr (mo_u_p U1 S.2.length p lp)
      have u5 : mo_u U (mv.s_lastPart (mv.s_parts U1 (p)) (lp)) S.2.length := u5_0
      show am_Z X 191 [.ref m, am_n a, am_n e, am_n S.2.length, am_n k, am_n (sp_i b), v6] [am_n ((sp_take U1.all_ 40 40 k e).getD (-1))] h 0 0
      rw [qa] at np ⊢
      cases e4 : sp_take U.all_ 40 40 k e with
      | none =>
        show am_Z X 191 [.ref m, am_n a, am_n e, am_n S.2.length, am_n k, am_n (sp_i b), v6] [am_n (-1)] h 0 0
        refine am_istore hB d_MO_methodLine_191 (by rw [hR.nL]; decide) rfl ?_
        exact no (-1) _ h (by omega) rfl u5.1 M f (by rw [hopt]; unfold pm_ml sp_mline; rw [lk]; simp only; rw [e4])
      | some j =>
        have hj := sp_take_in (by omega) e4
        obtain ⟨np1, np2, np3⟩ := np j e4
        have lpin := sp_lp_in U.all_ k (by omega) (j - k).toNat
        have mfin : k ≤ sp_mf U.all_ k j ∧ sp_mf U.all_ k j ≤ j := by
          unfold sp_mf
          split <;> omega
        show am_Z X 191 [.ref m, am_n a, am_n e, am_n S.2.length, am_n k, am_n (sp_i b), v6] [am_n j] h 0 0
        refine am_istore hB d_MO_methodLine_191 (by rw [hR.nL]; decide) rfl ?_
        refine am_iload hB d_MO_methodLine_193 rfl ?_
        refine ai_zge (tgt := 200) hB d_MO_methodLine_195 (by decide) (fun c6 => ?_) (fun c6 => ?_)
        rotate_left
        · omega
        have own : ∀ (x y : Int) (h1 : am_H), x = (if sp_lp U.all_ k (j - k).toNat = -1 then U.realFrom_ ((S.1.length : Int) - 1) else k) → y = (if sp_lp U.all_ k (j - k).toNat = -1 then U.realTo_ ((S.1.length : Int) - 1) else sp_lp U.all_ k (j - k).toNat) → am_mo h1 m (mv.s_ownFrom (mv.s_lastPart (mv.s_parts U1 (p)) (lp)) (am_up U1.ownFrom_ S.2.length x)) → ko m 35 hA h1 → am_Z X 263 [.ref m, am_n a, am_n e, am_n S.2.length, am_n k, am_n (sp_i b), am_n j] [am_n y, am_n S.2.length, .ref (m + 9)] h1 0 0 := by
          intro x y h1 hx hy M f
          refine mo_s_ownTo hB d_MO_methodLine_263 M f (fun h M f => ?_)
          refine am_aload_n hB d_MO_methodLine_264 rfl rfl rfl ?_
          refine am_getf hB d_MO_methodLine_265 F_MO_37_11 M.1 rfl ?_
          refine am_iload_n hB d_MO_methodLine_268 rfl rfl ?_
          refine am_aload_n hB d_MO_methodLine_269 rfl rfl rfl ?_
          refine am_getf hB d_MO_methodLine_270 F_MO_132_11 M.1 rfl ?_
          refine mo_s_callFrom hB d_MO_methodLine_273 M f (fun h M f => ?_)
          refine am_aload_n hB d_MO_methodLine_274 rfl rfl rfl ?_
          refine am_getf hB d_MO_methodLine_275 F_MO_40_11 M.1 rfl ?_
          refine am_iload_n hB d_MO_methodLine_278 rfl rfl ?_
          refine am_iload hB d_MO_methodLine_279 rfl ?_
          refine mo_s_callTo hB d_MO_methodLine_281 M f (fun h M f => ?_)
          refine am_aload_n hB d_MO_methodLine_282 rfl rfl rfl ?_
          refine am_iload_n hB d_MO_methodLine_283 rfl rfl ?_
          refine am_iload hB d_MO_methodLine_284 rfl ?_
          refine am_iload_n hB d_MO_methodLine_286 rfl rfl ?_
          refine am_iload hB d_MO_methodLine_287 rfl ?_
          have M : am_mo h m (mv.s_callTo (mv.s_callFrom (mv.s_ownTo (mv.s_ownFrom (mv.s_lastPart (mv.s_parts U1 (p)) (lp)) (am_up U1.ownFrom_ S.2.length x)) (am_up U1.ownTo_ S.2.length y)) (am_up U1.callFrom_ S.2.length lp)) (am_up U1.callTo_ S.2.length j)) := M
          have u9_0 := (((u5.tr (mo_u_ownFrom _ S.2.length x)).tr (mo_u_ownTo _ S.2.length y)).tr (mo_u_callFrom _ S.2.length lp)).tr (mo_u_callTo _ S.2.length j)
          have u9 : mo_u U (mv.s_callTo (mv.s_callFrom (mv.s_ownTo (mv.s_ownFrom (mv.s_lastPart (mv.s_parts U1 (p)) (lp)) (am_up U1.ownFrom_ S.2.length x)) (am_up U1.ownTo_ S.2.length y)) (am_up U1.callFrom_ S.2.length lp)) (am_up U1.callTo_ S.2.length j)) S.2.length := u9_0
          have hxy : 0 ≤ x ∧ x ≤ y ∧ y ≤ 600 := by
            rw [hx, hy]
            split
            · exact y1
            · omega
          refine am_callV hB hR (as := [am_n S.2.length, am_n j, am_n e, am_n (sp_i b)]) M.1 (m_MO_methodRest (fi := lo) (la := hi) (o := nm U.all_ x y) (c := nm U.all_ lp j) (b := b) M (show am_cok U1.all_ from hg1) (mp.u u9) h32 (by omega) (by omega) (by omega) h2 e1 e2 hb ⟨?_, ?_⟩ ⟨?_, ?_⟩) c_MO_166 rfl rfl d_MO_methodLine_289 ⟨by decide, Nat.le_of_ble_eq_true rfl⟩ ⟨by decide, by decide⟩ rfl rfl (fun rr h hp => ?_)
          · show 0 ≤ am_up U1.ownFrom_ S.2.length x S.2.length ∧ am_up U1.ownFrom_ S.2.length x S.2.length ≤ am_up U1.ownTo_ S.2.length y S.2.length ∧ am_up U1.ownTo_ S.2.length y S.2.length ≤ 600
            rw [am_up_eq, am_up_eq]
            exact hxy
          · show 0 ≤ am_up U1.callFrom_ S.2.length lp S.2.length ∧ am_up U1.callFrom_ S.2.length lp S.2.length ≤ am_up U1.callTo_ S.2.length j S.2.length ∧ am_up U1.callTo_ S.2.length j S.2.length ≤ 600
            rw [am_up_eq, am_up_eq, np1]
            omega
          · show nm U1.all_ (am_up U1.ownFrom_ S.2.length x S.2.length) (am_up U1.ownTo_ S.2.length y S.2.length) = _
            rw [am_up_eq, am_up_eq, qa]
          · show nm U1.all_ (am_up U1.callFrom_ S.2.length lp S.2.length) (am_up U1.callTo_ S.2.length j S.2.length) = _
            rw [am_up_eq, am_up_eq, qa]
          obtain ⟨U9, M9, q9, f9, p9⟩ := hp
          have heq : rs_opt U1.all_ S (nm U.all_ x y) (nm U.all_ lp j) j e lo hi = ml_opt U.all_ S (a + 4) e := by
            rw [hopt, qa]
            unfold pm_ml sp_mline rs_opt rs_rest
            rw [lk]
            simp only
            rw [e4]
            simp only
            cases e7 : sp_rr U.all_ j e lo hi with
            | none => rfl
            | some t =>
              obtain ⟨a3, rf, rl⟩ := t
              simp only
              cases e8 : sp_tw U.all_ 2 a3 e with
              | false => rfl
              | true =>
                have ha4 : a3 + 4 ≤ e := sp_tw_le e8
                have rrin := sp_rr_in (by omega) (by omega) (by omega) e7
                have pin := sp_pe_in U.all_ (a := a3 + 4) (e := e) (by omega) ha4
                rw [if_pos rfl, sp_take_pe (by omega) ha4]
                by_cases z : sp_pe U.all_ (a3 + 4) e = e
                · rw [if_pos ⟨rfl, z⟩, if_neg (by omega)]
                  simp only
                  rw [if_pos (by omega), z]
                  simp only
                  unfold rs_add sp_of sp_ot
                  have ho : (if (if sp_lp U.all_ k (j - k).toNat = -1 then (-1 : Int) else k) = -1 then C.1 else nm U.all_ (if sp_lp U.all_ k (j - k).toNat = -1 then -1 else k) (if sp_lp U.all_ k (j - k).toNat = -1 then -1 else sp_lp U.all_ k (j - k).toNat)) = nm U.all_ x y := by
                    rw [hx, hy]
                    by_cases w : sp_lp U.all_ k (j - k).toNat = -1
                    · rw [if_pos w, if_pos w, if_pos w, if_pos w, if_pos rfl]
                      exact y2.symm
                    · rw [if_neg w, if_neg w, if_neg w, if_neg w, if_neg (by omega)]
                  rw [ho, np1]
                · rw [if_neg (fun w => z w.2)]
                  by_cases z2 : sp_pe U.all_ (a3 + 4) e = -1
                  · rw [if_pos z2]
                  · rw [if_neg z2]
                    simp only
                    rw [if_neg (by omega)]
          change (match rs_opt U1.all_ S (nm U.all_ x y) (nm U.all_ lp j) j e lo hi with
            | none => rr = some (am_n 0)
            | some S' => rr = some (am_n 1) ∧ mo_map U9 S') at p9
          rw [heq] at p9
          cases e9 : ml_opt U.all_ S (a + 4) e with
          | none =>
            rw [e9] at p9
            simp only at p9
            subst p9
            show am_Z X 292 [.ref m, am_n a, am_n e, am_n S.2.length, am_n k, am_n (sp_i b), am_n j] [am_n 0] h 0 0
            refine am_iret hB hR d_MO_methodLine_292 rfl (by decide) ?_ (Nat.zero_le _) (Nat.zero_le _)
            rw [e9]
            exact ⟨U9, M9, u9.1.tr q9, f.tr f9, rfl⟩
          | some S' =>
            rw [e9] at p9
            obtain ⟨rfl, p9⟩ := p9
            show am_Z X 292 [.ref m, am_n a, am_n e, am_n S.2.length, am_n k, am_n (sp_i b), am_n j] [am_n 1] h 0 0
            refine am_iret hB hR d_MO_methodLine_292 rfl (by decide) ?_ (Nat.zero_le _) (Nat.zero_le _)
            rw [e9]
            exact ⟨U9, M9, u9.1.tr q9, f.tr f9, rfl, p9⟩
        refine am_aload_n hB d_MO_methodLine_200 rfl rfl rfl ?_
        refine am_getf hB d_MO_methodLine_201 F_MO_31_11 M.1 rfl ?_
        refine am_iload_n hB d_MO_methodLine_204 rfl rfl ?_
        refine am_aload_n hB d_MO_methodLine_205 rfl rfl rfl ?_
        refine am_getf hB d_MO_methodLine_206 F_MO_129_11 M.1 rfl ?_
        refine ai_const hB d_MO_methodLine_209 ?_
        show am_Z X 210 [.ref m, am_n a, am_n e, am_n S.2.length, am_n k, am_n (sp_i b), am_n j] [am_n 1, am_n p, am_n S.2.length, .ref (m + 8)] h 0 0
        refine ai_jle (tgt := 218) hB d_MO_methodLine_210 (by decide) (fun c7 => ?_) (fun c7 => ?_)
        · have hlp : sp_lp U.all_ k (j - k).toNat = -1 := np3.mp (by omega)
          refine am_aload_n hB d_MO_methodLine_218 rfl rfl rfl ?_
          refine am_getf hB d_MO_methodLine_219 F_MO_19_11 M.1 rfl ?_
          refine am_aload_n hB d_MO_methodLine_222 rfl rfl rfl ?_
          refine am_getf hB d_MO_methodLine_223 F_MO_145_11 M.1 rfl ?_
          show am_Z X 226 [.ref m, am_n a, am_n e, am_n S.2.length, am_n k, am_n (sp_i b), am_n j] [am_n U1.classes_, .ref (m + 4), am_n S.2.length, .ref (m + 8)] h 0 0
          rw [u.2.1.1, m1]
          refine ai_const hB d_MO_methodLine_226 ?_
          refine ai_sub hB d_MO_methodLine_227 ?_
          refine ai_iald hB d_MO_methodLine_228 ty_1 M.realFrom ?_
          refine mo_s_ownFrom hB d_MO_methodLine_229 M f (fun h M f => ?_)
          refine am_aload_n hB d_MO_methodLine_230 rfl rfl rfl ?_
          refine am_getf hB d_MO_methodLine_231 F_MO_34_11 M.1 rfl ?_
          refine am_iload_n hB d_MO_methodLine_234 rfl rfl ?_
          refine am_aload_n hB d_MO_methodLine_235 rfl rfl rfl ?_
          refine am_getf hB d_MO_methodLine_236 F_MO_129_11 M.1 rfl ?_
          refine ai_const hB d_MO_methodLine_239 ?_
          show am_Z X 240 [.ref m, am_n a, am_n e, am_n S.2.length, am_n k, am_n (sp_i b), am_n j] [am_n 1, am_n p, am_n S.2.length, .ref (m + 9)] h 0 0
          refine ai_jle (tgt := 252) hB d_MO_methodLine_240 (by decide) (fun c8 => ?_) (fun c8 => ?_)
          rotate_left
          · omega
          refine am_aload_n hB d_MO_methodLine_252 rfl rfl rfl ?_
          refine am_getf hB d_MO_methodLine_253 F_MO_22_11 M.1 rfl ?_
          refine am_aload_n hB d_MO_methodLine_256 rfl rfl rfl ?_
          refine am_getf hB d_MO_methodLine_257 F_MO_145_11 M.1 rfl ?_
          show am_Z X 260 [.ref m, am_n a, am_n e, am_n S.2.length, am_n k, am_n (sp_i b), am_n j] [am_n U1.classes_, .ref (m + 5), am_n S.2.length, .ref (m + 9)] h 0 0
          rw [u.2.1.1, m1]
          refine ai_const hB d_MO_methodLine_260 ?_
          refine ai_sub hB d_MO_methodLine_261 ?_
          refine ai_iald hB d_MO_methodLine_262 ty_1 M.realTo ?_
          exact own (U1.realFrom_ ((S.1.length : Int) - 1)) (U1.realTo_ ((S.1.length : Int) - 1)) h (by rw [if_pos hlp, u.2.1.2.1]) (by rw [if_pos hlp, u.2.1.2.2.1]) M f
        · have hlp : sp_lp U.all_ k (j - k).toNat ≠ -1 := fun z => by have := np3.mpr z; omega
          have hmf : sp_mf U.all_ k j = sp_lp U.all_ k (j - k).toNat + 1 := if_neg hlp
          refine am_iload hB d_MO_methodLine_213 rfl ?_
          refine am_goto (tgt := 229) hB d_MO_methodLine_215 (by decide) ?_
          refine mo_s_ownFrom hB d_MO_methodLine_229 M f (fun h M f => ?_)
          refine am_aload_n hB d_MO_methodLine_230 rfl rfl rfl ?_
          refine am_getf hB d_MO_methodLine_231 F_MO_34_11 M.1 rfl ?_
          refine am_iload_n hB d_MO_methodLine_234 rfl rfl ?_
          refine am_aload_n hB d_MO_methodLine_235 rfl rfl rfl ?_
          refine am_getf hB d_MO_methodLine_236 F_MO_129_11 M.1 rfl ?_
          refine ai_const hB d_MO_methodLine_239 ?_
          show am_Z X 240 [.ref m, am_n a, am_n e, am_n S.2.length, am_n k, am_n (sp_i b), am_n j] [am_n 1, am_n p, am_n S.2.length, .ref (m + 9)] h 0 0
          refine ai_jle (tgt := 252) hB d_MO_methodLine_240 (by decide) (fun c8 => ?_) (fun c8 => ?_)
          · omega
          refine am_aload_n hB d_MO_methodLine_243 rfl rfl rfl ?_
          refine am_getf hB d_MO_methodLine_244 F_MO_132_11 M.1 rfl ?_
          refine ai_const hB d_MO_methodLine_247 ?_
          refine ai_sub hB d_MO_methodLine_248 ?_
          refine am_goto (tgt := 263) hB d_MO_methodLine_249 (by decide) ?_
          exact own k (lp - 1) h (by rw [if_neg hlp]) (by rw [if_neg hlp]; omega) M f
    refine ai_zlt (tgt := 180) hB d_MO_methodLine_157 (by decide) (fun c3 => ?_) (fun c3 => ?_)
    · omega
    refine am_iload hB d_MO_methodLine_160 rfl ?_
    rcases hb with ⟨hb1, hb2, rfl⟩ | ⟨hb1, hb2, hb3, rfl⟩
    · show am_Z X 162 [.ref m, am_n a, am_n e, am_n S.2.length, am_n k, am_n 0, v6] [am_n 0] h1 0 0
      refine ai_zeq (tgt := 184) hB d_MO_methodLine_162 (by decide) (fun c4 => ?_) (fun c4 => ?_)
      · exact j184
      · omega
    · show am_Z X 162 [.ref m, am_n a, am_n e, am_n S.2.length, am_n k, am_n 1, v6] [am_n 1] h1 0 0
      refine ai_zeq (tgt := 184) hB d_MO_methodLine_162 (by decide) (fun c4 => ?_) (fun c4 => ?_)
      · omega
      refine am_aload_n hB d_MO_methodLine_165 rfl rfl rfl ?_
      refine am_getf hB d_MO_methodLine_166 F_MO_49_11 M.1 rfl ?_
      refine am_iload_n hB d_MO_methodLine_169 rfl rfl ?_
      refine ai_iald hB d_MO_methodLine_170 ty_1 M.low ?_
      refine am_aload_n hB d_MO_methodLine_171 rfl rfl rfl ?_
      refine am_getf hB d_MO_methodLine_172 F_MO_52_11 M.1 rfl ?_
      refine am_iload_n hB d_MO_methodLine_175 rfl rfl ?_
      refine ai_iald hB d_MO_methodLine_176 ty_1 M.high ?_
      rw [e1, e2]
      refine ai_jle (tgt := 184) hB d_MO_methodLine_177 (by decide) (fun c5 => ?_) (fun c5 => ?_)
      · exact j184
      · omega
  have un : ¬ (a + 4 < e ∧ sp_fig (U.all_ (a + 4)) = true) → am_Z X 51 [.ref m, am_n a, am_n e, am_n S.2.length, am_n (a + 4), am_u, am_u] [] hA 0 0 := by
    intro hz
    refine ai_const hB d_MO_methodLine_51 ?_
    refine am_istore hB d_MO_methodLine_52 (by rw [hR.nL]; decide) rfl ?_
    refine am_aload_n hB d_MO_methodLine_54 rfl rfl rfl ?_
    refine am_getf hB d_MO_methodLine_55 F_MO_49_11 M.1 rfl ?_
    refine am_iload_n hB d_MO_methodLine_58 rfl rfl ?_
    refine ai_const hB d_MO_methodLine_59 ?_
    refine mo_s_low hB d_MO_methodLine_60 M f (fun h M f => ?_)
    refine am_aload_n hB d_MO_methodLine_61 rfl rfl rfl ?_
    refine am_getf hB d_MO_methodLine_62 F_MO_52_11 M.1 rfl ?_
    refine am_iload_n hB d_MO_methodLine_65 rfl rfl ?_
    refine ai_const hB d_MO_methodLine_66 ?_
    refine mo_s_high hB d_MO_methodLine_67 M f (fun h M f => ?_)
    refine am_iload hB d_MO_methodLine_68 rfl ?_
    show am_Z X 70 [.ref m, am_n a, am_n e, am_n S.2.length, am_n (a + 4), am_n 0, am_u] [am_n 0] h 0 0
    refine ai_zeq (tgt := 155) hB d_MO_methodLine_70 (by decide) (fun c5 => ?_) (fun c5 => ?_)
    · exact C155 (a + 4) (-1) (-1) false am_u _ h ((mo_u_low U S.2.length (-1)).tr (mo_u_high _ S.2.length (-1))) (am_up_eq _ _ _) (am_up_eq _ _ _) (Or.inr ⟨if_neg hz, Or.inl ⟨rfl, rfl, rfl⟩⟩) M f
    · omega
  have hga := hg (a + 4)
  refine am_aload_n hB d_MO_methodLine_18 rfl rfl rfl ?_
  refine am_getf hB d_MO_methodLine_19 F_MO_163_11 M.1 rfl ?_
  rw [m3]
  refine am_istore_n hB d_MO_methodLine_22 rfl (by rw [hR.nL]; decide) rfl ?_
  refine am_iload_n hB d_MO_methodLine_23 rfl rfl ?_
  refine ai_const hB d_MO_methodLine_24 ?_
  refine ai_add hB d_MO_methodLine_25 ?_
  refine am_istore hB d_MO_methodLine_26 (by rw [hR.nL]; decide) rfl ?_
  refine am_iload hB d_MO_methodLine_28 rfl ?_
  refine am_iload_n hB d_MO_methodLine_30 rfl rfl ?_
  refine ai_jge (tgt := 51) hB d_MO_methodLine_31 (by decide) (fun c3 => ?_) (fun c3 => ?_)
  · exact un (by omega)
  refine am_aload_n hB d_MO_methodLine_34 rfl rfl rfl ?_
  refine am_getf hB d_MO_methodLine_35 F_MO_13_11 M.1 rfl ?_
  refine am_iload hB d_MO_methodLine_38 rfl ?_
  refine ai_iald hB d_MO_methodLine_40 ty_1 M.all ?_
  refine am_callS hB hR (as := [am_n (U.all_ (a + 4))]) (n_isFigure hga.1 hga.2 hA) c_MO_126 rfl rfl d_MO_methodLine_41 ⟨by decide, Nat.le_of_ble_eq_true rfl⟩ ⟨by decide, by decide⟩ rfl rfl (fun rr h hp => ?_)
  obtain ⟨rfl, rfl⟩ := hp
  show am_Z X 44 [.ref m, am_n a, am_n e, am_n S.2.length, am_n (a + 4), am_u, am_u] [am_n (sp_i (sp_fig (U.all_ (a + 4))))] hA 0 0
  cases q : sp_fig (U.all_ (a + 4)) with
  | false =>
    show am_Z X 44 [.ref m, am_n a, am_n e, am_n S.2.length, am_n (a + 4), am_u, am_u] [am_n 0] hA 0 0
    refine ai_zeq (tgt := 51) hB d_MO_methodLine_44 (by decide) (fun c4 => ?_) (fun c4 => ?_)
    · exact un (fun z => by rw [q] at z; cases z.2)
    · omega
  | true =>
    have hsrg : sp_rg U.all_ (a + 4) e = _ := if_pos ⟨c3, q⟩
    show am_Z X 44 [.ref m, am_n a, am_n e, am_n S.2.length, am_n (a + 4), am_u, am_u] [am_n 1] hA 0 0
    refine ai_zeq (tgt := 51) hB d_MO_methodLine_44 (by decide) (fun c4 => ?_) (fun c4 => ?_)
    · omega
    refine ai_const hB d_MO_methodLine_47 ?_
    refine am_goto (tgt := 52) hB d_MO_methodLine_48 (by decide) ?_
    refine am_istore hB d_MO_methodLine_52 (by rw [hR.nL]; decide) rfl ?_
    refine am_aload_n hB d_MO_methodLine_54 rfl rfl rfl ?_
    refine am_getf hB d_MO_methodLine_55 F_MO_49_11 M.1 rfl ?_
    refine am_iload_n hB d_MO_methodLine_58 rfl rfl ?_
    refine ai_const hB d_MO_methodLine_59 ?_
    refine mo_s_low hB d_MO_methodLine_60 M f (fun h M f => ?_)
    refine am_aload_n hB d_MO_methodLine_61 rfl rfl rfl ?_
    refine am_getf hB d_MO_methodLine_62 F_MO_52_11 M.1 rfl ?_
    refine am_iload_n hB d_MO_methodLine_65 rfl rfl ?_
    refine ai_const hB d_MO_methodLine_66 ?_
    refine mo_s_high hB d_MO_methodLine_67 M f (fun h M f => ?_)
    refine am_iload hB d_MO_methodLine_68 rfl ?_
    show am_Z X 70 [.ref m, am_n a, am_n e, am_n S.2.length, am_n (a + 4), am_n 1, am_u] [am_n 1] h 0 0
    refine ai_zeq (tgt := 155) hB d_MO_methodLine_70 (by decide) (fun c5 => ?_) (fun c5 => ?_)
    · omega
    refine am_aload_n hB d_MO_methodLine_73 rfl rfl rfl ?_
    refine am_iload hB d_MO_methodLine_74 rfl ?_
    refine am_iload_n hB d_MO_methodLine_76 rfl rfl ?_
    have M : am_mo h m (mv.s_high (mv.s_low U (am_up U.low_ S.2.length (-1))) (am_up U.high_ S.2.length (-1))) := M
    refine am_callV hB hR (as := [am_n (a + 4), am_n e]) M.1 (m_MO_numberEnd M hg (by omega) hae (by omega)) c_MO_160 rfl rfl d_MO_methodLine_77 ⟨by decide, Nat.le_of_ble_eq_true rfl⟩ ⟨by decide, by decide⟩ rfl rfl (fun rr h hp => ?_)
    obtain ⟨v1, rfl, M, f2, w1, hv1⟩ := hp
    have f := f.tr f2
    have hv1 : ∀ p, sp_nu U.all_ (a + 4) e = some p → v1 = p.1 := hv1
    show am_Z X 80 [.ref m, am_n a, am_n e, am_n S.2.length, am_n (a + 4), am_n 1, am_u] [am_n (nuE U.all_ (a + 4) e)] h 0 0
    have D119 : ∀ (k1 k2 vv : Int) (h1 : am_H), (-1 ≤ k2 ∧ k2 ≤ e) → (0 ≤ vv ∧ vv < 100000) → ((k2 = -1 ∧ sp_rg U.all_ (a + 4) e = none) ∨ (0 ≤ k2 ∧ sp_rg U.all_ (a + 4) e = (if sp_tw U.all_ 1 k2 e = true ∧ v1 ≤ vv then some (k2 + 1, v1, vv) else none) ∧ v1 < 10000 ∧ vv < 10000)) → am_mo h1 m (mv.s_value (mv.s_high (mv.s_low U (am_up (am_up U.low_ S.2.length (-1)) S.2.length v1)) (am_up U.high_ S.2.length (-1))) (vv)) → ko m 35 hA h1 → am_Z X 119 [.ref m, am_n a, am_n e, am_n S.2.length, am_n k1, am_n 1, am_u] [am_n k2] h1 0 0 := by
      intro k1 k2 vv h1 b1 b2 hlk M f
      refine am_istore hB d_MO_methodLine_119 (by rw [hR.nL]; decide) rfl ?_
      refine am_aload_n hB d_MO_methodLine_121 rfl rfl rfl ?_
      refine am_getf hB d_MO_methodLine_122 F_MO_52_11 M.1 rfl ?_
      refine am_iload_n hB d_MO_methodLine_125 rfl rfl ?_
      refine am_aload_n hB d_MO_methodLine_126 rfl rfl rfl ?_
      refine am_getf hB d_MO_methodLine_127 F_MO_139_11 M.1 rfl ?_
      refine mo_s_high hB d_MO_methodLine_130 M f (fun h M f => ?_)
      refine am_aload_n hB d_MO_methodLine_131 rfl rfl rfl ?_
      refine am_iload hB d_MO_methodLine_132 rfl ?_
      refine am_iload_n hB d_MO_methodLine_134 rfl rfl ?_
      refine am_ldc2 hB d_MO_methodLine_135 J_MO_158 ?_
      refine ai_const hB d_MO_methodLine_138 ?_
      have M : am_mo h m (mv.s_value (mv.s_high (mv.s_low U (am_up (am_up U.low_ S.2.length (-1)) S.2.length v1)) (am_up (am_up U.high_ S.2.length (-1)) S.2.length vv)) (vv)) := M
      have uu_0 := ((((mo_u_low U S.2.length (-1)).tr (mo_u_low _ S.2.length v1)).tr (mo_u_high _ S.2.length (-1))).tr (mo_u_high _ S.2.length vv)).tr (mo_u_v _ S.2.length vv)
      have uu : mo_u U (mv.s_value (mv.s_high (mv.s_low U (am_up (am_up U.low_ S.2.length (-1)) S.2.length v1)) (am_up (am_up U.high_ S.2.length (-1)) S.2.length vv)) (vv)) S.2.length := uu_0
      refine am_callV hB hR (as := [am_n k2, am_n e, .long 58, am_n (1 : Nat)]) M.1 (m_MO_stands (n := 1) M hg (by omega) (by omega) (by omega) (by omega) (by omega)) c_MO_150 rfl rfl d_MO_methodLine_139 ⟨by decide, Nat.le_of_ble_eq_true rfl⟩ ⟨by decide, by decide⟩ rfl rfl (fun rr h hp => ?_)
      obtain ⟨rfl, rfl⟩ := hp
      show am_Z X 142 [.ref m, am_n a, am_n e, am_n S.2.length, am_n k2, am_n 1, am_u] [am_n (sp_i (sp_st U.all_ 58 1 k2 e))] h 0 0
      rw [st_colon]
      have bad : sp_rg U.all_ (a + 4) e = none → am_Z X 152 [.ref m, am_n a, am_n e, am_n S.2.length, am_n k2, am_n 1, am_u] [] h 0 0 := by
        intro hz
        refine ai_const hB d_MO_methodLine_152 ?_
        refine am_istore hB d_MO_methodLine_153 (by rw [hR.nL]; decide) rfl ?_
        exact C155 (-1) v1 vv true am_u _ h uu (am_up_eq _ _ _) (am_up_eq _ _ _) (Or.inl ⟨hz, Or.inl rfl⟩) M f
      rcases hlk with ⟨l1, l2⟩ | ⟨l1, l2, l3, l4⟩
      · rw [decide_eq_false (by omega), Bool.false_and]
        show am_Z X 142 [.ref m, am_n a, am_n e, am_n S.2.length, am_n k2, am_n 1, am_u] [am_n 0] h 0 0
        refine ai_zeq (tgt := 152) hB d_MO_methodLine_142 (by decide) (fun c6 => ?_) (fun c6 => ?_)
        · exact bad l2
        · omega
      · rw [decide_eq_true l1, Bool.true_and]
        cases q2 : sp_tw U.all_ 1 k2 e with
        | false =>
          show am_Z X 142 [.ref m, am_n a, am_n e, am_n S.2.length, am_n k2, am_n 1, am_u] [am_n 0] h 0 0
          refine ai_zeq (tgt := 152) hB d_MO_methodLine_142 (by decide) (fun c6 => ?_) (fun c6 => ?_)
          · exact bad (by rw [l2, if_neg (fun z => by rw [q2] at z; cases z.1)])
          · omega
        | true =>
          have hk2 : k2 + 1 ≤ e := sp_tw_1 q2
          show am_Z X 142 [.ref m, am_n a, am_n e, am_n S.2.length, am_n k2, am_n 1, am_u] [am_n 1] h 0 0
          refine ai_zeq (tgt := 152) hB d_MO_methodLine_142 (by decide) (fun c6 => ?_) (fun c6 => ?_)
          · omega
          refine am_iload hB d_MO_methodLine_145 rfl ?_
          refine ai_const hB d_MO_methodLine_147 ?_
          refine ai_add hB d_MO_methodLine_148 ?_
          refine am_goto (tgt := 153) hB d_MO_methodLine_149 (by decide) ?_
          refine am_istore hB d_MO_methodLine_153 (by rw [hR.nL]; decide) rfl ?_
          refine C155 (k2 + 1) v1 vv true am_u _ h uu (am_up_eq _ _ _) (am_up_eq _ _ _) ?_ M f
          by_cases z : v1 ≤ vv
          · rw [if_pos ⟨q2, z⟩] at l2
            exact Or.inr ⟨l2, Or.inr ⟨by omega, z, by omega, rfl⟩⟩
          · rw [if_neg (fun w => z w.2)] at l2
            exact Or.inl ⟨l2, Or.inr ⟨by omega, by omega, rfl, by omega, by omega, by omega⟩⟩
    have M : am_mo h m (mv.s_value (mv.s_high (mv.s_low U (am_up U.low_ S.2.length (-1))) (am_up U.high_ S.2.length (-1))) (v1)) := M
    rcases nu_cases U.all_ hae with ⟨n1, n2, n3, n4⟩ | ⟨v, i, n1, n2, n3, n4, n5, n6, n7, n8⟩
    · rw [n2]
      have hz : sp_rg U.all_ (a + 4) e = none := by rw [hsrg, if_neg (fun z => z.1 n3)]
      refine am_istore hB d_MO_methodLine_80 (by rw [hR.nL]; decide) rfl ?_
      refine am_aload_n hB d_MO_methodLine_82 rfl rfl rfl ?_
      refine am_getf hB d_MO_methodLine_83 F_MO_49_11 M.1 rfl ?_
      refine am_iload_n hB d_MO_methodLine_86 rfl rfl ?_
      refine am_aload_n hB d_MO_methodLine_87 rfl rfl rfl ?_
      refine am_getf hB d_MO_methodLine_88 F_MO_139_11 M.1 rfl ?_
      refine mo_s_low hB d_MO_methodLine_91 M f (fun h M f => ?_)
      refine am_aload_n hB d_MO_methodLine_92 rfl rfl rfl ?_
      refine am_iload hB d_MO_methodLine_93 rfl ?_
      refine am_iload_n hB d_MO_methodLine_95 rfl rfl ?_
      refine am_ldc2 hB d_MO_methodLine_96 J_MO_158 ?_
      refine ai_const hB d_MO_methodLine_99 ?_
      refine am_callV hB hR (as := [am_n (-1), am_n e, .long 58, am_n (1 : Nat)]) M.1 (m_MO_stands (n := 1) M hg (by omega) (by omega) (by omega) (by omega) (by omega)) c_MO_150 rfl rfl d_MO_methodLine_100 ⟨by decide, Nat.le_of_ble_eq_true rfl⟩ ⟨by decide, by decide⟩ rfl rfl (fun rr h hp => ?_)
      obtain ⟨rfl, rfl⟩ := hp
      show am_Z X 103 [.ref m, am_n a, am_n e, am_n S.2.length, am_n (-1), am_n 1, am_u] [am_n (sp_i (sp_st U.all_ 58 1 (-1) e))] h 0 0
      rw [st_colon, decide_eq_false (by omega), Bool.false_and]
      show am_Z X 103 [.ref m, am_n a, am_n e, am_n S.2.length, am_n (-1), am_n 1, am_u] [am_n 0] h 0 0
      refine ai_zeq (tgt := 118) hB d_MO_methodLine_103 (by decide) (fun c6 => ?_) (fun c6 => ?_)
      · refine ai_const hB d_MO_methodLine_118 ?_
        exact D119 (-1) (-1) v1 h (by omega) w1 (Or.inl ⟨rfl, hz⟩) M f
      · omega
    · have hv : v1 = v := hv1 _ n1
      subst hv
      rw [n3, n4] at hsrg
      rw [n2]
      refine am_istore hB d_MO_methodLine_80 (by rw [hR.nL]; decide) rfl ?_
      refine am_aload_n hB d_MO_methodLine_82 rfl rfl rfl ?_
      refine am_getf hB d_MO_methodLine_83 F_MO_49_11 M.1 rfl ?_
      refine am_iload_n hB d_MO_methodLine_86 rfl rfl ?_
      refine am_aload_n hB d_MO_methodLine_87 rfl rfl rfl ?_
      refine am_getf hB d_MO_methodLine_88 F_MO_139_11 M.1 rfl ?_
      refine mo_s_low hB d_MO_methodLine_91 M f (fun h M f => ?_)
      refine am_aload_n hB d_MO_methodLine_92 rfl rfl rfl ?_
      refine am_iload hB d_MO_methodLine_93 rfl ?_
      refine am_iload_n hB d_MO_methodLine_95 rfl rfl ?_
      refine am_ldc2 hB d_MO_methodLine_96 J_MO_158 ?_
      refine ai_const hB d_MO_methodLine_99 ?_
      refine am_callV hB hR (as := [am_n i, am_n e, .long 58, am_n (1 : Nat)]) M.1 (m_MO_stands (n := 1) M hg (by omega) (by omega) (by omega) (by omega) (by omega)) c_MO_150 rfl rfl d_MO_methodLine_100 ⟨by decide, Nat.le_of_ble_eq_true rfl⟩ ⟨by decide, by decide⟩ rfl rfl (fun rr h hp => ?_)
      obtain ⟨rfl, rfl⟩ := hp
      show am_Z X 103 [.ref m, am_n a, am_n e, am_n S.2.length, am_n i, am_n 1, am_u] [am_n (sp_i (sp_st U.all_ 58 1 i e))] h 0 0
      rw [st_colon, decide_eq_true (by omega), Bool.true_and]
      cases q2 : sp_tw U.all_ 1 i e with
      | false =>
        have hz : sp_rg U.all_ (a + 4) e = none := by rw [hsrg, if_neg (fun z => by rw [q2] at z; cases z.2.1)]
        show am_Z X 103 [.ref m, am_n a, am_n e, am_n S.2.length, am_n i, am_n 1, am_u] [am_n 0] h 0 0
        refine ai_zeq (tgt := 118) hB d_MO_methodLine_103 (by decide) (fun c6 => ?_) (fun c6 => ?_)
        · refine ai_const hB d_MO_methodLine_118 ?_
          exact D119 i (-1) v1 h (by omega) w1 (Or.inl ⟨rfl, hz⟩) M f
        · omega
      | true =>
        have hi1 : i + 1 ≤ e := sp_tw_1 q2
        show am_Z X 103 [.ref m, am_n a, am_n e, am_n S.2.length, am_n i, am_n 1, am_u] [am_n 1] h 0 0
        refine ai_zeq (tgt := 118) hB d_MO_methodLine_103 (by decide) (fun c6 => ?_) (fun c6 => ?_)
        · omega
        refine am_aload_n hB d_MO_methodLine_106 rfl rfl rfl ?_
        refine am_iload hB d_MO_methodLine_107 rfl ?_
        refine ai_const hB d_MO_methodLine_109 ?_
        refine ai_add hB d_MO_methodLine_110 ?_
        refine am_iload_n hB d_MO_methodLine_111 rfl rfl ?_
        refine am_callV hB hR (as := [am_n (i + 1), am_n e]) M.1 (m_MO_numberEnd M hg (by omega) hi1 (by omega)) c_MO_160 rfl rfl d_MO_methodLine_112 ⟨by decide, Nat.le_of_ble_eq_true rfl⟩ ⟨by decide, by decide⟩ rfl rfl (fun rr h hp => ?_)
        obtain ⟨v2, rfl, M, f3, w2, hv2⟩ := hp
        have f := f.tr f3
        have hv2 : ∀ p, sp_nu U.all_ (i + 1) e = some p → v2 = p.1 := hv2
        have M : am_mo h m (mv.s_value (mv.s_high (mv.s_low U (am_up (am_up U.low_ S.2.length (-1)) S.2.length v1)) (am_up U.high_ S.2.length (-1))) (v2)) := M
        show am_Z X 115 [.ref m, am_n a, am_n e, am_n S.2.length, am_n i, am_n 1, am_u] [am_n (nuE U.all_ (i + 1) e)] h 0 0
        refine am_goto (tgt := 119) hB d_MO_methodLine_115 (by decide) ?_
        rcases nu_cases U.all_ hi1 with ⟨o1, o2, o3, o4⟩ | ⟨v', i', o1, o2, o3, o4, o5, o6, o7, o8⟩
        · rw [o2]
          exact D119 i (-1) v2 h (by omega) w2 (Or.inl ⟨rfl, by rw [hsrg, if_neg (fun z => z.2.2.1 o3)]⟩) M f
        · have hv' : v2 = v' := hv2 _ o1
          subst hv'
          rw [o3, o4] at hsrg
          rw [o2]
          refine D119 i i' v2 h (by omega) w2 (Or.inr ⟨by omega, ?_, n8, o8⟩) M f
          rw [hsrg]
          by_cases z : sp_tw U.all_ 1 i' e = true ∧ v1 ≤ v2
          · rw [if_pos z, if_pos ⟨by omega, q2, by omega, z.1, z.2⟩]
          · rw [if_neg z, if_neg (fun w => z ⟨w.2.2.2.1, w.2.2.2.2⟩)]
