/-! the model: the rest of a method line -/
def mo_n (U U' : mv) (n : Int) : Prop := U'.ownFrom_ n = U.ownFrom_ n ∧ U'.ownTo_ n = U.ownTo_ n ∧ U'.callFrom_ n = U.callFrom_ n ∧ U'.callTo_ n = U.callTo_ n ∧ U'.low_ n = U.low_ n ∧ U'.high_ n = U.high_ n
def rs_fit (rf rl fi la : Int) : Prop := rl - rf = 0 ∨ rl - rf = la - fi
def rs_opt (g : Int → Int) (S : pm_S) (o c : List Int) (j e fi la : Int) : Option pm_S := match rs_rest g j e fi la with
  | none => none
  | some (k, rf, rl) => some (rs_add S o c (nm g k e) fi la rf rl)
theorem m_MO_methodRest {l : Launch} {G : am_G} {hA : am_H} {m : Nat} {U : mv} {S : pm_S} {j e fi la : Int} {o c : List Int} {b : Bool} (M : am_mo hA m U) (hg : am_cok U.all_) (mp : mo_map U S) (h32 : S.2.length ≠ 32) (hC : 0 < S.1.length) (h0 : 0 ≤ j) (hje : j ≤ e) (h2 : e ≤ 600) (hfi : U.low_ S.2.length = fi) (hla : U.high_ S.2.length = la) (hb : (fi = -1 ∧ la = -1 ∧ b = false) ∨ (0 ≤ fi ∧ fi ≤ la ∧ la < 10000 ∧ b = true))
    (r1 : (0 ≤ U.ownFrom_ S.2.length ∧ U.ownFrom_ S.2.length ≤ U.ownTo_ S.2.length ∧ U.ownTo_ S.2.length ≤ 600) ∧ (0 ≤ U.callFrom_ S.2.length ∧ U.callFrom_ S.2.length ≤ U.callTo_ S.2.length ∧ U.callTo_ S.2.length ≤ 600)) (r2 : nm U.all_ (U.ownFrom_ S.2.length) (U.ownTo_ S.2.length) = o ∧ nm U.all_ (U.callFrom_ S.2.length) (U.callTo_ S.2.length) = c) :
    am_M l G M_MO_methodRest [.ref m, am_n S.2.length, am_n j, am_n e, am_n (sp_i b)] hA (mo_R hA m U (rs_opt U.all_ S o c j e fi la)) := by
  have m4 := mp.2.2.2.1
  have m2 := mp.2.1
  refine am_M.of (by decide) (Nat.le_of_ble_eq_true rfl) (fun X hB hR => ?_)
  show am_Z X 0 [.ref m, am_n S.2.length, am_n j, am_n e, am_n (sp_i b), am_u, am_u, am_u] [] hA 0 0
  have B : ∀ (k rf rl : Int) (v6 v7 : Value) (U1 : mv) (h1 : am_H), am_long v6 = false → mo_u U U1 S.2.length → mo_n U U1 S.2.length → U1.first_ S.2.length = rf → U1.last_ S.2.length = rl → (-1 ≤ rf ∧ rf < 100000) → (-1 ≤ rl ∧ rl < 100000) → (-1 ≤ k ∧ k ≤ e) → ((sp_rr U.all_ j e fi la = some (k, rf, rl) ∧ rs_fit rf rl fi la ∧ rf < 10000 ∧ rl < 10000) ∨ (sp_rr U.all_ j e fi la = none ∧ (k = -1 ∨ ¬ rs_fit rf rl fi la))) → am_mo h1 m U1 → ko m 35 hA h1 → am_Z X 121 [.ref m, am_n S.2.length, am_n j, am_n e, am_n (sp_i b), am_n k, v6, v7] [] h1 0 0 := by
    intro k rf rl v6 v7 U1 h1 hv6 u nn e1 e2 b1 b2 b3 hrr M f
    have qa := u.1.1.2.2.1
    have hg1 : am_cok U1.all_ := by rw [qa]; exact hg
    have no : ∀ (v : Int) (w : Value), rs_opt U.all_ S o c j e fi la = none → am_Z X 205 [.ref m, am_n S.2.length, am_n j, am_n e, am_n (sp_i b), am_n k, am_n v, w] [] h1 0 0 := by
      intro v w hz
      refine ai_const hB d_MO_methodRest_205 ?_
      refine am_iret hB hR d_MO_methodRest_206 rfl (by decide) ?_ (Nat.zero_le _) (Nat.zero_le _)
      rw [hz]
      exact ⟨U1, M, u.1, f, rfl⟩
    have fit : ∀ z : Bool, (z = true ↔ rs_fit rf rl fi la) → am_Z X 171 [.ref m, am_n S.2.length, am_n j, am_n e, am_n (sp_i b), am_n k, v6, v7] [am_n (sp_i z)] h1 0 0 := by
      intro z hz
      refine am_istore hB d_MO_methodRest_171 (by rw [hR.nL]; decide) rfl ?_
      refine am_iload hB d_MO_methodRest_173 rfl ?_
      cases z with
      | false =>
        show am_Z X 175 [.ref m, am_n S.2.length, am_n j, am_n e, am_n (sp_i b), am_n k, am_n 0, v7] [am_n 0] h1 0 0
        have hn : ¬ rs_fit rf rl fi la := fun q => by cases hz.mpr q
        refine ai_zeq (tgt := 205) hB d_MO_methodRest_175 (by decide) (fun c1 => ?_) (fun c1 => ?_)
        · refine no 0 v7 ?_
          rcases hrr with ⟨-, q, -⟩ | ⟨q, -⟩
          · exact absurd q hn
          · unfold rs_opt rs_rest
            rw [q]
        · omega
      | true =>
        have hf : rs_fit rf rl fi la := hz.mp rfl
        show am_Z X 175 [.ref m, am_n S.2.length, am_n j, am_n e, am_n (sp_i b), am_n k, am_n 1, v7] [am_n 1] h1 0 0
        refine ai_zeq (tgt := 205) hB d_MO_methodRest_175 (by decide) (fun c1 => ?_) (fun c1 => ?_)
        · omega
        refine am_aload_n hB d_MO_methodRest_178 rfl rfl rfl ?_
        refine am_iload hB d_MO_methodRest_179 rfl ?_
        refine am_iload_n hB d_MO_methodRest_181 rfl rfl ?_
        refine am_ldc2 hB d_MO_methodRest_182 J_MO_148 ?_
        refine ai_const hB d_MO_methodRest_185 ?_
        refine am_callV hB hR (as := [am_n k, am_n e, .long 539835936, am_n (4 : Nat)]) M.1 (m_MO_stands (n := 4) M hg1 (by omega) (by omega) (by omega) (by omega) (by omega)) c_MO_150 rfl rfl d_MO_methodRest_186 ⟨by decide, Nat.le_of_ble_eq_true rfl⟩ ⟨by decide, by decide⟩ rfl rfl (fun rr h hp => ?_)
        obtain ⟨rfl, rfl⟩ := hp
        show am_Z X 189 [.ref m, am_n S.2.length, am_n j, am_n e, am_n (sp_i b), am_n k, am_n 1, v7] [am_n (sp_i (sp_st U1.all_ 539835936 4 k e))] h1 0 0
        rw [qa, st_arrow]
        rcases hrr with ⟨hr, -, rf4, rl4⟩ | ⟨hr, hk⟩
        rotate_left
        · have hk := hk.resolve_right (fun z => z hf)
          rw [decide_eq_false (by omega), Bool.false_and]
          show am_Z X 189 [.ref m, am_n S.2.length, am_n j, am_n e, am_n (sp_i b), am_n k, am_n 1, v7] [am_n 0] h1 0 0
          refine ai_zeq (tgt := 205) hB d_MO_methodRest_189 (by decide) (fun c2 => ?_) (fun c2 => ?_)
          · exact no 1 v7 (by unfold rs_opt rs_rest; rw [hr])
          · omega
        have hk0 : 0 ≤ k := by
          have := sp_rr_in hje (by omega) (by omega) hr
          omega
        rw [decide_eq_true hk0, Bool.true_and]
        cases q : sp_tw U.all_ 2 k e with
        | false =>
          show am_Z X 189 [.ref m, am_n S.2.length, am_n j, am_n e, am_n (sp_i b), am_n k, am_n 1, v7] [am_n 0] h1 0 0
          refine ai_zeq (tgt := 205) hB d_MO_methodRest_189 (by decide) (fun c2 => ?_) (fun c2 => ?_)
          · exact no 1 v7 (by unfold rs_opt rs_rest; rw [hr]; simp only [q]; rfl)
          · omega
        | true =>
          have hk4 : k + 4 ≤ e := sp_tw_le q
          show am_Z X 189 [.ref m, am_n S.2.length, am_n j, am_n e, am_n (sp_i b), am_n k, am_n 1, v7] [am_n 1] h1 0 0
          refine ai_zeq (tgt := 205) hB d_MO_methodRest_189 (by decide) (fun c2 => ?_) (fun c2 => ?_)
          · omega
          refine am_aload_n hB d_MO_methodRest_192 rfl rfl rfl ?_
          refine am_iload hB d_MO_methodRest_193 rfl ?_
          refine ai_const hB d_MO_methodRest_195 ?_
          refine ai_add hB d_MO_methodRest_196 ?_
          refine am_iload_n hB d_MO_methodRest_197 rfl rfl ?_
          refine am_callV hB hR (as := [am_n (k + 4), am_n e]) M.1 (m_MO_partEnd M hg1 (by omega) hk4 (by omega)) c_MO_135 rfl rfl d_MO_methodRest_198 ⟨by decide, Nat.le_of_ble_eq_true rfl⟩ ⟨by decide, by decide⟩ rfl rfl (fun rr h hp => ?_)
          obtain ⟨rfl, rfl⟩ := hp
          show am_Z X 201 [.ref m, am_n S.2.length, am_n j, am_n e, am_n (sp_i b), am_n k, am_n 1, v7] [am_n (sp_pe U1.all_ (k + 4) e)] h1 0 0
          rw [qa]
          have pin := sp_pe_in U.all_ (a := k + 4) (e := e) (by omega) hk4
          refine am_iload_n hB d_MO_methodRest_201 rfl rfl ?_
          refine ai_jeq (tgt := 207) hB d_MO_methodRest_202 (by decide) (fun c3 => ?_) (fun c3 => ?_)
          rotate_left
          · exact no 1 v7 (by unfold rs_opt rs_rest; rw [hr]; simp only [q]; rw [if_neg (fun z => c3 z.2)])
          have hopt : rs_opt U.all_ S o c j e fi la = some (rs_add S o c (nm U.all_ (k + 4) e) fi la rf rl) := by
            unfold rs_opt rs_rest
            rw [hr]
            simp only [q]
            rw [if_pos ⟨trivial, c3⟩]
          refine am_aload_n hB d_MO_methodRest_207 rfl rfl rfl ?_
          refine am_getf hB d_MO_methodRest_208 F_MO_43_11 M.1 rfl ?_
          refine am_iload_n hB d_MO_methodRest_211 rfl rfl ?_
          refine am_iload hB d_MO_methodRest_212 rfl ?_
          refine ai_const hB d_MO_methodRest_214 ?_
          refine ai_add hB d_MO_methodRest_215 ?_
          refine mo_s_nickFrom hB d_MO_methodRest_216 M f (fun h M f => ?_)
          refine am_aload_n hB d_MO_methodRest_217 rfl rfl rfl ?_
          refine am_getf hB d_MO_methodRest_218 F_MO_46_11 M.1 rfl ?_
          refine am_iload_n hB d_MO_methodRest_221 rfl rfl ?_
          refine am_iload_n hB d_MO_methodRest_222 rfl rfl ?_
          refine mo_s_nickTo hB d_MO_methodRest_223 M f (fun h M f => ?_)
          refine am_aload_n hB d_MO_methodRest_224 rfl rfl rfl ?_
          refine am_getf hB d_MO_methodRest_225 F_MO_61_11 M.1 rfl ?_
          refine am_iload_n hB d_MO_methodRest_228 rfl rfl ?_
          refine am_aload_n hB d_MO_methodRest_229 rfl rfl rfl ?_
          refine am_getf hB d_MO_methodRest_230 F_MO_145_11 M.1 rfl ?_
          refine ai_const hB d_MO_methodRest_233 ?_
          refine ai_sub hB d_MO_methodRest_234 ?_
          refine mo_s_classOf hB d_MO_methodRest_235 M f (fun h M f => ?_)
          have M : am_mo h m (mv.s_classOf (mv.s_nickTo (mv.s_nickFrom U1 (am_up U1.nickFrom_ S.2.length (k + 4))) (am_up U1.nickTo_ S.2.length e)) (am_up U1.classOf_ S.2.length (U1.classes_ - 1))) := M
          have fin : ∀ z : Bool, z = pm_on S.2 ((o, c, nm U.all_ (k + 4) e), (fi, la, rf, rl)) (S.1.length - 1) → am_Z X 329 [.ref m, am_n S.2.length, am_n j, am_n e, am_n (sp_i b), am_n k, am_n 1, v7] [am_n (sp_i z)] h 0 0 := by
            intro z hz
            have go : ∀ gr : Int, gr = U1.groups_ + (if z = true then 0 else 1) → am_Z X 350 [.ref m, am_n S.2.length, am_n j, am_n e, am_n (sp_i b), am_n k, am_n 1, am_n (sp_i z)] [am_n gr, .ref m] h 0 0 := by
              intro gr hgr
              refine mo_p_groups hB d_MO_methodRest_350 P_MO_173_11 M f (fun h M f => ?_)
              refine am_aload_n hB d_MO_methodRest_353 rfl rfl rfl ?_
              refine am_getf hB d_MO_methodRest_354 F_MO_64_11 M.1 rfl ?_
              refine am_iload_n hB d_MO_methodRest_357 rfl rfl ?_
              refine am_aload_n hB d_MO_methodRest_358 rfl rfl rfl ?_
              refine am_getf hB d_MO_methodRest_359 F_MO_173_11 M.1 rfl ?_
              refine ai_const hB d_MO_methodRest_362 ?_
              refine ai_sub hB d_MO_methodRest_363 ?_
              refine mo_s_groupOf hB d_MO_methodRest_364 M f (fun h M f => ?_)
              refine am_aload_n hB d_MO_methodRest_365 rfl rfl rfl ?_
              refine am_dup hB d_MO_methodRest_366 rfl ?_
              refine am_getf hB d_MO_methodRest_367 F_MO_163_11 M.1 rfl ?_
              refine ai_const hB d_MO_methodRest_370 ?_
              refine ai_add hB d_MO_methodRest_371 ?_
              refine mo_p_methods hB d_MO_methodRest_372 P_MO_163_11 M f (fun h M f => ?_)
              refine ai_const hB d_MO_methodRest_375 ?_
              refine am_iret hB hR d_MO_methodRest_376 rfl (by decide) ?_ (Nat.zero_le _) (Nat.zero_le _)
              rw [hopt]
              refine ⟨_, M, u.1, f, rfl, mp.addL h32 hC u.1 ⟨u.2.1.1, u.2.1.2.1, u.2.1.2.2.1, u.2.1.2.2.2.1, u.2.1.2.2.2.2.1⟩ ?_ ?_ ?_ ?_ ?_ ?_ ?_ ?_ ?_⟩
              · intro i hi
                obtain ⟨a0, a1, a2, a3, a4, a5, a6, a7, a8, a9, a10, a11⟩ := u.2.2 i hi
                exact ⟨a0, a1, a2, a3, (am_up_ne _ _ hi).trans a4, (am_up_ne _ _ hi).trans a5, a6, a7, a8, a9, (am_up_ne _ _ hi).trans a10, (am_up_ne _ _ hi).trans a11⟩
              · show U1.methods_ + 1 = _
                rw [u.2.1.2.2.2.2.2.1, mp.2.2.1]
              · show gr = _
                rw [hgr, u.2.1.2.2.2.2.2.2, mp.2.2.2.2.1, hz]
              · obtain ⟨n1, n2, n3, n4, n5, n6⟩ := nn
                refine ⟨?_, ?_, ?_⟩
                · show 0 ≤ U1.ownFrom_ S.2.length ∧ U1.ownFrom_ S.2.length ≤ U1.ownTo_ S.2.length ∧ U1.ownTo_ S.2.length ≤ 600
                  rw [n1, n2]
                  exact r1.1
                · show 0 ≤ U1.callFrom_ S.2.length ∧ U1.callFrom_ S.2.length ≤ U1.callTo_ S.2.length ∧ U1.callTo_ S.2.length ≤ 600
                  rw [n3, n4]
                  exact r1.2
                · show 0 ≤ am_up U1.nickFrom_ S.2.length (k + 4) S.2.length ∧ am_up U1.nickFrom_ S.2.length (k + 4) S.2.length ≤ am_up U1.nickTo_ S.2.length e S.2.length ∧ am_up U1.nickTo_ S.2.length e S.2.length ≤ 600
                  rw [am_up_eq, am_up_eq]
                  omega
              · obtain ⟨n1, n2, n3, n4, n5, n6⟩ := nn
                refine ⟨?_, ?_, ?_⟩
                · show nm U.all_ (U1.ownFrom_ S.2.length) (U1.ownTo_ S.2.length) = o
                  rw [n1, n2]
                  exact r2.1
                · show nm U.all_ (U1.callFrom_ S.2.length) (U1.callTo_ S.2.length) = c
                  rw [n3, n4]
                  exact r2.2
                · show nm U.all_ (am_up U1.nickFrom_ S.2.length (k + 4) S.2.length) (am_up U1.nickTo_ S.2.length e S.2.length) = _
                  rw [am_up_eq, am_up_eq]
              · exact ⟨nn.2.2.2.2.1.trans hfi, nn.2.2.2.2.2.trans hla, e1, e2⟩
              · show am_up U1.classOf_ S.2.length (U1.classes_ - 1) S.2.length = _
                rw [am_up_eq, u.2.1.1]
              · exact am_up_eq _ _ _
              · exact ⟨by omega, by omega, by omega, by omega⟩
            refine am_istore hB d_MO_methodRest_329 (by rw [hR.nL]; decide) rfl ?_
            refine am_aload_n hB d_MO_methodRest_331 rfl rfl rfl ?_
            refine am_iload hB d_MO_methodRest_332 rfl ?_
            cases z with
            | false =>
              show am_Z X 334 [.ref m, am_n S.2.length, am_n j, am_n e, am_n (sp_i b), am_n k, am_n 1, am_n 0] [am_n 0, .ref m] h 0 0
              refine ai_zeq (tgt := 344) hB d_MO_methodRest_334 (by decide) (fun c4 => ?_) (fun c4 => ?_)
              · refine am_aload_n hB d_MO_methodRest_344 rfl rfl rfl ?_
                refine am_getf hB d_MO_methodRest_345 F_MO_173_11 M.1 rfl ?_
                refine ai_const hB d_MO_methodRest_348 ?_
                refine ai_add hB d_MO_methodRest_349 ?_
                exact go (U1.groups_ + 1) rfl
              · omega
            | true =>
              show am_Z X 334 [.ref m, am_n S.2.length, am_n j, am_n e, am_n (sp_i b), am_n k, am_n 1, am_n 1] [am_n 1, .ref m] h 0 0
              refine ai_zeq (tgt := 344) hB d_MO_methodRest_334 (by decide) (fun c4 => ?_) (fun c4 => ?_)
              · omega
              refine am_aload_n hB d_MO_methodRest_337 rfl rfl rfl ?_
              refine am_getf hB d_MO_methodRest_338 F_MO_173_11 M.1 rfl ?_
              refine am_goto (tgt := 350) hB d_MO_methodRest_341 (by decide) ?_
              exact go U1.groups_ (by rw [if_pos rfl]; omega)
          have off : pm_on S.2 ((o, c, nm U.all_ (k + 4) e), (fi, la, rf, rl)) (S.1.length - 1) = false → am_Z X 328 [.ref m, am_n S.2.length, am_n j, am_n e, am_n (sp_i b), am_n k, am_n 1, v7] [] h 0 0 := by
            intro hz
            refine ai_const hB d_MO_methodRest_328 ?_
            exact fin false hz.symm
          refine am_iload hB d_MO_methodRest_236 rfl ?_
          rcases hb with ⟨hb1, hb2, rfl⟩ | ⟨hb1, hb2, hb3, rfl⟩
          · show am_Z X 238 [.ref m, am_n S.2.length, am_n j, am_n e, am_n 0, am_n k, am_n 1, v7] [am_n 0] h 0 0
            refine ai_zeq (tgt := 328) hB d_MO_methodRest_238 (by decide) (fun c5 => ?_) (fun c5 => ?_)
            · refine off ?_
              unfold pm_on
              cases S.2.getLast? with
              | none => rfl
              | some x => exact decide_eq_false (fun z => z.1 hb1)
            · omega
          show am_Z X 238 [.ref m, am_n S.2.length, am_n j, am_n e, am_n 1, am_n k, am_n 1, v7] [am_n 1] h 0 0
          refine ai_zeq (tgt := 328) hB d_MO_methodRest_238 (by decide) (fun c5 => ?_) (fun c5 => ?_)
          · omega
          refine am_iload_n hB d_MO_methodRest_241 rfl rfl ?_
          refine ai_zle (tgt := 328) hB d_MO_methodRest_242 (by decide) (fun c6 => ?_) (fun c6 => ?_)
          · refine off ?_
            have : S.2 = [] := List.length_eq_zero_iff.mp (by omega)
            rw [this]
            rfl
          have hlast : S.2.getLast? = some (S.2[S.2.length - 1]'(by omega)) := by
            rw [List.getLast?_eq_getElem?, List.getElem?_eq_getElem]
          have hx := mp.2.2.2.2.2.2 (S.2.length - 1) _ (List.getElem?_eq_getElem (show S.2.length - 1 < S.2.length by omega))
          generalize S.2[S.2.length - 1]'(by omega) = x at hlast hx
          have hon : pm_on S.2 ((o, c, nm U.all_ (k + 4) e), (fi, la, rf, rl)) (S.1.length - 1) = decide (fi ≠ -1 ∧ x.2.2.1 = S.1.length - 1 ∧ x.2.1.1 = fi ∧ x.2.1.2.1 = la ∧ x.1.2.2 = nm U.all_ (k + 4) e) := by
            unfold pm_on
            rw [hlast]
          obtain ⟨⟨-, -, y1⟩, ⟨-, -, y2⟩, ⟨y3, y4, -, -⟩, y5, -, y6⟩ := hx
          rw [show (((S.2.length - 1 : Nat)) : Int) = (S.2.length : Int) - 1 by omega] at y1 y2 y3 y4 y5
          obtain ⟨-, -, -, -, a4, a5, a6, a7, -, -, a10, -⟩ := u.2.2 ((S.2.length : Int) - 1) (by omega)
          obtain ⟨z1, z2, z3, -, -⟩ := y6
          refine am_aload_n hB d_MO_methodRest_245 rfl rfl rfl ?_
          refine am_getf hB d_MO_methodRest_246 F_MO_61_11 M.1 rfl ?_
          refine am_iload_n hB d_MO_methodRest_249 rfl rfl ?_
          refine ai_const hB d_MO_methodRest_250 ?_
          refine ai_sub hB d_MO_methodRest_251 ?_
          refine ai_iald hB d_MO_methodRest_252 ty_1 M.classOf ?_
          refine am_aload_n hB d_MO_methodRest_253 rfl rfl rfl ?_
          refine am_getf hB d_MO_methodRest_254 F_MO_61_11 M.1 rfl ?_
          refine am_iload_n hB d_MO_methodRest_257 rfl rfl ?_
          refine ai_iald hB d_MO_methodRest_258 ty_1 M.classOf ?_
          show am_Z X 259 [.ref m, am_n S.2.length, am_n j, am_n e, am_n 1, am_n k, am_n 1, v7] [am_n (am_up U1.classOf_ S.2.length (U1.classes_ - 1) S.2.length), am_n (am_up U1.classOf_ S.2.length (U1.classes_ - 1) ((S.2.length : Int) - 1))] h 0 0
          rw [am_up_eq, am_up_ne _ _ (by omega), a10, y5, u.2.1.1, mp.1]
          refine ai_jne (tgt := 328) hB d_MO_methodRest_259 (by decide) (fun c7 => ?_) (fun c7 => ?_)
          · exact off (by rw [hon]; exact decide_eq_false (fun z => c7 (by omega)))
          refine am_aload_n hB d_MO_methodRest_262 rfl rfl rfl ?_
          refine am_getf hB d_MO_methodRest_263 F_MO_49_11 M.1 rfl ?_
          refine am_iload_n hB d_MO_methodRest_266 rfl rfl ?_
          refine ai_const hB d_MO_methodRest_267 ?_
          refine ai_sub hB d_MO_methodRest_268 ?_
          refine ai_iald hB d_MO_methodRest_269 ty_1 M.low ?_
          refine am_aload_n hB d_MO_methodRest_270 rfl rfl rfl ?_
          refine am_getf hB d_MO_methodRest_271 F_MO_49_11 M.1 rfl ?_
          refine am_iload_n hB d_MO_methodRest_274 rfl rfl ?_
          refine ai_iald hB d_MO_methodRest_275 ty_1 M.low ?_
          show am_Z X 276 [.ref m, am_n S.2.length, am_n j, am_n e, am_n 1, am_n k, am_n 1, v7] [am_n (U1.low_ S.2.length), am_n (U1.low_ ((S.2.length : Int) - 1))] h 0 0
          rw [a6, y3, nn.2.2.2.2.1, hfi]
          refine ai_jne (tgt := 328) hB d_MO_methodRest_276 (by decide) (fun c8 => ?_) (fun c8 => ?_)
          · exact off (by rw [hon]; exact decide_eq_false (fun z => c8 z.2.2.1))
          refine am_aload_n hB d_MO_methodRest_279 rfl rfl rfl ?_
          refine am_getf hB d_MO_methodRest_280 F_MO_52_11 M.1 rfl ?_
          refine am_iload_n hB d_MO_methodRest_283 rfl rfl ?_
          refine ai_const hB d_MO_methodRest_284 ?_
          refine ai_sub hB d_MO_methodRest_285 ?_
          refine ai_iald hB d_MO_methodRest_286 ty_1 M.high ?_
          refine am_aload_n hB d_MO_methodRest_287 rfl rfl rfl ?_
          refine am_getf hB d_MO_methodRest_288 F_MO_52_11 M.1 rfl ?_
          refine am_iload_n hB d_MO_methodRest_291 rfl rfl ?_
          refine ai_iald hB d_MO_methodRest_292 ty_1 M.high ?_
          show am_Z X 293 [.ref m, am_n S.2.length, am_n j, am_n e, am_n 1, am_n k, am_n 1, v7] [am_n (U1.high_ S.2.length), am_n (U1.high_ ((S.2.length : Int) - 1))] h 0 0
          rw [a7, y4, nn.2.2.2.2.2, hla]
          refine ai_jne (tgt := 328) hB d_MO_methodRest_293 (by decide) (fun c9 => ?_) (fun c9 => ?_)
          · exact off (by rw [hon]; exact decide_eq_false (fun z => c9 z.2.2.2.1))
          refine am_aload_n hB d_MO_methodRest_296 rfl rfl rfl ?_
          refine am_aload_n hB d_MO_methodRest_297 rfl rfl rfl ?_
          refine am_getf hB d_MO_methodRest_298 F_MO_43_11 M.1 rfl ?_
          refine am_iload_n hB d_MO_methodRest_301 rfl rfl ?_
          refine ai_const hB d_MO_methodRest_302 ?_
          refine ai_sub hB d_MO_methodRest_303 ?_
          refine ai_iald hB d_MO_methodRest_304 ty_1 M.nickFrom ?_
          refine am_aload_n hB d_MO_methodRest_305 rfl rfl rfl ?_
          refine am_getf hB d_MO_methodRest_306 F_MO_46_11 M.1 rfl ?_
          refine am_iload_n hB d_MO_methodRest_309 rfl rfl ?_
          refine ai_const hB d_MO_methodRest_310 ?_
          refine ai_sub hB d_MO_methodRest_311 ?_
          refine ai_iald hB d_MO_methodRest_312 ty_1 M.nickTo ?_
          refine am_iload hB d_MO_methodRest_313 rfl ?_
          refine ai_const hB d_MO_methodRest_315 ?_
          refine ai_add hB d_MO_methodRest_316 ?_
          refine am_iload_n hB d_MO_methodRest_317 rfl rfl ?_
          show am_Z X 318 [.ref m, am_n S.2.length, am_n j, am_n e, am_n 1, am_n k, am_n 1, v7] [am_n e, am_n (k + 4), am_n (am_up U1.nickTo_ S.2.length e ((S.2.length : Int) - 1)), am_n (am_up U1.nickFrom_ S.2.length (k + 4) ((S.2.length : Int) - 1)), .ref m] h 0 0
          rw [am_up_ne _ _ (by omega), am_up_ne _ _ (by omega), a4, a5]
          refine am_callV hB hR (as := [am_n (U.nickFrom_ ((S.2.length : Int) - 1)), am_n (U.nickTo_ ((S.2.length : Int) - 1)), am_n (k + 4), am_n e]) M.1 (m_MO_same M hg1 y1.1 y1.2.1 (by omega) (by omega) hk4 (by omega)) c_MO_154 rfl rfl d_MO_methodRest_318 ⟨by decide, Nat.le_of_ble_eq_true rfl⟩ ⟨by decide, by decide⟩ rfl rfl (fun rr h hp => ?_)
          obtain ⟨rfl, rfl⟩ := hp
          show am_Z X 321 [.ref m, am_n S.2.length, am_n j, am_n e, am_n 1, am_n k, am_n 1, v7] [am_n (sp_i (sp_eq U1.all_ (U.nickFrom_ ((S.2.length : Int) - 1)) (U.nickTo_ ((S.2.length : Int) - 1)) U1.all_ (k + 4) e))] h 0 0
          rw [sp_eq_nm y1.2.1 hk4, qa, y2]
          by_cases zz : x.1.2.2 = nm U.all_ (k + 4) e
          · rw [decide_eq_true zz]
            show am_Z X 321 [.ref m, am_n S.2.length, am_n j, am_n e, am_n 1, am_n k, am_n 1, v7] [am_n 1] h 0 0
            refine ai_zeq (tgt := 328) hB d_MO_methodRest_321 (by decide) (fun c10 => ?_) (fun c10 => ?_)
            · omega
            refine ai_const hB d_MO_methodRest_324 ?_
            refine am_goto (tgt := 329) hB d_MO_methodRest_325 (by decide) ?_
            exact fin true (by rw [hon]; exact (decide_eq_true ⟨by omega, by omega, c8, c9, zz⟩).symm)
          · rw [decide_eq_false zz]
            show am_Z X 321 [.ref m, am_n S.2.length, am_n j, am_n e, am_n 1, am_n k, am_n 1, v7] [am_n 0] h 0 0
            refine ai_zeq (tgt := 328) hB d_MO_methodRest_321 (by decide) (fun c10 => ?_) (fun c10 => ?_)
            · exact off (by rw [hon]; exact decide_eq_false (fun z => zz z.2.2.2.2))
            · omega
    refine am_aload_n hB d_MO_methodRest_121 rfl rfl rfl ?_
    refine am_getf hB d_MO_methodRest_122 F_MO_58_11 M.1 rfl ?_
    refine am_iload_n hB d_MO_methodRest_125 rfl rfl ?_
    refine ai_iald hB d_MO_methodRest_126 ty_1 M.last ?_
    refine am_aload_n hB d_MO_methodRest_127 rfl rfl rfl ?_
    refine am_getf hB d_MO_methodRest_128 F_MO_55_11 M.1 rfl ?_
    refine am_iload_n hB d_MO_methodRest_131 rfl rfl ?_
    refine ai_iald hB d_MO_methodRest_132 ty_1 M.first ?_
    refine ai_sub hB d_MO_methodRest_133 ?_
    show am_Z X 134 [.ref m, am_n S.2.length, am_n j, am_n e, am_n (sp_i b), am_n k, v6, v7] [am_n (U1.last_ S.2.length - U1.first_ S.2.length)] h1 0 0
    rw [e1, e2]
    refine ai_zeq (tgt := 166) hB d_MO_methodRest_134 (by decide) (fun c1 => ?_) (fun c1 => ?_)
    · refine ai_const hB d_MO_methodRest_166 ?_
      refine am_goto (tgt := 171) hB d_MO_methodRest_167 (by decide) ?_
      exact fit true ⟨fun _ => Or.inl c1, fun _ => rfl⟩
    refine am_aload_n hB d_MO_methodRest_137 rfl rfl rfl ?_
    refine am_getf hB d_MO_methodRest_138 F_MO_58_11 M.1 rfl ?_
    refine am_iload_n hB d_MO_methodRest_141 rfl rfl ?_
    refine ai_iald hB d_MO_methodRest_142 ty_1 M.last ?_
    refine am_aload_n hB d_MO_methodRest_143 rfl rfl rfl ?_
    refine am_getf hB d_MO_methodRest_144 F_MO_55_11 M.1 rfl ?_
    refine am_iload_n hB d_MO_methodRest_147 rfl rfl ?_
    refine ai_iald hB d_MO_methodRest_148 ty_1 M.first ?_
    refine ai_sub hB d_MO_methodRest_149 ?_
    refine am_aload_n hB d_MO_methodRest_150 rfl rfl rfl ?_
    refine am_getf hB d_MO_methodRest_151 F_MO_52_11 M.1 rfl ?_
    refine am_iload_n hB d_MO_methodRest_154 rfl rfl ?_
    refine ai_iald hB d_MO_methodRest_155 ty_1 M.high ?_
    refine am_aload_n hB d_MO_methodRest_156 rfl rfl rfl ?_
    refine am_getf hB d_MO_methodRest_157 F_MO_49_11 M.1 rfl ?_
    refine am_iload_n hB d_MO_methodRest_160 rfl rfl ?_
    refine ai_iald hB d_MO_methodRest_161 ty_1 M.low ?_
    refine ai_sub hB d_MO_methodRest_162 ?_
    show am_Z X 163 [.ref m, am_n S.2.length, am_n j, am_n e, am_n (sp_i b), am_n k, v6, v7] [am_n (U1.high_ S.2.length - U1.low_ S.2.length), am_n (U1.last_ S.2.length - U1.first_ S.2.length)] h1 0 0
    rw [e1, e2, nn.2.2.2.2.1, nn.2.2.2.2.2, hfi, hla]
    refine ai_jne (tgt := 170) hB d_MO_methodRest_163 (by decide) (fun c2 => ?_) (fun c2 => ?_)
    · refine ai_const hB d_MO_methodRest_170 ?_
      refine fit false ⟨(fun z => by cases z), fun z => ?_⟩
      rcases z with z | z
      · omega
      · omega
    · refine ai_const hB d_MO_methodRest_166 ?_
      refine am_goto (tgt := 171) hB d_MO_methodRest_167 (by decide) ?_
      exact fit true ⟨fun _ => Or.inr c2, fun _ => rfl⟩
  have j117 : ∀ (p : Int) (v7 : Value) (U1 : mv) (h1 : am_H) (rf rl : Int), mo_u U U1 S.2.length → mo_n U U1 S.2.length → U1.first_ S.2.length = rf → U1.last_ S.2.length = rl → (-1 ≤ rf ∧ rf < 100000) → (-1 ≤ rl ∧ rl < 100000) → (-1 ≤ p ∧ p ≤ e) → ((sp_rr U.all_ j e fi la = some (p, rf, rl) ∧ rs_fit rf rl fi la ∧ rf < 10000 ∧ rl < 10000) ∨ (sp_rr U.all_ j e fi la = none ∧ (p = -1 ∨ ¬ rs_fit rf rl fi la))) → am_mo h1 m U1 → ko m 35 hA h1 → am_Z X 117 [.ref m, am_n S.2.length, am_n j, am_n e, am_n (sp_i b), am_n j, am_n p, v7] [] h1 0 0 := by
    intro p v7 U1 h1 rf rl u nn e1 e2 b1 b2 b3 hr M f
    refine am_iload hB d_MO_methodRest_117 rfl ?_
    refine am_istore hB d_MO_methodRest_119 (by rw [hR.nL]; decide) rfl ?_
    exact B p rf rl (am_n p) v7 U1 h1 rfl u nn e1 e2 b1 b2 b3 hr M f
  refine am_iload_n hB d_MO_methodRest_0 rfl rfl ?_
  refine am_istore hB d_MO_methodRest_1 (by rw [hR.nL]; decide) rfl ?_
  refine am_aload_n hB d_MO_methodRest_3 rfl rfl rfl ?_
  refine am_getf hB d_MO_methodRest_4 F_MO_55_11 M.1 rfl ?_
  refine am_iload_n hB d_MO_methodRest_7 rfl rfl ?_
  refine am_aload_n hB d_MO_methodRest_8 rfl rfl rfl ?_
  refine am_getf hB d_MO_methodRest_9 F_MO_49_11 M.1 rfl ?_
  refine am_iload_n hB d_MO_methodRest_12 rfl rfl ?_
  refine ai_iald hB d_MO_methodRest_13 ty_1 M.low ?_
  show am_Z X 14 [.ref m, am_n S.2.length, am_n j, am_n e, am_n (sp_i b), am_n j, am_u, am_u] [am_n (U.low_ S.2.length), am_n S.2.length, .ref (m + 16)] hA 0 0
  rw [hfi]
  have f : ko m 35 hA hA := ko.rf
  refine mo_s_first hB d_MO_methodRest_14 M f (fun h M f => ?_)
  refine am_aload_n hB d_MO_methodRest_15 rfl rfl rfl ?_
  refine am_getf hB d_MO_methodRest_16 F_MO_58_11 M.1 rfl ?_
  refine am_iload_n hB d_MO_methodRest_19 rfl rfl ?_
  refine am_aload_n hB d_MO_methodRest_20 rfl rfl rfl ?_
  refine am_getf hB d_MO_methodRest_21 F_MO_52_11 M.1 rfl ?_
  refine am_iload_n hB d_MO_methodRest_24 rfl rfl ?_
  refine ai_iald hB d_MO_methodRest_25 ty_1 M.high ?_
  show am_Z X 26 [.ref m, am_n S.2.length, am_n j, am_n e, am_n (sp_i b), am_n j, am_u, am_u] [am_n (U.high_ S.2.length), am_n S.2.length, .ref (m + 17)] h 0 0
  rw [hla]
  refine mo_s_last hB d_MO_methodRest_26 M f (fun h M f => ?_)
  refine am_iload hB d_MO_methodRest_27 rfl ?_
  have M : am_mo h m (mv.s_last (mv.s_first U (am_up U.first_ S.2.length fi)) (am_up U.last_ S.2.length la)) := M
  have u1_0 := (mo_u_first U S.2.length fi).tr (mo_u_last (mv.s_first U (am_up U.first_ S.2.length fi)) S.2.length la)
  have u1 : mo_u U (mv.s_last (mv.s_first U (am_up U.first_ S.2.length fi)) (am_up U.last_ S.2.length la)) S.2.length := u1_0
  rcases hb with ⟨hb1, hb2, rfl⟩ | ⟨hb1, hb2, hb3, rfl⟩
  · show am_Z X 29 [.ref m, am_n S.2.length, am_n j, am_n e, am_n 0, am_n j, am_u, am_u] [am_n 0] h 0 0
    refine ai_zeq (tgt := 121) hB d_MO_methodRest_29 (by decide) (fun c1 => ?_) (fun c1 => ?_)
    · exact B j fi la am_u am_u _ h rfl u1 ⟨rfl, rfl, rfl, rfl, rfl, rfl⟩ (am_up_eq _ _ _) (am_up_eq _ _ _) (by omega) (by omega) (by omega) (Or.inl ⟨if_pos (Or.inl hb1), Or.inr rfl, by omega, by omega⟩) M f
    · omega
  show am_Z X 29 [.ref m, am_n S.2.length, am_n j, am_n e, am_n 1, am_n j, am_u, am_u] [am_n 1] h 0 0
  refine ai_zeq (tgt := 121) hB d_MO_methodRest_29 (by decide) (fun c1 => ?_) (fun c1 => ?_)
  · omega
  refine am_aload_n hB d_MO_methodRest_32 rfl rfl rfl ?_
  refine am_iload hB d_MO_methodRest_33 rfl ?_
  refine am_iload_n hB d_MO_methodRest_35 rfl rfl ?_
  refine am_callV hB hR (as := [am_n j, am_n e]) M.1 (m_MO_more M hg h0 hje h2) c_MO_170 rfl rfl d_MO_methodRest_36 ⟨by decide, Nat.le_of_ble_eq_true rfl⟩ ⟨by decide, by decide⟩ rfl rfl (fun rr h hp => ?_)
  obtain ⟨v1, rfl, M, f1, hv1⟩ := hp
  have f := f.tr f1
  have M : am_mo h m (mv.s_value (mv.s_last (mv.s_first U (am_up U.first_ S.2.length fi)) (am_up U.last_ S.2.length la)) (v1)) := M
  have u2_0 := u1.tr (mo_u_v _ _ v1)
  have u2 : mo_u U (mv.s_value (mv.s_last (mv.s_first U (am_up U.first_ S.2.length fi)) (am_up U.last_ S.2.length la)) (v1)) S.2.length := u2_0
  show am_Z X 39 [.ref m, am_n S.2.length, am_n j, am_n e, am_n 1, am_n j, am_u, am_u] [am_n (if sp_tw U.all_ 1 j e = true then nuE U.all_ (j + 1) e else j)] h 0 0
  have hne : fi ≠ -1 := by omega
  cases q : sp_tw U.all_ 1 j e with
  | false =>
    show am_Z X 39 [.ref m, am_n S.2.length, am_n j, am_n e, am_n 1, am_n j, am_u, am_u] [am_n j] h 0 0
    refine am_istore hB d_MO_methodRest_39 (by rw [hR.nL]; decide) rfl ?_
    refine am_iload hB d_MO_methodRest_41 rfl ?_
    refine am_iload hB d_MO_methodRest_43 rfl ?_
    refine ai_jeq (tgt := 117) hB d_MO_methodRest_45 (by decide) (fun c2 => ?_) (fun c2 => ?_)
    rotate_left
    · exact absurd rfl c2
    exact j117 j am_u _ h fi la u2 ⟨rfl, rfl, rfl, rfl, rfl, rfl⟩ (am_up_eq _ _ _) (am_up_eq _ _ _) (by omega) (by omega) (by omega) (Or.inl ⟨if_pos (Or.inr q), Or.inr rfl, by omega, by omega⟩) M f
  | true =>
    have hj1 : j + 1 ≤ e := sp_tw_1 q
    have hv1 := hv1 q
    have hrr : sp_rr U.all_ j e fi la = _ := if_neg (by rintro (z | z); · exact hne z
                                                        · rw [q] at z; cases z)
    rcases nu_cases U.all_ hj1 with ⟨n1, n2, n3, n4⟩ | ⟨v, i, n1, n2, n3, n4, n5, n6, n7, n8⟩
    · show am_Z X 39 [.ref m, am_n S.2.length, am_n j, am_n e, am_n 1, am_n j, am_u, am_u] [am_n (nuE U.all_ (j + 1) e)] h 0 0
      rw [n2]
      refine am_istore hB d_MO_methodRest_39 (by rw [hR.nL]; decide) rfl ?_
      refine am_iload hB d_MO_methodRest_41 rfl ?_
      refine am_iload hB d_MO_methodRest_43 rfl ?_
      refine ai_jeq (tgt := 117) hB d_MO_methodRest_45 (by decide) (fun c2 => ?_) (fun c2 => ?_)
      · omega
      refine am_iload hB d_MO_methodRest_48 rfl ?_
      refine ai_zlt (tgt := 117) hB d_MO_methodRest_50 (by decide) (fun c3 => ?_) (fun c3 => ?_)
      rotate_left
      · omega
      exact j117 (-1) am_u _ h fi la u2 ⟨rfl, rfl, rfl, rfl, rfl, rfl⟩ (am_up_eq _ _ _) (am_up_eq _ _ _) (by omega) (by omega) (by omega) (Or.inr ⟨by rw [hrr, if_pos n3], Or.inl rfl⟩) M f
    · have hv : v1 = v := hv1.2 _ n1
      subst hv
      rw [if_neg (by omega), n3, n4] at hrr
      show am_Z X 39 [.ref m, am_n S.2.length, am_n j, am_n e, am_n 1, am_n j, am_u, am_u] [am_n (nuE U.all_ (j + 1) e)] h 0 0
      rw [n2]
      refine am_istore hB d_MO_methodRest_39 (by rw [hR.nL]; decide) rfl ?_
      refine am_iload hB d_MO_methodRest_41 rfl ?_
      refine am_iload hB d_MO_methodRest_43 rfl ?_
      refine ai_jeq (tgt := 117) hB d_MO_methodRest_45 (by decide) (fun c2 => ?_) (fun c2 => ?_)
      · omega
      refine am_iload hB d_MO_methodRest_48 rfl ?_
      refine ai_zlt (tgt := 117) hB d_MO_methodRest_50 (by decide) (fun c3 => ?_) (fun c3 => ?_)
      · omega
      refine am_aload_n hB d_MO_methodRest_53 rfl rfl rfl ?_
      refine am_getf hB d_MO_methodRest_54 F_MO_55_11 M.1 rfl ?_
      refine am_iload_n hB d_MO_methodRest_57 rfl rfl ?_
      refine am_aload_n hB d_MO_methodRest_58 rfl rfl rfl ?_
      refine am_getf hB d_MO_methodRest_59 F_MO_139_11 M.1 rfl ?_
      refine mo_s_first hB d_MO_methodRest_62 M f (fun h M f => ?_)
      refine am_aload_n hB d_MO_methodRest_63 rfl rfl rfl ?_
      refine am_getf hB d_MO_methodRest_64 F_MO_58_11 M.1 rfl ?_
      refine am_iload_n hB d_MO_methodRest_67 rfl rfl ?_
      refine am_aload_n hB d_MO_methodRest_68 rfl rfl rfl ?_
      refine am_getf hB d_MO_methodRest_69 F_MO_139_11 M.1 rfl ?_
      refine mo_s_last hB d_MO_methodRest_72 M f (fun h M f => ?_)
      refine am_aload_n hB d_MO_methodRest_73 rfl rfl rfl ?_
      refine am_iload hB d_MO_methodRest_74 rfl ?_
      refine am_iload_n hB d_MO_methodRest_76 rfl rfl ?_
      have M : am_mo h m (mv.s_value (mv.s_last (mv.s_first U (am_up (am_up U.first_ S.2.length fi) S.2.length v1)) (am_up (am_up U.last_ S.2.length la) S.2.length v1)) (v1)) := M
      have u3_0 := u2.tr ((mo_u_first _ S.2.length v1).tr (mo_u_last _ S.2.length v1))
      have u3 : mo_u U (mv.s_value (mv.s_last (mv.s_first U (am_up (am_up U.first_ S.2.length fi) S.2.length v1)) (am_up (am_up U.last_ S.2.length la) S.2.length v1)) (v1)) S.2.length := u3_0
      refine am_callV hB hR (as := [am_n i, am_n e]) M.1 (m_MO_more M hg (by omega) n6 h2) c_MO_170 rfl rfl d_MO_methodRest_77 ⟨by decide, Nat.le_of_ble_eq_true rfl⟩ ⟨by decide, by decide⟩ rfl rfl (fun rr h hp => ?_)
      obtain ⟨v2, rfl, M, f2, hv2⟩ := hp
      have f := f.tr f2
      have M : am_mo h m (mv.s_value (mv.s_last (mv.s_first U (am_up (am_up U.first_ S.2.length fi) S.2.length v1)) (am_up (am_up U.last_ S.2.length la) S.2.length v1)) (v2)) := M
      have u4_0 := u3.tr (mo_u_v _ _ v2)
      have u4 : mo_u U (mv.s_value (mv.s_last (mv.s_first U (am_up (am_up U.first_ S.2.length fi) S.2.length v1)) (am_up (am_up U.last_ S.2.length la) S.2.length v1)) (v2)) S.2.length := u4_0
      show am_Z X 80 [.ref m, am_n S.2.length, am_n j, am_n e, am_n 1, am_n j, am_n i, am_u] [am_n (if sp_tw U.all_ 1 i e = true then nuE U.all_ (i + 1) e else i)] h 0 0
      have j106 : ∀ p : Int, (-1 ≤ p ∧ p ≤ e) → ((sp_rr U.all_ j e fi la = some (p, v1, v1)) ∨ (sp_rr U.all_ j e fi la = none ∧ p = -1)) → am_Z X 106 [.ref m, am_n S.2.length, am_n j, am_n e, am_n 1, am_n j, am_n i, am_n p] [am_n S.2.length, .ref (m + 17)] h 0 0 := by
        intro p p1 hp
        refine am_aload_n hB d_MO_methodRest_106 rfl rfl rfl ?_
        refine am_getf hB d_MO_methodRest_107 F_MO_55_11 M.1 rfl ?_
        refine am_iload_n hB d_MO_methodRest_110 rfl rfl ?_
        refine ai_iald hB d_MO_methodRest_111 ty_1 M.first ?_
        show am_Z X 112 [.ref m, am_n S.2.length, am_n j, am_n e, am_n 1, am_n j, am_n i, am_n p] [am_n (am_up (am_up U.first_ S.2.length fi) S.2.length v1 S.2.length), am_n S.2.length, .ref (m + 17)] h 0 0
        rw [am_up_eq]
        refine mo_s_last hB d_MO_methodRest_112 M f (fun h M f => ?_)
        refine am_iload hB d_MO_methodRest_113 rfl ?_
        refine am_istore hB d_MO_methodRest_115 (by rw [hR.nL]; decide) rfl ?_
        exact j117 p (am_n p) _ h v1 v1 (u4.tr (mo_u_last _ S.2.length v1)) ⟨rfl, rfl, rfl, rfl, rfl, rfl⟩ (am_up_eq _ _ _) (am_up_eq _ _ _) (by omega) (by omega) (by omega) (by
          rcases hp with hp | ⟨hp, hq⟩
          · exact Or.inl ⟨hp, Or.inl (by omega), by omega, by omega⟩
          · exact Or.inr ⟨hp, Or.inl hq⟩) M f
      cases q2 : sp_tw U.all_ 1 i e with
      | false =>
        rw [if_neg (by rw [q2]; decide)] at hrr
        show am_Z X 80 [.ref m, am_n S.2.length, am_n j, am_n e, am_n 1, am_n j, am_n i, am_u] [am_n i] h 0 0
        refine am_istore hB d_MO_methodRest_80 (by rw [hR.nL]; decide) rfl ?_
        refine am_aload_n hB d_MO_methodRest_82 rfl rfl rfl ?_
        refine am_getf hB d_MO_methodRest_83 F_MO_58_11 M.1 rfl ?_
        refine am_iload_n hB d_MO_methodRest_86 rfl rfl ?_
        refine am_iload hB d_MO_methodRest_87 rfl ?_
        refine am_iload hB d_MO_methodRest_89 rfl ?_
        refine ai_jeq (tgt := 106) hB d_MO_methodRest_91 (by decide) (fun c4 => ?_) (fun c4 => ?_)
        rotate_left
        · exact absurd rfl c4
        exact j106 i (by omega) (Or.inl hrr)
      | true =>
        have hi1 : i + 1 ≤ e := sp_tw_1 q2
        have hv2 := hv2 q2
        rw [if_pos q2] at hrr
        rcases nu_cases U.all_ hi1 with ⟨o1, o2, o3, o4⟩ | ⟨v', i', o1, o2, o3, o4, o5, o6, o7, o8⟩
        · show am_Z X 80 [.ref m, am_n S.2.length, am_n j, am_n e, am_n 1, am_n j, am_n i, am_u] [am_n (nuE U.all_ (i + 1) e)] h 0 0
          rw [o2]
          refine am_istore hB d_MO_methodRest_80 (by rw [hR.nL]; decide) rfl ?_
          refine am_aload_n hB d_MO_methodRest_82 rfl rfl rfl ?_
          refine am_getf hB d_MO_methodRest_83 F_MO_58_11 M.1 rfl ?_
          refine am_iload_n hB d_MO_methodRest_86 rfl rfl ?_
          refine am_iload hB d_MO_methodRest_87 rfl ?_
          refine am_iload hB d_MO_methodRest_89 rfl ?_
          refine ai_jeq (tgt := 106) hB d_MO_methodRest_91 (by decide) (fun c4 => ?_) (fun c4 => ?_)
          · omega
          refine am_iload hB d_MO_methodRest_94 rfl ?_
          refine ai_zlt (tgt := 106) hB d_MO_methodRest_96 (by decide) (fun c5 => ?_) (fun c5 => ?_)
          rotate_left
          · omega
          exact j106 (-1) (by omega) (Or.inr ⟨by rw [hrr, if_neg (fun z => z.1 o3)], rfl⟩)
        · have hv' : v2 = v' := hv2.2 _ o1
          subst hv'
          rw [o3, o4] at hrr
          show am_Z X 80 [.ref m, am_n S.2.length, am_n j, am_n e, am_n 1, am_n j, am_n i, am_u] [am_n (nuE U.all_ (i + 1) e)] h 0 0
          rw [o2]
          refine am_istore hB d_MO_methodRest_80 (by rw [hR.nL]; decide) rfl ?_
          refine am_aload_n hB d_MO_methodRest_82 rfl rfl rfl ?_
          refine am_getf hB d_MO_methodRest_83 F_MO_58_11 M.1 rfl ?_
          refine am_iload_n hB d_MO_methodRest_86 rfl rfl ?_
          refine am_iload hB d_MO_methodRest_87 rfl ?_
          refine am_iload hB d_MO_methodRest_89 rfl ?_
          refine ai_jeq (tgt := 106) hB d_MO_methodRest_91 (by decide) (fun c4 => ?_) (fun c4 => ?_)
          · omega
          refine am_iload hB d_MO_methodRest_94 rfl ?_
          refine ai_zlt (tgt := 106) hB d_MO_methodRest_96 (by decide) (fun c5 => ?_) (fun c5 => ?_)
          · omega
          refine am_aload_n hB d_MO_methodRest_99 rfl rfl rfl ?_
          refine am_getf hB d_MO_methodRest_100 F_MO_139_11 M.1 rfl ?_
          refine am_goto (tgt := 112) hB d_MO_methodRest_103 (by decide) ?_
          refine mo_s_last hB d_MO_methodRest_112 M f (fun h M f => ?_)
          refine am_iload hB d_MO_methodRest_113 rfl ?_
          refine am_istore hB d_MO_methodRest_115 (by rw [hR.nL]; decide) rfl ?_
          refine j117 i' (am_n i') _ h v1 v2 (u4.tr (mo_u_last _ S.2.length v2)) ⟨rfl, rfl, rfl, rfl, rfl, rfl⟩ (am_up_eq _ _ _) (am_up_eq _ _ _) (by omega) (by omega) (by omega) ?_ M f
          by_cases z : v1 = v2 ∨ v2 - v1 = la - fi
          · rw [if_pos ⟨by omega, z⟩] at hrr
            refine Or.inl ⟨hrr, ?_, by omega, by omega⟩
            rcases z with z | z
            · exact Or.inl (by omega)
            · exact Or.inr z
          · rw [if_neg (fun y => z y.2)] at hrr
            refine Or.inr ⟨hrr, Or.inr ?_⟩
            rintro (y | y)
            · exact z (Or.inl (by omega))
            · exact z (Or.inr y)
