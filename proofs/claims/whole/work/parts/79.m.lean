/-! the model reads a trace: the loop -/
def tr_end (g : Int → Int) (n : Int) : Int := if 0 < n ∧ g (599 + n) = 10 then 599 + n else 600 + n
def cs_of (T : pt_S) : Int := if T.1.length = 0 then 0 else T.1.length - 1
theorem cs_of_0 {T : pt_S} (h : T.1.length = 0) : cs_of T = 0 := if_pos h
theorem cs_of_1 {T : pt_S} (h : 1 ≤ T.1.length) : cs_of T = T.1.length - 1 := if_neg (by omega)
def mo_rt (h : am_H) (m : Nat) (U : mv) (n : Int) : am_Y := fun r h' => ∃ U', am_mo h' m U' ∧ mo_tq U U' ∧ ko m 35 h h' ∧ (if n = 0 then r = some (am_n 1) else (match pm_run (pt_step U.all_) U.all_ (tr_end U.all_ n) (tr_end U.all_ n - 600 + 1).toNat 600 1 ([], []) with
  | .inl row => r = some (am_n row)
  | .inr T => r = some (am_n 0) ∧ pt_iv T ∧ T.1.length ≤ 4 ∧ T.2.length ≤ 20 ∧ mo_trc U' (ln_all T T.1.length) ∧ (ln_all T T.1.length).length ≤ 28))
theorem m_MO_readTrace {l : Launch} {G : am_G} {hA : am_H} {m : Nat} {U : mv} {n : Int} (M : am_mo hA m U) (hg : am_cok U.all_) (hn : 0 ≤ n ∧ n ≤ 600) : am_M l G M_MO_readTrace [.ref m, am_n n] hA (mo_rt hA m U n) := by
  have f : ko m 35 hA hA := ko.rf
  have hge := hg (599 + n)
  refine am_M.of (by decide) (Nat.le_of_ble_eq_true rfl) (fun X hB hR => ?_)
  show am_Z X 0 [.ref m, am_n n, am_u, am_u, am_u, am_u, am_u, am_u, am_u] [] hA 0 0
  have body : ∀ E : Int, E = tr_end U.all_ n → am_Z X 32 [.ref m, am_n n, am_u, am_u, am_u, am_u, am_u, am_u, am_u] [am_n E] hA 0 0 := by
    intro E hE
    have hE2 : 599 ≤ E ∧ E ≤ 1200 ∧ (0 < n → 600 ≤ E) := by
      rw [hE]
      unfold tr_end
      split <;> omega
    have out : ∀ (a may cs fr : Int) (v7 v8 : Value) (T : pt_S) (U1 : mv) (h1 : am_H), E < a → a ≤ 1202 → 0 < n → 1 ≤ T.1.length → T.1.length ≤ 4 → T.2.length ≤ 20 → 1 ≤ (ln_all T T.1.length).length → (ln_all T T.1.length).length ≤ 28 → pm_run (pt_step U.all_) U.all_ E (E - 600 + 1).toNat 600 1 ([], []) = .inr T → pt_iv T → mo_trc U1 (ln_all T T.1.length) → mo_tq U U1 → am_mo h1 m U1 → ko m 35 hA h1 → am_Z X 51 [.ref m, am_n n, am_n E, am_n a, am_n may, am_n cs, am_n fr, v7, v8] [] h1 0 0 := by
      intro a may cs fr v7 v8 T U1 h1 ha ha2 hn0 hT1 hT4 hT20 hL hL2 hr iv tc tq M f
      refine am_iload_n hB d_MO_readTrace_51 rfl rfl ?_
      refine ai_zle (tgt := 220) hB d_MO_readTrace_52 (by decide) (fun c1 => ?_) (fun c1 => ?_)
      · omega
      refine am_iload_n hB d_MO_readTrace_55 rfl rfl ?_
      refine am_iload_n hB d_MO_readTrace_56 rfl rfl ?_
      refine ai_jgt (tgt := 220) hB d_MO_readTrace_57 (by decide) (fun c2 => ?_) (fun c2 => ?_)
      rotate_left
      · omega
      refine am_aload_n hB d_MO_readTrace_220 rfl rfl rfl ?_
      refine am_getf hB d_MO_readTrace_221 F_MO_203_11 M.1 rfl ?_
      rw [tc.1]
      refine ai_zne (tgt := 231) hB d_MO_readTrace_224 (by decide) (fun c3 => ?_) (fun c3 => ?_)
      rotate_left
      · omega
      refine ai_const hB d_MO_readTrace_231 ?_
      refine am_iret hB hR d_MO_readTrace_232 rfl rfl ?_ (Nat.zero_le _) (Nat.zero_le _)
      refine ⟨U1, M, tq, f, ?_⟩
      rw [if_neg (show ¬ n = 0 by omega), ← hE, hr]
      exact ⟨rfl, iv, hT4, hT20, tc, hL2⟩
    have loop : ∀ (d : Nat) (a : Int) (v7 v8 : Value) (T : pt_S) (L : List ln_T) (U1 : mv) (h1 : am_H), 600 ≤ a → a ≤ E + 1 → E + 1 - a ≤ d → 0 < n → L = ln_all T T.1.length → (T.1.length = 0 → a = 600 ∧ L.length = 0 ∧ T.2.length = 0) → (1 ≤ T.1.length → 1 ≤ L.length ∧ L.length + (if may_of T = 1 then 1 else 0) ≤ 2 * T.1.length + T.2.length) → T.1.length ≤ 4 → T.2.length ≤ 20 → pm_run (pt_step U.all_) U.all_ E (E - 600 + 1).toNat 600 1 ([], []) = pm_run (pt_step U.all_) U.all_ E d a (L.length + 1) T → pt_iv T → mo_trc U1 L → mo_tq U U1 → am_mo h1 m U1 → ko m 35 hA h1 → am_Z X 51 [.ref m, am_n n, am_n E, am_n a, am_n (may_of T), am_n (cs_of T), am_n T.2.length, v7, v8] [] h1 0 0 := by
      intro d
      induction d with
      | zero =>
        intro a v7 v8 T L U1 h1 a0 a1 hd hn0 hL hT0 hT1 h4 h20 hr iv tc tq M f
        have h1' : 1 ≤ T.1.length := by
          rcases Nat.eq_zero_or_pos T.1.length with z | z
          · have := hT0 z
            omega
          · exact z
        have := hT1 h1'
        subst hL
        exact out a _ _ _ v7 v8 T U1 h1 (by omega) (by omega) hn0 h1' h4 h20 (by omega) (by split at this <;> omega) hr iv tc tq M f
      | succ d ih =>
        intro a v7 v8 T L U1 h1 a0 a1 hd hn0 hL hT0 hT1 h4 h20 hr iv tc tq M f
        have qa := tq.1.1.2.2.1
        have hg1 : am_cok U1.all_ := by rw [qa]; exact hg
        rw [pm_run] at hr
        by_cases han : a ≤ E
        rotate_left
        · rw [if_neg han] at hr
          have h1' : 1 ≤ T.1.length := by
            rcases Nat.eq_zero_or_pos T.1.length with z | z
            · have := hT0 z
              omega
            · exact z
          have := hT1 h1'
          subst hL
          exact out a _ _ _ v7 v8 T U1 h1 (by omega) (by omega) hn0 h1' h4 h20 (by omega) (by split at this <;> omega) hr iv tc tq M f
        rw [if_pos han] at hr
        have hin := sp_ix_in U.all_ 10 (E - a).toNat a
        have may012 : 0 ≤ may_of T ∧ may_of T ≤ 2 := by
          unfold may_of
          split
          · omega
          · split <;> omega
        have hLn : L.length ≤ 28 := by
          rcases Nat.eq_zero_or_pos T.1.length with z | z
          · have := hT0 z
            omega
          · have := hT1 z
            split at this <;> omega
        have go : ∀ t : Int, t = sp_ix U.all_ 10 a (E - a).toNat → am_Z X 87 [.ref m, am_n n, am_n E, am_n a, am_n (may_of T), am_n (cs_of T), am_n T.2.length, am_n t, v8] [] h1 0 0 := by
          intro t ht
          rw [← ht] at hr hin
          refine am_aload_n hB d_MO_readTrace_87 rfl rfl rfl ?_
          refine am_iload_n hB d_MO_readTrace_88 rfl rfl ?_
          refine am_iload hB d_MO_readTrace_89 rfl ?_
          refine am_iload hB d_MO_readTrace_91 rfl ?_
          refine am_callV hB hR (as := [am_n a, am_n t, am_n (may_of T)]) M.1 (m_MO_lineKind (n := L.length) M hg1 tc.1 (by omega) (by omega) (by omega) (by omega) may012) c_MO_241 rfl rfl d_MO_readTrace_93 ⟨by decide, Nat.le_of_ble_eq_true rfl⟩ ⟨by decide, by decide⟩ rfl rfl (fun rr h hp => ?_)
          obtain ⟨U2, M, u2, f2, rfl, ps⟩ := hp
          have f := f.tr f2
          rw [qa] at ps
          show am_Z X 96 [.ref m, am_n n, am_n E, am_n a, am_n (may_of T), am_n (cs_of T), am_n T.2.length, am_n t, v8] [am_n (ln_kd U1.all_ a t (may_of T))] h 0 0
          rw [qa]
          have kin : -1 ≤ ln_kd U.all_ a t (may_of T) ∧ ln_kd U.all_ a t (may_of T) ≤ 3 := by
            unfold ln_kd
            split
            · split <;> omega
            · split
              · split <;> omega
              · split
                · omega
                · split <;> omega
          have bad : ∀ c2 f2 : Int, pt_step U.all_ T a t = none → am_Z X 150 [.ref m, am_n n, am_n E, am_n a, am_n (may_of T), am_n c2, am_n f2, am_n t, am_n (ln_kd U.all_ a t (may_of T))] [] h 0 0 := by
            intro c2 f2 hz
            rw [hz] at hr
            refine am_aload_n hB d_MO_readTrace_150 rfl rfl rfl ?_
            refine am_getf hB d_MO_readTrace_151 F_MO_203_11 M.1 rfl ?_
            rw [show U2.lines_ = L.length from u2.2.1.trans tc.1]
            refine ai_const hB d_MO_readTrace_154 ?_
            refine ai_add hB d_MO_readTrace_155 ?_
            refine am_iret hB hR d_MO_readTrace_156 rfl rfl ?_ (Nat.zero_le _) (Nat.zero_le _)
            refine ⟨U2, M, tq.tr u2.1, f, ?_⟩
            rw [if_neg (show ¬ n = 0 by omega), ← hE, hr]
          have tail : ∀ c2 f2 : Int, c2 = cs_of T + (if ln_kd U.all_ a t (may_of T) = 1 then 1 else 0) → f2 = T.2.length + (if ln_kd U.all_ a t (may_of T) = 2 then 1 else 0) → am_Z X 132 [.ref m, am_n n, am_n E, am_n a, am_n (may_of T), am_n c2, am_n f2, am_n t, am_n (ln_kd U.all_ a t (may_of T))] [] h 0 0 := by
            intro c2 f2' hc2 hf2
            have csin : 0 ≤ cs_of T ∧ cs_of T ≤ 3 := by
              rcases Nat.eq_zero_or_pos T.1.length with z | z
              · rw [cs_of_0 z]; omega
              · rw [cs_of_1 z]; omega
            cases es : pt_step U.all_ T a t with
            | none =>
              have hbad : ln_kd U.all_ a t (may_of T) < 0 ∨ 3 < c2 ∨ 20 < f2' := by
                rcases st_cases (g := U.all_) (T := T) (a := a) (e := t) (by omega) with ⟨-, c⟩ | ⟨k0, c1, x, c2', c3⟩ | ⟨k0, c1, c4, c3', x, c2', c3⟩ | ⟨k0, c4, y, p, j, k, ln, c1, cm, c2', c3⟩ | ⟨k0, y, v, c1, cm, c2', c3⟩
                · rcases c with c | ⟨c, c'⟩ | ⟨c, c'⟩
                  · exact Or.inl (by omega)
                  · rw [if_pos c, cs_of_1 (by omega)] at hc2
                    exact Or.inr (Or.inl (by omega))
                  · rw [if_pos c] at hf2
                    exact Or.inr (Or.inr (by omega))
                · rw [es] at c3; cases c3
                · rw [es] at c3; cases c3
                · rw [es] at c3; cases c3
                · rw [es] at c3; cases c3
              have b1 : c2 ≤ 4 ∧ 0 ≤ c2 := by
                rw [hc2]
                split <;> omega
              have b2 : f2' ≤ 21 ∧ 0 ≤ f2' := by
                rw [hf2]
                split <;> omega
              refine am_iload hB d_MO_readTrace_132 rfl ?_
              refine ai_zlt (tgt := 150) hB d_MO_readTrace_134 (by decide) (fun d1 => ?_) (fun d1 => ?_)
              · exact bad c2 f2' es
              refine am_iload hB d_MO_readTrace_137 rfl ?_
              refine ai_const hB d_MO_readTrace_139 ?_
              refine ai_jgt (tgt := 150) hB d_MO_readTrace_140 (by decide) (fun d2 => ?_) (fun d2 => ?_)
              · exact bad c2 f2' es
              refine am_iload hB d_MO_readTrace_143 rfl ?_
              refine ai_bipush hB d_MO_readTrace_145 (by decide) ?_
              refine ai_jle (tgt := 157) hB d_MO_readTrace_147 (by decide) (fun d3 => ?_) (fun d3 => ?_)
              · omega
              · exact bad c2 f2' es
            | some T' =>
              rw [es] at hr
              have M3 : ∀ U3 : mv, U3.all_ = U2.all_ → U3.kind_ = am_up U2.kind_ L.length (ln_kd U.all_ a t (may_of T)) → U3.lineFrom_ = am_up U2.lineFrom_ L.length a → U3.lineTo_ = am_up U2.lineTo_ L.length t → U3.nameFrom_ = U2.nameFrom_ → U3.nameTo_ = U2.nameTo_ → U3.methodFrom_ = U2.methodFrom_ → U3.fileFrom_ = U2.fileFrom_ → U3.fileTo_ = U2.fileTo_ → U3.number_ = U2.number_ → U3.lines_ = L.length + 1 → ∃ x, ln_all T' T'.1.length = L ++ [x] ∧ mo_trc U3 (L ++ [x]) ∧ pt_iv T' ∧ (may_of T' = if ln_kd U.all_ a t (may_of T) = 3 then 2 else 1) ∧ ((ln_kd U.all_ a t (may_of T) = 0 ∧ T.1.length = 0 ∧ T'.1.length = 1 ∧ T'.2.length = T.2.length) ∨ (ln_kd U.all_ a t (may_of T) = 1 ∧ 1 ≤ T.1.length ∧ T.1.length ≠ 4 ∧ T'.1.length = T.1.length + 1 ∧ T'.2.length = T.2.length) ∨ (ln_kd U.all_ a t (may_of T) = 2 ∧ may_of T = 1 ∧ 1 ≤ T.1.length ∧ T.2.length ≠ 20 ∧ T'.1.length = T.1.length ∧ T'.2.length = T.2.length + 1) ∨ (ln_kd U.all_ a t (may_of T) = 3 ∧ may_of T = 1 ∧ 1 ≤ T.1.length ∧ T'.1.length = T.1.length ∧ T'.2.length = T.2.length)) := by
                intro U3 x0 x1 x2 x3 x4 x5 x6 x7 x8 x9 x10
                have qa2 : U2.all_ = U.all_ := u2.1.1.1.2.2.1.trans qa
                have ps3 : ln_ps U.all_ a t U3 L.length (ln_kd U.all_ a t (may_of T)) := by
                  unfold ln_ps at ps ⊢
                  rw [x4, x5, x6, x7, x8, x9]
                  exact ps
                obtain ⟨x, y1, y2, y3, y4, y5⟩ := ln_made (U := U) (U' := U3) iv (by omega) (by omega) (by omega) hL es (x0.trans qa2) (by rw [x1, am_up_eq]) (by rw [x2, am_up_eq]) (by rw [x3, am_up_eq]) ps3
                refine ⟨x, y1, tc.add u2 ⟨x0, fun i hi => ?_, x10⟩ y2, y3, y4, y5⟩
                rw [x1, x2, x3, x4, x5, x6, x7, x8, x9, am_up_ne _ _ hi, am_up_ne _ _ hi, am_up_ne _ _ hi]
                exact ⟨rfl, rfl, rfl, rfl, rfl, rfl, rfl, rfl, rfl⟩
              obtain ⟨-, -, -, -, -, kk⟩ := M3 (((((U2.s_kind (am_up U2.kind_ L.length (ln_kd U.all_ a t (may_of T))))).s_lineFrom (am_up U2.lineFrom_ L.length a)).s_lineTo (am_up U2.lineTo_ L.length t)).s_lines (L.length + 1)) rfl rfl rfl rfl rfl rfl rfl rfl rfl rfl rfl
              have good : 0 ≤ ln_kd U.all_ a t (may_of T) ∧ c2 = cs_of T' ∧ c2 ≤ 3 ∧ 0 ≤ c2 ∧ f2' = T'.2.length ∧ f2' ≤ 20 ∧ 0 ≤ f2' ∧ 1 ≤ T'.1.length ∧ T'.1.length ≤ 4 := by
                rcases kk with ⟨z, z1, z2, z3⟩ | ⟨z, z1, z2, z3, z4⟩ | ⟨z, z0, z1, z2, z3, z4⟩ | ⟨z, z0, z1, z2, z3⟩
                · rw [if_neg (by omega), cs_of_0 z1] at hc2
                  rw [if_neg (by omega)] at hf2
                  rw [cs_of_1 (show 1 ≤ T'.1.length by omega)]
                  omega
                · rw [if_pos z, cs_of_1 z1] at hc2
                  rw [if_neg (by omega)] at hf2
                  rw [cs_of_1 (show 1 ≤ T'.1.length by omega)]
                  omega
                · rw [if_neg (by omega), cs_of_1 z1] at hc2
                  rw [if_pos z] at hf2
                  rw [cs_of_1 (show 1 ≤ T'.1.length by omega)]
                  omega
                · rw [if_neg (by omega), cs_of_1 z1] at hc2
                  rw [if_neg (by omega)] at hf2
                  rw [cs_of_1 (show 1 ≤ T'.1.length by omega)]
                  omega
              obtain ⟨g1, g2, g3, g4, g5, g6, g7, g8, g9⟩ := good
              refine am_iload hB d_MO_readTrace_132 rfl ?_
              refine ai_zlt (tgt := 150) hB d_MO_readTrace_134 (by decide) (fun d1 => ?_) (fun d1 => ?_)
              · omega
              refine am_iload hB d_MO_readTrace_137 rfl ?_
              refine ai_const hB d_MO_readTrace_139 ?_
              refine ai_jgt (tgt := 150) hB d_MO_readTrace_140 (by decide) (fun d2 => ?_) (fun d2 => ?_)
              · omega
              refine am_iload hB d_MO_readTrace_143 rfl ?_
              refine ai_bipush hB d_MO_readTrace_145 (by decide) ?_
              refine ai_jle (tgt := 157) hB d_MO_readTrace_147 (by decide) (fun d3 => ?_) (fun d3 => ?_)
              rotate_left
              · omega
              have hl2 : U2.lines_ = L.length := u2.2.1.trans tc.1
              refine am_aload_n hB d_MO_readTrace_157 rfl rfl rfl ?_
              refine am_getf hB d_MO_readTrace_158 F_MO_67_11 M.1 rfl ?_
              refine am_aload_n hB d_MO_readTrace_161 rfl rfl rfl ?_
              refine am_getf hB d_MO_readTrace_162 F_MO_203_11 M.1 rfl ?_
              rw [hl2]
              refine am_iload hB d_MO_readTrace_165 rfl ?_
              refine mo_s_kind hB d_MO_readTrace_167 M f (fun h M f => ?_)
              refine am_aload_n hB d_MO_readTrace_168 rfl rfl rfl ?_
              refine am_getf hB d_MO_readTrace_169 F_MO_70_11 M.1 rfl ?_
              refine am_aload_n hB d_MO_readTrace_172 rfl rfl rfl ?_
              refine am_getf hB d_MO_readTrace_173 F_MO_203_11 M.1 rfl ?_
              show am_Z X 176 [.ref m, am_n n, am_n E, am_n a, am_n (may_of T), am_n c2, am_n f2', am_n t, am_n (ln_kd U.all_ a t (may_of T))] [am_n U2.lines_, .ref (m + 21)] h 0 0
              rw [hl2]
              refine am_iload_n hB d_MO_readTrace_176 rfl rfl ?_
              refine mo_s_lineFrom hB d_MO_readTrace_177 M f (fun h M f => ?_)
              refine am_aload_n hB d_MO_readTrace_178 rfl rfl rfl ?_
              refine am_getf hB d_MO_readTrace_179 F_MO_73_11 M.1 rfl ?_
              refine am_aload_n hB d_MO_readTrace_182 rfl rfl rfl ?_
              refine am_getf hB d_MO_readTrace_183 F_MO_203_11 M.1 rfl ?_
              show am_Z X 186 [.ref m, am_n n, am_n E, am_n a, am_n (may_of T), am_n c2, am_n f2', am_n t, am_n (ln_kd U.all_ a t (may_of T))] [am_n U2.lines_, .ref (m + 22)] h 0 0
              rw [hl2]
              refine am_iload hB d_MO_readTrace_186 rfl ?_
              refine mo_s_lineTo hB d_MO_readTrace_188 M f (fun h M f => ?_)
              refine am_aload_n hB d_MO_readTrace_189 rfl rfl rfl ?_
              refine am_dup hB d_MO_readTrace_190 rfl ?_
              refine am_getf hB d_MO_readTrace_191 F_MO_203_11 M.1 rfl ?_
              show am_Z X 194 [.ref m, am_n n, am_n E, am_n a, am_n (may_of T), am_n c2, am_n f2', am_n t, am_n (ln_kd U.all_ a t (may_of T))] [am_n U2.lines_, .ref m] h 0 0
              rw [hl2]
              refine ai_const hB d_MO_readTrace_194 ?_
              refine ai_add hB d_MO_readTrace_195 ?_
              refine mo_p_lines hB d_MO_readTrace_196 P_MO_203_11 M f (fun h M f => ?_)
              refine am_iload hB d_MO_readTrace_199 rfl ?_
              refine ai_const hB d_MO_readTrace_201 ?_
              have M : am_mo h m (((((U2.s_kind (am_up U2.kind_ L.length (ln_kd U.all_ a t (may_of T))))).s_lineFrom (am_up U2.lineFrom_ L.length a)).s_lineTo (am_up U2.lineTo_ L.length t)).s_lines (L.length + 1)) := M
              obtain ⟨x, y1, y2, y3, y4, -⟩ := M3 (((((U2.s_kind (am_up U2.kind_ L.length (ln_kd U.all_ a t (may_of T))))).s_lineFrom (am_up U2.lineFrom_ L.length a)).s_lineTo (am_up U2.lineTo_ L.length t)).s_lines (L.length + 1)) rfl rfl rfl rfl rfl rfl rfl rfl rfl rfl rfl
              have fin : am_Z X 210 [.ref m, am_n n, am_n E, am_n a, am_n (may_of T), am_n c2, am_n f2', am_n t, am_n (ln_kd U.all_ a t (may_of T))] [am_n (may_of T')] h 0 0 := by
                refine am_istore hB d_MO_readTrace_210 (by rw [hR.nL]; decide) rfl ?_
                refine am_iload hB d_MO_readTrace_212 rfl ?_
                refine ai_const hB d_MO_readTrace_214 ?_
                refine ai_add hB d_MO_readTrace_215 ?_
                refine am_istore_n hB d_MO_readTrace_216 rfl (by rw [hR.nL]; decide) rfl ?_
                rw [g2, g5]
                refine am_goto (tgt := 51) hB d_MO_readTrace_217 (by decide) (ih (t + 1) _ _ T' (L ++ [x]) (((((U2.s_kind (am_up U2.kind_ L.length (ln_kd U.all_ a t (may_of T))))).s_lineFrom (am_up U2.lineFrom_ L.length a)).s_lineTo (am_up U2.lineTo_ L.length t)).s_lines (L.length + 1)) h (by omega) (by omega) (by omega) hn0 y1.symm (fun z => by omega) (fun _ => ?_) g9 (by omega) ?_ y3 y2 (tq.tr u2.1) M f)
                · rw [List.length_append, List.length_singleton]
                  refine ⟨by omega, ?_⟩
                  rcases kk with ⟨z, z1, z2, z3⟩ | ⟨z, z1, z2, z3, z4⟩ | ⟨z, z0, z1, z2, z3, z4⟩ | ⟨z, z0, z1, z2, z3⟩
                  · rw [if_pos (y4.trans (if_neg (by omega)))]
                    have := hT0 z1
                    omega
                  · rw [if_pos (y4.trans (if_neg (by omega)))]
                    have := (hT1 z1).2
                    split at this <;> omega
                  · rw [if_pos (y4.trans (if_neg (by omega)))]
                    have := (hT1 z1).2
                    rw [if_pos z0] at this
                    omega
                  · rw [if_neg (fun w => by rw [y4, if_pos z] at w; omega)]
                    have := (hT1 z1).2
                    rw [if_pos z0] at this
                    omega
                · rw [hr, List.length_append, List.length_singleton]
                  rfl
              rw [y4] at fin
              by_cases k3 : ln_kd U.all_ a t (may_of T) = 3
              · rw [if_pos k3] at fin
                refine ai_jne (tgt := 209) hB d_MO_readTrace_202 (by decide) (fun d4 => ?_) (fun d4 => ?_)
                · exact absurd k3 d4
                refine ai_const hB d_MO_readTrace_205 ?_
                refine am_goto (tgt := 210) hB d_MO_readTrace_206 (by decide) ?_
                exact fin
              · rw [if_neg k3] at fin
                refine ai_jne (tgt := 209) hB d_MO_readTrace_202 (by decide) (fun d4 => ?_) (fun d4 => ?_)
                · refine ai_const hB d_MO_readTrace_209 ?_
                  exact fin
                · exact absurd d4 k3
          have csin : 0 ≤ cs_of T ∧ cs_of T ≤ 3 := by
            rcases Nat.eq_zero_or_pos T.1.length with z | z
            · rw [cs_of_0 z]; omega
            · rw [cs_of_1 z]; omega
          have j113 : ∀ c2 : Int, c2 = cs_of T + (if ln_kd U.all_ a t (may_of T) = 1 then 1 else 0) → am_Z X 113 [.ref m, am_n n, am_n E, am_n a, am_n (may_of T), am_n (cs_of T), am_n T.2.length, am_n t, am_n (ln_kd U.all_ a t (may_of T))] [am_n c2] h 0 0 := by
            intro c2 hc2
            refine am_istore hB d_MO_readTrace_113 (by rw [hR.nL]; decide) rfl ?_
            refine am_iload hB d_MO_readTrace_115 rfl ?_
            refine ai_const hB d_MO_readTrace_117 ?_
            by_cases k2 : ln_kd U.all_ a t (may_of T) = 2
            · refine ai_jne (tgt := 128) hB d_MO_readTrace_118 (by decide) (fun d5 => ?_) (fun d5 => ?_)
              · exact absurd k2 d5
              refine am_iload hB d_MO_readTrace_121 rfl ?_
              refine ai_const hB d_MO_readTrace_123 ?_
              refine ai_add hB d_MO_readTrace_124 ?_
              refine am_goto (tgt := 130) hB d_MO_readTrace_125 (by decide) ?_
              refine am_istore hB d_MO_readTrace_130 (by rw [hR.nL]; decide) rfl ?_
              exact tail c2 _ hc2 (by rw [if_pos k2])
            · refine ai_jne (tgt := 128) hB d_MO_readTrace_118 (by decide) (fun d5 => ?_) (fun d5 => ?_)
              · refine am_iload hB d_MO_readTrace_128 rfl ?_
                refine am_istore hB d_MO_readTrace_130 (by rw [hR.nL]; decide) rfl ?_
                exact tail c2 _ hc2 (by rw [if_neg k2]; omega)
              · exact absurd d5 k2
          refine am_istore hB d_MO_readTrace_96 (by rw [hR.nL]; decide) rfl ?_
          refine am_iload hB d_MO_readTrace_98 rfl ?_
          refine ai_const hB d_MO_readTrace_100 ?_
          by_cases k1 : ln_kd U.all_ a t (may_of T) = 1
          · refine ai_jne (tgt := 111) hB d_MO_readTrace_101 (by decide) (fun d6 => ?_) (fun d6 => ?_)
            · exact absurd k1 d6
            refine am_iload hB d_MO_readTrace_104 rfl ?_
            refine ai_const hB d_MO_readTrace_106 ?_
            refine ai_add hB d_MO_readTrace_107 ?_
            refine am_goto (tgt := 113) hB d_MO_readTrace_108 (by decide) ?_
            exact j113 _ (by rw [if_pos k1])
          · refine ai_jne (tgt := 111) hB d_MO_readTrace_101 (by decide) (fun d6 => ?_) (fun d6 => ?_)
            · refine am_iload hB d_MO_readTrace_111 rfl ?_
              exact j113 _ (by rw [if_neg k1]; omega)
            · exact absurd d6 k1
        have inner : ∀ (x : Nat) (i : Int), a ≤ i → i + x = E → sp_ix U.all_ 10 a (E - a).toNat = sp_ix U.all_ 10 i x → am_Z X 63 [.ref m, am_n n, am_n E, am_n a, am_n (may_of T), am_n (cs_of T), am_n T.2.length, am_n i, v8] [] h1 0 0 := by
          intro x
          induction x with
          | zero =>
            intro i i1 hx hs
            refine am_iload hB d_MO_readTrace_63 rfl ?_
            refine am_iload_n hB d_MO_readTrace_65 rfl rfl ?_
            refine ai_jge (tgt := 87) hB d_MO_readTrace_66 (by decide) (fun c1 => ?_) (fun c1 => ?_)
            · exact go i (by rw [hs]; rfl)
            · omega
          | succ x ihx =>
            intro i i1 hx hs
            have hgi := hg i
            rw [sp_ix] at hs
            refine am_iload hB d_MO_readTrace_63 rfl ?_
            refine am_iload_n hB d_MO_readTrace_65 rfl rfl ?_
            refine ai_jge (tgt := 87) hB d_MO_readTrace_66 (by decide) (fun c1 => ?_) (fun c1 => ?_)
            · omega
            refine am_aload_n hB d_MO_readTrace_69 rfl rfl rfl ?_
            refine am_getf hB d_MO_readTrace_70 F_MO_13_11 M.1 rfl ?_
            refine am_iload hB d_MO_readTrace_73 rfl ?_
            refine ai_iald hB d_MO_readTrace_75 ty_1 M.all ?_
            refine ai_bipush hB d_MO_readTrace_76 (by decide) ?_
            show am_Z X 78 [.ref m, am_n n, am_n E, am_n a, am_n (may_of T), am_n (cs_of T), am_n T.2.length, am_n i, v8] [am_n 10, am_n (U1.all_ i)] h1 0 0
            rw [qa]
            refine ai_jeq (tgt := 87) hB d_MO_readTrace_78 (by decide) (fun c2 => ?_) (fun c2 => ?_)
            · rw [if_pos c2] at hs
              exact go i hs.symm
            · rw [if_neg c2] at hs
              refine ai_inc hB d_MO_readTrace_81 rfl (by rw [hR.nL]; decide) rfl ?_
              exact am_goto (tgt := 63) hB d_MO_readTrace_84 (by decide) (ihx (i + 1) (by omega) (by omega) hs)
        refine am_iload_n hB d_MO_readTrace_51 rfl rfl ?_
        refine ai_zle (tgt := 220) hB d_MO_readTrace_52 (by decide) (fun c1 => ?_) (fun c1 => ?_)
        · omega
        refine am_iload_n hB d_MO_readTrace_55 rfl rfl ?_
        refine am_iload_n hB d_MO_readTrace_56 rfl rfl ?_
        refine ai_jgt (tgt := 220) hB d_MO_readTrace_57 (by decide) (fun c2 => ?_) (fun c2 => ?_)
        · omega
        refine am_iload_n hB d_MO_readTrace_60 rfl rfl ?_
        refine am_istore hB d_MO_readTrace_61 (by rw [hR.nL]; decide) rfl ?_
        exact inner (E - a).toNat a (Int.le_refl a) (by omega) rfl
    refine am_istore_n hB d_MO_readTrace_32 rfl (by rw [hR.nL]; decide) rfl ?_
    refine ai_sipush hB d_MO_readTrace_33 (by decide) ?_
    refine am_istore_n hB d_MO_readTrace_36 rfl (by rw [hR.nL]; decide) rfl ?_
    refine ai_const hB d_MO_readTrace_37 ?_
    refine am_istore hB d_MO_readTrace_38 (by rw [hR.nL]; decide) rfl ?_
    refine ai_const hB d_MO_readTrace_40 ?_
    refine am_istore hB d_MO_readTrace_41 (by rw [hR.nL]; decide) rfl ?_
    refine ai_const hB d_MO_readTrace_43 ?_
    refine am_istore hB d_MO_readTrace_44 (by rw [hR.nL]; decide) rfl ?_
    refine am_aload_n hB d_MO_readTrace_46 rfl rfl rfl ?_
    refine ai_const hB d_MO_readTrace_47 ?_
    refine mo_p_lines hB d_MO_readTrace_48 P_MO_203_11 M f (fun h M f => ?_)
    by_cases hn0 : n = 0
    · refine am_iload_n hB d_MO_readTrace_51 rfl rfl ?_
      refine ai_zle (tgt := 220) hB d_MO_readTrace_52 (by decide) (fun c1 => ?_) (fun c1 => ?_)
      rotate_left
      · omega
      refine am_aload_n hB d_MO_readTrace_220 rfl rfl rfl ?_
      refine am_getf hB d_MO_readTrace_221 F_MO_203_11 M.1 rfl ?_
      show am_Z X 224 [.ref m, am_n n, am_n E, am_n 600, am_n 0, am_n 0, am_n 0, am_u, am_u] [am_n 0] h 0 0
      refine ai_zne (tgt := 231) hB d_MO_readTrace_224 (by decide) (fun c2 => ?_) (fun c2 => ?_)
      · omega
      refine ai_const hB d_MO_readTrace_227 ?_
      refine am_goto (tgt := 232) hB d_MO_readTrace_228 (by decide) ?_
      refine am_iret hB hR d_MO_readTrace_232 rfl rfl ?_ (Nat.zero_le _) (Nat.zero_le _)
      refine ⟨_, M, mo_tq.rf U, f, ?_⟩
      rw [if_pos hn0]
    · exact loop (E - 600 + 1).toNat 600 am_u am_u ([], []) [] (U.s_lines 0) h (by omega) (by omega) (by omega) (by omega) rfl (fun _ => ⟨rfl, rfl, rfl⟩) (fun z => by simp at z) (by decide) (by decide) rfl pt_iv_0 ⟨rfl, fun k x hx => by simp at hx⟩ (mo_tq.rf U) M f
  refine am_iload_n hB d_MO_readTrace_0 rfl rfl ?_
  refine ai_zle (tgt := 27) hB d_MO_readTrace_1 (by decide) (fun c1 => ?_) (fun c1 => ?_)
  · refine ai_sipush hB d_MO_readTrace_27 (by decide) ?_
    refine am_iload_n hB d_MO_readTrace_30 rfl rfl ?_
    refine ai_add hB d_MO_readTrace_31 ?_
    exact body _ (by unfold tr_end; rw [if_neg (by omega)])
  refine am_aload_n hB d_MO_readTrace_4 rfl rfl rfl ?_
  refine am_getf hB d_MO_readTrace_5 F_MO_13_11 M.1 rfl ?_
  refine ai_sipush hB d_MO_readTrace_8 (by decide) ?_
  refine am_iload_n hB d_MO_readTrace_11 rfl rfl ?_
  refine ai_add hB d_MO_readTrace_12 ?_
  refine ai_iald hB d_MO_readTrace_13 ty_1 M.all ?_
  refine ai_bipush hB d_MO_readTrace_14 (by decide) ?_
  refine ai_jne (tgt := 27) hB d_MO_readTrace_16 (by decide) (fun c2 => ?_) (fun c2 => ?_)
  · refine ai_sipush hB d_MO_readTrace_27 (by decide) ?_
    refine am_iload_n hB d_MO_readTrace_30 rfl rfl ?_
    refine ai_add hB d_MO_readTrace_31 ?_
    exact body _ (by unfold tr_end; rw [if_neg (fun z => c2 z.2)])
  · refine ai_sipush hB d_MO_readTrace_19 (by decide) ?_
    refine am_iload_n hB d_MO_readTrace_22 rfl rfl ?_
    refine ai_add hB d_MO_readTrace_23 ?_
    refine am_goto (tgt := 32) hB d_MO_readTrace_24 (by decide) ?_
    exact body _ (by unfold tr_end; rw [if_pos ⟨by omega, c2⟩])
