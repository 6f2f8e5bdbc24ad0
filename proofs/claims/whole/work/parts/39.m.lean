/-! groups that fit; a frame alone is shortened -/
def sf_off : List pm_L → List pt_F → Int → Int
  | [], _, o => if o = -1 then 0 else o
  | _ :: _, [], _ => -1
  | x :: xs, f :: fs, o => if f.2.2 < x.2.1.2.2.1 ∨ x.2.1.2.2.2 < f.2.2 ∨ ¬ (x.1.1 = f.1.1 ∧ x.1.2.1 = f.1.2.1) then -1 else if x.2.1.2.2.1 = x.2.1.2.2.2 then sf_off xs fs o else if o ≠ -1 ∧ o ≠ f.2.2 - x.2.1.2.2.1 then -1 else sf_off xs fs (f.2.2 - x.2.1.2.2.1)
theorem sf_off_len : ∀ (xs : List pm_L) (fs : List pt_F) (o : Int), fs.length < xs.length → sf_off xs fs o = -1
  | [], fs, o, h => by simp at h
  | x :: xs, [], o, _ => rfl
  | x :: xs, f :: fs, o, h => by
    have h' : fs.length < xs.length := by simp only [List.length_cons] at h; omega
    unfold sf_off
    rw [sf_off_len xs fs _ h', sf_off_len xs fs _ h']
    simp
/-- an offset lies within the range -/
theorem sf_off_in {fi la : Int} (h : fi ≤ la) : ∀ (xs : List pm_L) (fs : List pt_F) (o : Int), (∀ x ∈ xs, x.2.1.1 = fi ∧ x.2.1.2.1 = la ∧ pm_lok x ∧ fi ≠ -1) → (o = -1 ∨ (0 ≤ o ∧ o ≤ la - fi)) → sf_off xs fs o = -1 ∨ (0 ≤ sf_off xs fs o ∧ sf_off xs fs o ≤ la - fi)
  | [], fs, o, _, ho => by
    unfold sf_off
    split <;> omega
  | x :: xs, [], o, _, _ => Or.inl rfl
  | x :: xs, f :: fs, o, hx, ho => by
    have hxs : ∀ y ∈ xs, y.2.1.1 = fi ∧ y.2.1.2.1 = la ∧ pm_lok y ∧ fi ≠ -1 := fun y hy => hx y (List.mem_cons_of_mem _ hy)
    obtain ⟨x1, x2, x3, x4⟩ := hx x (List.mem_cons_self)
    unfold sf_off
    split
    · exact Or.inl rfl
    · split
      · exact sf_off_in h xs fs o hxs ho
      · split
        · exact Or.inl rfl
        · refine sf_off_in h xs fs _ hxs (Or.inr ?_)
          unfold pm_lok at x3
          omega
def sf_fit (S : pm_S) (F : List pt_F) (i : Nat) : Int := if (pm_ln S i).2.1.1 = -1 then -1 else sf_off (pf_grp S i) F (-1)
theorem pf_grp_len {S : pm_S} {a : Nat} (h : a < S.2.length) : (pf_grp S a).length = pf_end S a - a := by
  have := pf_end_le h
  unfold pf_grp
  rw [List.length_take, List.length_drop]
  omega
theorem pf_grp_get {S : pm_S} {a i : Nat} (h : i < pf_end S a - a) : (pf_grp S a)[i]? = S.2[a + i]? := by
  unfold pf_grp
  rw [List.getElem?_take, if_pos h, List.getElem?_drop]
theorem drop_cons {α : Type} {L : List α} {i : Nat} {x : α} (h : L[i]? = some x) : L.drop i = x :: L.drop (i + 1) := by
  have il := pm_lt h
  rw [List.drop_eq_getElem_cons il]
  congr 1
  rw [List.getElem?_eq_getElem il] at h
  exact Option.some.inj h
theorem m_RW_offsetOfFit {l : Launch} {G : am_G} {h : am_H} {k bT c bM kp cp a st en : Nat} {T : pt_S} {S : pm_S} {out : List Int} {fc dc : Int} {x : pm_L} (w : rw_W h k bT c bM kp cp T S out fc dc) (ok : pm_ok S) (hx : S.2[a]? = some x) (hl : x.2.2.2 = true) (hst : st ≤ en) (hen : en ≤ T.2.length) : am_M l G M_RW_offsetOfFit [.ref k, am_n a, am_n st, am_n en] h (am_is (am_n (sf_fit S ((T.2.drop st).take (en - st)) a)) h) := by
  obtain ⟨a32, gs, r, -, -, -, b1, b2, b3, b4, -, -, hgs⟩ := w.2.2.1.line hx
  obtain ⟨e1, e2, e3⟩ := hgs hl
  obtain ⟨s, mc1, mc2, mc3, mc4, mc5⟩ := w.mc
  obtain ⟨t, tc1, tc2, tc3, tc4, tc5, tc6⟩ := w.tc
  have al := pm_lt hx
  have flen : ((T.2.drop st).take (en - st)).length = en - st := by
    rw [List.length_take, List.length_drop]
    omega
  have glen := pf_grp_len al
  refine am_M.of (by decide) (Nat.le_of_ble_eq_true rfl) (fun X hB hR => ?_)
  show am_Z X 0 [.ref k, am_n a, am_n st, am_n en, am_u, am_u, am_u, am_u, am_u, am_u] [] h 0 0
  have hfit : sf_fit S ((T.2.drop st).take (en - st)) a = if x.2.1.1 = -1 then -1 else sf_off (pf_grp S a) ((T.2.drop st).take (en - st)) (-1) := by
    unfold sf_fit
    rw [pm_ln_eq hx]
  have no : sf_fit S ((T.2.drop st).take (en - st)) a = -1 → am_Z X 30 [.ref k, am_n a, am_n st, am_n en, .ref (bM + 29 + 4 * a), am_u, am_u, am_u, am_u, am_u] [] h 0 0 := by
    intro hz
    refine ai_const hB d_RW_offsetOfFit_30 ?_
    refine am_iret hB hR d_RW_offsetOfFit_31 rfl (by decide) ?_ (Nat.zero_le _) (Nat.zero_le _)
    rw [hz]
    exact ⟨rfl, rfl⟩
  refine am_aload_n hB d_RW_offsetOfFit_0 rfl rfl rfl ?_
  refine am_getf hB d_RW_offsetOfFit_1 F_RW_15_6 w.1 rfl ?_
  refine am_getf hB d_RW_offsetOfFit_4 F_RW_117_4 mc1 rfl ?_
  refine am_iload_n hB d_RW_offsetOfFit_7 rfl rfl ?_
  refine ai_aald hB d_RW_offsetOfFit_8 ty_4 mc2 (z := bM + 29 + 4 * a) (if_pos (by omega)) ?_
  refine am_astore hB d_RW_offsetOfFit_9 (by rw [hR.nL]; decide) rfl rfl ?_
  refine am_aload hB d_RW_offsetOfFit_11 rfl rfl ?_
  refine am_callV hB hR (as := []) r (m_ML_hasRange r ⟨by omega, by omega⟩) c_RW_179 rfl rfl d_RW_offsetOfFit_13 ⟨by decide, Nat.le_of_ble_eq_true rfl⟩ ⟨by decide, by decide⟩ rfl rfl (fun rr hh hp => ?_)
  obtain ⟨rfl, rfl⟩ := hp
  by_cases q1 : x.2.1.1 ≠ -1
  · rw [decide_eq_true q1]
    rw [if_neg q1] at hfit
    show am_Z X 16 [.ref k, am_n a, am_n st, am_n en, .ref (bM + 29 + 4 * a), am_u, am_u, am_u, am_u, am_u] [am_n 1] h 0 0
    refine ai_zeq (tgt := 30) hB d_RW_offsetOfFit_16 (by decide) (fun c1 => ?_) (fun c1 => ?_)
    · omega
    refine am_aload hB d_RW_offsetOfFit_19 rfl rfl ?_
    refine am_getf hB d_RW_offsetOfFit_21 F_RW_121_5 r rfl ?_
    rw [e1]
    refine am_iload_n hB d_RW_offsetOfFit_24 rfl rfl ?_
    refine am_iload_n hB d_RW_offsetOfFit_25 rfl rfl ?_
    refine ai_sub hB d_RW_offsetOfFit_26 ?_
    refine ai_jle (tgt := 32) hB d_RW_offsetOfFit_27 (by decide) (fun c2 => ?_) (fun c2 => ?_)
    · have loop : ∀ (d i : Nat) (o : Int) (v7 v8 v9 : Value), i + d = pf_end S a - a → (o = -1 ∨ (0 ≤ o ∧ o ≤ 10001)) → sf_fit S ((T.2.drop st).take (en - st)) a = sf_off ((pf_grp S a).drop i) (((T.2.drop st).take (en - st)).drop i) o → am_Z X 38 [.ref k, am_n a, am_n st, am_n en, .ref (bM + 29 + 4 * a), am_n o, am_n i, v7, v8, v9] [] h 0 0 := by
        intro d
        induction d with
        | zero =>
          intro i o v7 v8 v9 hi ho hs
          have g0 : (pf_grp S a).drop i = [] := List.drop_eq_nil_of_le (by omega)
          rw [g0, sf_off] at hs
          refine am_iload hB d_RW_offsetOfFit_38 rfl ?_
          refine am_aload hB d_RW_offsetOfFit_40 rfl rfl ?_
          refine am_getf hB d_RW_offsetOfFit_42 F_RW_121_5 r rfl ?_
          rw [e1]
          refine ai_jge (tgt := 168) hB d_RW_offsetOfFit_45 (by decide) (fun c3 => ?_) (fun c3 => ?_)
          · refine am_iload hB d_RW_offsetOfFit_168 rfl ?_
            refine ai_const hB d_RW_offsetOfFit_170 ?_
            refine ai_jne (tgt := 178) hB d_RW_offsetOfFit_171 (by decide) (fun c4 => ?_) (fun c4 => ?_)
            · refine am_iload hB d_RW_offsetOfFit_178 rfl ?_
              refine am_iret hB hR d_RW_offsetOfFit_180 rfl rfl ?_ (Nat.zero_le _) (Nat.zero_le _)
              rw [hs, if_neg c4]
              exact ⟨rfl, rfl⟩
            · refine ai_const hB d_RW_offsetOfFit_174 ?_
              refine am_goto (tgt := 180) hB d_RW_offsetOfFit_175 (by decide) ?_
              refine am_iret hB hR d_RW_offsetOfFit_180 rfl (by decide) ?_ (Nat.zero_le _) (Nat.zero_le _)
              rw [hs, if_pos (by omega)]
              exact ⟨rfl, rfl⟩
          · omega
        | succ d ih =>
          intro i o v7 v8 v9 hi ho hs
          have hy : S.2[a + i]? = some (S.2[a + i]'(by omega)) := List.getElem?_eq_getElem (by omega)
          generalize (S.2[a + i]'(by omega)) = y at hy
          have hf : T.2[st + i]? = some (T.2[st + i]'(by omega)) := List.getElem?_eq_getElem (by omega)
          generalize (T.2[st + i]'(by omega)) = f at hf
          obtain ⟨i32, gs', r', sO, sM, -, y1, y2, y3, y4, -⟩ := w.2.2.1.line hy
          obtain ⟨j20, fo, fm, fp, fb, hfs⟩ := w.fs hf
          obtain ⟨rf, tO, tM, tP⟩ := hfs h am_fr.rf
          have g1 : (pf_grp S a).drop i = y :: (pf_grp S a).drop (i + 1) := drop_cons (by rw [pf_grp_get (by omega), hy])
          have g2 : ((T.2.drop st).take (en - st)).drop i = f :: ((T.2.drop st).take (en - st)).drop (i + 1) := drop_cons (by rw [List.getElem?_take, if_pos (by omega), List.getElem?_drop, hf])
          rw [g1, g2, sf_off] at hs
          have bad : sf_fit S ((T.2.drop st).take (en - st)) a = -1 → am_Z X 120 [.ref k, am_n a, am_n st, am_n en, .ref (bM + 29 + 4 * a), am_n o, am_n i, .ref (bM + 29 + 4 * (a + i)), .ref (bT + 16 + 4 * (st + i)), v9] [] h 0 0 := by
            intro hz
            refine ai_const hB d_RW_offsetOfFit_120 ?_
            refine am_iret hB hR d_RW_offsetOfFit_121 rfl (by decide) ?_ (Nat.zero_le _) (Nat.zero_le _)
            rw [hz]
            exact ⟨rfl, rfl⟩
          refine am_iload hB d_RW_offsetOfFit_38 rfl ?_
          refine am_aload hB d_RW_offsetOfFit_40 rfl rfl ?_
          refine am_getf hB d_RW_offsetOfFit_42 F_RW_121_5 r rfl ?_
          rw [e1]
          refine ai_jge (tgt := 168) hB d_RW_offsetOfFit_45 (by decide) (fun c3 => ?_) (fun c3 => ?_)
          · omega
          refine am_aload_n hB d_RW_offsetOfFit_48 rfl rfl rfl ?_
          refine am_getf hB d_RW_offsetOfFit_49 F_RW_15_6 w.1 rfl ?_
          refine am_getf hB d_RW_offsetOfFit_52 F_RW_117_4 mc1 rfl ?_
          refine am_iload_n hB d_RW_offsetOfFit_55 rfl rfl ?_
          refine am_iload hB d_RW_offsetOfFit_56 rfl ?_
          refine ai_add hB d_RW_offsetOfFit_58 ?_
          refine ai_aald hB d_RW_offsetOfFit_59 ty_4 mc2 (z := bM + 29 + 4 * (a + i)) (if_pos (by omega)) ?_
          refine am_astore hB d_RW_offsetOfFit_60 (by rw [hR.nL]; decide) rfl rfl ?_
          refine am_aload_n hB d_RW_offsetOfFit_62 rfl rfl rfl ?_
          refine am_getf hB d_RW_offsetOfFit_63 F_RW_9_6 w.1 rfl ?_
          refine am_getf hB d_RW_offsetOfFit_66 F_RW_60_9 tc1 rfl ?_
          refine am_iload_n hB d_RW_offsetOfFit_69 rfl rfl ?_
          refine am_iload hB d_RW_offsetOfFit_70 rfl ?_
          refine ai_add hB d_RW_offsetOfFit_72 ?_
          refine ai_aald hB d_RW_offsetOfFit_73 ty_6 tc3 (z := bT + 16 + 4 * (st + i)) (if_pos (by omega)) ?_
          refine am_astore hB d_RW_offsetOfFit_74 (by rw [hR.nL]; decide) rfl rfl ?_
          refine am_aload hB d_RW_offsetOfFit_76 rfl rfl ?_
          refine am_getf hB d_RW_offsetOfFit_78 F_RW_83_2 rf rfl ?_
          refine am_aload hB d_RW_offsetOfFit_81 rfl rfl ?_
          refine am_getf hB d_RW_offsetOfFit_83 F_RW_141_5 r' rfl ?_
          refine ai_jlt (tgt := 120) hB d_RW_offsetOfFit_86 (by decide) (fun c4 => ?_) (fun c4 => ?_)
          · exact bad (by rw [hs, if_pos (Or.inl c4)])
          refine am_aload hB d_RW_offsetOfFit_89 rfl rfl ?_
          refine am_getf hB d_RW_offsetOfFit_91 F_RW_83_2 rf rfl ?_
          refine am_aload hB d_RW_offsetOfFit_94 rfl rfl ?_
          refine am_getf hB d_RW_offsetOfFit_96 F_RW_182_5 r' rfl ?_
          refine ai_jgt (tgt := 120) hB d_RW_offsetOfFit_99 (by decide) (fun c5 => ?_) (fun c5 => ?_)
          · exact bad (by rw [hs, if_pos (Or.inr (Or.inl c5))])
          refine am_aload hB d_RW_offsetOfFit_102 rfl rfl ?_
          refine am_aload hB d_RW_offsetOfFit_104 rfl rfl ?_
          refine am_getf hB d_RW_offsetOfFit_106 F_RW_72_2 rf rfl ?_
          refine am_aload hB d_RW_offsetOfFit_109 rfl rfl ?_
          refine am_getf hB d_RW_offsetOfFit_111 F_RW_80_2 rf rfl ?_
          refine am_callV hB hR (as := [.ref fo, .ref fm]) r' (mn_isRealCall r' sO sM tO tM) c_RW_185 rfl rfl d_RW_offsetOfFit_114 ⟨by decide, Nat.le_of_ble_eq_true rfl⟩ ⟨by decide, by decide⟩ rfl rfl (fun rr hh hp => ?_)
          obtain ⟨rfl, rfl⟩ := hp
          by_cases hcall : y.1.1 = f.1.1 ∧ y.1.2.1 = f.1.2.1
          · rw [decide_eq_true hcall.1, decide_eq_true hcall.2]
            rw [if_neg (by rintro (z | z | z); omega; omega; exact z hcall)] at hs
            show am_Z X 117 [.ref k, am_n a, am_n st, am_n en, .ref (bM + 29 + 4 * a), am_n o, am_n i, .ref (bM + 29 + 4 * (a + i)), .ref (bT + 16 + 4 * (st + i)), v9] [am_n 1] h 0 0
            refine ai_zne (tgt := 122) hB d_RW_offsetOfFit_117 (by decide) (fun c6 => ?_) (fun c6 => ?_)
            · refine am_aload hB d_RW_offsetOfFit_122 rfl rfl ?_
              refine am_callV hB hR (as := []) r' (m_ML_hasOne r' ⟨by omega, by omega⟩ ⟨by omega, by omega⟩) c_RW_124 rfl rfl d_RW_offsetOfFit_124 ⟨by decide, Nat.le_of_ble_eq_true rfl⟩ ⟨by decide, by decide⟩ rfl rfl (fun rr hh hp => ?_)
              obtain ⟨rfl, rfl⟩ := hp
              by_cases hone : y.2.1.2.2.1 = y.2.1.2.2.2
              · rw [decide_eq_true hone]
                rw [if_pos hone] at hs
                show am_Z X 127 [.ref k, am_n a, am_n st, am_n en, .ref (bM + 29 + 4 * a), am_n o, am_n i, .ref (bM + 29 + 4 * (a + i)), .ref (bT + 16 + 4 * (st + i)), v9] [am_n 1] h 0 0
                refine ai_zne (tgt := 162) hB d_RW_offsetOfFit_127 (by decide) (fun c7 => ?_) (fun c7 => ?_)
                · refine ai_inc hB d_RW_offsetOfFit_162 rfl (by rw [hR.nL]; decide) rfl ?_
                  exact am_goto (tgt := 38) hB d_RW_offsetOfFit_165 (by decide) (ih (i + 1) o _ _ _ (by omega) ho hs)
                · omega
              · rw [decide_eq_false hone]
                rw [if_neg hone] at hs
                show am_Z X 127 [.ref k, am_n a, am_n st, am_n en, .ref (bM + 29 + 4 * a), am_n o, am_n i, .ref (bM + 29 + 4 * (a + i)), .ref (bT + 16 + 4 * (st + i)), v9] [am_n 0] h 0 0
                refine ai_zne (tgt := 162) hB d_RW_offsetOfFit_127 (by decide) (fun c7 => ?_) (fun c7 => ?_)
                · omega
                refine am_aload hB d_RW_offsetOfFit_130 rfl rfl ?_
                refine am_getf hB d_RW_offsetOfFit_132 F_RW_83_2 rf rfl ?_
                refine am_aload hB d_RW_offsetOfFit_135 rfl rfl ?_
                refine am_getf hB d_RW_offsetOfFit_137 F_RW_141_5 r' rfl ?_
                refine ai_sub hB d_RW_offsetOfFit_140 ?_
                refine am_istore hB d_RW_offsetOfFit_141 (by rw [hR.nL]; decide) rfl ?_
                refine am_iload hB d_RW_offsetOfFit_143 rfl ?_
                refine ai_const hB d_RW_offsetOfFit_145 ?_
                have good : ¬ (o ≠ -1 ∧ o ≠ f.2.2 - y.2.1.2.2.1) → am_Z X 158 [.ref k, am_n a, am_n st, am_n en, .ref (bM + 29 + 4 * a), am_n o, am_n i, .ref (bM + 29 + 4 * (a + i)), .ref (bT + 16 + 4 * (st + i)), am_n (f.2.2 - y.2.1.2.2.1)] [] h 0 0 := by
                  intro hz
                  rw [if_neg hz] at hs
                  refine am_iload hB d_RW_offsetOfFit_158 rfl ?_
                  refine am_istore hB d_RW_offsetOfFit_160 (by rw [hR.nL]; decide) rfl ?_
                  refine ai_inc hB d_RW_offsetOfFit_162 rfl (by rw [hR.nL]; decide) rfl ?_
                  exact am_goto (tgt := 38) hB d_RW_offsetOfFit_165 (by decide) (ih (i + 1) (f.2.2 - y.2.1.2.2.1) _ _ _ (by omega) (Or.inr ⟨by omega, by omega⟩) hs)
                refine ai_jeq (tgt := 158) hB d_RW_offsetOfFit_146 (by decide) (fun c8 => ?_) (fun c8 => ?_)
                · exact good (fun z => z.1 c8)
                refine am_iload hB d_RW_offsetOfFit_149 rfl ?_
                refine am_iload hB d_RW_offsetOfFit_151 rfl ?_
                refine ai_jeq (tgt := 158) hB d_RW_offsetOfFit_153 (by decide) (fun c9 => ?_) (fun c9 => ?_)
                · exact good (fun z => z.2 c9)
                refine ai_const hB d_RW_offsetOfFit_156 ?_
                refine am_iret hB hR d_RW_offsetOfFit_157 rfl (by decide) ?_ (Nat.zero_le _) (Nat.zero_le _)
                rw [hs, if_pos ⟨c8, c9⟩]
                exact ⟨rfl, rfl⟩
            · omega
          · have hdec : (decide (y.1.1 = f.1.1) && decide (y.1.2.1 = f.1.2.1)) = false := by
              rw [← Bool.decide_and]
              exact decide_eq_false hcall
            rw [hdec]
            show am_Z X 117 [.ref k, am_n a, am_n st, am_n en, .ref (bM + 29 + 4 * a), am_n o, am_n i, .ref (bM + 29 + 4 * (a + i)), .ref (bT + 16 + 4 * (st + i)), v9] [am_n 0] h 0 0
            refine ai_zne (tgt := 122) hB d_RW_offsetOfFit_117 (by decide) (fun c6 => ?_) (fun c6 => ?_)
            · omega
            · exact bad (by rw [hs, if_pos (Or.inr (Or.inr hcall))])
      refine ai_const hB d_RW_offsetOfFit_32 ?_
      refine am_istore hB d_RW_offsetOfFit_33 (by rw [hR.nL]; decide) rfl ?_
      refine ai_const hB d_RW_offsetOfFit_35 ?_
      refine am_istore hB d_RW_offsetOfFit_36 (by rw [hR.nL]; decide) rfl ?_
      exact loop (pf_end S a - a) 0 (-1) _ _ _ (by omega) (Or.inl rfl) hfit
    · refine no ?_
      rw [hfit]
      exact sf_off_len _ _ _ (by omega)
  · rw [decide_eq_false q1]
    show am_Z X 16 [.ref k, am_n a, am_n st, am_n en, .ref (bM + 29 + 4 * a), am_u, am_u, am_u, am_u, am_u] [am_n 0] h 0 0
    refine ai_zeq (tgt := 30) hB d_RW_offsetOfFit_16 (by decide) (fun c1 => ?_) (fun c1 => ?_)
    · refine no ?_
      rw [hfit, if_pos (by omega)]
    · omega
def s_alone (S : pm_S) (f : pt_F) : List Int := match pf_bare S f.1.1 f.1.2.1 with
  | some i => w_short (pm_cl S (pm_ln S i).2.2.1).2 (pm_ln S i).1.2.2 f
  | none => match pc_real S f.1.1 with
    | none => w_same f
    | some p => w_short (pm_cl S p).2 f.1.2.1 f
theorem pf_bare_get {S : pm_S} {n1 n2 : List Int} {i : Nat} (h : pf_bare S n1 n2 = some i) : ∃ x, S.2[i]? = some x := by
  have := sp_fd_lt _ _ h
  exact ⟨_, List.getElem?_eq_getElem (by omega)⟩
theorem m_RW_shortenAlone {l : Launch} {G : am_G} {h : am_H} {k bT c bM kp cp z : Nat} {T : pt_S} {S : pm_S} {out : List Int} {fc dc : Int} {f : pt_F} (w : rw_W h k bT c bM kp cp T S out fc dc) (hf : am_fs [k, kp, cp] h z f) (hfc : fc < 9900) : am_M l G M_RW_shortenAlone [.ref k, .ref z] h (rw_P h k bT c bM kp cp T S (out ++ s_alone S f) (fc + 1) dc) := by
  have hf0 := hf
  obtain ⟨o, m, p, hb, hf⟩ := hf
  obtain ⟨r0, sO, sM, sP⟩ := hf h am_fr.rf
  obtain ⟨s, mc1, mc2, mc3, mc4, mc5⟩ := w.mc
  refine am_M.of (by decide) (Nat.le_of_ble_eq_true rfl) (fun X hB hR => ?_)
  show am_Z X 0 [.ref k, .ref z, am_u, am_u] [] h 0 0
  refine am_aload_n hB d_RW_shortenAlone_0 rfl rfl rfl ?_
  refine am_getf hB d_RW_shortenAlone_1 F_RW_15_6 w.1 rfl ?_
  refine am_aload_n hB d_RW_shortenAlone_4 rfl rfl rfl ?_
  refine am_getf hB d_RW_shortenAlone_5 F_RW_72_2 r0 rfl ?_
  refine am_aload_n hB d_RW_shortenAlone_8 rfl rfl rfl ?_
  refine am_getf hB d_RW_shortenAlone_9 F_RW_80_2 r0 rfl ?_
  refine am_callV hB hR (as := [.ref o, .ref m]) mc1 (mn_groupWithoutRange w.2.2.1 sO sM) c_RW_189 rfl rfl d_RW_shortenAlone_12 ⟨by decide, Nat.le_of_ble_eq_true rfl⟩ ⟨by decide, by decide⟩ rfl rfl (fun rr hh hp => ?_)
  obtain ⟨rfl, rfl⟩ := hp
  show am_Z X 15 [.ref k, .ref z, am_u, am_u] [am_n (sp_oi (pf_bare S f.1.1 f.1.2.1))] h 0 0
  cases hba : pf_bare S f.1.1 f.1.2.1 with
  | some i =>
    obtain ⟨x, hx⟩ := pf_bare_get hba
    obtain ⟨i32, gs, r, -, -, -, -, -, -, -, hc, -⟩ := w.2.2.1.line hx
    obtain ⟨-, -, sS⟩ := w.ls hx
    have hcc : S.1[x.2.2.1]? = some (S.1[x.2.2.1]'hc) := List.getElem?_eq_getElem hc
    show am_Z X 15 [.ref k, .ref z, am_u, am_u] [am_n (i : Nat)] h 0 0
    refine am_istore_n hB d_RW_shortenAlone_15 rfl (by rw [hR.nL]; decide) rfl ?_
    refine am_iload_n hB d_RW_shortenAlone_16 rfl rfl ?_
    refine ai_const hB d_RW_shortenAlone_17 ?_
    refine ai_jeq (tgt := 49) hB d_RW_shortenAlone_18 (by decide) (fun c1 => ?_) (fun c1 => ?_)
    · omega
    refine am_aload_n hB d_RW_shortenAlone_21 rfl rfl rfl ?_
    refine am_getf hB d_RW_shortenAlone_22 F_RW_15_6 w.1 rfl ?_
    refine am_getf hB d_RW_shortenAlone_25 F_RW_117_4 mc1 rfl ?_
    refine am_iload_n hB d_RW_shortenAlone_28 rfl rfl ?_
    refine ai_aald hB d_RW_shortenAlone_29 ty_4 mc2 (z := bM + 29 + 4 * i) (if_pos (by omega)) ?_
    refine am_astore_n hB d_RW_shortenAlone_30 rfl (by rw [hR.nL]; decide) rfl rfl ?_
    refine am_aload_n hB d_RW_shortenAlone_31 rfl rfl rfl ?_
    refine am_aload_n hB d_RW_shortenAlone_32 rfl rfl rfl ?_
    refine am_getf hB d_RW_shortenAlone_33 F_RW_15_6 w.1 rfl ?_
    refine am_aload_n hB d_RW_shortenAlone_36 rfl rfl rfl ?_
    refine am_callV hB hR (as := [.ref (bM + 29 + 4 * i)]) mc1 (mn_shortClassOf w.2.2.1 hx) c_RW_168 rfl rfl d_RW_shortenAlone_37 ⟨by decide, Nat.le_of_ble_eq_true rfl⟩ ⟨by decide, by decide⟩ rfl rfl (fun rr hh hp => ?_)
    obtain ⟨rfl, rfl⟩ := hp
    show am_Z X 40 [.ref k, .ref z, am_n (i : Nat), .ref (bM + 29 + 4 * i)] [.ref (bM + 6 + 3 * x.2.2.1), .ref k] h 0 0
    refine am_aload_n hB d_RW_shortenAlone_40 rfl rfl rfl ?_
    refine am_getf hB d_RW_shortenAlone_41 F_RW_172_5 r rfl ?_
    refine am_aload_n hB d_RW_shortenAlone_44 rfl rfl rfl ?_
    refine am_callV hB hR (as := [.ref (bM + 6 + 3 * x.2.2.1), .ref (bM + 32 + 4 * i), .ref z]) w.1 (m_RW_writeShort w (w.cs hcc).2 sS hf0 (by omega)) c_RW_193 rfl rfl d_RW_shortenAlone_45 ⟨by decide, Nat.le_of_ble_eq_true rfl⟩ ⟨by decide, by decide⟩ rfl rfl (fun rr hh hp => ?_)
    obtain ⟨rfl, w1, f1⟩ := hp
    show am_Z X 48 [.ref k, .ref z, am_n (i : Nat), .ref (bM + 29 + 4 * i)] [] hh 0 0
    refine am_vret hB hR d_RW_shortenAlone_48 rfl ?_ (Nat.zero_le _) (Nat.zero_le _)
    refine ⟨rfl, ?_, f1⟩
    have e1 : s_alone S f = w_short (S.1[x.2.2.1]'hc).2 x.1.2.2 f := by unfold s_alone; simp only [hba, pm_ln_eq hx, pm_cl_eq hcc]
    rw [e1]
    exact w1
  | none =>
    show am_Z X 15 [.ref k, .ref z, am_u, am_u] [am_n (-1)] h 0 0
    refine am_istore_n hB d_RW_shortenAlone_15 rfl (by rw [hR.nL]; decide) rfl ?_
    refine am_iload_n hB d_RW_shortenAlone_16 rfl rfl ?_
    refine ai_const hB d_RW_shortenAlone_17 ?_
    refine ai_jeq (tgt := 49) hB d_RW_shortenAlone_18 (by decide) (fun c1 => ?_) (fun c1 => ?_)
    · refine am_aload_n hB d_RW_shortenAlone_49 rfl rfl rfl ?_
      refine am_getf hB d_RW_shortenAlone_50 F_RW_15_6 w.1 rfl ?_
      refine am_aload_n hB d_RW_shortenAlone_53 rfl rfl rfl ?_
      refine am_getf hB d_RW_shortenAlone_54 F_RW_72_2 r0 rfl ?_
      refine am_callV hB hR (as := [.ref o]) mc1 (mn_lineOfReal w.2.2.1 sO) c_RW_148 rfl rfl d_RW_shortenAlone_57 ⟨by decide, Nat.le_of_ble_eq_true rfl⟩ ⟨by decide, by decide⟩ rfl rfl (fun rr hh hp => ?_)
      obtain ⟨rfl, rfl⟩ := hp
      show am_Z X 60 [.ref k, .ref z, am_n (-1), am_u] [mp_rv bM (pc_real S f.1.1)] h 0 0
      cases hpc : pc_real S f.1.1 with
      | none =>
        show am_Z X 60 [.ref k, .ref z, am_n (-1), am_u] [.null] h 0 0
        refine am_astore_n hB d_RW_shortenAlone_60 rfl (by rw [hR.nL]; decide) rfl rfl ?_
        refine am_aload_n hB d_RW_shortenAlone_61 rfl rfl rfl ?_
        refine am_ifnonnullN hB d_RW_shortenAlone_62 ?_
        refine am_aload_n hB d_RW_shortenAlone_65 rfl rfl rfl ?_
        refine am_aload_n hB d_RW_shortenAlone_66 rfl rfl rfl ?_
        refine am_callV hB hR (as := [.ref z]) w.1 (m_RW_writeUnchanged w hf0 (by omega)) c_RW_77 rfl rfl d_RW_shortenAlone_67 ⟨by decide, Nat.le_of_ble_eq_true rfl⟩ ⟨by decide, by decide⟩ rfl rfl (fun rr hh hp => ?_)
        obtain ⟨rfl, w1, f1⟩ := hp
        show am_Z X 70 [.ref k, .ref z, am_n (-1), .null] [] hh 0 0
        refine am_goto (tgt := 86) hB d_RW_shortenAlone_70 (by decide) ?_
        refine am_vret hB hR d_RW_shortenAlone_86 rfl ?_ (Nat.zero_le _) (Nat.zero_le _)
        refine ⟨rfl, ?_, f1⟩
        have e1 : s_alone S f = w_same f := by unfold s_alone; simp only [hba, hpc]
        rw [e1]
        exact w1
      | some q =>
        obtain ⟨cc, hcc, -⟩ := pc_real_get hpc
        obtain ⟨q8, fm, em, rcl, -, -⟩ := w.2.2.1.cls hcc
        show am_Z X 60 [.ref k, .ref z, am_n (-1), am_u] [.ref (bM + 4 + 3 * q)] h 0 0
        refine am_astore_n hB d_RW_shortenAlone_60 rfl (by rw [hR.nL]; decide) rfl rfl ?_
        refine am_aload_n hB d_RW_shortenAlone_61 rfl rfl rfl ?_
        refine am_ifnonnullR (tgt := 73) hB d_RW_shortenAlone_62 (by decide) ?_
        refine am_aload_n hB d_RW_shortenAlone_73 rfl rfl rfl ?_
        refine am_aload_n hB d_RW_shortenAlone_74 rfl rfl rfl ?_
        refine am_getf hB d_RW_shortenAlone_75 F_RW_151_0 rcl rfl ?_
        refine am_aload_n hB d_RW_shortenAlone_78 rfl rfl rfl ?_
        refine am_getf hB d_RW_shortenAlone_79 F_RW_80_2 r0 rfl ?_
        refine am_aload_n hB d_RW_shortenAlone_82 rfl rfl rfl ?_
        refine am_callV hB hR (as := [.ref (bM + 6 + 3 * q), .ref m, .ref z]) w.1 (m_RW_writeShort w (w.cs hcc).2 (fun h' f' => (hf h' f').2.2.1) hf0 (by omega)) c_RW_193 rfl rfl d_RW_shortenAlone_83 ⟨by decide, Nat.le_of_ble_eq_true rfl⟩ ⟨by decide, by decide⟩ rfl rfl (fun rr hh hp => ?_)
        obtain ⟨rfl, w1, f1⟩ := hp
        show am_Z X 86 [.ref k, .ref z, am_n (-1), .ref (bM + 4 + 3 * q)] [] hh 0 0
        refine am_vret hB hR d_RW_shortenAlone_86 rfl ?_ (Nat.zero_le _) (Nat.zero_le _)
        refine ⟨rfl, ?_, f1⟩
        have e1 : s_alone S f = w_short cc.2 f.1.2.1 f := by unfold s_alone; simp only [hba, hpc, pm_cl_eq hcc]
        rw [e1]
        exact w1
    · omega
