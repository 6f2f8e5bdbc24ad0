/-! a trace is shortened -/
def sf_sz (S : pm_S) (i : Nat) : Int := if (pm_ln S i).2.2.2 then (pf_end S i : Nat) - i else 0
def sf_best (S : pm_S) (F : List pt_F) : Nat → Nat → Int × Int × Int → Int × Int × Int
  | 0, _, b => b
  | k + 1, i, b => sf_best S F k (i + 1) (if b.2.1 < sf_sz S i ∧ sf_fit S F i ≠ -1 then (i, sf_sz S i, sf_fit S F i) else b)
/-- a good one: nothing yet, or a group with a range that fits -/
def sf_ok (S : pm_S) (F : List pt_F) (b : Int × Int × Int) : Prop := b = (-1, 0, 0) ∨ ∃ (i : Nat) (x : pm_L), S.2[i]? = some x ∧ x.2.2.2 = true ∧ b.1 = i ∧ b.2.1 = (pf_end S i : Nat) - i ∧ b.2.2 = sf_fit S F i ∧ sf_fit S F i ≠ -1
def s_txt (S : pm_S) (F : List pt_F) : List Int := if (sf_best S F S.2.length 0 (-1, 0, 0)).1 = -1 then (match F with
    | [] => []
    | f :: _ => s_alone S f)
  else w_open (pm_cl S (pm_ln S (sf_best S F S.2.length 0 (-1, 0, 0)).1.toNat).2.2.1).2 (pm_ln S (sf_best S F S.2.length 0 (-1, 0, 0)).1.toNat).1.2.2 ++ sp_wd 14 ++ w_close ((pm_ln S (sf_best S F S.2.length 0 (-1, 0, 0)).1.toNat).2.1.1 + (sf_best S F S.2.length 0 (-1, 0, 0)).2.2)
def s_cnt (S : pm_S) (F : List pt_F) : Int := if (sf_best S F S.2.length 0 (-1, 0, 0)).1 = -1 then 1 else (sf_best S F S.2.length 0 (-1, 0, 0)).2.1
theorem sf_best_ok {S : pm_S} {F : List pt_F} : ∀ (k i : Nat) (b : Int × Int × Int), i + k = S.2.length → sf_ok S F b → sf_ok S F (sf_best S F k i b)
  | 0, _, b, _, h => h
  | k + 1, i, b, hi, h => by
    unfold sf_best
    refine sf_best_ok k (i + 1) _ (by omega) ?_
    split
    · rename_i hq
      have hx : S.2[i]? = some (S.2[i]'(by omega)) := List.getElem?_eq_getElem (by omega)
      have hz : 0 ≤ b.2.1 := by
        rcases h with z | ⟨j, x, h1, h2, h3, h4, h5, h6⟩
        · rw [z]; exact Int.le_refl 0
        · have := pf_end_le (S := S) (a := j) (pm_lt h1)
          omega
      have hl : (S.2[i]'(by omega)).2.2.2 = true := by
        have q := hq.1
        unfold sf_sz at q
        rw [pm_ln_eq hx] at q
        split at q
        · assumption
        · omega
      refine Or.inr ⟨i, _, hx, hl, rfl, ?_, rfl, hq.2⟩
      unfold sf_sz
      rw [pm_ln_eq hx, if_pos hl]
    · exact h
theorem sf_fit_in {S : pm_S} (ok : pm_ok S) {F : List pt_F} {i : Nat} {x : pm_L} (hx : S.2[i]? = some x) (h : sf_fit S F i ≠ -1) : 0 ≤ sf_fit S F i ∧ 0 ≤ x.2.1.1 ∧ x.2.1.1 + sf_fit S F i ≤ x.2.1.2.1 ∧ x.2.1.2.1 < 10000 ∧ pf_end S i - i ≤ F.length := by
  have hlo := (ok i x hx).1
  have il := pm_lt hx
  have hel := pf_end_le il
  unfold sf_fit at h ⊢
  rw [pm_ln_eq hx] at h ⊢
  by_cases q : x.2.1.1 = -1
  · rw [if_pos q] at h
    exact absurd rfl h
  · rw [if_neg q] at h ⊢
    have h1 : 0 ≤ x.2.1.1 ∧ x.2.1.1 ≤ x.2.1.2.1 ∧ x.2.1.2.1 < 10000 := by
      unfold pm_lok at hlo
      omega
    have := sf_off_in (fi := x.2.1.1) (la := x.2.1.2.1) h1.2.1 (pf_grp S i) F (-1) (fun y hy => ?_) (Or.inl rfl)
    · refine ⟨by omega, by omega, by omega, by omega, ?_⟩
      apply Classical.byContradiction
      intro z
      exact h (sf_off_len _ _ _ (by rw [pf_grp_len il]; omega))
    · obtain ⟨d, hd⟩ := List.getElem?_of_mem hy
      have dl := pm_lt hd
      rw [pf_grp_len il] at dl
      rw [pf_grp_get dl] at hd
      have := pf_same ok hx d (by omega) hd
      exact ⟨this.2.1, this.2.2.1, (ok _ y hd).1, q⟩
theorem s_cnt_in {S : pm_S} (ok : pm_ok S) {F : List pt_F} (hF : F ≠ []) : 1 ≤ s_cnt S F ∧ s_cnt S F ≤ F.length := by
  have hl : 1 ≤ F.length := by
    cases F with
    | nil => exact absurd rfl hF
    | cons f F => simp
  have h := sf_best_ok (S := S) (F := F) S.2.length 0 (-1, 0, 0) (by omega) (Or.inl rfl)
  unfold s_cnt
  split
  · omega
  · rename_i q
    rcases h with z | ⟨j, x, h1, h2, h3, h4, h5, h6⟩
    · rw [z] at q
      exact absurd rfl q
    · have := sf_fit_in ok h1 h6
      have := pf_end_le (S := S) (a := j) (pm_lt h1)
      omega
theorem m_RW_shortenFrom {l : Launch} {G : am_G} {h : am_H} {k bT c bM kp cp st en : Nat} {T : pt_S} {S : pm_S} {out : List Int} {fc dc : Int} (w : rw_W h k bT c bM kp cp T S out fc dc) (ok : pm_ok S) (hst : st < en) (hen : en ≤ T.2.length) (hfc : fc < 9900) : am_M l G M_RW_shortenFrom [.ref k, am_n st, am_n en] h (fun r h' => r = some (am_n (s_cnt S ((T.2.drop st).take (en - st)))) ∧ rw_W h' k bT c bM kp cp T S (out ++ s_txt S ((T.2.drop st).take (en - st))) (fc + 1) dc ∧ am_fr [k, kp, cp] h h') := by
  obtain ⟨s, mc1, mc2, mc3, mc4, mc5⟩ := w.mc
  obtain ⟨t, tc1, tc2, tc3, tc4, tc5, tc6⟩ := w.tc
  generalize hF : (T.2.drop st).take (en - st) = F
  have hf : T.2[st]? = some (T.2[st]'(by omega)) := List.getElem?_eq_getElem (by omega)
  generalize (T.2[st]'(by omega)) = f at hf
  have hF0 : ∃ F', F = f :: F' := by
    refine ⟨F.drop 1, ?_⟩
    have := drop_cons (L := F) (i := 0) (x := f) (by rw [← hF, List.getElem?_take, if_pos (by omega), List.getElem?_drop, Nat.add_zero, hf])
    rw [List.drop_zero] at this
    exact this
  obtain ⟨j20, hfs⟩ := w.fs hf
  refine am_M.of (by decide) (Nat.le_of_ble_eq_true rfl) (fun X hB hR => ?_)
  show am_Z X 0 [.ref k, am_n st, am_n en, am_u, am_u, am_u, am_u, am_u] [] h 0 0
  have fin : ∀ (b : Int × Int × Int) (v6 v7 : Value), sf_ok S F b → sf_best S F S.2.length 0 (-1, 0, 0) = b → am_Z X 85 [.ref k, am_n st, am_n en, am_n b.1, am_n b.2.1, am_n b.2.2, v6, v7] [] h 0 0 := by
    intro b v6 v7 hb hs
    rcases hb with z | ⟨j, x, h1, h2, h3, h4, h5, h6⟩
    · subst z
      have e1 : s_txt S F = s_alone S f := by
        unfold s_txt
        rw [hs]
        obtain ⟨F', rfl⟩ := hF0
        exact if_pos rfl
      have e2 : s_cnt S F = 1 := by
        unfold s_cnt
        rw [hs]
        exact if_pos rfl
      show am_Z X 85 [.ref k, am_n st, am_n en, am_n (-1), am_n 0, am_n 0, v6, v7] [] h 0 0
      refine am_iload_n hB d_RW_shortenFrom_85 rfl rfl ?_
      refine ai_const hB d_RW_shortenFrom_86 ?_
      refine ai_jne (tgt := 105) hB d_RW_shortenFrom_87 (by decide) (fun c1 => ?_) (fun c1 => ?_)
      · omega
      refine am_aload_n hB d_RW_shortenFrom_90 rfl rfl rfl ?_
      refine am_aload_n hB d_RW_shortenFrom_91 rfl rfl rfl ?_
      refine am_getf hB d_RW_shortenFrom_92 F_RW_9_6 w.1 rfl ?_
      refine am_getf hB d_RW_shortenFrom_95 F_RW_60_9 tc1 rfl ?_
      refine am_iload_n hB d_RW_shortenFrom_98 rfl rfl ?_
      refine ai_aald hB d_RW_shortenFrom_99 ty_6 tc3 (z := bT + 16 + 4 * st) (if_pos (by omega)) ?_
      refine am_callV hB hR (as := [.ref (bT + 16 + 4 * st)]) w.1 (m_RW_shortenAlone w hfs hfc) c_RW_165 rfl rfl d_RW_shortenFrom_100 ⟨by decide, Nat.le_of_ble_eq_true rfl⟩ ⟨by decide, by decide⟩ rfl rfl (fun rr hh hp => ?_)
      obtain ⟨rfl, w1, f1⟩ := hp
      show am_Z X 103 [.ref k, am_n st, am_n en, am_n (-1), am_n 0, am_n 0, v6, v7] [] hh 0 0
      refine ai_const hB d_RW_shortenFrom_103 ?_
      refine am_iret hB hR d_RW_shortenFrom_104 rfl (by decide) ?_ (Nat.zero_le _) (Nat.zero_le _)
      rw [e1, e2]
      exact ⟨rfl, w1, f1⟩
    · have hin := sf_fit_in ok h1 h6
      have jl := pm_lt h1
      have hel := pf_end_le jl
      obtain ⟨j32, gs, r, -, -, -, -, -, -, -, hc, -⟩ := w.2.2.1.line h1
      obtain ⟨-, -, sS⟩ := w.ls h1
      have hcc : S.1[x.2.2.1]? = some (S.1[x.2.2.1]'hc) := List.getElem?_eq_getElem hc
      have e1 : s_txt S F = w_open (S.1[x.2.2.1]'hc).2 x.1.2.2 ++ sp_wd 14 ++ w_close (x.2.1.1 + b.2.2) := by
        unfold s_txt
        rw [hs, if_neg (by omega), h3, Int.toNat_natCast, pm_ln_eq h1, pm_cl_eq hcc]
      have e2 : s_cnt S F = b.2.1 := by
        unfold s_cnt
        rw [hs, if_neg (by omega)]
      rw [h3]
      refine am_iload_n hB d_RW_shortenFrom_85 rfl rfl ?_
      refine ai_const hB d_RW_shortenFrom_86 ?_
      refine ai_jne (tgt := 105) hB d_RW_shortenFrom_87 (by decide) (fun c1 => ?_) (fun c1 => ?_)
      · refine am_aload_n hB d_RW_shortenFrom_105 rfl rfl rfl ?_
        refine am_getf hB d_RW_shortenFrom_106 F_RW_15_6 w.1 rfl ?_
        refine am_getf hB d_RW_shortenFrom_109 F_RW_117_4 mc1 rfl ?_
        refine am_iload_n hB d_RW_shortenFrom_112 rfl rfl ?_
        refine ai_aald hB d_RW_shortenFrom_113 ty_4 mc2 (z := bM + 29 + 4 * j) (if_pos (by omega)) ?_
        refine am_astore hB d_RW_shortenFrom_114 (by rw [hR.nL]; decide) rfl rfl ?_
        refine am_aload_n hB d_RW_shortenFrom_116 rfl rfl rfl ?_
        refine am_aload_n hB d_RW_shortenFrom_117 rfl rfl rfl ?_
        refine am_getf hB d_RW_shortenFrom_118 F_RW_15_6 w.1 rfl ?_
        refine am_aload hB d_RW_shortenFrom_121 rfl rfl ?_
        refine am_callV hB hR (as := [.ref (bM + 29 + 4 * j)]) mc1 (mn_shortClassOf w.2.2.1 h1) c_RW_168 rfl rfl d_RW_shortenFrom_123 ⟨by decide, Nat.le_of_ble_eq_true rfl⟩ ⟨by decide, by decide⟩ rfl rfl (fun rr hh hp => ?_)
        obtain ⟨rfl, rfl⟩ := hp
        show am_Z X 126 [.ref k, am_n st, am_n en, am_n (j : Nat), am_n b.2.1, am_n b.2.2, .ref (bM + 29 + 4 * j), v7] [.ref (bM + 6 + 3 * x.2.2.1), .ref k] h 0 0
        refine am_aload hB d_RW_shortenFrom_126 rfl rfl ?_
        refine am_getf hB d_RW_shortenFrom_128 F_RW_172_5 r rfl ?_
        refine am_callV hB hR (as := [.ref (bM + 6 + 3 * x.2.2.1), .ref (bM + 32 + 4 * j)]) w.1 (m_RW_openFrame w (w.cs hcc).2 sS (by omega)) c_RW_131 rfl rfl d_RW_shortenFrom_131 ⟨by decide, Nat.le_of_ble_eq_true rfl⟩ ⟨by decide, by decide⟩ rfl rfl (fun rr hh hp => ?_)
        obtain ⟨rfl, w1, f1⟩ := hp
        show am_Z X 134 [.ref k, am_n st, am_n en, am_n (j : Nat), am_n b.2.1, am_n b.2.2, .ref (bM + 29 + 4 * j), v7] [] hh 0 0
        obtain ⟨_, _, _, x1, -⟩ := w1.2.2.2.1
        refine am_aload_n hB d_RW_shortenFrom_134 rfl rfl rfl ?_
        refine am_getf hB d_RW_shortenFrom_135 F_RW_19_6 w1.1 rfl ?_
        refine am_ldcS hB d_RW_shortenFrom_138 (List.mem_of_getElem? (i := 20) rfl) ?_
        refine am_callV hB hR (as := [.retAddr 14]) x1 (m_TX_addWord w1.2.2.2.1 (by decide)) c_RW_175 rfl rfl d_RW_shortenFrom_140 ⟨by decide, Nat.le_of_ble_eq_true rfl⟩ ⟨by decide, by decide⟩ rfl rfl (fun rr hh hp => ?_)
        obtain ⟨rfl, a2, f2⟩ := hp
        have w2 := w1.txt a2 f2
        obtain ⟨-, gs2, r2, -⟩ := w2.2.2.1.line h1
        show am_Z X 143 [.ref k, am_n st, am_n en, am_n (j : Nat), am_n b.2.1, am_n b.2.2, .ref (bM + 29 + 4 * j), v7] [] hh 0 0
        refine am_aload_n hB d_RW_shortenFrom_143 rfl rfl rfl ?_
        refine am_aload hB d_RW_shortenFrom_144 rfl rfl ?_
        refine am_getf hB d_RW_shortenFrom_146 F_RW_128_5 r2 rfl ?_
        refine am_iload hB d_RW_shortenFrom_149 rfl ?_
        refine ai_add hB d_RW_shortenFrom_151 ?_
        refine am_callV hB hR (as := [am_n (x.2.1.1 + b.2.2)]) w2.1 (m_RW_closeFrame w2 ⟨by omega, by omega⟩) c_RW_144 rfl rfl d_RW_shortenFrom_152 ⟨by decide, Nat.le_of_ble_eq_true rfl⟩ ⟨by decide, by decide⟩ rfl rfl (fun rr hh hp => ?_)
        obtain ⟨rfl, w3, f3⟩ := hp
        show am_Z X 155 [.ref k, am_n st, am_n en, am_n (j : Nat), am_n b.2.1, am_n b.2.2, .ref (bM + 29 + 4 * j), v7] [] hh 0 0
        refine am_iload hB d_RW_shortenFrom_155 rfl ?_
        refine am_iret hB hR d_RW_shortenFrom_157 rfl rfl ?_ (Nat.zero_le _) (Nat.zero_le _)
        rw [e1, e2]
        refine ⟨rfl, ?_, (f1.tr f2.two).tr f3⟩
        simp only [List.append_assoc] at w3 ⊢
        exact w3
      · omega
  have loop : ∀ (d i : Nat) (b : Int × Int × Int) (v7 : Value), i + d = S.2.length → sf_ok S F b → sf_best S F S.2.length 0 (-1, 0, 0) = sf_best S F d i b → am_Z X 11 [.ref k, am_n st, am_n en, am_n b.1, am_n b.2.1, am_n b.2.2, am_n i, v7] [] h 0 0 := by
    intro d
    induction d with
    | zero =>
      intro i b v7 hi hb hs
      refine am_iload hB d_RW_shortenFrom_11 rfl ?_
      refine am_aload_n hB d_RW_shortenFrom_13 rfl rfl rfl ?_
      refine am_getf hB d_RW_shortenFrom_14 F_RW_15_6 w.1 rfl ?_
      refine am_getf hB d_RW_shortenFrom_17 F_RW_158_4 mc1 rfl ?_
      rw [mc3]
      refine ai_jge (tgt := 85) hB d_RW_shortenFrom_20 (by decide) (fun c1 => ?_) (fun c1 => ?_)
      · exact fin b _ _ hb hs
      · omega
    | succ d ih =>
      intro i b v7 hi hb hs
      have hx : S.2[i]? = some (S.2[i]'(by omega)) := List.getElem?_eq_getElem (by omega)
      generalize (S.2[i]'(by omega)) = x at hx
      obtain ⟨i32, gs, r, -, -, -, -, -, -, -, -, hg0, hg1⟩ := w.2.2.1.line hx
      have hel := pf_end_le (S := S) (a := i) (by omega)
      have hgs : gs = sf_sz S i ∧ 0 ≤ gs ∧ gs ≤ 32 := by
        unfold sf_sz
        rw [pm_ln_eq hx]
        cases hl : x.2.2.2 with
        | false =>
          rw [hg0 hl]
          exact ⟨rfl, by omega, by omega⟩
        | true =>
          rw [(hg1 hl).1]
          exact ⟨rfl, by omega, by omega⟩
      have hb0 : 0 ≤ b.2.1 ∧ b.2.1 ≤ 32 ∧ -1 ≤ b.1 ∧ b.1 ≤ 32 ∧ -1 ≤ b.2.2 ∧ b.2.2 ≤ 10000 := by
        rcases hb with z | ⟨j, y, h1, h2, h3, h4, h5, h6⟩
        · rw [z]; simp only; omega
        · have hin := sf_fit_in ok h1 h6
          have jl := pm_lt h1
          have hel := pf_end_le jl
          omega
      rw [sf_best] at hs
      have next : ∀ v7, ¬ (b.2.1 < sf_sz S i ∧ sf_fit S F i ≠ -1) → am_Z X 79 [.ref k, am_n st, am_n en, am_n b.1, am_n b.2.1, am_n b.2.2, am_n i, v7] [] h 0 0 := by
        intro v7 hz
        rw [if_neg hz] at hs
        refine ai_inc hB d_RW_shortenFrom_79 rfl (by rw [hR.nL]; decide) rfl ?_
        exact am_goto (tgt := 11) hB d_RW_shortenFrom_82 (by decide) (ih (i + 1) b _ (by omega) hb hs)
      refine am_iload hB d_RW_shortenFrom_11 rfl ?_
      refine am_aload_n hB d_RW_shortenFrom_13 rfl rfl rfl ?_
      refine am_getf hB d_RW_shortenFrom_14 F_RW_15_6 w.1 rfl ?_
      refine am_getf hB d_RW_shortenFrom_17 F_RW_158_4 mc1 rfl ?_
      rw [mc3]
      refine ai_jge (tgt := 85) hB d_RW_shortenFrom_20 (by decide) (fun c1 => ?_) (fun c1 => ?_)
      · omega
      refine am_aload_n hB d_RW_shortenFrom_23 rfl rfl rfl ?_
      refine am_getf hB d_RW_shortenFrom_24 F_RW_15_6 w.1 rfl ?_
      refine am_getf hB d_RW_shortenFrom_27 F_RW_117_4 mc1 rfl ?_
      refine am_iload hB d_RW_shortenFrom_30 rfl ?_
      refine ai_aald hB d_RW_shortenFrom_32 ty_4 mc2 (z := bM + 29 + 4 * i) (if_pos (by omega)) ?_
      refine am_getf hB d_RW_shortenFrom_33 F_RW_121_5 r rfl ?_
      refine am_iload hB d_RW_shortenFrom_36 rfl ?_
      refine ai_jle (tgt := 79) hB d_RW_shortenFrom_38 (by decide) (fun c2 => ?_) (fun c2 => ?_)
      · exact next _ (by omega)
      have hl : x.2.2.2 = true := by
        cases z : x.2.2.2 with
        | true => rfl
        | false =>
          have := hg0 z
          omega
      refine am_aload_n hB d_RW_shortenFrom_41 rfl rfl rfl ?_
      refine am_iload hB d_RW_shortenFrom_42 rfl ?_
      refine am_iload_n hB d_RW_shortenFrom_44 rfl rfl ?_
      refine am_iload_n hB d_RW_shortenFrom_45 rfl rfl ?_
      refine am_callV hB hR (as := [am_n i, am_n st, am_n en]) w.1 (m_RW_offsetOfFit w ok hx hl (by omega) hen) c_RW_161 rfl rfl d_RW_shortenFrom_46 ⟨by decide, Nat.le_of_ble_eq_true rfl⟩ ⟨by decide, by decide⟩ rfl rfl (fun rr hh hp => ?_)
      obtain ⟨rfl, rfl⟩ := hp
      rw [hF]
      show am_Z X 49 [.ref k, am_n st, am_n en, am_n b.1, am_n b.2.1, am_n b.2.2, am_n i, v7] [am_n (sf_fit S F i)] h 0 0
      have hfb : sf_fit S F i = -1 ∨ (0 ≤ sf_fit S F i ∧ sf_fit S F i ≤ 10000) := by
        by_cases z : sf_fit S F i = -1
        · exact Or.inl z
        · have := sf_fit_in ok hx z
          omega
      refine am_istore hB d_RW_shortenFrom_49 (by rw [hR.nL]; decide) rfl ?_
      refine am_iload hB d_RW_shortenFrom_51 rfl ?_
      refine ai_const hB d_RW_shortenFrom_53 ?_
      refine ai_jeq (tgt := 79) hB d_RW_shortenFrom_54 (by decide) (fun c3 => ?_) (fun c3 => ?_)
      · exact next _ (fun z => z.2 c3)
      rw [if_pos ⟨by omega, c3⟩] at hs
      refine am_iload hB d_RW_shortenFrom_57 rfl ?_
      refine am_istore_n hB d_RW_shortenFrom_59 rfl (by rw [hR.nL]; decide) rfl ?_
      refine am_aload_n hB d_RW_shortenFrom_60 rfl rfl rfl ?_
      refine am_getf hB d_RW_shortenFrom_61 F_RW_15_6 w.1 rfl ?_
      refine am_getf hB d_RW_shortenFrom_64 F_RW_117_4 mc1 rfl ?_
      refine am_iload hB d_RW_shortenFrom_67 rfl ?_
      refine ai_aald hB d_RW_shortenFrom_69 ty_4 mc2 (z := bM + 29 + 4 * i) (if_pos (by omega)) ?_
      refine am_getf hB d_RW_shortenFrom_70 F_RW_121_5 r rfl ?_
      rw [hgs.1]
      refine am_istore hB d_RW_shortenFrom_73 (by rw [hR.nL]; decide) rfl ?_
      refine am_iload hB d_RW_shortenFrom_75 rfl ?_
      refine am_istore hB d_RW_shortenFrom_77 (by rw [hR.nL]; decide) rfl ?_
      refine ai_inc hB d_RW_shortenFrom_79 rfl (by rw [hR.nL]; decide) rfl ?_
      refine am_goto (tgt := 11) hB d_RW_shortenFrom_82 (by decide) (ih (i + 1) ((i : Int), sf_sz S i, sf_fit S F i) _ (by omega) (Or.inr ⟨i, x, hx, hl, rfl, ?_, rfl, c3⟩) hs)
      unfold sf_sz
      rw [pm_ln_eq hx, if_pos hl]
  refine ai_const hB d_RW_shortenFrom_0 ?_
  refine am_istore_n hB d_RW_shortenFrom_1 rfl (by rw [hR.nL]; decide) rfl ?_
  refine ai_const hB d_RW_shortenFrom_2 ?_
  refine am_istore hB d_RW_shortenFrom_3 (by rw [hR.nL]; decide) rfl ?_
  refine ai_const hB d_RW_shortenFrom_5 ?_
  refine am_istore hB d_RW_shortenFrom_6 (by rw [hR.nL]; decide) rfl ?_
  refine ai_const hB d_RW_shortenFrom_8 ?_
  refine am_istore hB d_RW_shortenFrom_9 (by rw [hR.nL]; decide) rfl ?_
  exact loop S.2.length 0 (-1, 0, 0) _ (by omega) (Or.inl rfl) rfl
