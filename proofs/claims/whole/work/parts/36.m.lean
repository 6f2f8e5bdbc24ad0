/-! headers; inlined calls -/
theorem rw_W.sepM {h : am_H} {k bT c bM kp cp : Nat} {T : pt_S} {S : pm_S} {out : List Int} {fc dc : Int} (w : rw_W h k bT c bM kp cp T S out fc dc) : (∀ q ∈ [k, kp, cp], q < bM ∨ bM + 157 ≤ q) ∧ ∀ q ∈ [k, kp, cp], (q < bT ∨ bT + 96 ≤ q) ∧ q ≠ c := ⟨fun q hq => (w.2.2.2.2.1 q hq).1, fun q hq => (w.2.2.2.2.1 q hq).2⟩
theorem rw_W.hs {h : am_H} {k bT c bM kp cp i : Nat} {T : pt_S} {S : pm_S} {out : List Int} {fc dc : Int} {x : pt_H} (w : rw_W h k bT c bM kp cp T S out fc dc) (hx : T.1[i]? = some x) : i < 4 ∧ am_hs [k, kp, cp] h (bT + 3 + 3 * i) x := by
  have il := pm_lt hx
  have i4 : i < 4 := by
    obtain ⟨g, t, m, hg, R⟩ := w.2.1
    have := R.2.1
    omega
  refine ⟨i4, bT + 4 + 3 * i, bT + 5 + 3 * i, ?_, fun h' f => ?_⟩
  · obtain ⟨g, t, m, hg, R⟩ := w.2.1
    exact (R.2.2.2.2.1 i x hx).2.2.2.2.2.2.1
  · obtain ⟨g, t, m, hg, R⟩ := w.2.1.fr f w.sepM.2
    obtain ⟨x1, x2, x3, x4, x5, x6, x7, x8, x9, x10, x11⟩ := R.2.2.2.2.1 i x hx
    refine ⟨?_, am_sl.sn ⟨m.ST i4, m.2.1, hg, x1.1, x1.2.1, x1.2.2, by omega⟩ x3, am_sl.sn ⟨m.SG i4, m.2.1, hg, x2.1, x2.2.1, x2.2.2, by omega⟩ x5⟩
    have := m.H i4
    rw [x4, x6, x8, x9] at this
    exact this
theorem rw_W.fs {h : am_H} {k bT c bM kp cp i : Nat} {T : pt_S} {S : pm_S} {out : List Int} {fc dc : Int} {f : pt_F} (w : rw_W h k bT c bM kp cp T S out fc dc) (hf : T.2[i]? = some f) : i < 20 ∧ am_fs [k, kp, cp] h (bT + 16 + 4 * i) f := by
  have il := pm_lt hf
  have i20 : i < 20 := by
    obtain ⟨g, t, m, hg, R⟩ := w.2.1
    have := R.2.2.2.1
    omega
  refine ⟨i20, bT + 17 + 4 * i, bT + 18 + 4 * i, bT + 19 + 4 * i, ?_, fun h' fr => ?_⟩
  · obtain ⟨g, t, m, hg, R⟩ := w.2.1
    exact (R.2.2.2.2.2 i f hf).2.2.2.2
  · obtain ⟨g, t, m, hg, R⟩ := w.2.1.fr fr w.sepM.2
    obtain ⟨⟨x1, x2, x3⟩, ⟨y1, y2, y3⟩, x4, x5, x6⟩ := R.2.2.2.2.2 i f hf
    refine ⟨?_, am_sl.sn ⟨m.SO i20, m.2.1, hg, x1.1, x1.2.1, x1.2.2, by omega⟩ y1, am_sl.sn ⟨m.SM i20, m.2.1, hg, x2.1, x2.2.1, x2.2.2, by omega⟩ y2, am_sl.sn ⟨m.SP i20, m.2.1, hg, x3.1, x3.2.1, x3.2.2, by omega⟩ y3⟩
    have := m.F i20
    rw [x4, x5] at this
    exact this
theorem rw_W.ls {h : am_H} {k bT c bM kp cp i : Nat} {T : pt_S} {S : pm_S} {out : List Int} {fc dc : Int} {x : pm_L} (w : rw_W h k bT c bM kp cp T S out fc dc) (hx : S.2[i]? = some x) : am_ss [k, kp, cp] h (bM + 30 + 4 * i) x.1.1 ∧ am_ss [k, kp, cp] h (bM + 31 + 4 * i) x.1.2.1 ∧ am_ss [k, kp, cp] h (bM + 32 + 4 * i) x.1.2.2 := by
  refine ⟨fun h' f => ?_, fun h' f => ?_, fun h' f => ?_⟩
  · obtain ⟨-, gs, -, q, -⟩ := (w.2.2.1.fr f w.sepM.1).line hx
    exact q
  · obtain ⟨-, gs, -, -, q, -⟩ := (w.2.2.1.fr f w.sepM.1).line hx
    exact q
  · obtain ⟨-, gs, -, -, -, q, -⟩ := (w.2.2.1.fr f w.sepM.1).line hx
    exact q
theorem rw_W.cs {h : am_H} {k bT c bM kp cp i : Nat} {T : pt_S} {S : pm_S} {out : List Int} {fc dc : Int} {x : pm_C} (w : rw_W h k bT c bM kp cp T S out fc dc) (hx : S.1[i]? = some x) : am_ss [k, kp, cp] h (bM + 5 + 3 * i) x.1 ∧ am_ss [k, kp, cp] h (bM + 6 + 3 * i) x.2 := by
  refine ⟨fun h' f => ?_, fun h' f => ?_⟩
  · obtain ⟨-, fm, em, -, q, -⟩ := (w.2.2.1.fr f w.sepM.1).cls hx
    exact q
  · obtain ⟨-, fm, em, -, -, q⟩ := (w.2.2.1.fr f w.sepM.1).cls hx
    exact q
theorem rw_W.tc {h : am_H} {k bT c bM kp cp : Nat} {T : pt_S} {S : pm_S} {out : List Int} {fc dc : Int} (w : rw_W h k bT c bM kp cp T S out fc dc) : ∃ t, h[bT]? = some (ce_TR bT c t) ∧ h[bT + 2]? = some (tr_qH bT) ∧ h[bT + 15]? = some (tr_qF bT) ∧ t 2 = (T.1.length : Nat) ∧ T.1.length ≤ 4 ∧ T.2.length ≤ 20 := by
  obtain ⟨g, t, m, hg, R⟩ := w.2.1
  exact ⟨t, m.o, m.qH, m.qF, R.1, R.2.1, R.2.2.2.1⟩
theorem rw_W.mc {h : am_H} {k bT c bM kp cp : Nat} {T : pt_S} {S : pm_S} {out : List Int} {fc dc : Int} (w : rw_W h k bT c bM kp cp T S out fc dc) : ∃ s, h[bM]? = some (ce_MA bM s) ∧ h[bM + 28]? = some (mp_qL bM) ∧ s 3 = (S.2.length : Nat) ∧ S.2.length ≤ 32 ∧ S.1.length ≤ 8 := by
  obtain ⟨g, s, m, hg, R⟩ := w.2.2.1
  exact ⟨s, m.1, m.2.2.2.2.1, R.2.2.1, R.2.2.2.1, R.2.1⟩
theorem m_RW_writeHeader {l : Launch} {G : am_G} {h : am_H} {k bT c bM kp cp i z : Nat} {T : pt_S} {S : pm_S} {out ty : List Int} {fc dc : Int} {x : pt_H} (w : rw_W h k bT c bM kp cp T S out fc dc) (hx : T.1[i]? = some x) (sz : am_ss [k, kp, cp] h z ty) : am_M l G M_RW_writeHeader [.ref k, am_n i, .ref z] h (rw_P h k bT c bM kp cp T S (out ++ w_head i ty x) fc dc) := by
  obtain ⟨i4, tyz, me, hb, hs⟩ := w.hs hx
  obtain ⟨t, tc1, tc2, -⟩ := w.tc
  refine am_M.of (by decide) (Nat.le_of_ble_eq_true rfl) (fun X hB hR => ?_)
  show am_Z X 0 [.ref k, am_n i, .ref z, am_u] [] h 0 0
  refine am_aload_n hB d_RW_writeHeader_0 rfl rfl rfl ?_
  refine am_getf hB d_RW_writeHeader_1 F_RW_9_6 w.1 rfl ?_
  refine am_getf hB d_RW_writeHeader_4 F_RW_29_9 tc1 rfl ?_
  refine am_iload_n hB d_RW_writeHeader_7 rfl rfl ?_
  refine ai_aald hB d_RW_writeHeader_8 ty_5 tc2 (z := bT + 3 + 3 * i) (if_pos (by omega)) ?_
  refine am_astore_n hB d_RW_writeHeader_9 rfl (by rw [hR.nL]; decide) rfl rfl ?_
  refine am_iload_n hB d_RW_writeHeader_10 rfl rfl ?_
  -- from 23 on
  have tl : ∀ (h1 : am_H) (o1 : List Int), rw_W h1 k bT c bM kp cp T S o1 fc dc → am_fr [k, kp, cp] h h1 → o1 = out ++ (if i = 0 then [] else sp_wd 3) → am_Z X 23 [.ref k, am_n i, .ref z, .ref (bT + 3 + 3 * i)] [] h1 0 0 := by
    intro h1 o1 w1 f1 ho
    subst ho
    obtain ⟨_, _, _, x1, -⟩ := w1.2.2.2.1
    have end1 : ∀ (h3 : am_H) (o3 : List Int), rw_W h3 k bT c bM kp cp T S o3 fc dc → am_fr [k, kp, cp] h h3 → o3 ++ [10] = out ++ w_head i ty x → am_Z X 58 [.ref k, am_n i, .ref z, .ref (bT + 3 + 3 * i)] [] h3 0 0 := by
      intro h3 o3 w3 f3 ho
      obtain ⟨_, _, _, x3, -⟩ := w3.2.2.2.1
      refine am_aload_n hB d_RW_writeHeader_58 rfl rfl rfl ?_
      refine am_getf hB d_RW_writeHeader_59 F_RW_19_6 w3.1 rfl ?_
      refine ai_bipush hB d_RW_writeHeader_62 (by decide) ?_
      refine am_callV hB hR (as := [am_n 10]) x3 (m_TX_add w3.2.2.2.1 (by omega) (by omega)) c_RW_210 rfl rfl d_RW_writeHeader_64 ⟨by decide, Nat.le_of_ble_eq_true rfl⟩ ⟨by decide, by decide⟩ rfl rfl (fun rr hh hp => ?_)
      obtain ⟨rfl, a4, f4⟩ := hp
      show am_Z X 67 [.ref k, am_n i, .ref z, .ref (bT + 3 + 3 * i)] [] hh 0 0
      refine am_vret hB hR d_RW_writeHeader_67 rfl ?_ (Nat.zero_le _) (Nat.zero_le _)
      rw [ho] at a4
      exact ⟨rfl, w3.txt a4 f4, f3.tr f4.two⟩
    refine am_aload_n hB d_RW_writeHeader_23 rfl rfl rfl ?_
    refine am_getf hB d_RW_writeHeader_24 F_RW_19_6 w1.1 rfl ?_
    refine am_aload_n hB d_RW_writeHeader_27 rfl rfl rfl ?_
    refine am_callV hB hR (as := [.ref z]) x1 (mn_addSlice w1.2.2.2.1 (sz _ f1)) c_RW_198 rfl rfl d_RW_writeHeader_28 ⟨by decide, Nat.le_of_ble_eq_true rfl⟩ ⟨by decide, by decide⟩ rfl rfl (fun rr hh hp => ?_)
    obtain ⟨rfl, a2, f2⟩ := hp
    have w2 := w1.txt a2 f2
    have f12 := f1.tr f2.two
    obtain ⟨_, _, _, x2, -⟩ := a2
    have r2 := (hs _ f12).1
    show am_Z X 31 [.ref k, am_n i, .ref z, .ref (bT + 3 + 3 * i)] [] hh 0 0
    refine am_aload_n hB d_RW_writeHeader_31 rfl rfl rfl ?_
    refine am_getf hB d_RW_writeHeader_32 F_RW_201_3 r2 rfl ?_
    cases hm : x.1.2.1 with
    | false =>
      show am_Z X 35 [.ref k, am_n i, .ref z, .ref (bT + 3 + 3 * i)] [am_n 0] hh 0 0
      refine ai_zeq (tgt := 58) hB d_RW_writeHeader_35 (by decide) (fun c2 => ?_) (fun c2 => ?_)
      · refine end1 hh _ w2 f12 ?_
        unfold w_head
        rw [hm, if_neg (show ¬ false = true by decide)]
        simp only [List.append_assoc, List.append_nil, List.nil_append]
      · omega
    | true =>
      show am_Z X 35 [.ref k, am_n i, .ref z, .ref (bT + 3 + 3 * i)] [am_n 1] hh 0 0
      refine ai_zeq (tgt := 58) hB d_RW_writeHeader_35 (by decide) (fun c2 => ?_) (fun c2 => ?_)
      · omega
      refine am_aload_n hB d_RW_writeHeader_38 rfl rfl rfl ?_
      refine am_getf hB d_RW_writeHeader_39 F_RW_19_6 w2.1 rfl ?_
      refine am_ldcS hB d_RW_writeHeader_42 (List.mem_of_getElem? (i := 14) rfl) ?_
      refine am_callV hB hR (as := [.retAddr 4]) x2 (m_TX_addWord w2.2.2.2.1 (by decide)) c_RW_175 rfl rfl d_RW_writeHeader_44 ⟨by decide, Nat.le_of_ble_eq_true rfl⟩ ⟨by decide, by decide⟩ rfl rfl (fun rr hh hp => ?_)
      obtain ⟨rfl, a3, f3⟩ := hp
      have w3 := w2.txt a3 f3
      have f13 := f12.tr f3.two
      obtain ⟨_, _, _, x3, -⟩ := a3
      have r3 := (hs _ f13).1
      show am_Z X 47 [.ref k, am_n i, .ref z, .ref (bT + 3 + 3 * i)] [] hh 0 0
      refine am_aload_n hB d_RW_writeHeader_47 rfl rfl rfl ?_
      refine am_getf hB d_RW_writeHeader_48 F_RW_19_6 w3.1 rfl ?_
      refine am_aload_n hB d_RW_writeHeader_51 rfl rfl rfl ?_
      refine am_getf hB d_RW_writeHeader_52 F_RW_207_3 r3 rfl ?_
      refine am_callV hB hR (as := [.ref me]) x3 (mn_addSlice w3.2.2.2.1 (hs _ f13).2.2) c_RW_198 rfl rfl d_RW_writeHeader_55 ⟨by decide, Nat.le_of_ble_eq_true rfl⟩ ⟨by decide, by decide⟩ rfl rfl (fun rr hh hp => ?_)
      obtain ⟨rfl, a4, f4⟩ := hp
      have w4 := w3.txt a4 f4
      show am_Z X 58 [.ref k, am_n i, .ref z, .ref (bT + 3 + 3 * i)] [] hh 0 0
      refine end1 hh _ w4 (f13.tr f4.two) ?_
      unfold w_head
      rw [hm, if_pos rfl]
      simp only [List.append_assoc]
  refine ai_zle (tgt := 23) hB d_RW_writeHeader_11 (by decide) (fun c1 => ?_) (fun c1 => ?_)
  · exact tl h out w am_fr.rf (by rw [if_pos (by omega), List.append_nil])
  obtain ⟨_, _, _, x1, -⟩ := w.2.2.2.1
  refine am_aload_n hB d_RW_writeHeader_14 rfl rfl rfl ?_
  refine am_getf hB d_RW_writeHeader_15 F_RW_19_6 w.1 rfl ?_
  refine am_ldcS hB d_RW_writeHeader_18 (List.mem_of_getElem? (i := 13) rfl) ?_
  refine am_callV hB hR (as := [.retAddr 3]) x1 (m_TX_addWord w.2.2.2.1 (by decide)) c_RW_175 rfl rfl d_RW_writeHeader_20 ⟨by decide, Nat.le_of_ble_eq_true rfl⟩ ⟨by decide, by decide⟩ rfl rfl (fun rr hh hp => ?_)
  obtain ⟨rfl, a1, f1⟩ := hp
  show am_Z X 23 [.ref k, am_n i, .ref z, .ref (bT + 3 + 3 * i)] [] hh 0 0
  exact tl hh _ (w.txt a1 f1) f1.two (by rw [if_neg (by omega)])
def pm_lok (x : pm_L) : Prop := (x.2.1.1 = -1 ∧ x.2.1.2.1 = -1 ∧ x.2.1.2.2.1 = -1 ∧ x.2.1.2.2.2 = -1) ∨ (0 ≤ x.2.1.1 ∧ x.2.1.1 ≤ x.2.1.2.1 ∧ x.2.1.2.1 < 10000 ∧ 0 ≤ x.2.1.2.2.1 ∧ x.2.1.2.2.1 < 10000 ∧ 0 ≤ x.2.1.2.2.2 ∧ x.2.1.2.2.2 < 10000 ∧ (x.2.1.2.2.1 = x.2.1.2.2.2 ∨ x.2.1.2.2.2 - x.2.1.2.2.1 = x.2.1.2.1 - x.2.1.1))
def pm_ok (S : pm_S) : Prop := ∀ (i : Nat) x, S.2[i]? = some x → pm_lok x ∧ (x.2.2.2 = false → 0 < i ∧ ∀ y, S.2[i - 1]? = some y → x.2.1.1 ≠ -1 ∧ y.2.2.1 = x.2.2.1 ∧ y.2.1.1 = x.2.1.1 ∧ y.2.1.2.1 = x.2.1.2.1 ∧ y.1.2.2 = x.1.2.2)
theorem sp_fd_bef {P : Nat → Bool} : ∀ (n i : Nat) {e : Nat}, sp_fd P i n = some e → ∀ j, i ≤ j → j < e → P j = false
  | 0, i, e, h => by cases h
  | n + 1, i, e, h => by
    unfold sp_fd at h
    intro j h1 h2
    cases hp : P i with
    | true =>
      rw [hp, if_pos rfl] at h
      cases h
      omega
    | false =>
      rw [hp, if_neg (by decide)] at h
      by_cases z : j = i
      · rw [z]; exact hp
      · exact sp_fd_bef n (i + 1) h j (by omega) h2
theorem pf_end_in {S : pm_S} {a j : Nat} (h1 : a < j) (h2 : j < pf_end S a) {y : pm_L} (hy : S.2[j]? = some y) : y.2.2.2 = false := by
  have jl := pm_lt hy
  unfold pf_end at h2
  cases e : sp_fd (fun j => (S.2[j]?.map (fun x => x.2.2.2)).getD false) (a + 1) (S.2.length - (a + 1)) with
  | none =>
    have := (sp_fd_none _ _).mp e j (by omega) (by omega)
    rw [hy] at this
    exact this
  | some k =>
    rw [e] at h2
    have := sp_fd_bef _ _ e j (by omega) h2
    rw [hy] at this
    exact this
theorem pf_end_le {S : pm_S} {a : Nat} (h : a < S.2.length) : a < pf_end S a ∧ pf_end S a ≤ S.2.length := by
  unfold pf_end
  cases e : sp_fd (fun j => (S.2[j]?.map (fun x => x.2.2.2)).getD false) (a + 1) (S.2.length - (a + 1)) with
  | none => exact ⟨h, Nat.le_refl _⟩
  | some k =>
    have := sp_fd_lt _ _ e
    simp only
    omega
/-- the lines of a group share its range, its class line and its short name -/
theorem pf_same {S : pm_S} (ok : pm_ok S) {a : Nat} {x : pm_L} (hx : S.2[a]? = some x) : ∀ (d : Nat) {y : pm_L}, a + d < pf_end S a → S.2[a + d]? = some y → y.2.2.1 = x.2.2.1 ∧ y.2.1.1 = x.2.1.1 ∧ y.2.1.2.1 = x.2.1.2.1 ∧ y.1.2.2 = x.1.2.2
  | 0, y, _, hy => by
    rw [Nat.add_zero, hx] at hy
    cases hy
    exact ⟨rfl, rfl, rfl, rfl⟩
  | d + 1, y, h1, hy => by
    have jl := pm_lt hy
    have hz : S.2[a + d]? = some (S.2[a + d]'(by omega)) := List.getElem?_eq_getElem (by omega)
    have ih := pf_same ok hx d (by omega) hz
    have hl := pf_end_in (by omega) h1 hy
    have := ((ok _ y hy).2 hl).2 _ hz
    exact ⟨by rw [← this.2.1, ih.1], by rw [← this.2.2.1, ih.2.1], by rw [← this.2.2.2.1, ih.2.2.1], by rw [← this.2.2.2.2, ih.2.2.2]⟩
def w_one (ln : Int) (x : pm_L) : List Int := w_open x.1.1 x.1.2.1 ++ fn_file x.1.1 ++ w_close (x.2.1.2.2.1 + if x.2.1.2.2.1 = x.2.1.2.2.2 then 0 else ln - x.2.1.1)
def pf_grp (S : pm_S) (a : Nat) : List pm_L := (S.2.drop a).take (pf_end S a - a)
theorem m_RW_writeInlined {l : Launch} {G : am_G} {h : am_H} {k bT c bM kp cp a : Nat} {T : pt_S} {S : pm_S} {out : List Int} {fc dc ln : Int} {x : pm_L} (w : rw_W h k bT c bM kp cp T S out fc dc) (ok : pm_ok S) (hx : S.2[a]? = some x) (hl : x.2.2.2 = true) (hr : x.2.1.1 ≠ -1 ∧ x.2.1.1 ≤ ln ∧ ln ≤ x.2.1.2.1) (hfc : fc < 9900) : am_M l G M_RW_writeInlined [.ref k, am_n a, am_n ln] h (rw_P h k bT c bM kp cp T S (out ++ (pf_grp S a).flatMap (w_one ln)) (fc + ((pf_end S a : Nat) - a)) dc) := by
  obtain ⟨a32, gs, r, -, -, -, b1, b2, b3, b4, -, -, hgs⟩ := w.2.2.1.line hx
  obtain ⟨e1, e2, e3⟩ := hgs hl
  obtain ⟨s, mc1, mc2, mc3, mc4, mc5⟩ := w.mc
  refine am_M.of (by decide) (Nat.le_of_ble_eq_true rfl) (fun X hB hR => ?_)
  show am_Z X 0 [.ref k, am_n a, am_n ln, am_u, am_u, am_u, am_u] [] h 0 0
  refine am_iload_n hB d_RW_writeInlined_0 rfl rfl ?_
  refine am_aload_n hB d_RW_writeInlined_1 rfl rfl rfl ?_
  refine am_getf hB d_RW_writeInlined_2 F_RW_15_6 w.1 rfl ?_
  refine am_getf hB d_RW_writeInlined_5 F_RW_117_4 mc1 rfl ?_
  refine am_iload_n hB d_RW_writeInlined_8 rfl rfl ?_
  refine ai_aald hB d_RW_writeInlined_9 ty_4 mc2 (z := bM + 29 + 4 * a) (if_pos (by omega)) ?_
  refine am_getf hB d_RW_writeInlined_10 F_RW_121_5 r rfl ?_
  rw [e1]
  refine ai_add hB d_RW_writeInlined_13 ?_
  refine am_istore_n hB d_RW_writeInlined_14 rfl (by rw [hR.nL]; decide) rfl ?_
  refine am_iload_n hB d_RW_writeInlined_15 rfl rfl ?_
  refine am_istore hB d_RW_writeInlined_16 (by rw [hR.nL]; decide) rfl ?_
  rw [show (a : Int) + ((pf_end S a : Nat) - (a : Int)) = (pf_end S a : Nat) by omega]
  have loop : ∀ (d i : Nat) (h1 : am_H) (o1 : List Int) (v1 v2 : Value), i + d = pf_end S a → a ≤ i → o1 = out ++ ((S.2.drop a).take (i - a)).flatMap (w_one ln) → rw_W h1 k bT c bM kp cp T S o1 (fc + (i - a)) dc → am_fr [k, kp, cp] h h1 → am_Z X 18 [.ref k, am_n a, am_n ln, am_n (pf_end S a : Nat), am_n i, v1, v2] [] h1 0 0 := by
    intro d
    induction d with
    | zero =>
      intro i h1 o1 v1 v2 hi hai ho w1 f1
      refine am_iload hB d_RW_writeInlined_18 rfl ?_
      refine am_iload_n hB d_RW_writeInlined_20 rfl rfl ?_
      refine ai_jge (tgt := 101) hB d_RW_writeInlined_21 (by decide) (fun c1 => ?_) (fun c1 => ?_)
      · refine am_vret hB hR d_RW_writeInlined_101 rfl ?_ (Nat.zero_le _) (Nat.zero_le _)
        have : i = pf_end S a := by omega
        subst this
        rw [ho] at w1
        exact ⟨rfl, w1, f1⟩
      · omega
    | succ d ih =>
      intro i h1 o1 v1 v2 hi hai ho w1 f1
      have hy : S.2[i]? = some (S.2[i]'(by omega)) := List.getElem?_eq_getElem (by omega)
      generalize (S.2[i]'(by omega)) = y at hy
      have hsm := pf_same ok hx (i - a) (y := y) (by omega) (by rw [show a + (i - a) = i by omega]; exact hy)
      have hok := (ok i y hy).1
      obtain ⟨i32, gs', r', -, -, -, y1, y2, y3, y4, -⟩ := w1.2.2.1.line hy
      obtain ⟨s1, mc1', mc2', -⟩ := w1.mc
      obtain ⟨sO, sM, -⟩ := w1.ls hy
      refine am_iload hB d_RW_writeInlined_18 rfl ?_
      refine am_iload_n hB d_RW_writeInlined_20 rfl rfl ?_
      refine ai_jge (tgt := 101) hB d_RW_writeInlined_21 (by decide) (fun c1 => ?_) (fun c1 => ?_)
      · omega
      refine am_aload_n hB d_RW_writeInlined_24 rfl rfl rfl ?_
      refine am_getf hB d_RW_writeInlined_25 F_RW_15_6 w1.1 rfl ?_
      refine am_getf hB d_RW_writeInlined_28 F_RW_117_4 mc1' rfl ?_
      refine am_iload hB d_RW_writeInlined_31 rfl ?_
      refine ai_aald hB d_RW_writeInlined_33 ty_4 mc2' (z := bM + 29 + 4 * i) (if_pos (by omega)) ?_
      refine am_astore hB d_RW_writeInlined_34 (by rw [hR.nL]; decide) rfl rfl ?_
      refine am_aload hB d_RW_writeInlined_36 rfl rfl ?_
      refine am_callV hB hR (as := []) r' (m_ML_hasOne r' ⟨by omega, by omega⟩ ⟨by omega, by omega⟩) c_RW_124 rfl rfl d_RW_writeInlined_38 ⟨by decide, Nat.le_of_ble_eq_true rfl⟩ ⟨by decide, by decide⟩ rfl rfl (fun rr hh hp => ?_)
      obtain ⟨rfl, rfl⟩ := hp
      have body : ∀ off : Int, off = (if y.2.1.2.2.1 = y.2.1.2.2.2 then 0 else ln - y.2.1.1) → am_Z X 55 [.ref k, am_n a, am_n ln, am_n (pf_end S a : Nat), am_n i, .ref (bM + 29 + 4 * i), v2] [am_n off] h1 0 0 := by
        intro off hoff
        have hob : 0 ≤ y.2.1.2.2.1 + off ∧ y.2.1.2.2.1 + off < 10000 := by
          unfold pm_lok at hok
          split at hoff <;> omega
        refine am_istore hB d_RW_writeInlined_55 (by rw [hR.nL]; decide) rfl ?_
        refine am_aload_n hB d_RW_writeInlined_57 rfl rfl rfl ?_
        refine am_aload hB d_RW_writeInlined_58 rfl rfl ?_
        refine am_getf hB d_RW_writeInlined_60 F_RW_106_5 r' rfl ?_
        refine am_aload hB d_RW_writeInlined_63 rfl rfl ?_
        refine am_getf hB d_RW_writeInlined_65 F_RW_109_5 r' rfl ?_
        refine am_callV hB hR (as := [.ref (bM + 30 + 4 * i), .ref (bM + 31 + 4 * i)]) w1.1 (m_RW_openFrame w1 sO sM (by omega)) c_RW_131 rfl rfl d_RW_writeInlined_68 ⟨by decide, Nat.le_of_ble_eq_true rfl⟩ ⟨by decide, by decide⟩ rfl rfl (fun rr hh hp => ?_)
        obtain ⟨rfl, w2, f2⟩ := hp
        show am_Z X 71 [.ref k, am_n a, am_n ln, am_n (pf_end S a : Nat), am_n i, .ref (bM + 29 + 4 * i), am_n off] [] hh 0 0
        obtain ⟨_, _, _, x2, -⟩ := w2.2.2.2.1
        obtain ⟨-, gs2, r2, -⟩ := w2.2.2.1.line hy
        refine am_aload_n hB d_RW_writeInlined_71 rfl rfl rfl ?_
        refine am_getf hB d_RW_writeInlined_72 F_RW_19_6 w2.1 rfl ?_
        refine am_aload hB d_RW_writeInlined_75 rfl rfl ?_
        refine am_getf hB d_RW_writeInlined_77 F_RW_106_5 r2 rfl ?_
        refine am_callV hB hR (as := [.ref (bM + 30 + 4 * i)]) x2 (mn_addFileOf w2.2.2.2.1 (sO _ f2)) c_RW_135 rfl rfl d_RW_writeInlined_80 ⟨by decide, Nat.le_of_ble_eq_true rfl⟩ ⟨by decide, by decide⟩ rfl rfl (fun rr hh hp => ?_)
        obtain ⟨rfl, a3, f3⟩ := hp
        have w3 := w2.txt a3 f3
        obtain ⟨-, gs3, r3, -⟩ := w3.2.2.1.line hy
        show am_Z X 83 [.ref k, am_n a, am_n ln, am_n (pf_end S a : Nat), am_n i, .ref (bM + 29 + 4 * i), am_n off] [] hh 0 0
        refine am_aload_n hB d_RW_writeInlined_83 rfl rfl rfl ?_
        refine am_aload hB d_RW_writeInlined_84 rfl rfl ?_
        refine am_getf hB d_RW_writeInlined_86 F_RW_141_5 r3 rfl ?_
        refine am_iload hB d_RW_writeInlined_89 rfl ?_
        refine ai_add hB d_RW_writeInlined_91 ?_
        refine am_callV hB hR (as := [am_n (y.2.1.2.2.1 + off)]) w3.1 (m_RW_closeFrame w3 ⟨by omega, by omega⟩) c_RW_144 rfl rfl d_RW_writeInlined_92 ⟨by decide, Nat.le_of_ble_eq_true rfl⟩ ⟨by decide, by decide⟩ rfl rfl (fun rr hh hp => ?_)
        obtain ⟨rfl, w4, f4⟩ := hp
        show am_Z X 95 [.ref k, am_n a, am_n ln, am_n (pf_end S a : Nat), am_n i, .ref (bM + 29 + 4 * i), am_n off] [] hh 0 0
        refine ai_inc hB d_RW_writeInlined_95 rfl (by rw [hR.nL]; decide) rfl ?_
        refine am_goto (tgt := 18) hB d_RW_writeInlined_98 (by decide) (ih (i + 1) hh (o1 ++ w_open y.1.1 y.1.2.1 ++ fn_file y.1.1 ++ w_close (y.2.1.2.2.1 + off)) _ _ (by omega) (by omega) ?_ ?_ (((f1.tr f2).tr f3.two).tr f4))
        · have ht : ((S.2.drop a).take (i + 1 - a)) = (S.2.drop a).take (i - a) ++ [y] := by
            rw [show i + 1 - a = (i - a) + 1 by omega, List.take_add_one, List.getElem?_drop, show a + (i - a) = i by omega, hy]
            rfl
          rw [ht, List.flatMap_append, ho, hoff]
          simp only [List.flatMap_cons, List.flatMap_nil, w_one, List.append_assoc, List.append_nil]
        · have : fc + (((i + 1 : Nat) : Int) - (a : Int)) = fc + ((i : Int) - (a : Int)) + 1 := by omega
          rw [this]
          exact w4
      by_cases hone : y.2.1.2.2.1 = y.2.1.2.2.2
      · rw [decide_eq_true hone]
        show am_Z X 41 [.ref k, am_n a, am_n ln, am_n (pf_end S a : Nat), am_n i, .ref (bM + 29 + 4 * i), v2] [am_n 1] h1 0 0
        refine ai_zeq (tgt := 48) hB d_RW_writeInlined_41 (by decide) (fun c2 => ?_) (fun c2 => ?_)
        · omega
        refine ai_const hB d_RW_writeInlined_44 ?_
        refine am_goto (tgt := 55) hB d_RW_writeInlined_45 (by decide) ?_
        exact body 0 (by rw [if_pos hone])
      · rw [decide_eq_false hone]
        show am_Z X 41 [.ref k, am_n a, am_n ln, am_n (pf_end S a : Nat), am_n i, .ref (bM + 29 + 4 * i), v2] [am_n 0] h1 0 0
        refine ai_zeq (tgt := 48) hB d_RW_writeInlined_41 (by decide) (fun c2 => ?_) (fun c2 => ?_)
        · refine am_iload_n hB d_RW_writeInlined_48 rfl rfl ?_
          refine am_aload hB d_RW_writeInlined_49 rfl rfl ?_
          refine am_getf hB d_RW_writeInlined_51 F_RW_128_5 r' rfl ?_
          refine ai_sub hB d_RW_writeInlined_54 ?_
          exact body (ln - y.2.1.1) (by rw [if_neg hone])
        · omega
  exact loop (pf_end S a - a) a h out _ _ (by omega) (Nat.le_refl _) (by rw [Nat.sub_self]; simp) (by rw [show fc + ((a : Int) - (a : Int)) = fc by omega]; exact w) am_fr.rf
