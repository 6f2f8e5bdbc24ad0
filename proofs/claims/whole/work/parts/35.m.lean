/-! frames, headers and more lines are written -/
def am_fs (A : List Nat) (h : am_H) (z : Nat) (f : pt_F) : Prop := ∃ o m p : Nat, (-1 ≤ f.2.2 ∧ f.2.2 < 10000) ∧ ∀ h', am_fr A h h' → h'[z]? = some (ce_FR o m p (sp_i f.2.1) f.2.2) ∧ am_sn h' o f.1.1 ∧ am_sn h' m f.1.2.1 ∧ am_sn h' p f.1.2.2
theorem am_fs.fr {A : List Nat} {h h1 : am_H} {z : Nat} {f : pt_F} (s : am_fs A h z f) (r : am_fr A h h1) : am_fs A h1 z f := by
  obtain ⟨o, m, p, hb, s⟩ := s
  exact ⟨o, m, p, hb, fun h' f' => s h' (r.tr f')⟩
def am_hs (A : List Nat) (h : am_H) (z : Nat) (x : pt_H) : Prop := ∃ ty me : Nat, (-1 ≤ x.2.1 ∧ x.2.1 < 10000) ∧ ∀ h', am_fr A h h' → h'[z]? = some (ce_HE ty me (sp_i x.1.2.1) x.2.1 x.2.2.1 x.2.2.2) ∧ am_sn h' ty x.1.1 ∧ am_sn h' me x.1.2.2
theorem m_RW_closeFrame {l : Launch} {G : am_G} {h : am_H} {k bT c bM kp cp : Nat} {T : pt_S} {S : pm_S} {out : List Int} {fc dc z : Int} (w : rw_W h k bT c bM kp cp T S out fc dc) (hz : -1 ≤ z ∧ z < 10000) : am_M l G M_RW_closeFrame [.ref k, am_n z] h (rw_P h k bT c bM kp cp T S (out ++ w_close z) fc dc) := by
  refine am_M.of (by decide) (Nat.le_of_ble_eq_true rfl) (fun X hB hR => ?_)
  show am_Z X 0 [.ref k, am_n z] [] h 0 0
  have tl : ∀ (h1 : am_H) (o1 : List Int), rw_W h1 k bT c bM kp cp T S o1 fc dc → am_fr [kp, cp] h h1 → o1 ++ sp_wd 12 = out ++ w_close z → am_Z X 22 [.ref k, am_n z] [] h1 0 0 := by
    intro h1 o1 w1 f1 ho
    obtain ⟨_, _, _, x1, -⟩ := w1.2.2.2.1
    refine am_aload_n hB d_RW_closeFrame_22 rfl rfl rfl ?_
    refine am_getf hB d_RW_closeFrame_23 F_RW_19_6 w1.1 rfl ?_
    refine am_ldcS hB d_RW_closeFrame_26 (List.mem_of_getElem? (i := 16) rfl) ?_
    refine am_callV hB hR (as := [.retAddr 12]) x1 (m_TX_addWord w1.2.2.2.1 (by decide)) c_RW_175 rfl rfl d_RW_closeFrame_28 ⟨by decide, Nat.le_of_ble_eq_true rfl⟩ ⟨by decide, by decide⟩ rfl rfl (fun rr hh hp => ?_)
    obtain ⟨rfl, a2, f2⟩ := hp
    show am_Z X 31 [.ref k, am_n z] [] hh 0 0
    refine am_vret hB hR d_RW_closeFrame_31 rfl ?_ (Nat.zero_le _) (Nat.zero_le _)
    rw [ho] at a2
    exact ⟨rfl, w1.txt a2 f2, (f1.tr f2).two⟩
  refine am_iload_n hB d_RW_closeFrame_0 rfl rfl ?_
  refine ai_const hB d_RW_closeFrame_1 ?_
  refine ai_jeq (tgt := 22) hB d_RW_closeFrame_2 (by decide) (fun c1 => ?_) (fun c1 => ?_)
  · refine tl h out w am_fr.rf ?_
    unfold w_close
    rw [if_pos c1]
    rfl
  obtain ⟨_, _, _, x1, -⟩ := w.2.2.2.1
  refine am_aload_n hB d_RW_closeFrame_5 rfl rfl rfl ?_
  refine am_getf hB d_RW_closeFrame_6 F_RW_19_6 w.1 rfl ?_
  refine ai_bipush hB d_RW_closeFrame_9 (by decide) ?_
  refine am_callV hB hR (as := [am_n 58]) x1 (m_TX_add w.2.2.2.1 (by omega) (by omega)) c_RW_210 rfl rfl d_RW_closeFrame_11 ⟨by decide, Nat.le_of_ble_eq_true rfl⟩ ⟨by decide, by decide⟩ rfl rfl (fun rr hh hp => ?_)
  obtain ⟨rfl, a1, f1⟩ := hp
  have w1 := w.txt a1 f1
  obtain ⟨_, _, _, x2, -⟩ := a1
  show am_Z X 14 [.ref k, am_n z] [] hh 0 0
  refine am_aload_n hB d_RW_closeFrame_14 rfl rfl rfl ?_
  refine am_getf hB d_RW_closeFrame_15 F_RW_19_6 w1.1 rfl ?_
  refine am_iload_n hB d_RW_closeFrame_18 rfl rfl ?_
  refine am_callV hB hR (as := [am_n z]) x2 (m_TX_addNumber w1.2.2.2.1 (by omega) (by omega)) c_RW_219 rfl rfl d_RW_closeFrame_19 ⟨by decide, Nat.le_of_ble_eq_true rfl⟩ ⟨by decide, by decide⟩ rfl rfl (fun rr hh hp => ?_)
  obtain ⟨rfl, a2, f2⟩ := hp
  have w2 := w1.txt a2 f2
  show am_Z X 22 [.ref k, am_n z] [] hh 0 0
  refine tl hh _ w2 (f1.tr f2) ?_
  unfold w_close
  rw [if_neg c1]
  simp only [List.append_assoc, List.cons_append, List.nil_append]
theorem m_RW_writeUnchanged {l : Launch} {G : am_G} {h : am_H} {k bT c bM kp cp z : Nat} {T : pt_S} {S : pm_S} {out : List Int} {fc dc : Int} {f : pt_F} (w : rw_W h k bT c bM kp cp T S out fc dc) (hf : am_fs [k, kp, cp] h z f) (hfc : fc < 10000) : am_M l G M_RW_writeUnchanged [.ref k, .ref z] h (rw_P h k bT c bM kp cp T S (out ++ w_same f) (fc + 1) dc) := by
  obtain ⟨o, m, p, hb, hf⟩ := hf
  refine am_M.of (by decide) (Nat.le_of_ble_eq_true rfl) (fun X hB hR => ?_)
  show am_Z X 0 [.ref k, .ref z] [] h 0 0
  have r0 := (hf h am_fr.rf).1
  refine am_aload_n hB d_RW_writeUnchanged_0 rfl rfl rfl ?_
  refine am_aload_n hB d_RW_writeUnchanged_1 rfl rfl rfl ?_
  refine am_getf hB d_RW_writeUnchanged_2 F_RW_72_2 r0 rfl ?_
  refine am_aload_n hB d_RW_writeUnchanged_5 rfl rfl rfl ?_
  refine am_getf hB d_RW_writeUnchanged_6 F_RW_80_2 r0 rfl ?_
  refine am_callV hB hR (as := [.ref o, .ref m]) w.1 (m_RW_openFrame w (fun h' f' => (hf h' f').2.1) (fun h' f' => (hf h' f').2.2.1) hfc) c_RW_131 rfl rfl d_RW_writeUnchanged_9 ⟨by decide, Nat.le_of_ble_eq_true rfl⟩ ⟨by decide, by decide⟩ rfl rfl (fun rr hh hp => ?_)
  obtain ⟨rfl, w1, f1⟩ := hp
  have r1 := (hf _ f1).1
  show am_Z X 12 [.ref k, .ref z] [] hh 0 0
  obtain ⟨_, _, _, x1, -⟩ := w1.2.2.2.1
  refine am_aload_n hB d_RW_writeUnchanged_12 rfl rfl rfl ?_
  refine am_getf hB d_RW_writeUnchanged_13 F_RW_19_6 w1.1 rfl ?_
  refine am_aload_n hB d_RW_writeUnchanged_16 rfl rfl rfl ?_
  refine am_getf hB d_RW_writeUnchanged_17 F_RW_224_2 r1 rfl ?_
  refine am_callV hB hR (as := [.ref p]) x1 (mn_addSlice w1.2.2.2.1 (hf _ f1).2.2.2) c_RW_198 rfl rfl d_RW_writeUnchanged_20 ⟨by decide, Nat.le_of_ble_eq_true rfl⟩ ⟨by decide, by decide⟩ rfl rfl (fun rr hh hp => ?_)
  obtain ⟨rfl, a2, f2⟩ := hp
  have w2 := w1.txt a2 f2
  have r2 := (hf _ (f1.tr f2.two)).1
  show am_Z X 23 [.ref k, .ref z] [] hh 0 0
  refine am_aload_n hB d_RW_writeUnchanged_23 rfl rfl rfl ?_
  refine am_aload_n hB d_RW_writeUnchanged_24 rfl rfl rfl ?_
  refine am_getf hB d_RW_writeUnchanged_25 F_RW_83_2 r2 rfl ?_
  refine am_callV hB hR (as := [am_n f.2.2]) w2.1 (m_RW_closeFrame w2 hb) c_RW_144 rfl rfl d_RW_writeUnchanged_28 ⟨by decide, Nat.le_of_ble_eq_true rfl⟩ ⟨by decide, by decide⟩ rfl rfl (fun rr hh hp => ?_)
  obtain ⟨rfl, w3, f3⟩ := hp
  show am_Z X 31 [.ref k, .ref z] [] hh 0 0
  refine am_vret hB hR d_RW_writeUnchanged_31 rfl ?_ (Nat.zero_le _) (Nat.zero_le _)
  refine ⟨rfl, ?_, (f1.tr f2.two).tr f3⟩
  unfold w_same
  simp only [List.append_assoc] at w3 ⊢
  exact w3
theorem m_RW_writeReal {l : Launch} {G : am_G} {h : am_H} {k bT c bM kp cp z z1 z2 : Nat} {T : pt_S} {S : pm_S} {out n1 n2 : List Int} {fc dc : Int} {f : pt_F} (w : rw_W h k bT c bM kp cp T S out fc dc) (s1 : am_ss [k, kp, cp] h z1 n1) (s2 : am_ss [k, kp, cp] h z2 n2) (hf : am_fs [k, kp, cp] h z f) (hfc : fc < 10000) : am_M l G M_RW_writeReal [.ref k, .ref z1, .ref z2, .ref z] h (rw_P h k bT c bM kp cp T S (out ++ w_real n1 n2 f) (fc + 1) dc) := by
  obtain ⟨o, m, p, hb, hf⟩ := hf
  refine am_M.of (by decide) (Nat.le_of_ble_eq_true rfl) (fun X hB hR => ?_)
  show am_Z X 0 [.ref k, .ref z1, .ref z2, .ref z] [] h 0 0
  have tl : ∀ (h1 : am_H) (o1 : List Int), rw_W h1 k bT c bM kp cp T S o1 (fc + 1) dc → am_fr [k, kp, cp] h h1 → o1 ++ w_close f.2.2 = out ++ w_real n1 n2 f → am_Z X 35 [.ref k, .ref z1, .ref z2, .ref z] [] h1 0 0 := by
    intro h1 o1 w1 f1 ho
    have r2 := (hf _ f1).1
    refine am_aload_n hB d_RW_writeReal_35 rfl rfl rfl ?_
    refine am_aload_n hB d_RW_writeReal_36 rfl rfl rfl ?_
    refine am_getf hB d_RW_writeReal_37 F_RW_83_2 r2 rfl ?_
    refine am_callV hB hR (as := [am_n f.2.2]) w1.1 (m_RW_closeFrame w1 hb) c_RW_144 rfl rfl d_RW_writeReal_40 ⟨by decide, Nat.le_of_ble_eq_true rfl⟩ ⟨by decide, by decide⟩ rfl rfl (fun rr hh hp => ?_)
    obtain ⟨rfl, w3, f3⟩ := hp
    show am_Z X 43 [.ref k, .ref z1, .ref z2, .ref z] [] hh 0 0
    refine am_vret hB hR d_RW_writeReal_43 rfl ?_ (Nat.zero_le _) (Nat.zero_le _)
    rw [ho] at w3
    exact ⟨rfl, w3, f1.tr f3⟩
  refine am_aload_n hB d_RW_writeReal_0 rfl rfl rfl ?_
  refine am_aload_n hB d_RW_writeReal_1 rfl rfl rfl ?_
  refine am_aload_n hB d_RW_writeReal_2 rfl rfl rfl ?_
  refine am_callV hB hR (as := [.ref z1, .ref z2]) w.1 (m_RW_openFrame w s1 s2 hfc) c_RW_131 rfl rfl d_RW_writeReal_3 ⟨by decide, Nat.le_of_ble_eq_true rfl⟩ ⟨by decide, by decide⟩ rfl rfl (fun rr hh hp => ?_)
  obtain ⟨rfl, w1, f1⟩ := hp
  have r1 := (hf _ f1).1
  show am_Z X 6 [.ref k, .ref z1, .ref z2, .ref z] [] hh 0 0
  obtain ⟨_, _, _, x1, -⟩ := w1.2.2.2.1
  refine am_aload_n hB d_RW_writeReal_6 rfl rfl rfl ?_
  refine am_getf hB d_RW_writeReal_7 F_RW_227_2 r1 rfl ?_
  cases hhf : f.2.1 with
  | true =>
    show am_Z X 10 [.ref k, .ref z1, .ref z2, .ref z] [am_n 1] hh 0 0
    refine ai_zeq (tgt := 24) hB d_RW_writeReal_10 (by decide) (fun c1 => ?_) (fun c1 => ?_)
    · omega
    refine am_aload_n hB d_RW_writeReal_13 rfl rfl rfl ?_
    refine am_getf hB d_RW_writeReal_14 F_RW_19_6 w1.1 rfl ?_
    refine am_aload_n hB d_RW_writeReal_17 rfl rfl rfl ?_
    refine am_callV hB hR (as := [.ref z1]) x1 (mn_addFileOf w1.2.2.2.1 (s1 _ f1)) c_RW_135 rfl rfl d_RW_writeReal_18 ⟨by decide, Nat.le_of_ble_eq_true rfl⟩ ⟨by decide, by decide⟩ rfl rfl (fun rr hh hp => ?_)
    obtain ⟨rfl, a2, f2⟩ := hp
    have w2 := w1.txt a2 f2
    show am_Z X 21 [.ref k, .ref z1, .ref z2, .ref z] [] hh 0 0
    refine am_goto (tgt := 35) hB d_RW_writeReal_21 (by decide) ?_
    refine tl _ _ w2 (f1.tr f2.two) ?_
    unfold w_real
    rw [hhf, if_pos rfl]
    simp only [List.append_assoc]
  | false =>
    show am_Z X 10 [.ref k, .ref z1, .ref z2, .ref z] [am_n 0] hh 0 0
    refine ai_zeq (tgt := 24) hB d_RW_writeReal_10 (by decide) (fun c1 => ?_) (fun c1 => ?_)
    · refine am_aload_n hB d_RW_writeReal_24 rfl rfl rfl ?_
      refine am_getf hB d_RW_writeReal_25 F_RW_19_6 w1.1 rfl ?_
      refine am_aload_n hB d_RW_writeReal_28 rfl rfl rfl ?_
      refine am_getf hB d_RW_writeReal_29 F_RW_224_2 r1 rfl ?_
      refine am_callV hB hR (as := [.ref p]) x1 (mn_addSlice w1.2.2.2.1 (hf _ f1).2.2.2) c_RW_198 rfl rfl d_RW_writeReal_32 ⟨by decide, Nat.le_of_ble_eq_true rfl⟩ ⟨by decide, by decide⟩ rfl rfl (fun rr hh hp => ?_)
      obtain ⟨rfl, a2, f2⟩ := hp
      have w2 := w1.txt a2 f2
      show am_Z X 35 [.ref k, .ref z1, .ref z2, .ref z] [] hh 0 0
      refine tl _ _ w2 (f1.tr f2.two) ?_
      unfold w_real
      rw [hhf, if_neg (by decide)]
      simp only [List.append_assoc]
    · omega
theorem m_RW_writeShort {l : Launch} {G : am_G} {h : am_H} {k bT c bM kp cp z z1 z2 : Nat} {T : pt_S} {S : pm_S} {out n1 n2 : List Int} {fc dc : Int} {f : pt_F} (w : rw_W h k bT c bM kp cp T S out fc dc) (s1 : am_ss [k, kp, cp] h z1 n1) (s2 : am_ss [k, kp, cp] h z2 n2) (hf : am_fs [k, kp, cp] h z f) (hfc : fc < 10000) : am_M l G M_RW_writeShort [.ref k, .ref z1, .ref z2, .ref z] h (rw_P h k bT c bM kp cp T S (out ++ w_short n1 n2 f) (fc + 1) dc) := by
  obtain ⟨o, m, p, hb, hf⟩ := hf
  refine am_M.of (by decide) (Nat.le_of_ble_eq_true rfl) (fun X hB hR => ?_)
  show am_Z X 0 [.ref k, .ref z1, .ref z2, .ref z] [] h 0 0
  have tl : ∀ (h1 : am_H) (o1 : List Int), rw_W h1 k bT c bM kp cp T S o1 (fc + 1) dc → am_fr [k, kp, cp] h h1 → o1 ++ w_close f.2.2 = out ++ w_short n1 n2 f → am_Z X 36 [.ref k, .ref z1, .ref z2, .ref z] [] h1 0 0 := by
    intro h1 o1 w1 f1 ho
    have r2 := (hf _ f1).1
    refine am_aload_n hB d_RW_writeShort_36 rfl rfl rfl ?_
    refine am_aload_n hB d_RW_writeShort_37 rfl rfl rfl ?_
    refine am_getf hB d_RW_writeShort_38 F_RW_83_2 r2 rfl ?_
    refine am_callV hB hR (as := [am_n f.2.2]) w1.1 (m_RW_closeFrame w1 hb) c_RW_144 rfl rfl d_RW_writeShort_41 ⟨by decide, Nat.le_of_ble_eq_true rfl⟩ ⟨by decide, by decide⟩ rfl rfl (fun rr hh hp => ?_)
    obtain ⟨rfl, w3, f3⟩ := hp
    show am_Z X 44 [.ref k, .ref z1, .ref z2, .ref z] [] hh 0 0
    refine am_vret hB hR d_RW_writeShort_44 rfl ?_ (Nat.zero_le _) (Nat.zero_le _)
    rw [ho] at w3
    exact ⟨rfl, w3, f1.tr f3⟩
  refine am_aload_n hB d_RW_writeShort_0 rfl rfl rfl ?_
  refine am_aload_n hB d_RW_writeShort_1 rfl rfl rfl ?_
  refine am_aload_n hB d_RW_writeShort_2 rfl rfl rfl ?_
  refine am_callV hB hR (as := [.ref z1, .ref z2]) w.1 (m_RW_openFrame w s1 s2 hfc) c_RW_131 rfl rfl d_RW_writeShort_3 ⟨by decide, Nat.le_of_ble_eq_true rfl⟩ ⟨by decide, by decide⟩ rfl rfl (fun rr hh hp => ?_)
  obtain ⟨rfl, w1, f1⟩ := hp
  have r1 := (hf _ f1).1
  show am_Z X 6 [.ref k, .ref z1, .ref z2, .ref z] [] hh 0 0
  obtain ⟨_, _, _, x1, -⟩ := w1.2.2.2.1
  refine am_aload_n hB d_RW_writeShort_6 rfl rfl rfl ?_
  refine am_getf hB d_RW_writeShort_7 F_RW_227_2 r1 rfl ?_
  cases hhf : f.2.1 with
  | true =>
    show am_Z X 10 [.ref k, .ref z1, .ref z2, .ref z] [am_n 1] hh 0 0
    refine ai_zeq (tgt := 25) hB d_RW_writeShort_10 (by decide) (fun c1 => ?_) (fun c1 => ?_)
    · omega
    refine am_aload_n hB d_RW_writeShort_13 rfl rfl rfl ?_
    refine am_getf hB d_RW_writeShort_14 F_RW_19_6 w1.1 rfl ?_
    refine am_ldcS hB d_RW_writeShort_17 (List.mem_of_getElem? (i := 20) rfl) ?_
    refine am_callV hB hR (as := [.retAddr 14]) x1 (m_TX_addWord w1.2.2.2.1 (by decide)) c_RW_175 rfl rfl d_RW_writeShort_19 ⟨by decide, Nat.le_of_ble_eq_true rfl⟩ ⟨by decide, by decide⟩ rfl rfl (fun rr hh hp => ?_)
    obtain ⟨rfl, a2, f2⟩ := hp
    have w2 := w1.txt a2 f2
    show am_Z X 22 [.ref k, .ref z1, .ref z2, .ref z] [] hh 0 0
    refine am_goto (tgt := 36) hB d_RW_writeShort_22 (by decide) ?_
    refine tl _ _ w2 (f1.tr f2.two) ?_
    unfold w_short
    rw [hhf, if_pos rfl]
    simp only [List.append_assoc]
  | false =>
    show am_Z X 10 [.ref k, .ref z1, .ref z2, .ref z] [am_n 0] hh 0 0
    refine ai_zeq (tgt := 25) hB d_RW_writeShort_10 (by decide) (fun c1 => ?_) (fun c1 => ?_)
    · refine am_aload_n hB d_RW_writeShort_25 rfl rfl rfl ?_
      refine am_getf hB d_RW_writeShort_26 F_RW_19_6 w1.1 rfl ?_
      refine am_aload_n hB d_RW_writeShort_29 rfl rfl rfl ?_
      refine am_getf hB d_RW_writeShort_30 F_RW_224_2 r1 rfl ?_
      refine am_callV hB hR (as := [.ref p]) x1 (mn_addSlice w1.2.2.2.1 (hf _ f1).2.2.2) c_RW_198 rfl rfl d_RW_writeShort_33 ⟨by decide, Nat.le_of_ble_eq_true rfl⟩ ⟨by decide, by decide⟩ rfl rfl (fun rr hh hp => ?_)
      obtain ⟨rfl, a2, f2⟩ := hp
      have w2 := w1.txt a2 f2
      show am_Z X 36 [.ref k, .ref z1, .ref z2, .ref z] [] hh 0 0
      refine tl _ _ w2 (f1.tr f2.two) ?_
      unfold w_short
      rw [hhf, if_neg (by decide)]
      simp only [List.append_assoc]
    · omega
theorem m_RW_writeMore {l : Launch} {G : am_G} {h : am_H} {k bT c bM kp cp z : Nat} {T : pt_S} {S : pm_S} {out : List Int} {fc dc : Int} {x : pt_H} (w : rw_W h k bT c bM kp cp T S out fc dc) (hx : am_hs [k, kp, cp] h z x) : am_M l G M_RW_writeMore [.ref k, .ref z] h (rw_P h k bT c bM kp cp T S (out ++ w_more x) fc dc) := by
  obtain ⟨ty, me, hb, hx⟩ := hx
  refine am_M.of (by decide) (Nat.le_of_ble_eq_true rfl) (fun X hB hR => ?_)
  show am_Z X 0 [.ref k, .ref z] [] h 0 0
  have r0 := (hx h am_fr.rf).1
  refine am_aload_n hB d_RW_writeMore_0 rfl rfl rfl ?_
  refine am_getf hB d_RW_writeMore_1 F_RW_214_3 r0 rfl ?_
  refine ai_const hB d_RW_writeMore_4 ?_
  refine ai_jeq (tgt := 46) hB d_RW_writeMore_5 (by decide) (fun c1 => ?_) (fun c1 => ?_)
  · refine am_vret hB hR d_RW_writeMore_46 rfl ?_ (Nat.zero_le _) (Nat.zero_le _)
    refine ⟨rfl, ?_, am_fr.rf⟩
    unfold w_more
    rw [if_pos c1, List.append_nil]
    exact w
  obtain ⟨_, _, _, x1, -⟩ := w.2.2.2.1
  refine am_aload_n hB d_RW_writeMore_8 rfl rfl rfl ?_
  refine am_getf hB d_RW_writeMore_9 F_RW_19_6 w.1 rfl ?_
  refine am_ldcS hB d_RW_writeMore_12 (List.mem_of_getElem? (i := 18) rfl) ?_
  refine am_callV hB hR (as := [.retAddr 6]) x1 (m_TX_addWord w.2.2.2.1 (by decide)) c_RW_175 rfl rfl d_RW_writeMore_14 ⟨by decide, Nat.le_of_ble_eq_true rfl⟩ ⟨by decide, by decide⟩ rfl rfl (fun rr hh hp => ?_)
  obtain ⟨rfl, a1, f1⟩ := hp
  have w1 := w.txt a1 f1
  obtain ⟨_, _, _, x2, -⟩ := a1
  have r1 := (hx _ f1.two).1
  show am_Z X 17 [.ref k, .ref z] [] hh 0 0
  refine am_aload_n hB d_RW_writeMore_17 rfl rfl rfl ?_
  refine am_getf hB d_RW_writeMore_18 F_RW_19_6 w1.1 rfl ?_
  refine am_aload_n hB d_RW_writeMore_21 rfl rfl rfl ?_
  refine am_getf hB d_RW_writeMore_22 F_RW_214_3 r1 rfl ?_
  refine am_callV hB hR (as := [am_n x.2.1]) x2 (m_TX_addNumber w1.2.2.2.1 (by omega) (by omega)) c_RW_219 rfl rfl d_RW_writeMore_25 ⟨by decide, Nat.le_of_ble_eq_true rfl⟩ ⟨by decide, by decide⟩ rfl rfl (fun rr hh hp => ?_)
  obtain ⟨rfl, a2, f2⟩ := hp
  have w2 := w1.txt a2 f2
  obtain ⟨_, _, _, x3, -⟩ := a2
  show am_Z X 28 [.ref k, .ref z] [] hh 0 0
  refine am_aload_n hB d_RW_writeMore_28 rfl rfl rfl ?_
  refine am_getf hB d_RW_writeMore_29 F_RW_19_6 w2.1 rfl ?_
  refine am_ldcS hB d_RW_writeMore_32 (List.mem_of_getElem? (i := 19) rfl) ?_
  refine am_callV hB hR (as := [.retAddr 7]) x3 (m_TX_addWord w2.2.2.2.1 (by decide)) c_RW_175 rfl rfl d_RW_writeMore_34 ⟨by decide, Nat.le_of_ble_eq_true rfl⟩ ⟨by decide, by decide⟩ rfl rfl (fun rr hh hp => ?_)
  obtain ⟨rfl, a3, f3⟩ := hp
  have w3 := w2.txt a3 f3
  obtain ⟨_, _, _, x4, -⟩ := a3
  show am_Z X 37 [.ref k, .ref z] [] hh 0 0
  refine am_aload_n hB d_RW_writeMore_37 rfl rfl rfl ?_
  refine am_getf hB d_RW_writeMore_38 F_RW_19_6 w3.1 rfl ?_
  refine ai_bipush hB d_RW_writeMore_41 (by decide) ?_
  refine am_callV hB hR (as := [am_n 10]) x4 (m_TX_add w3.2.2.2.1 (by omega) (by omega)) c_RW_210 rfl rfl d_RW_writeMore_43 ⟨by decide, Nat.le_of_ble_eq_true rfl⟩ ⟨by decide, by decide⟩ rfl rfl (fun rr hh hp => ?_)
  obtain ⟨rfl, a4, f4⟩ := hp
  have w4 := w3.txt a4 f4
  show am_Z X 46 [.ref k, .ref z] [] hh 0 0
  refine am_vret hB hR d_RW_writeMore_46 rfl ?_ (Nat.zero_le _) (Nat.zero_le _)
  refine ⟨rfl, ?_, (((f1.tr f2).tr f3).tr f4).two⟩
  unfold w_more
  rw [if_neg c1]
  simp only [List.append_assoc] at w4 ⊢
  exact w4
