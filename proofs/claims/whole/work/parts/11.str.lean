abbrev M_S_length : am_D := (({ cls := "java/lang/String", name := "length", desc := "()I" } : Jvm.MethodName), prog_21_method_54_code, 1, some .int, { frames := 1, cells := 0, slots := 0, locals := 30 })
abbrev M_S_coder : am_D := (({ cls := "java/lang/String", name := "coder", desc := "()B" } : Jvm.MethodName), prog_21_method_152_code, 1, some .byte, { frames := 0, cells := 0, slots := 0, locals := 0 })
abbrev M_S_isLatin1 : am_D := (({ cls := "java/lang/String", name := "isLatin1", desc := "()Z" } : Jvm.MethodName), prog_21_method_154_code, 1, some .boolean, { frames := 0, cells := 0, slots := 0, locals := 0 })
abbrev M_S_charAt : am_D := (({ cls := "java/lang/String", name := "charAt", desc := "(I)C" } : Jvm.MethodName), prog_21_method_56_code, 2, some .char, { frames := 3, cells := 0, slots := 0, locals := 90 })
abbrev M_L1_charAt : am_D := (({ cls := "java/lang/StringLatin1", name := "charAt", desc := "([BI)C" } : Jvm.MethodName), prog_22_method_2_code, 2, some .char, { frames := 2, cells := 0, slots := 0, locals := 60 })
abbrev M_S_checkIndex : am_D := (({ cls := "java/lang/String", name := "checkIndex", desc := "(II)V" } : Jvm.MethodName), prog_21_method_155_code, 2, none, { frames := 1, cells := 0, slots := 0, locals := 30 })
abbrev M_P_checkIndex : am_D := (({ cls := "jdk/internal/util/Preconditions", name := "checkIndex", desc := "(IILjava/util/function/BiFunction;)I" } : Jvm.MethodName), prog_27_method_11_code, 3, some .int, { frames := 0, cells := 0, slots := 0, locals := 0 })
theorem d_S_length_0 : decode prog_21_method_54_code 0 = .ok (.aload_n 0, 1) := by decide +kernel
theorem d_S_length_1 : decode prog_21_method_54_code 1 = .ok (.getfield 9, 3) := by decide +kernel
theorem d_S_length_4 : decode prog_21_method_54_code 4 = .ok (.arraylength, 1) := by decide +kernel
theorem d_S_length_5 : decode prog_21_method_54_code 5 = .ok (.aload_n 0, 1) := by decide +kernel
theorem d_S_length_6 : decode prog_21_method_54_code 6 = .ok (.invokevirtual 335, 3) := by decide +kernel
theorem d_S_length_9 : decode prog_21_method_54_code 9 = .ok (.ishr, 1) := by decide +kernel
theorem d_S_length_10 : decode prog_21_method_54_code 10 = .ok (.ireturn, 1) := by decide +kernel
theorem d_S_coder_0 : decode prog_21_method_152_code 0 = .ok (.getstatic 38, 3) := by decide +kernel
theorem d_S_coder_3 : decode prog_21_method_152_code 3 = .ok (.ifCond .eq 10, 3) := by decide +kernel
theorem d_S_coder_6 : decode prog_21_method_152_code 6 = .ok (.aload_n 0, 1) := by decide +kernel
theorem d_S_coder_7 : decode prog_21_method_152_code 7 = .ok (.getfield 15, 3) := by decide +kernel
theorem d_S_coder_10 : decode prog_21_method_152_code 10 = .ok (.goto 4, 3) := by decide +kernel
theorem d_S_coder_14 : decode prog_21_method_152_code 14 = .ok (.ireturn, 1) := by decide +kernel
theorem d_S_isLatin1_0 : decode prog_21_method_154_code 0 = .ok (.getstatic 38, 3) := by decide +kernel
theorem d_S_isLatin1_3 : decode prog_21_method_154_code 3 = .ok (.ifCond .eq 14, 3) := by decide +kernel
theorem d_S_isLatin1_6 : decode prog_21_method_154_code 6 = .ok (.aload_n 0, 1) := by decide +kernel
theorem d_S_isLatin1_7 : decode prog_21_method_154_code 7 = .ok (.getfield 15, 3) := by decide +kernel
theorem d_S_isLatin1_10 : decode prog_21_method_154_code 10 = .ok (.ifCond .ne 7, 3) := by decide +kernel
theorem d_S_isLatin1_13 : decode prog_21_method_154_code 13 = .ok (.iconst 1, 1) := by decide +kernel
theorem d_S_isLatin1_14 : decode prog_21_method_154_code 14 = .ok (.goto 4, 3) := by decide +kernel
theorem d_S_isLatin1_18 : decode prog_21_method_154_code 18 = .ok (.ireturn, 1) := by decide +kernel
theorem d_S_charAt_0 : decode prog_21_method_56_code 0 = .ok (.aload_n 0, 1) := by decide +kernel
theorem d_S_charAt_1 : decode prog_21_method_56_code 1 = .ok (.invokevirtual 492, 3) := by decide +kernel
theorem d_S_charAt_4 : decode prog_21_method_56_code 4 = .ok (.ifCond .eq 12, 3) := by decide +kernel
theorem d_S_charAt_7 : decode prog_21_method_56_code 7 = .ok (.aload_n 0, 1) := by decide +kernel
theorem d_S_charAt_8 : decode prog_21_method_56_code 8 = .ok (.getfield 9, 3) := by decide +kernel
theorem d_S_charAt_11 : decode prog_21_method_56_code 11 = .ok (.iload_n 1, 1) := by decide +kernel
theorem d_S_charAt_12 : decode prog_21_method_56_code 12 = .ok (.invokestatic 495, 3) := by decide +kernel
theorem d_S_charAt_15 : decode prog_21_method_56_code 15 = .ok (.ireturn, 1) := by decide +kernel
theorem d_L1_charAt_0 : decode prog_22_method_2_code 0 = .ok (.iload_n 1, 1) := by decide +kernel
theorem d_L1_charAt_1 : decode prog_22_method_2_code 1 = .ok (.aload_n 0, 1) := by decide +kernel
theorem d_L1_charAt_2 : decode prog_22_method_2_code 2 = .ok (.arraylength, 1) := by decide +kernel
theorem d_L1_charAt_3 : decode prog_22_method_2_code 3 = .ok (.invokestatic 9, 3) := by decide +kernel
theorem d_L1_charAt_6 : decode prog_22_method_2_code 6 = .ok (.aload_n 0, 1) := by decide +kernel
theorem d_L1_charAt_7 : decode prog_22_method_2_code 7 = .ok (.iload_n 1, 1) := by decide +kernel
theorem d_L1_charAt_8 : decode prog_22_method_2_code 8 = .ok (.baload, 1) := by decide +kernel
theorem d_L1_charAt_9 : decode prog_22_method_2_code 9 = .ok (.sipush 255, 3) := by decide +kernel
theorem d_L1_charAt_12 : decode prog_22_method_2_code 12 = .ok (.iand, 1) := by decide +kernel
theorem d_L1_charAt_13 : decode prog_22_method_2_code 13 = .ok (.i2c, 1) := by decide +kernel
theorem d_L1_charAt_14 : decode prog_22_method_2_code 14 = .ok (.ireturn, 1) := by decide +kernel
theorem d_S_checkIndex_0 : decode prog_21_method_155_code 0 = .ok (.iload_n 0, 1) := by decide +kernel
theorem d_S_checkIndex_1 : decode prog_21_method_155_code 1 = .ok (.iload_n 1, 1) := by decide +kernel
theorem d_S_checkIndex_2 : decode prog_21_method_155_code 2 = .ok (.getstatic 1053, 3) := by decide +kernel
theorem d_S_checkIndex_5 : decode prog_21_method_155_code 5 = .ok (.invokestatic 1059, 3) := by decide +kernel
theorem d_S_checkIndex_8 : decode prog_21_method_155_code 8 = .ok (.pop, 1) := by decide +kernel
theorem d_S_checkIndex_9 : decode prog_21_method_155_code 9 = .ok (.return_, 1) := by decide +kernel
theorem d_P_checkIndex_0 : decode prog_27_method_11_code 0 = .ok (.iload_n 0, 1) := by decide +kernel
theorem d_P_checkIndex_1 : decode prog_27_method_11_code 1 = .ok (.ifCond .lt 8, 3) := by decide +kernel
theorem d_P_checkIndex_4 : decode prog_27_method_11_code 4 = .ok (.iload_n 0, 1) := by decide +kernel
theorem d_P_checkIndex_5 : decode prog_27_method_11_code 5 = .ok (.iload_n 1, 1) := by decide +kernel
theorem d_P_checkIndex_6 : decode prog_27_method_11_code 6 = .ok (.if_icmp .lt 10, 3) := by decide +kernel
theorem d_P_checkIndex_16 : decode prog_27_method_11_code 16 = .ok (.iload_n 0, 1) := by decide +kernel
theorem d_P_checkIndex_17 : decode prog_27_method_11_code 17 = .ok (.ireturn, 1) := by decide +kernel
section AmStr
variable {X : am_C} {own : String} {cc : ByteArray} {pc : Nat} {L st st0 : List Value} {h : am_H} {cs sl cs' sl' : Nat} {l : Launch} {G : am_G} {M M0 : am_D} {P0 P : am_Y} {as : List Value}
theorem am_sgetV (hB : am_B X "java/lang/String" cc) {k : Nat} (hk : k < 15) (hdg : decode cc pc = .ok (.getfield 9, 3)) (kk : am_Z X (pc + 3) L (.retAddr (15 + k) :: st) h cs sl) : am_Z X pc L (.retAddr k :: st) h cs sl := by
  obtain ⟨p, l, e, R, s, m, args, below, meth, c, Q, G, ad0, nL⟩ := X
  obtain ⟨hx, hb, hml, ho, hts, hK, hfl, hG⟩ := hB
  intro H locs ad ls st' a1 a2 a3 a4 a5
  obtain ⟨_, _, rfl, rfl, a5⟩ := a5
  exact vk_getf hx hb (hG.2.1.1 k hk).2.2.1 a3 ho (hts _ tb_1511) (fun _ q => q) hdg (kk H locs ad ls _ a1 a2 a3 a4 ⟨_, _, rfl, rfl, a5⟩)
theorem am_sgetC (hB : am_B X "java/lang/String" cc) {k : Nat} (hk : k < 15) (hdg : decode cc pc = .ok (.getfield 15, 3)) (kk : am_Z X (pc + 3) L (am_n 0 :: st) h cs sl) : am_Z X pc L (.retAddr k :: st) h cs sl := by
  obtain ⟨p, l, e, R, s, m, args, below, meth, c, Q, G, ad0, nL⟩ := X
  obtain ⟨hx, hb, hml, ho, hts, hK, hfl, hG⟩ := hB
  intro H locs ad ls st' a1 a2 a3 a4 a5
  obtain ⟨_, _, rfl, rfl, a5⟩ := a5
  exact vk_getf hx hb (hG.2.1.1 k hk).2.1 a3 ho (hts _ tb_1512) (fun _ q => q) hdg (kk H locs ad ls _ a1 a2 a3 a4 ⟨_, _, rfl, rfl, a5⟩)
theorem am_scomp (hB : am_B X "java/lang/String" cc) (hdg : decode cc pc = .ok (.getstatic 38, 3)) (kk : am_Z X (pc + 3) L (am_n 1 :: st) h cs sl) : am_Z X pc L st h cs sl := by
  obtain ⟨p, l, e, R, s, m, args, below, meth, c, Q, G, ad0, nL⟩ := X
  obtain ⟨hx, hb, hml, ho, hts, hK, hfl, hG⟩ := hB
  intro H locs ad ls st' a1 a2 a3 a4 a5
  exact va_gets hx hb hG.2.2.1 a3 ho (hts _ tb_466) (fun _ q => q) hdg (kk H locs ad ls _ a1 a2 a3 a4 ⟨_, _, rfl, rfl, a5⟩)
theorem am_sform (hB : am_B X "java/lang/String" cc) (hdg : decode cc pc = .ok (.getstatic 1053, 3)) (k1 : am_Z X (pc + 3) L (.null :: st) h cs sl) (k2 : am_Z X (pc + 3) L (.double 1 :: st) h cs sl) : am_Z X pc L st h cs sl := by
  obtain ⟨p, l, e, R, s, m, args, below, meth, c, Q, G, ad0, nL⟩ := X
  obtain ⟨hx, hb, hml, ho, hts, hK, hfl, hG⟩ := hB
  intro H locs ad ls st' a1 a2 a3 a4 a5
  rcases hG.2.2.2.1 with hz | ⟨t, hz⟩
  · exact va_gets hx hb hz a3 ho (hts _ tb_482) (fun _ q => q) hdg (k1 H locs ad ls _ a1 a2 a3 a4 ⟨_, _, rfl, rfl, a5⟩)
  · exact va_gets hx hb hz a3 ho (hts _ tb_482) (fun _ q => q) hdg (k2 H locs ad ls _ a1 a2 a3 a4 ⟨_, _, rfl, ⟨t, rfl⟩, a5⟩)
theorem am_slen (hB : am_B X own cc) {k : Nat} (hk : k < 15) (hdg : decode cc pc = .ok (.arraylength, 1)) (kk : am_Z X (pc + 1) L (am_n (am_len.getD k 0 : Nat) :: st) h cs sl) : am_Z X pc L (.retAddr (15 + k) :: st) h cs sl := by
  obtain ⟨p, l, e, R, s, m, args, below, meth, c, Q, G, ad0, nL⟩ := X
  obtain ⟨hx, hb, hml, ho, hts, hK, hfl, hG⟩ := hB
  intro H locs ad ls st' a1 a2 a3 a4 a5
  obtain ⟨_, _, rfl, rfl, a5⟩ := a5
  exact va_tlen hx hb (hG.2.1.1 k hk).2.2.2 a3 (am_i_nI _).symm hdg (kk H locs ad ls _ a1 a2 a3 a4 ⟨_, _, rfl, rfl, a5⟩)
/-- the code of a literal at a place -/
def sp_ch (k : Nat) (j : Int) : Int := ((am_byt.getD k []).getD j.toNat 0).toInt
theorem am_sbyte (hB : am_B X own cc) {k : Nat} {j : Int} (hk : k < 15) (h0 : 0 ≤ j) (h1 : j < (am_len.getD k 0 : Nat)) (hdg : decode cc pc = .ok (.baload, 1)) (kk : am_Z X (pc + 1) L (am_n (sp_ch k j) :: st) h cs sl) : am_Z X pc L (am_n j :: .retAddr (15 + k) :: st) h cs sl := by
  obtain ⟨p, l, e, R, s, m, args, below, meth, c, Q, G, ad0, nL⟩ := X
  obtain ⟨hx, hb, hml, ho, hts, hK, hfl, hG⟩ := hB
  intro H locs ad ls st' a1 a2 a3 a4 a5
  obtain ⟨_, _, rfl, rfl, _, _, rfl, rfl, a5⟩ := a5
  have hl : am_len.getD k 0 < 100 := (by decide : ∀ k, k < 15 → am_len.getD k 0 < 100) k hk
  exact va_tb hx hb (hG.2.1.1 k hk).2.2.2 a3 (am_i_in h0 h1 (by omega)) (v := .int (am_i (sp_ch k j))) (by
    rw [am_i_cl h0 (by omega)]
    show Value.int _ = _
    rw [sp_ch, ← am_i_of]) hdg (kk H locs ad ls _ a1 a2 a3 a4 ⟨_, _, rfl, rfl, a5⟩)
def am_cX (own : String) (index : Nat) (M : am_D) (n : Nat) : Prop := am_cB own index M n ∧ Cond.instanceMethod M.1 ∈ am_tbl ∧ Cond.selects "java/lang/String" M.1 M.1 ∈ am_tbl
theorem am_callX (hB : am_B X own cc) (hR : am_R X l G M0 P0) {index n k : Nat} (hk : k < 15) (hM : am_M l G M (.retAddr k :: as) h P) (hc : am_cX own index M n) (hn : as.length = n) (hst : st0 = as.reverse ++ .retAddr k :: st) (hdg : decode cc pc = .ok (.invokevirtual index, 3)) (hrm : (M.2.2.2.2.frames + 1 ≤ M0.2.2.2.2.frames ∧ 8 + (M.2.2.1 + 11) + M.2.2.2.2.locals ≤ M0.2.2.2.2.locals) ∧ am_wd st ≤ 8) (hcl : cs + M.2.2.2.2.cells ≤ M0.2.2.2.2.cells ∧ sl + M.2.2.2.2.slots ≤ M0.2.2.2.2.slots) (hcs : cs + M.2.2.2.2.cells = cs') (hsl : sl + M.2.2.2.2.slots = sl') (kk : ∀ r h', P r h' → am_Z X (pc + 3) L (r.toList ++ st) h' cs' sl') : am_Z X pc L st0 h cs sl := by
  subst hst
  subst hcs
  subst hsl
  obtain ⟨p, l, e, R, s, m, args, below, meth, c, Q, G, ad0, nL⟩ := X
  obtain ⟨hx, hb, hml, ho, hts, hK, hfl, hG⟩ := hB
  obtain ⟨rfl, rfl, rfl, rfl, -⟩ := hR
  obtain ⟨⟨c1, c2, c3, c4, c5, c6⟩, c7, c9⟩ := hc
  intro H locs ad ls st' a1 a2 a3 a4 a5
  obtain ⟨av, rv, rfl, hav, hrv⟩ := a5.split
  obtain ⟨_, rs, rfl, rfl, hrs⟩ := hrv
  have hS : am_S G ad (.retAddr k :: as) (.ref (G.2.2.1 k) :: av.reverse) := ⟨_, _, rfl, rfl, by have := hav.rev; rwa [List.reverse_reverse] at this⟩
  have hl : av.reverse.length = n := by rw [List.length_reverse, hav.len, List.length_reverse]; exact hn
  have hB := callB_of (R := M0.2.2.2.2) (s := s) (args := args) (own := own) (index := index) n hts (am_gin c3) rfl rfl rfl (hts _ c2) (hts _ c1) ⟨c4, c5, c6⟩ hrm.1
  have hp := am_pre (av := .ref (G.2.2.1 k) :: av.reverse) a2 hK hfl hG a3
  exact am_go (va_runV (As := av.reverse) (rest := rs) (b := G.2.2.1 k) (C := "java/lang/String") ⟨hx, hb, hml, ho, hts⟩ (hM ad _ hS) ⟨hB, hts _ c7, hts _ c9⟩ ⟨hp.1, vk_recv hG.2.1 hk a3, hp.2⟩ rfl hl a4.1 (by simp) (am_rm (l := l) hrs hrm.2) hdg hcl) a1 a3 a4 hrs kk
end AmStr
theorem cX_coder : am_cX "java/lang/String" 335 M_S_coder 0 := ⟨⟨tb_462, tb_14, tb_465, by decide, by decide, by decide +kernel⟩, tb_463, tb_464⟩
theorem cX_isLatin1 : am_cX "java/lang/String" 492 M_S_isLatin1 0 := ⟨⟨tb_472, tb_14, tb_475, by decide, by decide, by decide +kernel⟩, tb_473, tb_474⟩
theorem cS_L1 : am_cS "java/lang/String" 495 M_L1_charAt 2 := ⟨⟨tb_476, tb_15, tb_478, by decide, by decide, by decide +kernel⟩, tb_477⟩
theorem cS_ci : am_cS "java/lang/StringLatin1" 9 M_S_checkIndex 2 := ⟨⟨tb_479, tb_14, tb_481, by decide, by decide, by decide +kernel⟩, tb_480⟩
theorem cS_pc : am_cS "java/lang/String" 1059 M_P_checkIndex 3 := ⟨⟨tb_484, tb_16, tb_486, by decide, by decide, by decide +kernel⟩, tb_485⟩
theorem cX_length {own : String} {index : Nat} (h : Cond.methodLink own index M_S_length.1 ∈ am_tbl) : am_cX own index M_S_length 0 := ⟨⟨h, tb_14, tb_461, by decide, by decide, by decide +kernel⟩, tb_459, tb_460⟩
theorem cX_charAt {own : String} {index : Nat} (h : Cond.methodLink own index M_S_charAt.1 ∈ am_tbl) : am_cX own index M_S_charAt 1 := ⟨⟨h, tb_14, tb_471, by decide, by decide, by decide +kernel⟩, tb_469, tb_470⟩
theorem m_P_checkIndexN {l : Launch} {G : am_G} {a b : Int} (h0 : 0 ≤ a) (h1 : a < b) (h2 : b < 1000000) (h : am_H) : am_M l G M_P_checkIndex [am_n a, am_n b, .null] h (am_is (am_n a) h) := by
  refine am_M.of (by decide) (Nat.le_of_ble_eq_true rfl) (fun X hB hR => ?_)
  show am_Z X 0 [am_n a, am_n b, .null] [] h 0 0
  refine am_iload_n hB d_P_checkIndex_0 rfl rfl ?_
  refine ai_zlt (tgt := 9) hB d_P_checkIndex_1 (by decide) (fun hc => by omega) (fun hc => ?_)
  refine am_iload_n hB d_P_checkIndex_4 rfl rfl ?_
  refine am_iload_n hB d_P_checkIndex_5 rfl rfl ?_
  refine ai_jlt (tgt := 16) hB d_P_checkIndex_6 (by decide) (fun hc => ?_) (fun hc => by omega)
  refine am_iload_n hB d_P_checkIndex_16 rfl rfl ?_
  exact am_iret hB hR d_P_checkIndex_17 rfl rfl ⟨rfl, rfl⟩ (Nat.zero_le _) (Nat.zero_le _)
theorem m_P_checkIndexD {l : Launch} {G : am_G} {a b : Int} (h0 : 0 ≤ a) (h1 : a < b) (h2 : b < 1000000) (h : am_H) : am_M l G M_P_checkIndex [am_n a, am_n b, .double 1] h (am_is (am_n a) h) := by
  refine am_M.of (by decide) (Nat.le_of_ble_eq_true rfl) (fun X hB hR => ?_)
  show am_Z X 0 [am_n a, am_n b, .double 1] [] h 0 0
  refine am_iload_n hB d_P_checkIndex_0 rfl rfl ?_
  refine ai_zlt (tgt := 9) hB d_P_checkIndex_1 (by decide) (fun hc => by omega) (fun hc => ?_)
  refine am_iload_n hB d_P_checkIndex_4 rfl rfl ?_
  refine am_iload_n hB d_P_checkIndex_5 rfl rfl ?_
  refine ai_jlt (tgt := 16) hB d_P_checkIndex_6 (by decide) (fun hc => ?_) (fun hc => by omega)
  refine am_iload_n hB d_P_checkIndex_16 rfl rfl ?_
  exact am_iret hB hR d_P_checkIndex_17 rfl rfl ⟨rfl, rfl⟩ (Nat.zero_le _) (Nat.zero_le _)
theorem m_S_checkIndex {l : Launch} {G : am_G} {a b : Int} (h0 : 0 ≤ a) (h1 : a < b) (h2 : b < 1000000) (h : am_H) : am_M l G M_S_checkIndex [am_n a, am_n b] h (am_ok h) := by
  refine am_M.of (by decide) (Nat.le_of_ble_eq_true rfl) (fun X hB hR => ?_)
  show am_Z X 0 [am_n a, am_n b] [] h 0 0
  refine am_iload_n hB d_S_checkIndex_0 rfl rfl ?_
  refine am_iload_n hB d_S_checkIndex_1 rfl rfl ?_
  refine am_sform hB d_S_checkIndex_2 ?_ ?_
  · refine am_callS hB hR (as := [am_n a, am_n b, .null]) (m_P_checkIndexN h0 h1 h2 h) cS_pc rfl rfl d_S_checkIndex_5 ⟨by decide, Nat.le_of_ble_eq_true rfl⟩ ⟨by decide, by decide⟩ rfl rfl (fun rr hh hp => ?_)
    obtain ⟨rfl, rfl⟩ := hp
    refine am_pop hB d_S_checkIndex_8 rfl ?_
    exact am_vret hB hR d_S_checkIndex_9 rfl ⟨rfl, rfl⟩ (Nat.zero_le _) (Nat.zero_le _)
  · refine am_callS hB hR (as := [am_n a, am_n b, .double 1]) (m_P_checkIndexD h0 h1 h2 h) cS_pc rfl rfl d_S_checkIndex_5 ⟨by decide, Nat.le_of_ble_eq_true rfl⟩ ⟨by decide, by decide⟩ rfl rfl (fun rr hh hp => ?_)
    obtain ⟨rfl, rfl⟩ := hp
    refine am_pop hB d_S_checkIndex_8 rfl ?_
    exact am_vret hB hR d_S_checkIndex_9 rfl ⟨rfl, rfl⟩ (Nat.zero_le _) (Nat.zero_le _)
theorem sp_ch_in : ∀ k, k < 15 → ∀ j : Nat, j < am_len.getD k 0 → 0 ≤ sp_ch k j ∧ sp_ch k j < 128 ∧ am_i (sp_ch k j) &&& am_i 255 = am_i (sp_ch k j) := by decide +kernel
theorem sp_ch_is {k : Nat} {j : Int} (hk : k < 15) (h0 : 0 ≤ j) (h1 : j < (am_len.getD k 0 : Nat)) : 0 ≤ sp_ch k j ∧ sp_ch k j < 128 ∧ am_i (sp_ch k j) &&& am_i 255 = am_i (sp_ch k j) := by
  have := sp_ch_in k hk j.toNat (by omega)
  rwa [Int.toNat_of_nonneg h0] at this
theorem am_len_lt : ∀ k, k < 15 → am_len.getD k 0 < 100 := by decide
theorem m_L1_charAt {l : Launch} {G : am_G} {k : Nat} {j : Int} (hk : k < 15) (h0 : 0 ≤ j) (h1 : j < (am_len.getD k 0 : Nat)) (h : am_H) : am_M l G M_L1_charAt [.retAddr (15 + k), am_n j] h (am_is (am_n (sp_ch k j)) h) := by
  have hl := am_len_lt k hk
  obtain ⟨c1, c2, c3⟩ := sp_ch_is hk h0 h1
  refine am_M.of (by decide) (Nat.le_of_ble_eq_true rfl) (fun X hB hR => ?_)
  show am_Z X 0 [.retAddr (15 + k), am_n j] [] h 0 0
  refine am_iload_n hB d_L1_charAt_0 rfl rfl ?_
  refine am_aload_n hB d_L1_charAt_1 rfl rfl rfl ?_
  refine am_slen hB hk d_L1_charAt_2 ?_
  refine am_callS hB hR (as := [am_n j, am_n (am_len.getD k 0 : Nat)]) (m_S_checkIndex h0 h1 (by omega) h) cS_ci rfl rfl d_L1_charAt_3 ⟨by decide, Nat.le_of_ble_eq_true rfl⟩ ⟨by decide, by decide⟩ rfl rfl (fun rr hh hp => ?_)
  obtain ⟨rfl, rfl⟩ := hp
  refine am_aload_n hB d_L1_charAt_6 rfl rfl rfl ?_
  refine am_iload_n hB d_L1_charAt_7 rfl rfl ?_
  refine am_sbyte hB hk h0 h1 d_L1_charAt_8 ?_
  refine ai_sipush hB d_L1_charAt_9 (by decide) ?_
  refine am_iand hB d_L1_charAt_12 ?_
  rw [c3]
  refine ai_i2c hB d_L1_charAt_13 ?_
  exact am_iret hB hR d_L1_charAt_14 rfl (am_i_nar c1 (by omega)) ⟨rfl, rfl⟩ (Nat.zero_le _) (Nat.zero_le _)
theorem m_S_isLatin1 {l : Launch} {G : am_G} {k : Nat} (hk : k < 15) (h : am_H) : am_M l G M_S_isLatin1 [.retAddr k] h (am_is (am_n 1) h) := by
  refine am_M.of (by decide) (Nat.le_of_ble_eq_true rfl) (fun X hB hR => ?_)
  show am_Z X 0 [.retAddr k] [] h 0 0
  refine am_scomp hB d_S_isLatin1_0 ?_
  refine ai_zeq (tgt := 17) hB d_S_isLatin1_3 (by decide) (fun hc => by omega) (fun hc => ?_)
  refine am_aload_n hB d_S_isLatin1_6 rfl rfl rfl ?_
  refine am_sgetC hB hk d_S_isLatin1_7 ?_
  refine ai_zne (tgt := 17) hB d_S_isLatin1_10 (by decide) (fun hc => by omega) (fun hc => ?_)
  refine ai_const hB d_S_isLatin1_13 ?_
  refine am_goto (tgt := 18) hB d_S_isLatin1_14 (by decide) ?_
  exact am_iret hB hR d_S_isLatin1_18 rfl (by decide) ⟨rfl, rfl⟩ (Nat.zero_le _) (Nat.zero_le _)
theorem m_S_coder {l : Launch} {G : am_G} {k : Nat} (hk : k < 15) (h : am_H) : am_M l G M_S_coder [.retAddr k] h (am_is (am_n 0) h) := by
  refine am_M.of (by decide) (Nat.le_of_ble_eq_true rfl) (fun X hB hR => ?_)
  show am_Z X 0 [.retAddr k] [] h 0 0
  refine am_scomp hB d_S_coder_0 ?_
  refine ai_zeq (tgt := 13) hB d_S_coder_3 (by decide) (fun hc => by omega) (fun hc => ?_)
  refine am_aload_n hB d_S_coder_6 rfl rfl rfl ?_
  refine am_sgetC hB hk d_S_coder_7 ?_
  refine am_goto (tgt := 14) hB d_S_coder_10 (by decide) ?_
  exact am_iret hB hR d_S_coder_14 rfl (by decide) ⟨rfl, rfl⟩ (Nat.zero_le _) (Nat.zero_le _)
theorem m_S_length {l : Launch} {G : am_G} {k : Nat} (hk : k < 15) (h : am_H) : am_M l G M_S_length [.retAddr k] h (am_is (am_n (am_len.getD k 0 : Nat)) h) := by
  have hl := am_len_lt k hk
  refine am_M.of (by decide) (Nat.le_of_ble_eq_true rfl) (fun X hB hR => ?_)
  show am_Z X 0 [.retAddr k] [] h 0 0
  refine am_aload_n hB d_S_length_0 rfl rfl rfl ?_
  refine am_sgetV hB hk d_S_length_1 ?_
  refine am_slen hB hk d_S_length_4 ?_
  refine am_aload_n hB d_S_length_5 rfl rfl rfl ?_
  refine am_callX hB hR (as := []) hk (m_S_coder hk h) cX_coder rfl rfl d_S_length_6 ⟨by decide, Nat.le_of_ble_eq_true rfl⟩ ⟨by decide, by decide⟩ rfl rfl (fun rr hh hp => ?_)
  obtain ⟨rfl, rfl⟩ := hp
  refine am_ishr hB d_S_length_9 ?_
  have e : am_i (am_len.getD k 0 : Nat) >>> (am_i 0 &&& 31) = am_i (am_len.getD k 0 : Nat) := by
    rw [am_i_nI]
    exact sc_shr0 (by omega)
  rw [e]
  exact am_iret hB hR d_S_length_10 rfl rfl ⟨rfl, rfl⟩ (Nat.zero_le _) (Nat.zero_le _)
theorem m_S_charAt {l : Launch} {G : am_G} {k : Nat} {j : Int} (hk : k < 15) (h0 : 0 ≤ j) (h1 : j < (am_len.getD k 0 : Nat)) (h : am_H) : am_M l G M_S_charAt [.retAddr k, am_n j] h (am_is (am_n (sp_ch k j)) h) := by
  have hl := am_len_lt k hk
  obtain ⟨c1, c2, c3⟩ := sp_ch_is hk h0 h1
  refine am_M.of (by decide) (Nat.le_of_ble_eq_true rfl) (fun X hB hR => ?_)
  show am_Z X 0 [.retAddr k, am_n j] [] h 0 0
  refine am_aload_n hB d_S_charAt_0 rfl rfl rfl ?_
  refine am_callX hB hR (as := []) hk (m_S_isLatin1 hk h) cX_isLatin1 rfl rfl d_S_charAt_1 ⟨by decide, Nat.le_of_ble_eq_true rfl⟩ ⟨by decide, by decide⟩ rfl rfl (fun rr hh hp => ?_)
  obtain ⟨rfl, rfl⟩ := hp
  refine ai_zeq (tgt := 16) hB d_S_charAt_4 (by decide) (fun hc => by omega) (fun hc => ?_)
  refine am_aload_n hB d_S_charAt_7 rfl rfl rfl ?_
  refine am_sgetV hB hk d_S_charAt_8 ?_
  refine am_iload_n hB d_S_charAt_11 rfl rfl ?_
  refine am_callS hB hR (as := [.retAddr (15 + k), am_n j]) (m_L1_charAt hk h0 h1 h) cS_L1 rfl rfl d_S_charAt_12 ⟨by decide, Nat.le_of_ble_eq_true rfl⟩ ⟨by decide, by decide⟩ rfl rfl (fun rr hh hp => ?_)
  obtain ⟨rfl, rfl⟩ := hp
  exact am_iret hB hR d_S_charAt_15 rfl (am_i_nar c1 (by omega)) ⟨rfl, rfl⟩ (Nat.zero_le _) (Nat.zero_le _)
