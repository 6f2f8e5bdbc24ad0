/-! Form: words into slices, names, numbers -/
theorem c_FO_52 {ci : Nat} (h : ci = 4 ∨ ci = 9) : am_cU "RetraceDesk$Form" 52 ci ({ cls := "RetraceDesk$Form", name := "takeWord", desc := "(Ljava/lang/String;)Z" } : Jvm.MethodName) "RetraceDesk$Form" M_FO_takeWord 1 := by
  rcases h with rfl | rfl
  · exact c_FO_52_4
  · exact c_FO_52_9
theorem am_fo.of {h : am_H} {k ci c n z : Nat} {a e : Int} {tl : List Value} {g : Int → Int} {x x' : va_E} (f : am_fo h k ci c a e tl n g) (rz : h[z]? = some x) (h1 : z ≠ k) (h2 : z ≠ c) : am_fo (h.set z x') k ci c a e tl n g := by
  obtain ⟨hci, r, q, w⟩ := f
  exact ⟨hci, am_rn h1 r, am_rn h2 q, w⟩
theorem am_fo.neS {h : am_H} {k ci c n z zc : Nat} {a e zf zt : Int} {tl : List Value} {g : Int → Int} (f : am_fo h k ci c a e tl n g) (rz : h[z]? = some (ce_SL zc zf zt)) : z ≠ k ∧ z ≠ c := by
  obtain ⟨hci, r, q, w⟩ := f
  exact ⟨am_ne rz r (fun w => by rcases hci with rfl | rfl <;> cases w), am_ne rz q (fun w => by cases w)⟩
def sp_mi (w : Nat) (a e : Int) : Int := if e < a + (am_len.getD w 0 : Nat) then e else a + (am_len.getD w 0 : Nat)
theorem m_FO_takeWordInto {l : Launch} {G : am_G} {h : am_H} {k ci c n z zc w : Nat} {a e zf zt : Int} {tl : List Value} {g : Int → Int} (f : am_fo h k ci c a e tl n g) (rz : h[z]? = some (ce_SL zc zf zt)) (hw : w < 15) : am_M l G M_FO_takeWordInto [.ref k, .retAddr w, .ref z] h (fun r h' => r = some (am_n (sp_i (sp_tw g w a e))) ∧ h' = (h.set z (ce_SL zc a (sp_mi w a e))).set k (ce_FO ci c (sp_th g w a e) e tl)) := by
  obtain ⟨n1, n2⟩ := f.neS rz
  have f1 : am_fo (h.set z (ce_SL zc a (sp_mi w a e))) k ci c a e tl n g := f.of rz n1 n2
  obtain ⟨hci, r, q, hg, h0, h1, h2, h3⟩ := f
  have hl := am_len_lt w hw
  have r1 := f1.2.1
  refine am_M.of (by decide) (Nat.le_of_ble_eq_true rfl) (fun X hB hR => ?_)
  show am_Z X 0 [.ref k, .retAddr w, .ref z] [] h 0 0
  refine am_aload_n hB d_FO_takeWordInto_0 rfl rfl rfl ?_
  refine am_aload_n hB d_FO_takeWordInto_1 rfl rfl rfl ?_
  refine am_getf hB d_FO_takeWordInto_2 (F_FO_15 hci) (by assumption) rfl ?_
  refine am_aload_n hB d_FO_takeWordInto_5 rfl rfl rfl ?_
  refine am_getf hB d_FO_takeWordInto_6 (F_FO_15 hci) (by assumption) rfl ?_
  refine am_aload_n hB d_FO_takeWordInto_9 rfl rfl rfl ?_
  refine am_callX hB hR (as := []) hw (m_S_length hw h) (cX_length lk_FO_30) rfl rfl d_FO_takeWordInto_10 ⟨by decide, Nat.le_of_ble_eq_true rfl⟩ ⟨by decide, by decide⟩ rfl rfl (fun rr hh hp => ?_)
  obtain ⟨rfl, rfl⟩ := hp
  refine ai_add hB d_FO_takeWordInto_13 ?_
  refine am_aload_n hB d_FO_takeWordInto_14 rfl rfl rfl ?_
  refine am_getf hB d_FO_takeWordInto_15 (F_FO_19 hci) (by assumption) rfl ?_
  refine am_min hB hR d_FO_takeWordInto_18 S_FO_40 ⟨by decide, Nat.le_of_ble_eq_true rfl⟩ ⟨by decide, by decide⟩ ?_
  refine am_callV hB hR (as := [am_n a, am_n (sp_mi w a e)]) rz (m_SL_set rz) c_FO_46 rfl rfl d_FO_takeWordInto_21 ⟨by decide, Nat.le_of_ble_eq_true rfl⟩ ⟨by decide, by decide⟩ rfl rfl (fun rr hh hp => ?_)
  obtain ⟨rfl, rfl⟩ := hp
  refine am_aload_n hB d_FO_takeWordInto_24 rfl rfl rfl ?_
  refine am_aload_n hB d_FO_takeWordInto_25 rfl rfl rfl ?_
  refine am_callU hB hR (as := [.retAddr w]) r1 (m_FO_takeWord f1 hw) (c_FO_52 hci) rfl rfl d_FO_takeWordInto_26 ⟨by decide, Nat.le_of_ble_eq_true rfl⟩ ⟨by decide, by decide⟩ rfl rfl (fun rr hh hp => ?_)
  obtain ⟨rfl, rfl⟩ := hp
  refine am_iret hB hR d_FO_takeWordInto_29 rfl ?_ ⟨rfl, rfl⟩ (Nat.zero_le _) (Nat.zero_le _)
  cases sp_tw g w a e <;> decide
/-- parts: where the loop ends and where the last part begins; none if a part before a point is too long -/
def sp_tp (g : Int → Int) (mp : Int) : Nat → Int → Int → Int → Option (Int × Int)
  | 0, i, ps, _ => some (i, ps)
  | n + 1, i, ps, q => if sp_let (g i) || (sp_fig (g i) && decide (ps < i)) then sp_tp g mp n (i + 1) ps q else if g i ≠ 46 ∨ i = ps ∨ q = mp then some (i, ps) else if 40 < i - ps then none else sp_tp g mp n (i + 1) (i + 1) (q + 1)
def sp_take (g : Int → Int) (mp ms a e : Int) : Option Int := match sp_tp g mp (e - a).toNat a a 1 with
  | none => none
  | some (i, ps) => if i = ps ∨ 40 < i - ps ∨ ms < i - a then none else some i
theorem m_FO_takeParts {l : Launch} {G : am_G} {h : am_H} {k ci c n z zc : Nat} {a e zf zt mp ms : Int} {tl : List Value} {g : Int → Int} (f : am_fo h k ci c a e tl n g) (rz : h[z]? = some (ce_SL zc zf zt)) (hmp : 0 ≤ mp ∧ mp < 1000000) (hms : 0 ≤ ms ∧ ms < 1000000) : am_M l G M_FO_takeParts [.ref k, .ref z, am_n mp, am_n ms] h (fun r h' => match sp_take g mp ms a e with
    | none => r = some (am_n 0) ∧ h' = h
    | some i => r = some (am_n 1) ∧ h' = (h.set z (ce_SL zc a i)).set k (ce_FO ci c i e tl)) := by
  obtain ⟨n1, n2⟩ := f.neS rz
  obtain ⟨hci, r, q, hg, h0, h1, h2, h3⟩ := f
  refine am_M.of (by decide) (Nat.le_of_ble_eq_true rfl) (fun X hB hR => ?_)
  show am_Z X 0 [.ref k, .ref z, am_n mp, am_n ms, am_u, am_u, am_u, am_u] [] h 0 0
  have fin : ∀ (i ps p : Int) (v : Value), a ≤ i → i ≤ e → a ≤ ps → ps ≤ i → sp_tp g mp (e - a).toNat a a 1 = some (i, ps) → am_Z X 109 [.ref k, .ref z, am_n mp, am_n ms, am_n p, am_n ps, am_n i, v] [] h 0 0 := by
    intro i ps p v i1 i2 p1 p2 hs
    have no : (i = ps ∨ 40 < i - ps ∨ ms < i - a) → am_Z X 137 [.ref k, .ref z, am_n mp, am_n ms, am_n p, am_n ps, am_n i, v] [] h 0 0 := by
      intro hz
      refine ai_const hB d_FO_takeParts_137 ?_
      refine am_iret hB hR d_FO_takeParts_138 rfl (by decide) ?_ (Nat.zero_le _) (Nat.zero_le _)
      have e1 : sp_take g mp ms a e = none := by
        unfold sp_take
        rw [hs]
        exact if_pos hz
      rw [e1]
      exact ⟨rfl, rfl⟩
    refine am_iload hB d_FO_takeParts_109 rfl ?_
    refine am_iload hB d_FO_takeParts_111 rfl ?_
    refine ai_jeq (tgt := 137) hB d_FO_takeParts_113 (by decide) (fun b1 => ?_) (fun b1 => ?_)
    · exact no (Or.inl b1)
    refine am_iload hB d_FO_takeParts_116 rfl ?_
    refine am_iload hB d_FO_takeParts_118 rfl ?_
    refine ai_sub hB d_FO_takeParts_120 ?_
    refine ai_bipush hB d_FO_takeParts_121 (by decide) ?_
    refine ai_jgt (tgt := 137) hB d_FO_takeParts_123 (by decide) (fun b2 => ?_) (fun b2 => ?_)
    · exact no (Or.inr (Or.inl b2))
    refine am_iload hB d_FO_takeParts_126 rfl ?_
    refine am_aload_n hB d_FO_takeParts_128 rfl rfl rfl ?_
    refine am_getf hB d_FO_takeParts_129 (F_FO_15 hci) (by assumption) rfl ?_
    refine ai_sub hB d_FO_takeParts_132 ?_
    refine am_iload_n hB d_FO_takeParts_133 rfl rfl ?_
    refine ai_jle (tgt := 139) hB d_FO_takeParts_134 (by decide) (fun b3 => ?_) (fun b3 => ?_)
    · refine am_aload_n hB d_FO_takeParts_139 rfl rfl rfl ?_
      refine am_aload_n hB d_FO_takeParts_140 rfl rfl rfl ?_
      refine am_getf hB d_FO_takeParts_141 (F_FO_15 hci) (by assumption) rfl ?_
      refine am_iload hB d_FO_takeParts_144 rfl ?_
      refine am_callV hB hR (as := [am_n a, am_n i]) rz (m_SL_set rz) c_FO_46 rfl rfl d_FO_takeParts_146 ⟨by decide, Nat.le_of_ble_eq_true rfl⟩ ⟨by decide, by decide⟩ rfl rfl (fun rr hh hp => ?_)
      obtain ⟨rfl, rfl⟩ := hp
      refine am_aload_n hB d_FO_takeParts_149 rfl rfl rfl ?_
      refine am_iload hB d_FO_takeParts_150 rfl ?_
      refine am_putf hB d_FO_takeParts_152 (P_FO_15 hci) (am_rn n1 r) (by simp) am_fit.i rfl ?_
      refine ai_const hB d_FO_takeParts_155 ?_
      refine am_iret hB hR d_FO_takeParts_156 rfl (by decide) ?_ (Nat.zero_le _) (Nat.zero_le _)
      have e1 : sp_take g mp ms a e = some i := by
        unfold sp_take
        rw [hs]
        exact if_neg (by omega)
      rw [e1]
      exact ⟨rfl, rfl⟩
    · exact no (Or.inr (Or.inr b3))
  have loop : ∀ (m : Nat) (i ps p : Int) (v : Value), a ≤ i → i + m = e → a ≤ ps → ps ≤ i → 1 ≤ p → p ≤ i - a + 1 → sp_tp g mp (e - a).toNat a a 1 = sp_tp g mp m i ps p → am_Z X 15 [.ref k, .ref z, am_n mp, am_n ms, am_n p, am_n ps, am_n i, v] [] h 0 0 := by
    intro m
    induction m with
    | zero =>
      intro i ps p v i1 i2 p1 p2 q1 q2 hs
      refine am_iload hB d_FO_takeParts_15 rfl ?_
      refine am_aload_n hB d_FO_takeParts_17 rfl rfl rfl ?_
      refine am_getf hB d_FO_takeParts_18 (F_FO_19 hci) (by assumption) rfl ?_
      refine ai_jge (tgt := 109) hB d_FO_takeParts_21 (by decide) (fun hc => ?_) (fun hc => ?_)
      · exact fin i ps p v i1 (by omega) p1 p2 hs
      · omega
    | succ m ih =>
      intro i ps p v i1 i2 p1 p2 q1 q2 hs
      refine am_iload hB d_FO_takeParts_15 rfl ?_
      refine am_aload_n hB d_FO_takeParts_17 rfl rfl rfl ?_
      refine am_getf hB d_FO_takeParts_18 (F_FO_19 hci) (by assumption) rfl ?_
      refine ai_jge (tgt := 109) hB d_FO_takeParts_21 (by decide) (fun hc => ?_) (fun hc => ?_)
      · omega
      have z1 := hg i
      have nx : (sp_let (g i) || (sp_fig (g i) && decide (ps < i))) = true → am_Z X 103 [.ref k, .ref z, am_n mp, am_n ms, am_n p, am_n ps, am_n i, am_n (g i)] [] h 0 0 := by
        intro hz
        refine ai_inc hB d_FO_takeParts_103 rfl (by rw [hR.nL]; decide) rfl ?_
        refine am_goto (tgt := 15) hB d_FO_takeParts_106 (by decide) (ih (i + 1) ps p _ (by omega) (by omega) p1 (by omega) q1 (by omega) ?_)
        rw [hs, sp_tp, if_pos hz]
      have ot : (sp_let (g i) || (sp_fig (g i) && decide (ps < i))) = false → am_Z X 59 [.ref k, .ref z, am_n mp, am_n ms, am_n p, am_n ps, am_n i, am_n (g i)] [] h 0 0 := by
        intro hz
        have out : (g i ≠ 46 ∨ i = ps ∨ p = mp) → am_Z X 109 [.ref k, .ref z, am_n mp, am_n ms, am_n p, am_n ps, am_n i, am_n (g i)] [] h 0 0 := by
          intro hy
          refine fin i ps p _ i1 (by omega) p1 p2 ?_
          rw [hs, sp_tp, if_neg (by rw [hz]; decide), if_pos hy]
        refine am_iload hB d_FO_takeParts_59 rfl ?_
        refine ai_bipush hB d_FO_takeParts_61 (by decide) ?_
        refine ai_jne (tgt := 109) hB d_FO_takeParts_63 (by decide) (fun b1 => ?_) (fun b1 => ?_)
        · exact out (Or.inl b1)
        refine am_iload hB d_FO_takeParts_66 rfl ?_
        refine am_iload hB d_FO_takeParts_68 rfl ?_
        refine ai_jeq (tgt := 109) hB d_FO_takeParts_70 (by decide) (fun b2 => ?_) (fun b2 => ?_)
        · exact out (Or.inr (Or.inl b2))
        refine am_iload hB d_FO_takeParts_73 rfl ?_
        refine am_iload_n hB d_FO_takeParts_75 rfl rfl ?_
        refine ai_jne (tgt := 82) hB d_FO_takeParts_76 (by decide) (fun b3 => ?_) (fun b3 => ?_)
        · refine am_iload hB d_FO_takeParts_82 rfl ?_
          refine am_iload hB d_FO_takeParts_84 rfl ?_
          refine ai_sub hB d_FO_takeParts_86 ?_
          refine ai_bipush hB d_FO_takeParts_87 (by decide) ?_
          refine ai_jle (tgt := 94) hB d_FO_takeParts_89 (by decide) (fun b4 => ?_) (fun b4 => ?_)
          · refine ai_inc hB d_FO_takeParts_94 rfl (by rw [hR.nL]; decide) rfl ?_
            refine am_iload hB d_FO_takeParts_97 rfl ?_
            refine ai_const hB d_FO_takeParts_99 ?_
            refine ai_add hB d_FO_takeParts_100 ?_
            refine am_istore hB d_FO_takeParts_101 (by rw [hR.nL]; decide) rfl ?_
            refine ai_inc hB d_FO_takeParts_103 rfl (by rw [hR.nL]; decide) rfl ?_
            refine am_goto (tgt := 15) hB d_FO_takeParts_106 (by decide) (ih (i + 1) (i + 1) (p + 1) _ (by omega) (by omega) (by omega) (by omega) (by omega) (by omega) ?_)
            rw [hs, sp_tp, if_neg (by rw [hz]; decide), if_neg (by omega), if_neg (by omega)]
          · refine ai_const hB d_FO_takeParts_92 ?_
            refine am_iret hB hR d_FO_takeParts_93 rfl (by decide) ?_ (Nat.zero_le _) (Nat.zero_le _)
            have e1 : sp_take g mp ms a e = none := by
              unfold sp_take
              rw [hs, sp_tp, if_neg (by rw [hz]; decide), if_neg (by omega), if_pos b4]
            rw [e1]
            exact ⟨rfl, rfl⟩
        · refine am_goto (tgt := 109) hB d_FO_takeParts_79 (by decide) (out (Or.inr (Or.inr b3)))
      refine am_aload_n hB d_FO_takeParts_24 rfl rfl rfl ?_
      refine am_getf hB d_FO_takeParts_25 (F_FO_9 hci) (by assumption) rfl ?_
      refine am_iload hB d_FO_takeParts_28 rfl ?_
      refine ai_cald hB d_FO_takeParts_30 ty_0 (by assumption) ?_
      refine am_istore hB d_FO_takeParts_31 (by rw [hR.nL]; decide) rfl ?_
      refine am_iload hB d_FO_takeParts_33 rfl ?_
      refine am_callN hB hR (as := [am_n (g i)]) (m_isLetter z1.1 z1.2 h) c_FO_56 rfl rfl d_FO_takeParts_35 ⟨by decide, Nat.le_of_ble_eq_true rfl⟩ ⟨by decide, by decide⟩ rfl rfl (fun rr hh hp => ?_)
      obtain ⟨rfl, rfl⟩ := hp
      cases e1 : sp_let (g i) with
      | true =>
        show am_Z X 38 [.ref k, .ref z, am_n mp, am_n ms, am_n p, am_n ps, am_n i, am_n (g i)] [am_n 1] h 0 0
        refine ai_zne (tgt := 103) hB d_FO_takeParts_38 (by decide) (fun b1 => ?_) (fun b1 => ?_)
        · exact nx (by rw [e1]; rfl)
        · omega
      | false =>
        show am_Z X 38 [.ref k, .ref z, am_n mp, am_n ms, am_n p, am_n ps, am_n i, am_n (g i)] [am_n 0] h 0 0
        refine ai_zne (tgt := 103) hB d_FO_takeParts_38 (by decide) (fun b1 => ?_) (fun b1 => ?_)
        · omega
        refine am_iload hB d_FO_takeParts_41 rfl ?_
        refine am_callN hB hR (as := [am_n (g i)]) (m_isFigure z1.1 z1.2 h) c_FO_26 rfl rfl d_FO_takeParts_43 ⟨by decide, Nat.le_of_ble_eq_true rfl⟩ ⟨by decide, by decide⟩ rfl rfl (fun rr hh hp => ?_)
        obtain ⟨rfl, rfl⟩ := hp
        cases e2 : sp_fig (g i) with
        | false =>
          show am_Z X 46 [.ref k, .ref z, am_n mp, am_n ms, am_n p, am_n ps, am_n i, am_n (g i)] [am_n 0] h 0 0
          refine ai_zeq (tgt := 59) hB d_FO_takeParts_46 (by decide) (fun b2 => ?_) (fun b2 => ?_)
          · exact ot (by rw [e1, e2]; rfl)
          · omega
        | true =>
          show am_Z X 46 [.ref k, .ref z, am_n mp, am_n ms, am_n p, am_n ps, am_n i, am_n (g i)] [am_n 1] h 0 0
          refine ai_zeq (tgt := 59) hB d_FO_takeParts_46 (by decide) (fun b2 => ?_) (fun b2 => ?_)
          · omega
          refine am_iload hB d_FO_takeParts_49 rfl ?_
          refine am_iload hB d_FO_takeParts_51 rfl ?_
          refine ai_jle (tgt := 59) hB d_FO_takeParts_53 (by decide) (fun b3 => ?_) (fun b3 => ?_)
          · exact ot (by rw [e1, e2, decide_eq_false (by omega)]; rfl)
          · refine am_goto (tgt := 103) hB d_FO_takeParts_56 (by decide) (nx (by rw [e1, e2, decide_eq_true b3]; rfl))
  refine ai_const hB d_FO_takeParts_0 ?_
  refine am_istore hB d_FO_takeParts_1 (by rw [hR.nL]; decide) rfl ?_
  refine am_aload_n hB d_FO_takeParts_3 rfl rfl rfl ?_
  refine am_getf hB d_FO_takeParts_4 (F_FO_15 hci) (by assumption) rfl ?_
  refine am_istore hB d_FO_takeParts_7 (by rw [hR.nL]; decide) rfl ?_
  refine am_aload_n hB d_FO_takeParts_9 rfl rfl rfl ?_
  refine am_getf hB d_FO_takeParts_10 (F_FO_15 hci) (by assumption) rfl ?_
  refine am_istore hB d_FO_takeParts_13 (by rw [hR.nL]; decide) rfl ?_
  exact loop (e - a).toNat a a 1 am_u (by omega) (by omega) (by omega) (by omega) (by omega) (by omega) rfl
/-- the row of figures from a on; its value; a number -/
def sp_run (g : Int → Int) : Int → Nat → Nat
  | _, 0 => 0
  | a, n + 1 => if sp_fig (g a) then sp_run g (a + 1) n + 1 else 0
def sp_val (g : Int → Int) (a : Int) : Nat → Int
  | 0 => 0
  | n + 1 => sp_val g a n * 10 + (g (a + n) - 48)
theorem sp_run_le (g : Int → Int) : ∀ (n : Nat) (a : Int), sp_run g a n ≤ n
  | 0, _ => Nat.le_refl 0
  | n + 1, a => by
    have := sp_run_le g n (a + 1)
    unfold sp_run
    split <;> omega
theorem sp_run_fig (g : Int → Int) : ∀ (n : Nat) (a : Int) (j : Nat), j < sp_run g a n → sp_fig (g (a + j)) = true
  | 0, _, j, h => absurd h (Nat.not_lt_zero j)
  | n + 1, a, j, h => by
    unfold sp_run at h
    by_cases q : sp_fig (g a) = true
    · rw [if_pos q] at h
      cases j with
      | zero => simpa using q
      | succ j =>
        have := sp_run_fig g n (a + 1) j (by omega)
        rw [show a + ((j + 1 : Nat) : Int) = a + 1 + j by omega]
        exact this
    · rw [if_neg q] at h
      exact absurd h (Nat.not_lt_zero j)
theorem sp_fig_iff {c : Int} : sp_fig c = true ↔ 48 ≤ c ∧ c ≤ 57 := by simp [sp_fig]
theorem sp_val_in (g : Int → Int) (a : Int) : ∀ n : Nat, (∀ j : Nat, j < n → sp_fig (g (a + j)) = true) → 0 ≤ sp_val g a n ∧ sp_val g a n < 10 ^ n
  | 0, _ => ⟨Int.le_refl 0, by simp [sp_val]⟩
  | n + 1, h => by
    obtain ⟨h1, h2⟩ := sp_val_in g a n (fun j hj => h j (by omega))
    have h3 := sp_fig_iff.mp (h n (by omega))
    unfold sp_val
    refine ⟨by omega, ?_⟩
    rw [Int.pow_succ]
    omega
theorem sp_val_pos (g : Int → Int) (a : Int) (h0 : g a ≠ 48) : ∀ n : Nat, 1 ≤ n → (∀ j : Nat, j < n → sp_fig (g (a + j)) = true) → 1 ≤ sp_val g a n
  | 0, h, _ => by omega
  | n + 1, _, h => by
    have h3 := sp_fig_iff.mp (h n (by omega))
    unfold sp_val
    cases n with
    | zero =>
      have e : a + ((0 : Nat) : Int) = a := by omega
      rw [e] at h3 ⊢
      simp only [sp_val]
      omega
    | succ n =>
      have := sp_val_pos g a h0 (n + 1) (by omega) (fun j hj => h j (by omega))
      omega
def sp_nu (g : Int → Int) (a e : Int) : Option (Int × Int) := if 1 ≤ sp_run g a (e - a).toNat ∧ sp_run g a (e - a).toNat ≤ 4 ∧ (sp_run g a (e - a).toNat = 1 ∨ g a ≠ 48) then some (sp_val g a (sp_run g a (e - a).toNat), a + sp_run g a (e - a).toNat) else none
theorem m_FO_takeNumber {l : Launch} {G : am_G} {h : am_H} {k ci c n : Nat} {a e : Int} {tl : List Value} {g : Int → Int} (f : am_fo h k ci c a e tl n g) : am_M l G M_FO_takeNumber [.ref k] h (fun r h' => match sp_nu g a e with
    | none => r = some (am_n (-1)) ∧ h' = h
    | some (v, i) => r = some (am_n v) ∧ h' = h.set k (ce_FO ci c i e tl)) := by
  obtain ⟨hci, r, q, hg, h0, h1, h2, h3⟩ := f
  refine am_M.of (by decide) (Nat.le_of_ble_eq_true rfl) (fun X hB hR => ?_)
  show am_Z X 0 [.ref k, am_u, am_u] [] h 0 0
  have hrl := sp_run_le g (e - a).toNat a
  have hrf := sp_run_fig g (e - a).toNat a
  have no : ¬ (1 ≤ sp_run g a (e - a).toNat ∧ sp_run g a (e - a).toNat ≤ 4 ∧ (sp_run g a (e - a).toNat = 1 ∨ g a ≠ 48)) → ∀ x : Option Value, x = some (am_n (-1)) → (match sp_nu g a e with
    | none => x = some (am_n (-1)) ∧ h = h
    | some (v, i) => x = some (am_n v) ∧ h = h.set k (ce_FO ci c i e tl)) := by
    intro hz x hx
    have e1 : sp_nu g a e = none := if_neg hz
    rw [e1]
    exact ⟨hx, rfl⟩
  have fin : ∀ (j : Nat), j = sp_run g a (e - a).toNat → j ≤ 4 → (j ≤ 1 ∨ g a ≠ 48) → am_Z X 72 [.ref k, am_n (sp_val g a j), am_n (a + j)] [] h 0 0 := by
    intro j hj j4 j1
    refine am_iload_n hB d_FO_takeNumber_72 rfl rfl ?_
    refine am_aload_n hB d_FO_takeNumber_73 rfl rfl rfl ?_
    refine am_getf hB d_FO_takeNumber_74 (F_FO_15 hci) (by assumption) rfl ?_
    refine ai_jne (tgt := 82) hB d_FO_takeNumber_77 (by decide) (fun hc => ?_) (fun hc => ?_)
    · refine am_aload_n hB d_FO_takeNumber_82 rfl rfl rfl ?_
      refine am_iload_n hB d_FO_takeNumber_83 rfl rfl ?_
      refine am_putf hB d_FO_takeNumber_84 (P_FO_15 hci) r (by simp) am_fit.i rfl ?_
      refine am_iload_n hB d_FO_takeNumber_87 rfl rfl ?_
      refine am_iret hB hR d_FO_takeNumber_88 rfl rfl ?_ (Nat.zero_le _) (Nat.zero_le _)
      have e1 : sp_nu g a e = some (sp_val g a (sp_run g a (e - a).toNat), a + sp_run g a (e - a).toNat) := if_pos ⟨by omega, by omega, by omega⟩
      rw [e1, ← hj]
      exact ⟨rfl, rfl⟩
    · refine ai_const hB d_FO_takeNumber_80 ?_
      refine am_iret hB hR d_FO_takeNumber_81 rfl rfl ?_ (Nat.zero_le _) (Nat.zero_le _)
      exact no (by omega) _ rfl
  have loop : ∀ (m j : Nat), a + j + m = e → j ≤ 4 → (j ≤ 1 ∨ g a ≠ 48) → sp_run g a (e - a).toNat = j + sp_run g (a + j) m → am_Z X 7 [.ref k, am_n (sp_val g a j), am_n (a + j)] [] h 0 0 := by
    intro m
    induction m with
    | zero =>
      intro j hj j4 j1 hs
      refine am_iload_n hB d_FO_takeNumber_7 rfl rfl ?_
      refine am_aload_n hB d_FO_takeNumber_8 rfl rfl rfl ?_
      refine am_getf hB d_FO_takeNumber_9 (F_FO_19 hci) (by assumption) rfl ?_
      refine ai_jge (tgt := 72) hB d_FO_takeNumber_12 (by decide) (fun hc => ?_) (fun hc => ?_)
      · exact fin j hs.symm j4 j1
      · omega
    | succ m ih =>
      intro j hj j4 j1 hs
      have z1 := hg (a + j)
      have hv := sp_val_in g a j (fun t ht => hrf t (by omega))
      have hp : (10 : Int) ^ j ≤ 10000 := by
        have : j = 0 ∨ j = 1 ∨ j = 2 ∨ j = 3 ∨ j = 4 := by omega
        rcases this with rfl | rfl | rfl | rfl | rfl <;> decide
      rw [sp_run] at hs
      refine am_iload_n hB d_FO_takeNumber_7 rfl rfl ?_
      refine am_aload_n hB d_FO_takeNumber_8 rfl rfl rfl ?_
      refine am_getf hB d_FO_takeNumber_9 (F_FO_19 hci) (by assumption) rfl ?_
      refine ai_jge (tgt := 72) hB d_FO_takeNumber_12 (by decide) (fun hc => ?_) (fun hc => ?_)
      · omega
      refine am_aload_n hB d_FO_takeNumber_15 rfl rfl rfl ?_
      refine am_getf hB d_FO_takeNumber_16 (F_FO_9 hci) (by assumption) rfl ?_
      refine am_iload_n hB d_FO_takeNumber_19 rfl rfl ?_
      refine ai_cald hB d_FO_takeNumber_20 ty_0 (by assumption) ?_
      refine am_callN hB hR (as := [am_n (g (a + j))]) (m_isFigure z1.1 z1.2 h) c_FO_26 rfl rfl d_FO_takeNumber_21 ⟨by decide, Nat.le_of_ble_eq_true rfl⟩ ⟨by decide, by decide⟩ rfl rfl (fun rr hh hp => ?_)
      obtain ⟨rfl, rfl⟩ := hp
      cases e1 : sp_fig (g (a + j)) with
      | false =>
        rw [if_neg (by rw [e1]; decide)] at hs
        show am_Z X 24 [.ref k, am_n (sp_val g a j), am_n (a + j)] [am_n 0] h 0 0
        refine ai_zeq (tgt := 72) hB d_FO_takeNumber_24 (by decide) (fun b1 => ?_) (fun b1 => ?_)
        · exact fin j hs.symm j4 j1
        · omega
      | true =>
        rw [if_pos e1] at hs
        have e3 := sp_fig_iff.mp e1
        show am_Z X 24 [.ref k, am_n (sp_val g a j), am_n (a + j)] [am_n 1] h 0 0
        refine ai_zeq (tgt := 72) hB d_FO_takeNumber_24 (by decide) (fun b1 => ?_) (fun b1 => ?_)
        · omega
        have bad : am_Z X 49 [.ref k, am_n (sp_val g a j), am_n (a + j)] [] h 0 0 ∨ True := Or.inr trivial
        have go : j < 4 → (j + 1 ≤ 1 ∨ g a ≠ 48) → am_Z X 51 [.ref k, am_n (sp_val g a j), am_n (a + j)] [] h 0 0 := by
          intro j5 j6
          refine am_iload_n hB d_FO_takeNumber_51 rfl rfl ?_
          refine ai_bipush hB d_FO_takeNumber_52 (by decide) ?_
          refine ai_mul hB d_FO_takeNumber_54 ?_
          refine am_aload_n hB d_FO_takeNumber_55 rfl rfl rfl ?_
          refine am_getf hB d_FO_takeNumber_56 (F_FO_9 hci) (by assumption) rfl ?_
          refine am_iload_n hB d_FO_takeNumber_59 rfl rfl ?_
          refine ai_cald hB d_FO_takeNumber_60 ty_0 (by assumption) ?_
          refine ai_bipush hB d_FO_takeNumber_61 (by decide) ?_
          refine ai_sub hB d_FO_takeNumber_63 ?_
          refine ai_add hB d_FO_takeNumber_64 ?_
          refine am_istore_n hB d_FO_takeNumber_65 rfl (by rw [hR.nL]; decide) rfl ?_
          refine ai_inc hB d_FO_takeNumber_66 rfl (by rw [hR.nL]; decide) rfl ?_
          refine am_goto (tgt := 7) hB d_FO_takeNumber_69 (by decide) ?_
          have e4 : a + (j : Int) + 1 = a + ((j + 1 : Nat) : Int) := by omega
          rw [e4]
          exact ih (j + 1) (by omega) (by omega) j6 (by rw [hs, e4]; omega)
        refine am_iload_n hB d_FO_takeNumber_27 rfl rfl ?_
        refine am_aload_n hB d_FO_takeNumber_28 rfl rfl rfl ?_
        refine am_getf hB d_FO_takeNumber_29 (F_FO_15 hci) (by assumption) rfl ?_
        refine ai_sub hB d_FO_takeNumber_32 ?_
        refine ai_const hB d_FO_takeNumber_33 ?_
        refine ai_jge (tgt := 49) hB d_FO_takeNumber_34 (by decide) (fun b2 => ?_) (fun b2 => ?_)
        · refine ai_const hB d_FO_takeNumber_49 ?_
          refine am_iret hB hR d_FO_takeNumber_50 rfl rfl ?_ (Nat.zero_le _) (Nat.zero_le _)
          exact no (by omega) _ rfl
        refine am_iload_n hB d_FO_takeNumber_37 rfl rfl ?_
        refine am_aload_n hB d_FO_takeNumber_38 rfl rfl rfl ?_
        refine am_getf hB d_FO_takeNumber_39 (F_FO_15 hci) (by assumption) rfl ?_
        refine ai_jle (tgt := 51) hB d_FO_takeNumber_42 (by decide) (fun b3 => ?_) (fun b3 => ?_)
        · exact go (by omega) (by omega)
        refine am_iload_n hB d_FO_takeNumber_45 rfl rfl ?_
        refine ai_zne (tgt := 51) hB d_FO_takeNumber_46 (by decide) (fun b4 => ?_) (fun b4 => ?_)
        · refine go (by omega) ?_
          by_cases hz : g a = 48
          · exfalso
            have j2 : j = 1 := by omega
            subst j2
            apply b4
            simp only [sp_val]
            rw [show a + ((0 : Nat) : Int) = a by omega, hz]
            decide
          · exact Or.inr hz
        · refine ai_const hB d_FO_takeNumber_49 ?_
          refine am_iret hB hR d_FO_takeNumber_50 rfl rfl ?_ (Nat.zero_le _) (Nat.zero_le _)
          refine no ?_ _ rfl
          intro hz
          have := hz.2.2
          have hz2 : g a ≠ 48 := by omega
          have := sp_val_pos g a hz2 j (by omega) (fun t ht => hrf t (by omega))
          omega
  refine ai_const hB d_FO_takeNumber_0 ?_
  refine am_istore_n hB d_FO_takeNumber_1 rfl (by rw [hR.nL]; decide) rfl ?_
  refine am_aload_n hB d_FO_takeNumber_2 rfl rfl rfl ?_
  refine am_getf hB d_FO_takeNumber_3 (F_FO_15 hci) (by assumption) rfl ?_
  refine am_istore_n hB d_FO_takeNumber_6 rfl (by rw [hR.nL]; decide) rfl ?_
  have := loop (e - a).toNat 0 (by omega) (by omega) (by omega) (by rw [show a + ((0 : Nat) : Int) = a by omega]; omega)
  rw [show a + ((0 : Nat) : Int) = a by omega] at this
  exact this
