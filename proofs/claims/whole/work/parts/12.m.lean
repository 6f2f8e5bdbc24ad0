/-! Text: what was added so far, by a list; frames -/
def am_fr (S : List Nat) (h h' : am_H) : Prop := h'.length = h.length ∧ ∀ q : Nat, q ∉ S → h'[q]? = h[q]?
theorem am_fr.rf {S : List Nat} {h : am_H} : am_fr S h h := ⟨rfl, fun _ _ => rfl⟩
theorem am_fr.tr {S : List Nat} {h h1 h2 : am_H} (a : am_fr S h h1) (b : am_fr S h1 h2) : am_fr S h h2 := ⟨b.1.trans a.1, fun q hq => (b.2 q hq).trans (a.2 q hq)⟩
theorem am_fr.mono {S S' : List Nat} {h h1 : am_H} (a : am_fr S h h1) (hs : ∀ q ∈ S, q ∈ S') : am_fr S' h h1 := ⟨a.1, fun q hq => a.2 q (fun z => hq (hs q z))⟩
theorem am_fr.set {S : List Nat} {h : am_H} {k : Nat} (e : va_E) (hk : k ∈ S) : am_fr S h (h.set k e) := ⟨List.length_set, fun q hq => List.getElem?_set_ne (fun (z : k = q) => hq (z ▸ hk))⟩
theorem am_fr.get {S : List Nat} {h h1 : am_H} (a : am_fr S h h1) {q : Nat} {x : Option va_E} (hq : q ∉ S) (r : h[q]? = x) : h1[q]? = x := (a.2 q hq).trans r
abbrev ce_TX (c : Nat) (s o : Int) : va_E := .inr (8, [.ref c, am_n s, am_n o])
def tx_ok (N : Nat) (g : Int → Int) (s o : Int) (out : List Int) : Prop := 0 ≤ s ∧ s ≤ N ∧ ((o = 0 ∧ s = out.length ∧ ∀ j : Nat, j < out.length → g j = out.getD j 0) ∨ (o = 1 ∧ N < out.length))
def am_cok (g : Int → Int) : Prop := ∀ j, 0 ≤ g j ∧ g j < 65536
theorem am_cok.up {g : Int → Int} (h : am_cok g) {i x : Int} (h1 : 0 ≤ x) (h2 : x < 65536) : am_cok (am_up g i x) := fun j => by
  unfold am_up
  by_cases q : j = i
  · rw [if_pos q]; exact ⟨h1, h2⟩
  · rw [if_neg q]; exact h j
theorem am_cok.cp {f g : Int → Int} (hf : am_cok f) (hg : am_cok g) {a b n : Int} : am_cok (am_cp f g a b n) := fun j => by
  unfold am_cp
  split
  · exact hf _
  · exact hg _
def am_txt (h : am_H) (k c N : Nat) (out : List Int) : Prop := ∃ g s o, h[k]? = some (ce_TX c s o) ∧ h[c]? = some (am_ia 0 N g) ∧ am_cok g ∧ tx_ok N g s o out ∧ N < 1000000
theorem am_txt.ne {h : am_H} {k c N : Nat} {out : List Int} (a : am_txt h k c N out) : k ≠ c := by
  obtain ⟨g, s, o, r, q, -⟩ := a
  exact am_ne r q (fun z => by cases z)
theorem am_txt.fr {S : List Nat} {h h1 : am_H} {k c N : Nat} {out : List Int} (a : am_txt h k c N out) (f : am_fr S h h1) (hk : k ∉ S) (hc : c ∉ S) : am_txt h1 k c N out := by
  obtain ⟨g, s, o, r, q, z⟩ := a
  exact ⟨g, s, o, f.get hk r, f.get hc q, z⟩
/-- what a method that adds to a text leaves -/
def am_tp (h : am_H) (k c N : Nat) (out : List Int) : am_Y := fun r h' => r = none ∧ am_txt h' k c N out ∧ am_fr [k, c] h h'
theorem m_TX_clear {l : Launch} {G : am_G} {h : am_H} {k c N : Nat} {out : List Int} (a : am_txt h k c N out) : am_M l G M_TX_clear [.ref k] h (am_tp h k c N []) := by
  have hne := a.ne
  obtain ⟨g, s, o, r, q, hg, ok, hN⟩ := a
  refine am_M.of (by decide) (Nat.le_of_ble_eq_true rfl) (fun X hB hR => ?_)
  show am_Z X 0 [.ref k] [] h 0 0
  refine am_aload_n hB d_TX_clear_0 rfl rfl rfl ?_
  refine ai_const hB d_TX_clear_1 ?_
  refine am_putf hB d_TX_clear_2 P_TX_15_8 r (by simp) am_fit.i rfl ?_
  refine am_aload_n hB d_TX_clear_5 rfl rfl rfl ?_
  refine ai_const hB d_TX_clear_6 ?_
  refine am_putf hB d_TX_clear_7 P_TX_19_8 (am_rs r) (by simp) (am_fit.z (Or.inl rfl)) rfl ?_
  refine am_vret hB hR d_TX_clear_10 rfl ?_ (Nat.zero_le _) (Nat.zero_le _)
  refine ⟨rfl, ⟨g, 0, 0, am_rs (am_rs r), am_rn hne (am_rn hne q), hg, ⟨Int.le_refl 0, Int.natCast_nonneg N, Or.inl ⟨rfl, rfl, fun j hj => absurd hj (Nat.not_lt_zero j)⟩⟩, hN⟩, (am_fr.set _ (by simp)).tr (am_fr.set _ (by simp))⟩
theorem tx_add {N : Nat} {g : Int → Int} {s o x : Int} {out : List Int} (h : tx_ok N g s o out) (hs : s < N) : tx_ok N (am_up g s x) (s + 1) o (out ++ [x]) := by
  obtain ⟨h1, h2, h3⟩ := h
  refine ⟨by omega, by omega, ?_⟩
  rcases h3 with ⟨e1, e2, e3⟩ | ⟨e1, e2⟩
  · refine Or.inl ⟨e1, by rw [List.length_append, List.length_singleton]; omega, fun j hj => ?_⟩
    rw [List.length_append, List.length_singleton] at hj
    by_cases hjs : j = out.length
    · subst hjs
      rw [← e2, am_up_eq, List.getD_eq_getElem?_getD, List.getElem?_append_right (by omega)]
      simp
    · rw [am_up_ne _ _ (by omega), e3 j (by omega), List.getD_eq_getElem?_getD, List.getD_eq_getElem?_getD, List.getElem?_append_left (by omega)]
  · exact Or.inr ⟨e1, by rw [List.length_append]; omega⟩
theorem tx_full {N : Nat} {g : Int → Int} {s o : Int} {out xs : List Int} (h : tx_ok N g s o out) (hs : (N : Int) - s < xs.length) : tx_ok N g s 1 (out ++ xs) := by
  obtain ⟨h1, h2, h3⟩ := h
  refine ⟨h1, h2, Or.inr ⟨rfl, ?_⟩⟩
  rw [List.length_append]
  rcases h3 with ⟨e1, e2, e3⟩ | ⟨e1, e2⟩ <;> omega
theorem m_TX_add {l : Launch} {G : am_G} {h : am_H} {k c N : Nat} {out : List Int} {x : Int} (a : am_txt h k c N out) (h0 : 0 ≤ x) (h1 : x < 65536) : am_M l G M_TX_add [.ref k, am_n x] h (am_tp h k c N (out ++ [x])) := by
  have hne := a.ne
  obtain ⟨g, s, o, r, q, hg, ok, hN⟩ := a
  have ok1 := ok.1
  have ok2 := ok.2.1
  refine am_M.of (by decide) (Nat.le_of_ble_eq_true rfl) (fun X hB hR => ?_)
  show am_Z X 0 [.ref k, am_n x] [] h 0 0
  refine am_aload_n hB d_TX_add_0 rfl rfl rfl ?_
  refine am_getf hB d_TX_add_1 F_TX_15_8 (by assumption) rfl ?_
  refine am_aload_n hB d_TX_add_4 rfl rfl rfl ?_
  refine am_getf hB d_TX_add_5 F_TX_9_8 (by assumption) rfl ?_
  refine ai_alen hB d_TX_add_8 ty_0 (by assumption) ?_
  refine ai_jlt (tgt := 18) hB d_TX_add_9 (by decide) (fun hc => ?_) (fun hc => ?_)
  · refine am_aload_n hB d_TX_add_18 rfl rfl rfl ?_
    refine am_getf hB d_TX_add_19 F_TX_9_8 (by assumption) rfl ?_
    refine am_aload_n hB d_TX_add_22 rfl rfl rfl ?_
    refine am_getf hB d_TX_add_23 F_TX_15_8 (by assumption) rfl ?_
    refine am_iload_n hB d_TX_add_26 rfl rfl ?_
    refine ai_cast hB d_TX_add_27 ty_0 q rfl ?_
    refine am_aload_n hB d_TX_add_28 rfl rfl rfl ?_
    refine am_dup hB d_TX_add_29 rfl ?_
    refine am_getf hB d_TX_add_30 F_TX_15_8 (am_rn (Ne.symm hne) r) rfl ?_
    refine ai_const hB d_TX_add_33 ?_
    refine ai_add hB d_TX_add_34 ?_
    refine am_putf hB d_TX_add_35 P_TX_15_8 (am_rn (Ne.symm hne) r) (by simp) am_fit.i rfl ?_
    refine am_vret hB hR d_TX_add_38 rfl ?_ (Nat.zero_le _) (Nat.zero_le _)
    exact ⟨rfl, ⟨_, _, _, am_rs (am_rn (Ne.symm hne) r), am_rn hne (am_rs q), hg.up h0 h1, tx_add ok hc, hN⟩, (am_fr.set _ (by simp)).tr (am_fr.set _ (by simp))⟩
  · refine am_aload_n hB d_TX_add_12 rfl rfl rfl ?_
    refine ai_const hB d_TX_add_13 ?_
    refine am_putf hB d_TX_add_14 P_TX_19_8 r (by simp) (am_fit.z (Or.inr rfl)) rfl ?_
    refine am_vret hB hR d_TX_add_17 rfl ?_ (Nat.zero_le _) (Nat.zero_le _)
    exact ⟨rfl, ⟨_, _, _, am_rs r, am_rn hne q, hg, tx_full ok (by rw [List.length_singleton]; omega), hN⟩, am_fr.set _ (by simp)⟩
/-- the codes of a literal -/
def sp_wd (k : Nat) : List Int := (am_byt.getD k []).map (fun b => b.toInt)
theorem sp_wd_len : ∀ k, k < 15 → (sp_wd k).length = am_len.getD k 0 := by decide
theorem sp_wd_get : ∀ k, k < 15 → ∀ j : Nat, j < am_len.getD k 0 → (sp_wd k)[j]? = some (sp_ch k j) := by decide +kernel
theorem sp_wd_take {k : Nat} {j : Nat} (hk : k < 15) (hj : j < am_len.getD k 0) : (sp_wd k).take (j + 1) = (sp_wd k).take j ++ [sp_ch k j] := by
  rw [List.take_add_one, sp_wd_get k hk j hj]
  rfl
theorem lk_TX_23 : Cond.methodLink "RetraceDesk$Text" 23 M_S_length.1 ∈ am_tbl := tb_795
theorem lk_TX_29 : Cond.methodLink "RetraceDesk$Text" 29 M_S_charAt.1 ∈ am_tbl := tb_796
theorem m_TX_addWord {l : Launch} {G : am_G} {h : am_H} {k c N w : Nat} {out : List Int} (a : am_txt h k c N out) (hw : w < 15) : am_M l G M_TX_addWord [.ref k, .retAddr w] h (am_tp h k c N (out ++ sp_wd w)) := by
  have hl := am_len_lt w hw
  have hln := sp_wd_len w hw
  refine am_M.of (by decide) (Nat.le_of_ble_eq_true rfl) (fun X hB hR => ?_)
  show am_Z X 0 [.ref k, .retAddr w, am_u] [] h 0 0
  have loop : ∀ (n i : Nat) (h1 : am_H), i + n = am_len.getD w 0 → am_txt h1 k c N (out ++ (sp_wd w).take i) → am_fr [k, c] h h1 → am_Z X 2 [.ref k, .retAddr w, am_n i] [] h1 0 0 := by
    intro n
    induction n with
    | zero =>
      intro i h1 hi b f
      refine am_iload_n hB d_TX_addWord_2 rfl rfl ?_
      refine am_aload_n hB d_TX_addWord_3 rfl rfl rfl ?_
      refine am_callX hB hR (as := []) hw (m_S_length hw h1) (cX_length lk_TX_23) rfl rfl d_TX_addWord_4 ⟨by decide, Nat.le_of_ble_eq_true rfl⟩ ⟨by decide, by decide⟩ rfl rfl (fun rr hh hp => ?_)
      obtain ⟨rfl, rfl⟩ := hp
      refine ai_jge (tgt := 25) hB d_TX_addWord_7 (by decide) (fun hc => ?_) (fun hc => ?_)
      · refine am_vret hB hR d_TX_addWord_25 rfl ?_ (Nat.zero_le _) (Nat.zero_le _)
        rw [List.take_of_length_le (by omega)] at b
        exact ⟨rfl, b, f⟩
      · omega
    | succ n ih =>
      intro i h1 hi b f
      refine am_iload_n hB d_TX_addWord_2 rfl rfl ?_
      refine am_aload_n hB d_TX_addWord_3 rfl rfl rfl ?_
      refine am_callX hB hR (as := []) hw (m_S_length hw h1) (cX_length lk_TX_23) rfl rfl d_TX_addWord_4 ⟨by decide, Nat.le_of_ble_eq_true rfl⟩ ⟨by decide, by decide⟩ rfl rfl (fun rr hh hp => ?_)
      obtain ⟨rfl, rfl⟩ := hp
      refine ai_jge (tgt := 25) hB d_TX_addWord_7 (by decide) (fun hc => ?_) (fun hc => ?_)
      · omega
      refine am_aload_n hB d_TX_addWord_10 rfl rfl rfl ?_
      refine am_aload_n hB d_TX_addWord_11 rfl rfl rfl ?_
      refine am_iload_n hB d_TX_addWord_12 rfl rfl ?_
      refine am_callX hB hR (as := [am_n i]) hw (m_S_charAt hw (by omega) (by omega) h1) (cX_charAt lk_TX_29) rfl rfl d_TX_addWord_13 ⟨by decide, Nat.le_of_ble_eq_true rfl⟩ ⟨by decide, by decide⟩ rfl rfl (fun rr hh hp => ?_)
      obtain ⟨rfl, rfl⟩ := hp
      obtain ⟨c1, c2, -⟩ := sp_ch_is (j := (i : Int)) hw (by omega) (by omega)
      have b' := b
      obtain ⟨g, s, o, r, q, -⟩ := b'
      refine am_callV hB hR (as := [am_n (sp_ch w i)]) r (m_TX_add b c1 (by omega)) c_TX_33 rfl rfl d_TX_addWord_16 ⟨by decide, Nat.le_of_ble_eq_true rfl⟩ ⟨by decide, by decide⟩ rfl rfl (fun rr hh hp => ?_)
      obtain ⟨rfl, b2, f2⟩ := hp
      refine ai_inc hB d_TX_addWord_19 rfl (by rw [hR.nL]; decide) rfl ?_
      refine am_goto (tgt := 2) hB d_TX_addWord_22 (by decide) ?_
      refine ih (i + 1) hh (by omega) ?_ (f.tr f2)
      rw [sp_wd_take hw (by omega), ← List.append_assoc]
      exact b2
  refine ai_const hB d_TX_addWord_0 ?_
  refine am_istore_n hB d_TX_addWord_1 rfl (by rw [hR.nL]; decide) rfl ?_
  exact loop (am_len.getD w 0) 0 h (by omega) (by simpa using a) am_fr.rf
/-- a span of codes -/
def sp_sp (f : Int → Int) (a : Int) (n : Nat) : List Int := (List.range n).map (fun i => f (a + (i : Nat)))
theorem sp_sp_len (f : Int → Int) (a : Int) (n : Nat) : (sp_sp f a n).length = n := by simp [sp_sp]
theorem tx_span {N : Nat} {f g : Int → Int} {s o a : Int} {n : Nat} {out : List Int} (h : tx_ok N g s o out) (hs : s + n ≤ N) : tx_ok N (am_cp f g a s n) (s + n) o (out ++ sp_sp f a n) := by
  obtain ⟨h1, h2, h3⟩ := h
  refine ⟨by omega, by omega, ?_⟩
  rcases h3 with ⟨e1, e2, e3⟩ | ⟨e1, e2⟩
  · refine Or.inl ⟨e1, by rw [List.length_append, sp_sp_len]; omega, fun j hj => ?_⟩
    rw [List.length_append, sp_sp_len] at hj
    unfold am_cp
    by_cases hjs : j < out.length
    · rw [if_neg (by omega), e3 j hjs, List.getD_eq_getElem?_getD, List.getD_eq_getElem?_getD, List.getElem?_append_left hjs]
    · rw [if_pos (by omega), List.getD_eq_getElem?_getD, List.getElem?_append_right (by omega)]
      simp only [sp_sp, List.getElem?_map]
      rw [List.getElem?_range (by omega)]
      simp only [Option.map_some, Option.getD_some]
      congr 1
      omega
  · exact Or.inr ⟨e1, by rw [List.length_append]; omega⟩
theorem m_TX_addSpan {l : Launch} {G : am_G} {h : am_H} {k c N q n : Nat} {out : List Int} {f : Int → Int} {a b : Int} (t : am_txt h k c N out) (rq : h[q]? = some (am_ia 0 n f)) (hf : am_cok f) (h0 : 0 ≤ a) (h1 : a ≤ b) (h2 : b ≤ n) (h3 : n < 1000000) : am_M l G M_TX_addSpan [.ref k, .ref q, am_n a, am_n b] h (am_tp h k c N (out ++ sp_sp f a (b - a).toNat)) := by
  have hne := t.ne
  obtain ⟨g, s, o, r, rc, hg, ok, hN⟩ := t
  have ok1 := ok.1
  have ok2 := ok.2.1
  refine am_M.of (by decide) (Nat.le_of_ble_eq_true rfl) (fun X hB hR => ?_)
  show am_Z X 0 [.ref k, .ref q, am_n a, am_n b] [] h 0 0
  refine am_iload_n hB d_TX_addSpan_0 rfl rfl ?_
  refine am_iload_n hB d_TX_addSpan_1 rfl rfl ?_
  refine ai_sub hB d_TX_addSpan_2 ?_
  refine am_aload_n hB d_TX_addSpan_3 rfl rfl rfl ?_
  refine am_getf hB d_TX_addSpan_4 F_TX_9_8 (by assumption) rfl ?_
  refine ai_alen hB d_TX_addSpan_7 ty_0 (by assumption) ?_
  refine am_aload_n hB d_TX_addSpan_8 rfl rfl rfl ?_
  refine am_getf hB d_TX_addSpan_9 F_TX_15_8 (by assumption) rfl ?_
  refine ai_sub hB d_TX_addSpan_12 ?_
  refine ai_jle (tgt := 22) hB d_TX_addSpan_13 (by decide) (fun hc => ?_) (fun hc => ?_)
  · refine am_aload_n hB d_TX_addSpan_22 rfl rfl rfl ?_
    refine am_iload_n hB d_TX_addSpan_23 rfl rfl ?_
    refine am_aload_n hB d_TX_addSpan_24 rfl rfl rfl ?_
    refine am_getf hB d_TX_addSpan_25 F_TX_9_8 (by assumption) rfl ?_
    refine am_aload_n hB d_TX_addSpan_28 rfl rfl rfl ?_
    refine am_getf hB d_TX_addSpan_29 F_TX_15_8 (by assumption) rfl ?_
    refine am_iload_n hB d_TX_addSpan_32 rfl rfl ?_
    refine am_iload_n hB d_TX_addSpan_33 rfl rfl ?_
    refine ai_sub hB d_TX_addSpan_34 ?_
    refine am_copy hB hR d_TX_addSpan_35 S_TX_50 rq rc (fun j _ _ => hf j) ⟨by decide, Nat.le_of_ble_eq_true rfl⟩ rfl ?_
    refine am_aload_n hB d_TX_addSpan_38 rfl rfl rfl ?_
    refine am_dup hB d_TX_addSpan_39 rfl ?_
    refine am_getf hB d_TX_addSpan_40 F_TX_15_8 (am_rn (Ne.symm hne) r) rfl ?_
    refine am_iload_n hB d_TX_addSpan_43 rfl rfl ?_
    refine am_iload_n hB d_TX_addSpan_44 rfl rfl ?_
    refine ai_sub hB d_TX_addSpan_45 ?_
    refine ai_add hB d_TX_addSpan_46 ?_
    refine am_putf hB d_TX_addSpan_47 P_TX_15_8 (am_rn (Ne.symm hne) r) (by simp) am_fit.i rfl ?_
    refine am_vret hB hR d_TX_addSpan_50 rfl ?_ (Nat.zero_le _) (Nat.zero_le _)
    have e : b - a = ((b - a).toNat : Int) := by omega
    rw [e]
    exact ⟨rfl, ⟨_, _, _, am_rs (am_rn (Ne.symm hne) r), am_rn hne (am_rs rc), hf.cp hg, tx_span ok (by omega), hN⟩, (am_fr.set _ (by simp)).tr (am_fr.set _ (by simp))⟩
  · refine am_aload_n hB d_TX_addSpan_16 rfl rfl rfl ?_
    refine ai_const hB d_TX_addSpan_17 ?_
    refine am_putf hB d_TX_addSpan_18 P_TX_19_8 r (by simp) (am_fit.z (Or.inr rfl)) rfl ?_
    refine am_vret hB hR d_TX_addSpan_21 rfl ?_ (Nat.zero_le _) (Nat.zero_le _)
    exact ⟨rfl, ⟨_, _, _, am_rs r, am_rn hne rc, hg, tx_full ok (by rw [sp_sp_len]; omega), hN⟩, am_fr.set _ (by simp)⟩
theorem m_TX_addSlice {l : Launch} {G : am_G} {h : am_H} {k c N q n z : Nat} {out : List Int} {f : Int → Int} {a b : Int} (t : am_txt h k c N out) (rz : h[z]? = some (ce_SL q a b)) (rq : h[q]? = some (am_ia 0 n f)) (hf : am_cok f) (h0 : 0 ≤ a) (h1 : a ≤ b) (h2 : b ≤ n) (h3 : n < 1000000) : am_M l G M_TX_addSlice [.ref k, .ref z] h (am_tp h k c N (out ++ sp_sp f a (b - a).toNat)) := by
  have t' := t
  obtain ⟨g, s, o, r, -⟩ := t'
  refine am_M.of (by decide) (Nat.le_of_ble_eq_true rfl) (fun X hB hR => ?_)
  show am_Z X 0 [.ref k, .ref z] [] h 0 0
  refine am_aload_n hB d_TX_addSlice_0 rfl rfl rfl ?_
  refine am_aload_n hB d_TX_addSlice_1 rfl rfl rfl ?_
  refine am_getf hB d_TX_addSlice_2 F_TX_37_7 (by assumption) rfl ?_
  refine am_aload_n hB d_TX_addSlice_5 rfl rfl rfl ?_
  refine am_getf hB d_TX_addSlice_6 F_TX_40_7 (by assumption) rfl ?_
  refine am_aload_n hB d_TX_addSlice_9 rfl rfl rfl ?_
  refine am_getf hB d_TX_addSlice_10 F_TX_43_7 (by assumption) rfl ?_
  refine am_callV hB hR (as := [.ref q, am_n a, am_n b]) r (m_TX_addSpan t rq hf h0 h1 h2 h3) c_TX_46 rfl rfl d_TX_addSlice_13 ⟨by decide, Nat.le_of_ble_eq_true rfl⟩ ⟨by decide, by decide⟩ rfl rfl (fun rr hh hp => ?_)
  obtain ⟨rfl, b2, f2⟩ := hp
  refine am_vret hB hR d_TX_addSlice_16 rfl ?_ (Nat.zero_le _) (Nat.zero_le _)
  exact ⟨rfl, b2, f2⟩
