/-! class lines are sought; a method line is entered -/
def sp_fd (P : Nat → Bool) : Nat → Nat → Option Nat
  | _, 0 => none
  | i, n + 1 => if P i then some i else sp_fd P (i + 1) n
def mp_rv (b : Nat) : Option Nat → Value
  | none => .null
  | some i => .ref (b + 4 + 3 * i)
theorem m_MA_lineOfReal {l : Launch} {G : am_G} {h : am_H} {b z cz nz : Nat} {g gz : Int → Int} {s : Nat → Int} {f t : Int} {n : Nat} (m : am_map h b g s) (hg : am_cok g) (sz : am_sl h z cz f t nz gz) (hn : s 2 = n) (hn8 : n ≤ 8) (hv : ∀ i, i < n → 0 ≤ s (8 + 7 * i) ∧ s (8 + 7 * i) ≤ s (9 + 7 * i) ∧ s (9 + 7 * i) ≤ 600) : am_M l G M_MA_lineOfReal [.ref b, .ref z] h (am_is (mp_rv b (sp_fd (fun i => sp_eq g (s (8 + 7 * i)) (s (9 + 7 * i)) gz f t) 0 n)) h) := by
  refine am_M.of (by decide) (Nat.le_of_ble_eq_true rfl) (fun X hB hR => ?_)
  show am_Z X 0 [.ref b, .ref z, am_u] [] h 0 0
  have loop : ∀ (k i : Nat), i + k = n → sp_fd (fun i => sp_eq g (s (8 + 7 * i)) (s (9 + 7 * i)) gz f t) 0 n = sp_fd (fun i => sp_eq g (s (8 + 7 * i)) (s (9 + 7 * i)) gz f t) i k → am_Z X 2 [.ref b, .ref z, am_n i] [] h 0 0 := by
    intro k
    induction k with
    | zero =>
      intro i hi hs
      refine am_iload_n hB d_MA_lineOfReal_2 rfl rfl ?_
      refine am_aload_n hB d_MA_lineOfReal_3 rfl rfl rfl ?_
      refine am_getf hB d_MA_lineOfReal_4 F_MA_49_4 m.1 rfl ?_
      rw [hn]
      refine ai_jge (tgt := 39) hB d_MA_lineOfReal_7 (by decide) (fun hc => ?_) (fun hc => ?_)
      · refine am_null hB d_MA_lineOfReal_39 ?_
        refine am_aret hB hR d_MA_lineOfReal_40 rfl (Or.inl ⟨_, rfl⟩) rfl ?_ (Nat.zero_le _) (Nat.zero_le _)
        rw [hs]
        exact ⟨rfl, rfl⟩
      · omega
    | succ k ih =>
      intro i hi hs
      have i8 : i < 8 := by omega
      have hvi := hv i (by omega)
      refine am_iload_n hB d_MA_lineOfReal_2 rfl rfl ?_
      refine am_aload_n hB d_MA_lineOfReal_3 rfl rfl rfl ?_
      refine am_getf hB d_MA_lineOfReal_4 F_MA_49_4 m.1 rfl ?_
      rw [hn]
      refine ai_jge (tgt := 39) hB d_MA_lineOfReal_7 (by decide) (fun hc => ?_) (fun hc => ?_)
      · omega
      refine am_aload_n hB d_MA_lineOfReal_10 rfl rfl rfl ?_
      refine am_getf hB d_MA_lineOfReal_11 F_MA_20_4 m.1 rfl ?_
      refine am_iload_n hB d_MA_lineOfReal_14 rfl rfl ?_
      refine ai_aald hB d_MA_lineOfReal_15 ty_3 m.2.2.2.1 (z := b + 4 + 3 * i) (if_pos (by omega)) ?_
      refine am_getf hB d_MA_lineOfReal_16 F_MA_80_0 (m.C i8).1 rfl ?_
      refine am_aload_n hB d_MA_lineOfReal_19 rfl rfl rfl ?_
      have s1 : am_sl h (b + 5 + 3 * i) (b + 1) (s (8 + 7 * i)) (s (9 + 7 * i)) 600 g := ⟨(m.C i8).2.1, m.2.1, hg, hvi.1, hvi.2.1, hvi.2.2, by omega⟩
      refine am_callV hB hR (as := [.ref z]) s1.1 (m_same s1 sz) c_MA_176 rfl rfl d_MA_lineOfReal_20 ⟨by decide, Nat.le_of_ble_eq_true rfl⟩ ⟨by decide, by decide⟩ rfl rfl (fun rr hh hp => ?_)
      obtain ⟨rfl, rfl⟩ := hp
      cases e1 : sp_eq g (s (8 + 7 * i)) (s (9 + 7 * i)) gz f t with
      | false =>
        show am_Z X 23 [.ref b, .ref z, am_n i] [am_n 0] h 0 0
        refine ai_zeq (tgt := 33) hB d_MA_lineOfReal_23 (by decide) (fun c1 => ?_) (fun c1 => ?_)
        · refine ai_inc hB d_MA_lineOfReal_33 rfl (by rw [hR.nL]; decide) rfl ?_
          refine am_goto (tgt := 2) hB d_MA_lineOfReal_36 (by decide) (ih (i + 1) (by omega) ?_)
          rw [hs, sp_fd, if_neg (by rw [e1]; decide)]
        · omega
      | true =>
        show am_Z X 23 [.ref b, .ref z, am_n i] [am_n 1] h 0 0
        refine ai_zeq (tgt := 33) hB d_MA_lineOfReal_23 (by decide) (fun c1 => ?_) (fun c1 => ?_)
        · omega
        refine am_aload_n hB d_MA_lineOfReal_26 rfl rfl rfl ?_
        refine am_getf hB d_MA_lineOfReal_27 F_MA_20_4 m.1 rfl ?_
        refine am_iload_n hB d_MA_lineOfReal_30 rfl rfl ?_
        refine ai_aald hB d_MA_lineOfReal_31 ty_3 m.2.2.2.1 (z := b + 4 + 3 * i) (if_pos (by omega)) ?_
        refine am_aret hB hR d_MA_lineOfReal_32 rfl (Or.inl ⟨_, rfl⟩) rfl ?_ (Nat.zero_le _) (Nat.zero_le _)
        rw [hs, sp_fd, if_pos e1]
        exact ⟨rfl, rfl⟩
  refine ai_const hB d_MA_lineOfReal_0 ?_
  refine am_istore_n hB d_MA_lineOfReal_1 rfl (by rw [hR.nL]; decide) rfl ?_
  exact loop n 0 (by omega) rfl
theorem m_MA_lineOfShort {l : Launch} {G : am_G} {h : am_H} {b z cz nz : Nat} {g gz : Int → Int} {s : Nat → Int} {f t : Int} {n : Nat} (m : am_map h b g s) (hg : am_cok g) (sz : am_sl h z cz f t nz gz) (hn : s 2 = n) (hn8 : n ≤ 8) (hv : ∀ i, i < n → 0 ≤ s (10 + 7 * i) ∧ s (10 + 7 * i) ≤ s (11 + 7 * i) ∧ s (11 + 7 * i) ≤ 600) : am_M l G M_MA_lineOfShort [.ref b, .ref z] h (am_is (mp_rv b (sp_fd (fun i => sp_eq g (s (10 + 7 * i)) (s (11 + 7 * i)) gz f t) 0 n)) h) := by
  refine am_M.of (by decide) (Nat.le_of_ble_eq_true rfl) (fun X hB hR => ?_)
  show am_Z X 0 [.ref b, .ref z, am_u] [] h 0 0
  have loop : ∀ (k i : Nat), i + k = n → sp_fd (fun i => sp_eq g (s (10 + 7 * i)) (s (11 + 7 * i)) gz f t) 0 n = sp_fd (fun i => sp_eq g (s (10 + 7 * i)) (s (11 + 7 * i)) gz f t) i k → am_Z X 2 [.ref b, .ref z, am_n i] [] h 0 0 := by
    intro k
    induction k with
    | zero =>
      intro i hi hs
      refine am_iload_n hB d_MA_lineOfShort_2 rfl rfl ?_
      refine am_aload_n hB d_MA_lineOfShort_3 rfl rfl rfl ?_
      refine am_getf hB d_MA_lineOfShort_4 F_MA_49_4 m.1 rfl ?_
      rw [hn]
      refine ai_jge (tgt := 39) hB d_MA_lineOfShort_7 (by decide) (fun hc => ?_) (fun hc => ?_)
      · refine am_null hB d_MA_lineOfShort_39 ?_
        refine am_aret hB hR d_MA_lineOfShort_40 rfl (Or.inl ⟨_, rfl⟩) rfl ?_ (Nat.zero_le _) (Nat.zero_le _)
        rw [hs]
        exact ⟨rfl, rfl⟩
      · omega
    | succ k ih =>
      intro i hi hs
      have i8 : i < 8 := by omega
      have hvi := hv i (by omega)
      refine am_iload_n hB d_MA_lineOfShort_2 rfl rfl ?_
      refine am_aload_n hB d_MA_lineOfShort_3 rfl rfl rfl ?_
      refine am_getf hB d_MA_lineOfShort_4 F_MA_49_4 m.1 rfl ?_
      rw [hn]
      refine ai_jge (tgt := 39) hB d_MA_lineOfShort_7 (by decide) (fun hc => ?_) (fun hc => ?_)
      · omega
      refine am_aload_n hB d_MA_lineOfShort_10 rfl rfl rfl ?_
      refine am_getf hB d_MA_lineOfShort_11 F_MA_20_4 m.1 rfl ?_
      refine am_iload_n hB d_MA_lineOfShort_14 rfl rfl ?_
      refine ai_aald hB d_MA_lineOfShort_15 ty_3 m.2.2.2.1 (z := b + 4 + 3 * i) (if_pos (by omega)) ?_
      refine am_getf hB d_MA_lineOfShort_16 F_MA_89_0 (m.C i8).1 rfl ?_
      refine am_aload_n hB d_MA_lineOfShort_19 rfl rfl rfl ?_
      have s1 : am_sl h (b + 6 + 3 * i) (b + 1) (s (10 + 7 * i)) (s (11 + 7 * i)) 600 g := ⟨(m.C i8).2.2, m.2.1, hg, hvi.1, hvi.2.1, hvi.2.2, by omega⟩
      refine am_callV hB hR (as := [.ref z]) s1.1 (m_same s1 sz) c_MA_176 rfl rfl d_MA_lineOfShort_20 ⟨by decide, Nat.le_of_ble_eq_true rfl⟩ ⟨by decide, by decide⟩ rfl rfl (fun rr hh hp => ?_)
      obtain ⟨rfl, rfl⟩ := hp
      cases e1 : sp_eq g (s (10 + 7 * i)) (s (11 + 7 * i)) gz f t with
      | false =>
        show am_Z X 23 [.ref b, .ref z, am_n i] [am_n 0] h 0 0
        refine ai_zeq (tgt := 33) hB d_MA_lineOfShort_23 (by decide) (fun c1 => ?_) (fun c1 => ?_)
        · refine ai_inc hB d_MA_lineOfShort_33 rfl (by rw [hR.nL]; decide) rfl ?_
          refine am_goto (tgt := 2) hB d_MA_lineOfShort_36 (by decide) (ih (i + 1) (by omega) ?_)
          rw [hs, sp_fd, if_neg (by rw [e1]; decide)]
        · omega
      | true =>
        show am_Z X 23 [.ref b, .ref z, am_n i] [am_n 1] h 0 0
        refine ai_zeq (tgt := 33) hB d_MA_lineOfShort_23 (by decide) (fun c1 => ?_) (fun c1 => ?_)
        · omega
        refine am_aload_n hB d_MA_lineOfShort_26 rfl rfl rfl ?_
        refine am_getf hB d_MA_lineOfShort_27 F_MA_20_4 m.1 rfl ?_
        refine am_iload_n hB d_MA_lineOfShort_30 rfl rfl ?_
        refine ai_aald hB d_MA_lineOfShort_31 ty_3 m.2.2.2.1 (z := b + 4 + 3 * i) (if_pos (by omega)) ?_
        refine am_aret hB hR d_MA_lineOfShort_32 rfl (Or.inl ⟨_, rfl⟩) rfl ?_ (Nat.zero_le _) (Nat.zero_le _)
        rw [hs, sp_fd, if_pos e1]
        exact ⟨rfl, rfl⟩
  refine ai_const hB d_MA_lineOfShort_0 ?_
  refine am_istore_n hB d_MA_lineOfShort_1 rfl (by rw [hR.nL]; decide) rfl ?_
  exact loop n 0 (by omega) rfl
/-- does line i go on the group that line q begins -/
def sp_go (g : Int → Int) (s : Nat → Int) (i q : Nat) : Bool := decide (s (72 + 12 * i) ≠ -1) && (decide (s (70 + 12 * i) = s (70 + 12 * q)) && (decide (s (72 + 12 * i) = s (72 + 12 * q)) && (decide (s (73 + 12 * i) = s (73 + 12 * q)) && sp_eq g (s (68 + 12 * i)) (s (69 + 12 * i)) g (s (68 + 12 * q)) (s (69 + 12 * q)))))
/-- the numbers of a method line that are small -/
def mp_lv (s : Nat → Int) (i : Nat) : Prop := (0 ≤ s (64 + 12 * i) ∧ s (64 + 12 * i) ≤ s (65 + 12 * i) ∧ s (65 + 12 * i) ≤ 600) ∧ (0 ≤ s (66 + 12 * i) ∧ s (66 + 12 * i) ≤ s (67 + 12 * i) ∧ s (67 + 12 * i) ≤ 600) ∧ (0 ≤ s (68 + 12 * i) ∧ s (68 + 12 * i) ≤ s (69 + 12 * i) ∧ s (69 + 12 * i) ≤ 600) ∧ (0 ≤ s (70 + 12 * i) ∧ s (70 + 12 * i) < 8) ∧ (-1 ≤ s (72 + 12 * i) ∧ s (72 + 12 * i) < 10000) ∧ (-1 ≤ s (73 + 12 * i) ∧ s (73 + 12 * i) < 10000) ∧ (-1 ≤ s (74 + 12 * i) ∧ s (74 + 12 * i) < 10000) ∧ (-1 ≤ s (75 + 12 * i) ∧ s (75 + 12 * i) < 10000)
theorem am_map.slO {h : am_H} {b : Nat} {g : Int → Int} {s : Nat → Int} (m : am_map h b g s) (hg : am_cok g) {i : Nat} (hi : i < 32) (v : mp_lv s i) : am_sl h (b + 30 + 4 * i) (b + 1) (s (64 + 12 * i)) (s (65 + 12 * i)) 600 g := ⟨(m.L hi).2.1, m.2.1, hg, v.1.1, v.1.2.1, v.1.2.2, by omega⟩
theorem am_map.slM {h : am_H} {b : Nat} {g : Int → Int} {s : Nat → Int} (m : am_map h b g s) (hg : am_cok g) {i : Nat} (hi : i < 32) (v : mp_lv s i) : am_sl h (b + 31 + 4 * i) (b + 1) (s (66 + 12 * i)) (s (67 + 12 * i)) 600 g := ⟨(m.L hi).2.2.1, m.2.1, hg, v.2.1.1, v.2.1.2.1, v.2.1.2.2, by omega⟩
theorem am_map.slS {h : am_H} {b : Nat} {g : Int → Int} {s : Nat → Int} (m : am_map h b g s) (hg : am_cok g) {i : Nat} (hi : i < 32) (v : mp_lv s i) : am_sl h (b + 32 + 4 * i) (b + 1) (s (68 + 12 * i)) (s (69 + 12 * i)) 600 g := ⟨(m.L hi).2.2.2, m.2.1, hg, v.2.2.1.1, v.2.2.1.2.1, v.2.2.1.2.2, by omega⟩
/-- what entering line i of class line p leaves, where q is the line that begins the latest group (or -1) -/
def mp_ent (g : Int → Int) (s s' : Nat → Int) (i p : Nat) : Prop := (∀ q : Nat, s 5 = q → sp_go g s i q = true → s' 5 = s 5 ∧ s' 4 = s 4 ∧ s' (14 + 7 * p) = s (14 + 7 * p) ∧ s' (71 + 12 * i) = 0 ∧ s' (71 + 12 * q) = s (71 + 12 * q) + 1 ∧ ∀ r, r ≠ 3 → r ≠ 13 + 7 * p → r ≠ 71 + 12 * i → r ≠ 71 + 12 * q → s' r = s r) ∧
  ((s 5 = -1 ∨ ∃ q : Nat, s 5 = q ∧ sp_go g s i q = false) → s' 5 = i ∧ s' 4 = s 4 + 1 ∧ s' (14 + 7 * p) = s (14 + 7 * p) + 1 ∧ s' (71 + 12 * i) = 1 ∧ ∀ r, r ≠ 3 → r ≠ 4 → r ≠ 5 → r ≠ 13 + 7 * p → r ≠ 14 + 7 * p → r ≠ 71 + 12 * i → s' r = s r) ∧ s' 3 = i + 1 ∧ s' (13 + 7 * p) = i + 1
theorem m_MA_enter {l : Launch} {G : am_G} {h : am_H} {b i p : Nat} {g : Int → Int} {s : Nat → Int} (m : am_map h b g s) (hg : am_cok g) (hi : i < 32) (hp8 : p < 8) (h3 : s 3 = i) (h5 : s 5 = -1 ∨ ∃ q : Nat, s 5 = q ∧ q < i) (hv : ∀ j, j ≤ i → mp_lv s j) : am_M l G M_MA_enterMethodLine [.ref b, .ref (b + 29 + 4 * i), .ref (b + 4 + 3 * p)] h (fun r h' => r = none ∧ ∃ s', mp_to h b g h' s' ∧ mp_ent g s s' i p) := by
  refine am_M.of (by decide) (Nat.le_of_ble_eq_true rfl) (fun X hB hR => ?_)
  show am_Z X 0 [.ref b, .ref (b + 29 + 4 * i), .ref (b + 4 + 3 * p)] [] h 0 0
  obtain ⟨h1, s1, e1, m1, g1, v1, o1⟩ := m.e71 hi 0
  -- from 57 on: the latest group is q
  have tl : ∀ (h2 : am_H) (s2 : Nat → Int) (q : Nat), mp_to h b g h2 s2 → s2 5 = q → q ≤ i → s2 3 = i → (∀ s' : Nat → Int, s' (71 + 12 * q) = s2 (71 + 12 * q) + 1 → s' 3 = i + 1 → s' (13 + 7 * p) = i + 1 → (∀ r, r ≠ 3 → r ≠ 13 + 7 * p → r ≠ 71 + 12 * q → s' r = s2 r) → mp_ent g s s' i p) → am_Z X 57 [.ref b, .ref (b + 29 + 4 * i), .ref (b + 4 + 3 * p)] [] h2 0 0 := by
    intro h2 s2 q t2 hq5 hqi hq3 hent
    obtain ⟨m2, g2⟩ := t2
    have q32 : q < 32 := by omega
    refine am_aload_n hB d_MA_enterMethodLine_57 rfl rfl rfl ?_
    refine am_getf hB d_MA_enterMethodLine_58 F_MA_27_4 m2.1 rfl ?_
    refine am_aload_n hB d_MA_enterMethodLine_61 rfl rfl rfl ?_
    refine am_getf hB d_MA_enterMethodLine_62 F_MA_58_4 m2.1 rfl ?_
    rw [hq5]
    refine ai_aald hB d_MA_enterMethodLine_65 ty_4 m2.2.2.2.2.1 (z := b + 29 + 4 * q) (if_pos (by omega)) ?_
    refine am_dup hB d_MA_enterMethodLine_66 rfl ?_
    refine am_getf hB d_MA_enterMethodLine_67 F_MA_170_5 (m2.L q32).1 rfl ?_
    refine ai_const hB d_MA_enterMethodLine_70 ?_
    refine ai_add hB d_MA_enterMethodLine_71 ?_
    obtain ⟨h3, s3, e3, m3, g3, v3, o3⟩ := m2.e71 q32 (s2 (71 + 12 * q) + 1)
    refine am_putf hB d_MA_enterMethodLine_72 P_MA_170_5 (m2.L q32).1 (by simp) am_fit.i e3 ?_
    refine am_aload_n hB d_MA_enterMethodLine_75 rfl rfl rfl ?_
    refine am_dup hB d_MA_enterMethodLine_76 rfl ?_
    refine am_getf hB d_MA_enterMethodLine_77 F_MA_52_4 m3.1 rfl ?_
    rw [o3 3 (by omega), hq3]
    refine ai_const hB d_MA_enterMethodLine_80 ?_
    refine ai_add hB d_MA_enterMethodLine_81 ?_
    obtain ⟨h4, s4, e4, m4, g4, v4, o4⟩ := m3.e3 (i + 1)
    refine am_putf hB d_MA_enterMethodLine_82 P_MA_52_4 m3.1 (by simp) am_fit.i e4 ?_
    refine am_aload_n hB d_MA_enterMethodLine_85 rfl rfl rfl ?_
    refine am_aload_n hB d_MA_enterMethodLine_86 rfl rfl rfl ?_
    refine am_getf hB d_MA_enterMethodLine_87 F_MA_52_4 m4.1 rfl ?_
    rw [v4]
    obtain ⟨h6, s6, e6, m6, g6, v6, o6⟩ := m4.e13 hp8 (i + 1)
    refine am_putf hB d_MA_enterMethodLine_90 P_MA_104_0 (m4.C hp8).1 (by simp) am_fit.i e6 ?_
    refine am_vret hB hR d_MA_enterMethodLine_93 rfl ?_ (Nat.zero_le _) (Nat.zero_le _)
    refine ⟨rfl, s6, ⟨m6, ((g2.tr g3).tr g4).tr g6⟩, hent s6 ?_ ?_ v6 ?_⟩
    · rw [o6 _ (by omega), o4 _ (by omega), v3]
    · rw [o6 _ (by omega), v4]
    · intro r a1 a2 a3
      rw [o6 r a2, o4 r a1, o3 r a3]
  have nw : (s 5 = -1 ∨ ∃ q : Nat, s 5 = q ∧ sp_go g s i q = false) → am_Z X 29 [.ref b, .ref (b + 29 + 4 * i), .ref (b + 4 + 3 * p)] [] h1 0 0 := by
    intro hz
    refine am_aload_n hB d_MA_enterMethodLine_29 rfl rfl rfl ?_
    refine am_aload_n hB d_MA_enterMethodLine_30 rfl rfl rfl ?_
    refine am_getf hB d_MA_enterMethodLine_31 F_MA_52_4 m1.1 rfl ?_
    rw [o1 3 (by omega), h3]
    obtain ⟨h2, s2, e2, m2, g2, v2, o2⟩ := m1.e5 i
    refine am_putf hB d_MA_enterMethodLine_34 P_MA_58_4 m1.1 (by simp) am_fit.i e2 ?_
    refine am_aload_n hB d_MA_enterMethodLine_37 rfl rfl rfl ?_
    refine am_dup hB d_MA_enterMethodLine_38 rfl ?_
    refine am_getf hB d_MA_enterMethodLine_39 F_MA_55_4 m2.1 rfl ?_
    refine ai_const hB d_MA_enterMethodLine_42 ?_
    refine ai_add hB d_MA_enterMethodLine_43 ?_
    obtain ⟨h4, s4, e4, m4, g4, v4, o4⟩ := m2.e4 (s2 4 + 1)
    refine am_putf hB d_MA_enterMethodLine_44 P_MA_55_4 m2.1 (by simp) am_fit.i e4 ?_
    refine am_aload_n hB d_MA_enterMethodLine_47 rfl rfl rfl ?_
    refine am_dup hB d_MA_enterMethodLine_48 rfl ?_
    refine am_getf hB d_MA_enterMethodLine_49 F_MA_107_0 (m4.C hp8).1 rfl ?_
    refine ai_const hB d_MA_enterMethodLine_52 ?_
    refine ai_add hB d_MA_enterMethodLine_53 ?_
    obtain ⟨h6, s6, e6, m6, g6, v6, o6⟩ := m4.e14 hp8 (s4 (14 + 7 * p) + 1)
    refine am_putf hB d_MA_enterMethodLine_54 P_MA_107_0 (m4.C hp8).1 (by simp) am_fit.i e6 ?_
    have k6 : ∀ r, r ≠ 4 → r ≠ 5 → r ≠ 14 + 7 * p → r ≠ 71 + 12 * i → s6 r = s r := fun r a1 a2 a3 a4 => by rw [o6 r a3, o4 r a1, o2 r a2, o1 r a4]
    refine tl h6 s6 i ⟨m6, ((g1.tr g2).tr g4).tr g6⟩ (by rw [o6 5 (by omega), o4 5 (by omega), v2]) (by omega) (by rw [k6 3 (by omega) (by omega) (by omega) (by omega), h3]) ?_
    intro s' x1 x2 x3 x4
    refine ⟨fun q hq hgo => ?_, fun _ => ⟨?_, ?_, ?_, ?_, ?_⟩, x2, x3⟩
    · rcases hz with z | ⟨q', z1, z2⟩
      · omega
      · have : q' = q := by omega
        subst this
        rw [hgo] at z2
        cases z2
    · rw [x4 5 (by omega) (by omega) (by omega), o6 5 (by omega), o4 5 (by omega), v2]
    · rw [x4 4 (by omega) (by omega) (by omega), o6 4 (by omega), v4, o2 4 (by omega), o1 4 (by omega)]
    · rw [x4 _ (by omega) (by omega) (by omega), v6, o4 _ (by omega), o2 _ (by omega), o1 _ (by omega)]
    · rw [x1, o6 _ (by omega), o4 _ (by omega), o2 _ (by omega), v1]
      rfl
    · intro r a1 a2 a3 a4 a5 a6
      rw [x4 r a1 a4 a6, k6 r a2 a3 a5 a6]
  refine am_aload_n hB d_MA_enterMethodLine_0 rfl rfl rfl ?_
  refine ai_const hB d_MA_enterMethodLine_1 ?_
  refine am_putf hB d_MA_enterMethodLine_2 P_MA_170_5 (m.L hi).1 (by simp) am_fit.i e1 ?_
  refine am_aload_n hB d_MA_enterMethodLine_5 rfl rfl rfl ?_
  refine am_getf hB d_MA_enterMethodLine_6 F_MA_58_4 m1.1 rfl ?_
  rw [o1 5 (by omega)]
  refine ai_const hB d_MA_enterMethodLine_9 ?_
  rcases h5 with z5 | ⟨q, z5, qi⟩
  · rw [z5]
    refine ai_jeq (tgt := 29) hB d_MA_enterMethodLine_10 (by decide) (fun c1 => ?_) (fun c1 => ?_)
    · exact nw (Or.inl z5)
    · omega
  · rw [z5]
    have q32 : q < 32 := by omega
    refine ai_jeq (tgt := 29) hB d_MA_enterMethodLine_10 (by decide) (fun c1 => ?_) (fun c1 => ?_)
    · omega
    refine am_aload_n hB d_MA_enterMethodLine_13 rfl rfl rfl ?_
    refine am_aload_n hB d_MA_enterMethodLine_14 rfl rfl rfl ?_
    refine am_getf hB d_MA_enterMethodLine_15 F_MA_27_4 m1.1 rfl ?_
    refine am_aload_n hB d_MA_enterMethodLine_18 rfl rfl rfl ?_
    refine am_getf hB d_MA_enterMethodLine_19 F_MA_58_4 m1.1 rfl ?_
    rw [o1 5 (by omega), z5]
    refine ai_aald hB d_MA_enterMethodLine_22 ty_4 m1.2.2.2.2.1 (z := b + 29 + 4 * q) (if_pos (by omega)) ?_
    have lvi : mp_lv s1 i := by
      have := hv i (Nat.le_refl i)
      unfold mp_lv at this ⊢
      simp only [o1 (64 + 12 * i) (by omega), o1 (65 + 12 * i) (by omega), o1 (66 + 12 * i) (by omega), o1 (67 + 12 * i) (by omega), o1 (68 + 12 * i) (by omega), o1 (69 + 12 * i) (by omega), o1 (70 + 12 * i) (by omega), o1 (72 + 12 * i) (by omega), o1 (73 + 12 * i) (by omega), o1 (74 + 12 * i) (by omega), o1 (75 + 12 * i) (by omega)]
      exact this
    have lvq : mp_lv s1 q := by
      have := hv q (by omega)
      unfold mp_lv at this ⊢
      simp only [o1 (64 + 12 * q) (by omega), o1 (65 + 12 * q) (by omega), o1 (66 + 12 * q) (by omega), o1 (67 + 12 * q) (by omega), o1 (68 + 12 * q) (by omega), o1 (69 + 12 * q) (by omega), o1 (70 + 12 * q) (by omega), o1 (72 + 12 * q) (by omega), o1 (73 + 12 * q) (by omega), o1 (74 + 12 * q) (by omega), o1 (75 + 12 * q) (by omega)]
      exact this
    have egr : (decide (s1 (72 + 12 * i) ≠ -1) && (decide (s1 (70 + 12 * i) = s1 (70 + 12 * q)) && (decide (s1 (72 + 12 * i) = s1 (72 + 12 * q)) && (decide (s1 (73 + 12 * i) = s1 (73 + 12 * q)) && sp_eq g (s1 (68 + 12 * i)) (s1 (69 + 12 * i)) g (s1 (68 + 12 * q)) (s1 (69 + 12 * q)))))) = sp_go g s i q := by
      unfold sp_go
      simp only [o1 (68 + 12 * i) (by omega), o1 (69 + 12 * i) (by omega), o1 (70 + 12 * i) (by omega), o1 (72 + 12 * i) (by omega), o1 (73 + 12 * i) (by omega), o1 (68 + 12 * q) (by omega), o1 (69 + 12 * q) (by omega), o1 (70 + 12 * q) (by omega), o1 (72 + 12 * q) (by omega), o1 (73 + 12 * q) (by omega)]
    obtain ⟨-, -, -, a1, a2, a3, -⟩ := id lvi
    obtain ⟨-, -, -, b1, b2, b3, -⟩ := id lvq
    refine am_callV hB hR (as := [.ref (b + 29 + 4 * q)]) (m1.L hi).1 (m_ML_isInGroupOf (m1.L hi).1 (m1.L q32).1 (m1.slS hg hi lvi) (m1.slS hg q32 lvq) ⟨by omega, by omega⟩ ⟨by omega, by omega⟩ ⟨by omega, by omega⟩ ⟨by omega, by omega⟩ ⟨by omega, by omega⟩ ⟨by omega, by omega⟩) c_MA_173 rfl rfl d_MA_enterMethodLine_23 ⟨by decide, Nat.le_of_ble_eq_true rfl⟩ ⟨by decide, by decide⟩ rfl rfl (fun rr hh hp => ?_)
    obtain ⟨rfl, rfl⟩ := hp
    rw [egr]
    cases e9 : sp_go g s i q with
    | false =>
      show am_Z X 26 [.ref b, .ref (b + 29 + 4 * i), .ref (b + 4 + 3 * p)] [am_n 0] h1 0 0
      refine ai_zne (tgt := 57) hB d_MA_enterMethodLine_26 (by decide) (fun c2 => ?_) (fun c2 => ?_)
      · omega
      · exact nw (Or.inr ⟨q, z5, e9⟩)
    | true =>
      show am_Z X 26 [.ref b, .ref (b + 29 + 4 * i), .ref (b + 4 + 3 * p)] [am_n 1] h1 0 0
      refine ai_zne (tgt := 57) hB d_MA_enterMethodLine_26 (by decide) (fun c2 => ?_) (fun c2 => ?_)
      · refine tl h1 s1 q ⟨m1, g1⟩ (by rw [o1 5 (by omega), z5]) (by omega) (by rw [o1 3 (by omega), h3]) ?_
        intro s' x1 x2 x3 x4
        refine ⟨fun q' hq' _ => ?_, fun hz => ?_, x2, x3⟩
        · have : q' = q := by omega
          subst this
          refine ⟨?_, ?_, ?_, ?_, ?_, ?_⟩
          · rw [x4 5 (by omega) (by omega) (by omega), o1 5 (by omega)]
          · rw [x4 4 (by omega) (by omega) (by omega), o1 4 (by omega)]
          · rw [x4 _ (by omega) (by omega) (by omega), o1 _ (by omega)]
          · rw [x4 _ (by omega) (by omega) (by omega), v1]
          · rw [x1, o1 _ (by omega)]
          · intro r a1 a2 a3 a4
            rw [x4 r a1 a2 a4, o1 r a3]
        · exfalso
          rcases hz with z | ⟨q', z1, z2⟩
          · omega
          · have : q' = q := by omega
            subst this
            rw [e9] at z2
            cases z2
      · omega
