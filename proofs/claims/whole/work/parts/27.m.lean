/-! slices by their names; what a mapping answers, in words -/
def am_sn (h : am_H) (z : Nat) (n : List Int) : Prop := ∃ (c : Nat) (f t : Int) (N : Nat) (g : Int → Int), am_sl h z c f t N g ∧ nm g f t = n
theorem am_sl.sn {h : am_H} {z c N : Nat} {f t : Int} {g : Int → Int} {n : List Int} (s : am_sl h z c f t N g) (e : nm g f t = n) : am_sn h z n := ⟨c, f, t, N, g, s, e⟩
theorem mn_same {l : Launch} {G : am_G} {h : am_H} {k1 k2 : Nat} {n1 n2 : List Int} (s1 : am_sn h k1 n1) (s2 : am_sn h k2 n2) : am_M l G M_SL_isSame [.ref k1, .ref k2] h (am_is (am_n (sp_i (decide (n1 = n2)))) h) := by
  obtain ⟨c1, f1, t1, N1, g1, s1, rfl⟩ := s1
  obtain ⟨c2, f2, t2, N2, g2, s2, rfl⟩ := s2
  have := m_same (l := l) (G := G) s1 s2
  rw [sp_eq_nm s1.2.2.2.2.1 s2.2.2.2.2.1] at this
  exact this
theorem am_sn.cell {h : am_H} {z : Nat} {n : List Int} (s : am_sn h z n) : ∃ c f t, h[z]? = some (ce_SL c f t) := by
  obtain ⟨c, f, t, N, g, s, -⟩ := s
  exact ⟨c, f, t, s.1⟩
theorem mn_isRealCall {l : Launch} {G : am_G} {h : am_H} {k o m b k1 k2 : Nat} {cp gs fi la rf rl : Int} {n1 n2 n3 n4 : List Int} (r : h[k]? = some (ce_ML o m b cp gs fi la rf rl)) (s1 : am_sn h o n1) (s2 : am_sn h m n2) (s3 : am_sn h k1 n3) (s4 : am_sn h k2 n4) : am_M l G M_ML_isRealCall [.ref k, .ref k1, .ref k2] h (am_is (am_n (sp_i (decide (n1 = n3) && decide (n2 = n4)))) h) := by
  obtain ⟨_, _, _, r1⟩ := s1.cell
  obtain ⟨_, _, _, r2⟩ := s2.cell
  refine am_M.of (by decide) (Nat.le_of_ble_eq_true rfl) (fun X hB hR => ?_)
  show am_Z X 0 [.ref k, .ref k1, .ref k2] [] h 0 0
  refine am_aload_n hB d_ML_isRealCall_0 rfl rfl rfl ?_
  refine am_getf hB d_ML_isRealCall_1 F_ML_14_5 (by assumption) rfl ?_
  refine am_aload_n hB d_ML_isRealCall_4 rfl rfl rfl ?_
  refine am_callV hB hR (as := [.ref k1]) r1 (mn_same s1 s3) c_ML_36 rfl rfl d_ML_isRealCall_5 ⟨by decide, Nat.le_of_ble_eq_true rfl⟩ ⟨by decide, by decide⟩ rfl rfl (fun rr hh hp => ?_)
  obtain ⟨rfl, rfl⟩ := hp
  cases e1 : decide (n1 = n3) with
  | false =>
    show am_Z X 8 [.ref k, .ref k1, .ref k2] [am_n 0] h 0 0
    refine ai_zeq (tgt := 26) hB d_ML_isRealCall_8 (by decide) (fun hc => ?_) (fun hc => ?_)
    · refine ai_const hB d_ML_isRealCall_26 ?_
      refine am_iret hB hR d_ML_isRealCall_27 rfl (by decide) ?_ (Nat.zero_le _) (Nat.zero_le _)
      rw [e1]
      exact ⟨rfl, rfl⟩
    · omega
  | true =>
    show am_Z X 8 [.ref k, .ref k1, .ref k2] [am_n 1] h 0 0
    refine ai_zeq (tgt := 26) hB d_ML_isRealCall_8 (by decide) (fun hc => ?_) (fun hc => ?_)
    · omega
    refine am_aload_n hB d_ML_isRealCall_11 rfl rfl rfl ?_
    refine am_getf hB d_ML_isRealCall_12 F_ML_20_5 (by assumption) rfl ?_
    refine am_aload_n hB d_ML_isRealCall_15 rfl rfl rfl ?_
    refine am_callV hB hR (as := [.ref k2]) r2 (mn_same s2 s4) c_ML_36 rfl rfl d_ML_isRealCall_16 ⟨by decide, Nat.le_of_ble_eq_true rfl⟩ ⟨by decide, by decide⟩ rfl rfl (fun rr hh hp => ?_)
    obtain ⟨rfl, rfl⟩ := hp
    cases e2 : decide (n2 = n4) with
    | false =>
      show am_Z X 19 [.ref k, .ref k1, .ref k2] [am_n 0] h 0 0
      refine ai_zeq (tgt := 26) hB d_ML_isRealCall_19 (by decide) (fun hc => ?_) (fun hc => ?_)
      · refine ai_const hB d_ML_isRealCall_26 ?_
        refine am_iret hB hR d_ML_isRealCall_27 rfl (by decide) ?_ (Nat.zero_le _) (Nat.zero_le _)
        rw [e1, e2]
        exact ⟨rfl, rfl⟩
      · omega
    | true =>
      show am_Z X 19 [.ref k, .ref k1, .ref k2] [am_n 1] h 0 0
      refine ai_zeq (tgt := 26) hB d_ML_isRealCall_19 (by decide) (fun hc => ?_) (fun hc => ?_)
      · omega
      refine ai_const hB d_ML_isRealCall_22 ?_
      refine am_goto (tgt := 27) hB d_ML_isRealCall_23 (by decide) ?_
      refine am_iret hB hR d_ML_isRealCall_27 rfl (by decide) ?_ (Nat.zero_le _) (Nat.zero_le _)
      rw [e1, e2]
      exact ⟨rfl, rfl⟩
/-- a mapping that stands for S -/
def am_mw (h : am_H) (b : Nat) (S : pm_S) : Prop := ∃ g s, am_map h b g s ∧ am_cok g ∧ mp_rep g s S
def pf_is (S : pm_S) (p : Nat) (n : List Int) (i : Nat) : Bool := match S.2[i]? with
  | none => false
  | some x => decide (x.2.2.1 = p) && (x.2.2.2 && decide (x.1.2.2 = n))
def sp_oi : Option Nat → Int
  | none => -1
  | some i => i
def pf_first (S : pm_S) (p : Nat) (n : List Int) : Option Nat := sp_fd (pf_is S p n) 0 S.2.length
def pf_in (S : pm_S) (z : Int) (i : Nat) : Bool := match S.2[i]? with
  | none => false
  | some x => decide (x.2.1.1 ≠ -1) && (decide (x.2.1.1 ≤ z) && decide (z ≤ x.2.1.2.1))
def pf_around (S : pm_S) (p : Nat) (n : List Int) (z : Int) : Option Nat := sp_fd (fun i => pf_in S z i && pf_is S p n i) 0 S.2.length
/-- where the group that begins at i ends -/
def pf_end (S : pm_S) (i : Nat) : Nat := match sp_fd (fun j => (S.2[j]?.map (fun x => x.2.2.2)).getD false) (i + 1) (S.2.length - (i + 1)) with
  | none => S.2.length
  | some j => j
def pf_call (S : pm_S) (i : Nat) (n1 n2 : List Int) : Bool := match S.2[i]? with
  | none => false
  | some x => decide (x.1.1 = n1) && decide (x.1.2.1 = n2)
def pf_unlike (S : pm_S) (p : Nat) (n n1 n2 : List Int) : Option Nat := sp_fd (fun i => pf_is S p n i && !pf_call S (pf_end S i - 1) n1 n2) 0 S.2.length
def pf_bare (S : pm_S) (n1 n2 : List Int) : Option Nat := sp_fd (fun i => !(match S.2[i]? with
  | none => true
  | some x => decide (x.2.1.1 ≠ -1)) && pf_call S i n1 n2) 0 S.2.length
theorem sp_fd_skip {P : Nat → Bool} (n : Nat) : ∀ (k i : Nat), (∀ j, i ≤ j → j < i + k → P j = false) → sp_fd P i (k + n) = sp_fd P (i + k) n
  | 0, i, _ => by rw [Nat.zero_add]; rfl
  | k + 1, i, h => by
    rw [show k + 1 + n = (k + n) + 1 by omega]
    show (if P i then some i else sp_fd P (i + 1) (k + n)) = _
    rw [if_neg (by rw [h i (by omega) (by omega)]; decide), sp_fd_skip n k (i + 1) (fun j h1 h2 => h j (by omega) (by omega)), show i + 1 + k = i + (k + 1) by omega]
theorem sp_fd_cut {P : Nat → Bool} (k : Nat) : ∀ (n i : Nat), (∀ j, i + n ≤ j → j < i + n + k → P j = false) → sp_fd P i (n + k) = sp_fd P i n
  | 0, i, h => by
    rw [Nat.zero_add]
    exact (sp_fd_none k i).mpr (fun j h1 h2 => h j (by omega) (by omega))
  | n + 1, i, h => by
    rw [show n + 1 + k = (n + k) + 1 by omega]
    show (if P i then some i else sp_fd P (i + 1) (n + k)) = (if P i then some i else sp_fd P (i + 1) n)
    rw [sp_fd_cut k n (i + 1) (fun j h1 h2 => h j (by omega) (by omega))]
theorem sp_fd_mid {P : Nat → Bool} {lo hi len : Nat} (h1 : lo ≤ hi) (h2 : hi ≤ len) (h3 : ∀ j, j < len → ¬ (lo ≤ j ∧ j < hi) → P j = false) : sp_fd P 0 len = sp_fd P lo (hi - lo) := by
  have e1 : len = lo + ((hi - lo) + (len - hi)) := by omega
  rw [e1, sp_fd_skip _ lo 0 (fun j a b => h3 j (by omega) (by omega)), Nat.zero_add, sp_fd_cut _ _ lo (fun j a b => h3 j (by omega) (by omega))]
theorem sp_fd_lt {P : Nat → Bool} : ∀ (n i : Nat) {j : Nat}, sp_fd P i n = some j → i ≤ j ∧ j < i + n ∧ P j = true
  | 0, i, j, h => by cases h
  | n + 1, i, j, h => by
    unfold sp_fd at h
    split at h
    · rename_i hp
      cases h
      exact ⟨Nat.le_refl _, by omega, hp⟩
    · have := sp_fd_lt n (i + 1) h
      exact ⟨by omega, by omega, this.2.2⟩
theorem mp_rep.end {g : Int → Int} {s : Nat → Int} {S : pm_S} (R : mp_rep g s S) {i : Nat} {x : pm_L} (hx : S.2[i]? = some x) (hl : x.2.2.2 = true) : s (71 + 12 * i) = (pf_end S i : Nat) - i ∧ i < pf_end S i ∧ pf_end S i ≤ S.2.length := by
  obtain ⟨m, m1, m2, m3, m4, m5⟩ := (R.2.2.2.2.2.2.1 i x hx).2.2.2.2.2.2 hl
  have e : pf_end S i = i + m := by
    unfold pf_end
    rw [show S.2.length - (i + 1) = (m - 1) + (S.2.length - (i + m)) by omega, sp_fd_skip _ (m - 1) (i + 1) (fun j h1 h2 => by
      have hj : S.2[j]? = some (S.2[j]'(by omega)) := List.getElem?_eq_getElem (by omega)
      rw [hj]
      exact m4 j _ (by omega) (by omega) hj), show i + 1 + (m - 1) = i + m by omega]
    by_cases z : i + m < S.2.length
    · obtain ⟨k, hk⟩ : ∃ k, S.2.length - (i + m) = k + 1 := ⟨S.2.length - (i + m) - 1, by omega⟩
      have hj : S.2[i + m]? = some (S.2[i + m]'z) := List.getElem?_eq_getElem z
      rw [hk, sp_fd, if_pos (by rw [hj]; exact m5 _ hj)]
    · rw [show S.2.length - (i + m) = 0 by omega]
      show S.2.length = _
      omega
  rw [e]
  exact ⟨by omega, by omega, m3⟩
theorem mn_isGroup {l : Launch} {G : am_G} {h : am_H} {b z i : Nat} {S : pm_S} {n : List Int} {x : pm_L} (m : am_mw h b S) (sz : am_sn h z n) (hx : S.2[i]? = some x) : am_M l G M_MA_isGroup [.ref b, am_n i, .ref z] h (am_is (am_n (sp_i (x.2.2.2 && decide (x.1.2.2 = n)))) h) := by
  obtain ⟨g, s, m, hg, R⟩ := m
  have il := pm_lt hx
  have R32 := R.2.2.2.1
  have i32 : i < 32 := by omega
  obtain ⟨lv, ⟨t1, t2, t3⟩, -, -, -, l6, l7⟩ := R.2.2.2.2.2.2.1 i x hx
  have sb := (m.slS hg i32 lv).sn t3
  refine am_M.of (by decide) (Nat.le_of_ble_eq_true rfl) (fun X hB hR => ?_)
  show am_Z X 0 [.ref b, am_n i, .ref z] [] h 0 0
  refine am_aload_n hB d_MA_isGroup_0 rfl rfl rfl ?_
  refine am_getf hB d_MA_isGroup_1 F_MA_27_4 m.1 rfl ?_
  refine am_iload_n hB d_MA_isGroup_4 rfl rfl ?_
  refine ai_aald hB d_MA_isGroup_5 ty_4 m.2.2.2.2.1 (z := b + 29 + 4 * i) (if_pos (by omega)) ?_
  refine am_getf hB d_MA_isGroup_6 F_MA_170_5 (m.L i32).1 rfl ?_
  cases hl : x.2.2.2 with
  | false =>
    rw [(l6 hl).1]
    refine ai_zle (tgt := 32) hB d_MA_isGroup_9 (by decide) (fun hc => ?_) (fun hc => ?_)
    · refine ai_const hB d_MA_isGroup_32 ?_
      refine am_iret hB hR d_MA_isGroup_33 rfl (by decide) ?_ (Nat.zero_le _) (Nat.zero_le _)
      rw [hl]
      exact ⟨rfl, rfl⟩
    · omega
  | true =>
    obtain ⟨e1, e2, e3⟩ := R.end hx hl
    rw [e1]
    refine ai_zle (tgt := 32) hB d_MA_isGroup_9 (by decide) (fun hc => ?_) (fun hc => ?_)
    · omega
    refine am_aload_n hB d_MA_isGroup_12 rfl rfl rfl ?_
    refine am_getf hB d_MA_isGroup_13 F_MA_27_4 m.1 rfl ?_
    refine am_iload_n hB d_MA_isGroup_16 rfl rfl ?_
    refine ai_aald hB d_MA_isGroup_17 ty_4 m.2.2.2.2.1 (z := b + 29 + 4 * i) (if_pos (by omega)) ?_
    refine am_getf hB d_MA_isGroup_18 F_MA_121_5 (m.L i32).1 rfl ?_
    refine am_aload_n hB d_MA_isGroup_21 rfl rfl rfl ?_
    refine am_callV hB hR (as := [.ref z]) (m.L i32).2.2.2 (mn_same sb sz) c_MA_176 rfl rfl d_MA_isGroup_22 ⟨by decide, Nat.le_of_ble_eq_true rfl⟩ ⟨by decide, by decide⟩ rfl rfl (fun rr hh hp => ?_)
    obtain ⟨rfl, rfl⟩ := hp
    cases e4 : decide (x.1.2.2 = n) with
    | false =>
      show am_Z X 25 [.ref b, am_n i, .ref z] [am_n 0] h 0 0
      refine ai_zeq (tgt := 32) hB d_MA_isGroup_25 (by decide) (fun hc => ?_) (fun hc => ?_)
      · refine ai_const hB d_MA_isGroup_32 ?_
        refine am_iret hB hR d_MA_isGroup_33 rfl (by decide) ?_ (Nat.zero_le _) (Nat.zero_le _)
        rw [hl, e4]
        exact ⟨rfl, rfl⟩
      · omega
    | true =>
      show am_Z X 25 [.ref b, am_n i, .ref z] [am_n 1] h 0 0
      refine ai_zeq (tgt := 32) hB d_MA_isGroup_25 (by decide) (fun hc => ?_) (fun hc => ?_)
      · omega
      refine ai_const hB d_MA_isGroup_28 ?_
      refine am_goto (tgt := 33) hB d_MA_isGroup_29 (by decide) ?_
      refine am_iret hB hR d_MA_isGroup_33 rfl (by decide) ?_ (Nat.zero_le _) (Nat.zero_le _)
      rw [hl, e4]
      exact ⟨rfl, rfl⟩
/-- the class line's own range of lines -/
theorem mp_rep.mid {g : Int → Int} {s : Nat → Int} {S : pm_S} (R : mp_rep g s S) {p : Nat} {c : pm_C} (hc : S.1[p]? = some c) : ∃ lo hi : Nat, s (12 + 7 * p) = lo ∧ s (13 + 7 * p) = hi ∧ lo ≤ hi ∧ hi ≤ S.2.length ∧ (∀ j, lo ≤ j → j < hi → ∃ x, S.2[j]? = some x ∧ x.2.2.1 = p) ∧ ∀ (Q : Nat → Bool) (n : List Int), sp_fd (fun i => Q i && pf_is S p n i) 0 S.2.length = sp_fd (fun i => Q i && pf_is S p n i) lo (hi - lo) := by
  obtain ⟨-, -, -, -, c5, c6, -, -⟩ := R.2.2.2.2.2.1 p c hc
  refine ⟨(s (12 + 7 * p)).toNat, (s (13 + 7 * p)).toNat, by omega, by omega, by omega, by omega, ?_, ?_⟩
  · intro j h1 h2
    have hj : S.2[j]? = some (S.2[j]'(by omega)) := List.getElem?_eq_getElem (by omega)
    exact ⟨_, hj, (c6 j _ hj).mpr (by omega)⟩
  · intro Q n
    refine sp_fd_mid (by omega) (by omega) (fun j h1 h2 => ?_)
    have hj : S.2[j]? = some (S.2[j]'(by omega)) := List.getElem?_eq_getElem (by omega)
    have : ¬ (S.2[j]'(by omega)).2.2.1 = p := fun z => h2 (by have := (c6 j _ hj).mp z; omega)
    unfold pf_is
    rw [hj]
    simp only [decide_eq_false this, Bool.false_and, Bool.and_false]
theorem mn_firstGroup {l : Launch} {G : am_G} {h : am_H} {b z p : Nat} {S : pm_S} {n : List Int} {c : pm_C} (m : am_mw h b S) (sz : am_sn h z n) (hc : S.1[p]? = some c) : am_M l G M_MA_firstGroup [.ref b, .ref (b + 4 + 3 * p), .ref z] h (am_is (am_n (sp_oi (pf_first S p n))) h) := by
  have mw := m
  obtain ⟨g, s, m, hg, R⟩ := m
  have R32 := R.2.2.2.1
  have R8 := R.2.1
  have pl := pm_lt hc
  have p8 : p < 8 := by omega
  obtain ⟨lo, hi, e1, e2, e3, e4, e5, e6⟩ := R.mid hc
  have e7 : pf_first S p n = sp_fd (pf_is S p n) lo (hi - lo) := by
    have := e6 (fun _ => true) n
    simp only [Bool.true_and] at this
    exact this
  refine am_M.of (by decide) (Nat.le_of_ble_eq_true rfl) (fun X hB hR => ?_)
  show am_Z X 0 [.ref b, .ref (b + 4 + 3 * p), .ref z, am_u] [] h 0 0
  have loop : ∀ (k i : Nat), i + k = hi → pf_first S p n = sp_fd (pf_is S p n) i k → lo ≤ i → am_Z X 5 [.ref b, .ref (b + 4 + 3 * p), .ref z, am_n i] [] h 0 0 := by
    intro k
    induction k with
    | zero =>
      intro i hi hs hlo
      refine am_iload_n hB d_MA_firstGroup_5 rfl rfl ?_
      refine am_aload_n hB d_MA_firstGroup_6 rfl rfl rfl ?_
      refine am_getf hB d_MA_firstGroup_7 F_MA_104_0 (m.C p8).1 rfl ?_
      rw [e2]
      refine ai_jge (tgt := 30) hB d_MA_firstGroup_10 (by decide) (fun hc => ?_) (fun hc => ?_)
      · refine ai_const hB d_MA_firstGroup_30 ?_
        refine am_iret hB hR d_MA_firstGroup_31 rfl (by decide) ?_ (Nat.zero_le _) (Nat.zero_le _)
        rw [hs]
        exact ⟨rfl, rfl⟩
      · omega
    | succ k ih =>
      intro i hi' hs hlo
      obtain ⟨x, hx, hxp⟩ := e5 i hlo (by omega)
      refine am_iload_n hB d_MA_firstGroup_5 rfl rfl ?_
      refine am_aload_n hB d_MA_firstGroup_6 rfl rfl rfl ?_
      refine am_getf hB d_MA_firstGroup_7 F_MA_104_0 (m.C p8).1 rfl ?_
      rw [e2]
      refine ai_jge (tgt := 30) hB d_MA_firstGroup_10 (by decide) (fun hc => ?_) (fun hc => ?_)
      · omega
      refine am_aload_n hB d_MA_firstGroup_13 rfl rfl rfl ?_
      refine am_iload_n hB d_MA_firstGroup_14 rfl rfl ?_
      refine am_aload_n hB d_MA_firstGroup_15 rfl rfl rfl ?_
      refine am_callV hB hR (as := [am_n i, .ref z]) m.1 (mn_isGroup mw sz hx) c_MA_180 rfl rfl d_MA_firstGroup_16 ⟨by decide, Nat.le_of_ble_eq_true rfl⟩ ⟨by decide, by decide⟩ rfl rfl (fun rr hh hp => ?_)
      obtain ⟨rfl, rfl⟩ := hp
      have hq : pf_is S p n i = (x.2.2.2 && decide (x.1.2.2 = n)) := by
        unfold pf_is
        rw [hx]
        simp only [decide_eq_true hxp, Bool.true_and]
      cases e9 : (x.2.2.2 && decide (x.1.2.2 = n)) with
      | false =>
        show am_Z X 19 [.ref b, .ref (b + 4 + 3 * p), .ref z, am_n i] [am_n 0] h 0 0
        refine ai_zeq (tgt := 24) hB d_MA_firstGroup_19 (by decide) (fun hc => ?_) (fun hc => ?_)
        · refine ai_inc hB d_MA_firstGroup_24 rfl (by rw [hR.nL]; decide) rfl ?_
          refine am_goto (tgt := 5) hB d_MA_firstGroup_27 (by decide) (ih (i + 1) (by omega) ?_ (by omega))
          rw [hs, sp_fd, if_neg (by rw [hq, e9]; decide)]
        · omega
      | true =>
        show am_Z X 19 [.ref b, .ref (b + 4 + 3 * p), .ref z, am_n i] [am_n 1] h 0 0
        refine ai_zeq (tgt := 24) hB d_MA_firstGroup_19 (by decide) (fun hc => ?_) (fun hc => ?_)
        · omega
        refine am_iload_n hB d_MA_firstGroup_22 rfl rfl ?_
        refine am_iret hB hR d_MA_firstGroup_23 rfl rfl ?_ (Nat.zero_le _) (Nat.zero_le _)
        rw [hs, sp_fd, if_pos (by rw [hq, e9])]
        exact ⟨rfl, rfl⟩
  refine am_aload_n hB d_MA_firstGroup_0 rfl rfl rfl ?_
  refine am_getf hB d_MA_firstGroup_1 F_MA_101_0 (m.C p8).1 rfl ?_
  rw [e1]
  refine am_istore_n hB d_MA_firstGroup_4 rfl (by rw [hR.nL]; decide) rfl ?_
  exact loop (hi - lo) lo (by omega) e7 (Nat.le_refl _)
