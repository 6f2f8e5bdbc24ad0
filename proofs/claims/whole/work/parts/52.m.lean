/-! a desk in cells -/
def cd (x : Int64) (k : Int) : Int := ((x.toUInt64 >>> ((am_i (8 * k)).toInt64.toUInt64 &&& Int64.toUInt64 63)).toInt64 &&& 255).toInt32.toInt
theorem cd_and (x : Int64) : 0 ≤ (x &&& 255).toInt32.toInt ∧ (x &&& 255).toInt32.toInt < 256 := by
  have hb : (x &&& 255).toBitVec.toNat ≤ 255 := by
    rw [Int64.toBitVec_and, BitVec.toNat_and]
    exact Nat.and_le_right
  have h1 : (x &&& 255).toInt = ((x &&& 255).toBitVec.toNat : Int) := by
    show (x &&& 255).toBitVec.toInt = _
    rw [BitVec.toInt_eq_toNat_of_lt]
    omega
  rw [Int64.toInt_toInt32, h1, Int.bmod_eq_of_le (by omega) (by omega)]
  omega
theorem cd_in (x : Int64) (k : Int) : 0 ≤ cd x k ∧ cd x k < 256 := cd_and _
theorem m_RD_codeIn {l : Launch} {G : am_G} {x : Int64} {k : Int} (h : am_H) : am_M l G M_RD_codeIn [.long x, am_n k] h (am_is (am_n (cd x k)) h) := by
  have hin := cd_in x k
  refine am_M.of (by decide) (Nat.le_of_ble_eq_true rfl) (fun X hB hR => ?_)
  show am_Z X 0 [.long x, am_u, am_n k] [] h 0 0
  refine am_lload_n hB d_RD_codeIn_0 rfl rfl ?_
  refine ai_bipush hB d_RD_codeIn_1 (by decide) ?_
  refine am_iload_n hB d_RD_codeIn_3 rfl rfl ?_
  refine ai_mul hB d_RD_codeIn_4 ?_
  refine am_lushr hB d_RD_codeIn_5 ?_
  refine am_ldc2 hB d_RD_codeIn_6 J_RD_190 ?_
  refine am_land hB d_RD_codeIn_9 ?_
  refine am_l2i hB d_RD_codeIn_10 ?_
  have e : ((x.toUInt64 >>> ((am_i (8 * k)).toInt64.toUInt64 &&& Int64.toUInt64 63)).toInt64 &&& 255).toInt32 = am_i (cd x k) := am_i_of _
  rw [e]
  refine ai_i2c hB d_RD_codeIn_11 ?_
  refine am_iret hB hR d_RD_codeIn_12 rfl (am_i_nar (by omega) (by omega)) ?_ (Nat.zero_le _) (Nat.zero_le _)
  exact ⟨rfl, rfl⟩
def dc_ok (c : Int) : Bool := decide (c = 10) || (decide (c = 9) || (decide (32 ≤ c) && decide (c ≤ 126)))
theorem m_RD_isDraftCode {l : Launch} {G : am_G} {c : Int} (h0 : 0 ≤ c) (h1 : c < 65536) (h : am_H) : am_M l G M_RD_isDraftCode [am_n c] h (am_is (am_n (sp_i (dc_ok c))) h) := by
  refine am_M.of (by decide) (Nat.le_of_ble_eq_true rfl) (fun X hB hR => ?_)
  show am_Z X 0 [am_n c] [] h 0 0
  have yes : dc_ok c = true → am_Z X 24 [am_n c] [] h 0 0 := by
    intro hz
    refine ai_const hB d_RD_isDraftCode_24 ?_
    refine am_goto (tgt := 29) hB d_RD_isDraftCode_25 (by decide) ?_
    refine am_iret hB hR d_RD_isDraftCode_29 rfl (by decide) ?_ (Nat.zero_le _) (Nat.zero_le _)
    rw [hz]
    exact ⟨rfl, rfl⟩
  have no : dc_ok c = false → am_Z X 28 [am_n c] [] h 0 0 := by
    intro hz
    refine ai_const hB d_RD_isDraftCode_28 ?_
    refine am_iret hB hR d_RD_isDraftCode_29 rfl (by decide) ?_ (Nat.zero_le _) (Nat.zero_le _)
    rw [hz]
    exact ⟨rfl, rfl⟩
  refine am_iload_n hB d_RD_isDraftCode_0 rfl rfl ?_
  refine ai_bipush hB d_RD_isDraftCode_1 (by decide) ?_
  refine ai_jeq (tgt := 24) hB d_RD_isDraftCode_3 (by decide) (fun c1 => ?_) (fun c1 => ?_)
  · exact yes (by unfold dc_ok; rw [decide_eq_true c1]; rfl)
  refine am_iload_n hB d_RD_isDraftCode_6 rfl rfl ?_
  refine ai_bipush hB d_RD_isDraftCode_7 (by decide) ?_
  refine ai_jeq (tgt := 24) hB d_RD_isDraftCode_9 (by decide) (fun c2 => ?_) (fun c2 => ?_)
  · exact yes (by unfold dc_ok; rw [decide_eq_true c2]; simp)
  refine am_iload_n hB d_RD_isDraftCode_12 rfl rfl ?_
  refine ai_bipush hB d_RD_isDraftCode_13 (by decide) ?_
  refine ai_jlt (tgt := 28) hB d_RD_isDraftCode_15 (by decide) (fun c3 => ?_) (fun c3 => ?_)
  · exact no (by unfold dc_ok; rw [decide_eq_false c1, decide_eq_false c2, decide_eq_false (show ¬ 32 ≤ c by omega)]; rfl)
  refine am_iload_n hB d_RD_isDraftCode_18 rfl rfl ?_
  refine ai_bipush hB d_RD_isDraftCode_19 (by decide) ?_
  refine ai_jgt (tgt := 28) hB d_RD_isDraftCode_21 (by decide) (fun c4 => ?_) (fun c4 => ?_)
  · exact no (by unfold dc_ok; rw [decide_eq_false c1, decide_eq_false c2, decide_eq_false (show ¬ c ≤ 126 by omega)]; simp)
  · exact yes (by unfold dc_ok; rw [decide_eq_true (show 32 ≤ c by omega), decide_eq_true (show c ≤ 126 by omega)]; simp)
/-- what a desk holds -/
abbrev dv : Type := (List Int) × (pm_S) × (Bool) × (List Int) × (Int) × (Int) × (Int → Int64) × (Int → Int) × (Int → Int) × (Int → Int) × (Int) × (Int)
def dv.dr (V : dv) : List Int := V.1
def dv.S (V : dv) : pm_S := V.2.1
def dv.ld (V : dv) : Bool := V.2.2.1
def dv.pr (V : dv) : List Int := V.2.2.2.1
def dv.wr (V : dv) : Int := V.2.2.2.2.1
def dv.db (V : dv) : Int := V.2.2.2.2.2.1
def dv.gk (V : dv) : Int → Int64 := V.2.2.2.2.2.2.1
def dv.gt (V : dv) : Int → Int := V.2.2.2.2.2.2.2.1
def dv.gf (V : dv) : Int → Int := V.2.2.2.2.2.2.2.2.1
def dv.gl (V : dv) : Int → Int := V.2.2.2.2.2.2.2.2.2.1
def dv.n (V : dv) : Int := V.2.2.2.2.2.2.2.2.2.2.1
def dv.rc (V : dv) : Int := V.2.2.2.2.2.2.2.2.2.2.2
def dv.s_dr (V : dv) (x : List Int) : dv := (x, V.2)
def dv.s_S (V : dv) (x : pm_S) : dv := (V.1, x, V.2.2)
def dv.s_ld (V : dv) (x : Bool) : dv := (V.1, V.2.1, x, V.2.2.2)
def dv.s_pr (V : dv) (x : List Int) : dv := (V.1, V.2.1, V.2.2.1, x, V.2.2.2.2)
def dv.s_wr (V : dv) (x : Int) : dv := (V.1, V.2.1, V.2.2.1, V.2.2.2.1, x, V.2.2.2.2.2)
def dv.s_db (V : dv) (x : Int) : dv := (V.1, V.2.1, V.2.2.1, V.2.2.2.1, V.2.2.2.2.1, x, V.2.2.2.2.2.2)
def dv.s_gk (V : dv) (x : Int → Int64) : dv := (V.1, V.2.1, V.2.2.1, V.2.2.2.1, V.2.2.2.2.1, V.2.2.2.2.2.1, x, V.2.2.2.2.2.2.2)
def dv.s_gt (V : dv) (x : Int → Int) : dv := (V.1, V.2.1, V.2.2.1, V.2.2.2.1, V.2.2.2.2.1, V.2.2.2.2.2.1, V.2.2.2.2.2.2.1, x, V.2.2.2.2.2.2.2.2)
def dv.s_gf (V : dv) (x : Int → Int) : dv := (V.1, V.2.1, V.2.2.1, V.2.2.2.1, V.2.2.2.2.1, V.2.2.2.2.2.1, V.2.2.2.2.2.2.1, V.2.2.2.2.2.2.2.1, x, V.2.2.2.2.2.2.2.2.2)
def dv.s_gl (V : dv) (x : Int → Int) : dv := (V.1, V.2.1, V.2.2.1, V.2.2.2.1, V.2.2.2.2.1, V.2.2.2.2.2.1, V.2.2.2.2.2.2.1, V.2.2.2.2.2.2.2.1, V.2.2.2.2.2.2.2.2.1, x, V.2.2.2.2.2.2.2.2.2.2)
def dv.s_n (V : dv) (x : Int) : dv := (V.1, V.2.1, V.2.2.1, V.2.2.2.1, V.2.2.2.2.1, V.2.2.2.2.2.1, V.2.2.2.2.2.2.1, V.2.2.2.2.2.2.2.1, V.2.2.2.2.2.2.2.2.1, V.2.2.2.2.2.2.2.2.2.1, x, V.2.2.2.2.2.2.2.2.2.2.2)
def dv.s_rc (V : dv) (x : Int) : dv := (V.1, V.2.1, V.2.2.1, V.2.2.2.1, V.2.2.2.2.1, V.2.2.2.2.2.1, V.2.2.2.2.2.2.1, V.2.2.2.2.2.2.2.1, V.2.2.2.2.2.2.2.2.1, V.2.2.2.2.2.2.2.2.2.1, V.2.2.2.2.2.2.2.2.2.2.1, x)
def dv.ok (V : dv) : Prop := V.dr.length ≤ 600 ∧ V.pr.length ≤ 1000 ∧ (0 ≤ V.n ∧ V.n ≤ 16) ∧ (V.ld = true → pm_ok V.S) ∧ (V.ld = false → V.S = ([], [])) ∧ (∀ j, V.n ≤ j → V.gt j = 0)
abbrev ce_RD (d bM bS kp ks : Nat) (ld wr db : Int) : va_E := .inr (10, [.ref (d + 1), .ref (d + 3), .ref (d + 99), .ref bM, .ref bS, .ref kp, .ref ks, am_n ld, am_n wr, am_n db])
/-- which of the two mappings and of the two prints is in use -/
def dk_rl (d bM bS kp ks : Nat) : Prop := ((bM = d + 104 ∧ bS = d + 261) ∨ (bM = d + 261 ∧ bS = d + 104)) ∧ ((kp = d + 418 ∧ ks = d + 420) ∨ (kp = d + 420 ∧ ks = d + 418))
/-- what lies in a range of places is kept; what lies outside of it is kept -/
def agr (a n : Nat) (h h' : am_H) : Prop := ∀ (q : Nat) (e : va_E), a ≤ q → q < a + n → h[q]? = some e → h'[q]? = some e
def ko (a n : Nat) (h h' : am_H) : Prop := ∀ (q : Nat) (e : va_E), (q < a ∨ a + n ≤ q) → h[q]? = some e → h'[q]? = some e
theorem agr.tr {a n : Nat} {h h1 h2 : am_H} (x : agr a n h h1) (y : agr a n h1 h2) : agr a n h h2 := fun q e u v w => y q e u v (x q e u v w)
theorem ko.rf {a n : Nat} {h : am_H} : ko a n h h := fun _ _ _ r => r
theorem ko.tr {a n : Nat} {h h1 h2 : am_H} (x : ko a n h h1) (y : ko a n h1 h2) : ko a n h h2 := fun q e u w => y q e u (x q e u w)
theorem ko.sub {a n b m : Nat} {h h1 : am_H} (x : ko b m h h1) (h0 : a ≤ b) (h2 : b + m ≤ a + n) : ko a n h h1 := fun q e u w => x q e (by omega) w
theorem ko.ag {a n b m : Nat} {h h1 : am_H} (x : ko b m h h1) (h0 : b + m ≤ a ∨ a + n ≤ b) : agr a n h h1 := fun q e u v w => x q e (by omega) w
theorem agr.sub {a n b m : Nat} {h h1 : am_H} (x : agr b m h h1) (h0 : b ≤ a) (h2 : a + n ≤ b + m) : agr a n h h1 := fun q e u v w => x q e (by omega) (by omega) w
theorem ko.set {a n : Nat} {h : am_H} (k : Nat) (e : va_E) (h1 : a ≤ k) (h2 : k < a + n) : ko a n h (h.set k e) := fun q _ u w => (List.getElem?_set_ne (by omega)).trans w
theorem ko.app {a n : Nat} {h x : am_H} : ko a n h (h ++ x) := fun q e _ w => by
  have hq : q < h.length := (List.getElem?_eq_some_iff.mp w).1
  rw [List.getElem?_append_left hq]
  exact w
theorem agr.app {a n : Nat} {h x : am_H} : agr a n h (h ++ x) := fun q e _ _ w => by
  have hq : q < h.length := (List.getElem?_eq_some_iff.mp w).1
  rw [List.getElem?_append_left hq]
  exact w
theorem am_fr.ko {A : List Nat} {a n : Nat} {h h1 : am_H} (f : am_fr A h h1) (ha : ∀ q ∈ A, a ≤ q ∧ q < a + n) : ko a n h h1 := fun q e u w => (f.2 q (fun z => by have := ha q z; omega)).trans w
theorem am_rg.ko {a n : Nat} {h h1 : am_H} (f : am_rg a n h h1) : ko a n h h1 := fun q e u w => (f.2 q u).trans w
theorem am_txt.ag {h h' : am_H} {k c N : Nat} {out : List Int} (t : am_txt h k c N out) (hc : c = k + 1) (f : agr k 2 h h') : am_txt h' k c N out := by
  obtain ⟨g, s, o, r, q, z⟩ := t
  exact ⟨g, s, o, f _ _ (by omega) (by omega) r, f _ _ (by omega) (by omega) q, z⟩
theorem am_cb.ag {h h' : am_H} {b : Nat} {gk : Int → Int64} {gt gf gl : Int → Int} {n rc : Int} (m : am_cb h b gk gt gf gl n rc) (f : agr b 5 h h') : am_cb h' b gk gt gf gl n rc := by
  obtain ⟨m0, m1, m2, m3, m4⟩ := m
  exact ⟨f _ _ (by omega) (by omega) m0, f _ _ (by omega) (by omega) m1, f _ _ (by omega) (by omega) m2, f _ _ (by omega) (by omega) m3, f _ _ (by omega) (by omega) m4⟩
theorem am_map.ag {h h' : am_H} {b : Nat} {g : Int → Int} {s : Nat → Int} (m : am_map h b g s) (f : agr b 157 h h') : am_map h' b g s := by
  obtain ⟨m0, m1, m2, m3, m4, mC, mL⟩ := m
  refine ⟨f _ _ (by omega) (by omega) m0, f _ _ (by omega) (by omega) m1, f _ _ (by omega) (by omega) m2, f _ _ (by omega) (by omega) m3, f _ _ (by omega) (by omega) m4, fun i hi => ?_, fun i hi => ?_⟩
  · obtain ⟨c1, c2, c3⟩ := mC i hi
    exact ⟨f _ _ (by omega) (by omega) c1, f _ _ (by omega) (by omega) c2, f _ _ (by omega) (by omega) c3⟩
  · obtain ⟨c1, c2, c3, c4⟩ := mL i hi
    exact ⟨f _ _ (by omega) (by omega) c1, f _ _ (by omega) (by omega) c2, f _ _ (by omega) (by omega) c3, f _ _ (by omega) (by omega) c4⟩
def dk_tr (h : am_H) (d : Nat) : Prop := ∃ t, ∀ q, q < 96 → h[d + 3 + q]? = some (tr_cell (d + 3) (d + 2) t q)
theorem dk_tr.ag {h h' : am_H} {d : Nat} (m : dk_tr h d) (f : agr (d + 3) 96 h h') : dk_tr h' d := by
  obtain ⟨t, m⟩ := m
  exact ⟨t, fun q hq => f _ _ (by omega) (by omega) (m q hq)⟩
def dk_mp (h : am_H) (b : Nat) (S : pm_S) (ld : Bool) : Prop := ∃ g s, am_map h b g s ∧ am_cok g ∧ s 2 = (S.1.length : Nat) ∧ (ld = true → mp_rep g s S)
theorem dk_mp.ag {h h' : am_H} {b : Nat} {S : pm_S} {ld : Bool} (m : dk_mp h b S ld) (f : agr b 157 h h') : dk_mp h' b S ld := by
  obtain ⟨g, s, m, z⟩ := m
  exact ⟨g, s, m.ag f, z⟩
def dk_sp (h : am_H) (b : Nat) : Prop := ∃ g s, am_map h b g s ∧ am_cok g
theorem dk_sp.ag {h h' : am_H} {b : Nat} (m : dk_sp h b) (f : agr b 157 h h') : dk_sp h' b := by
  obtain ⟨g, s, m, z⟩ := m
  exact ⟨g, s, m.ag f, z⟩
theorem dk_mp.sp {h : am_H} {b : Nat} {S : pm_S} {ld : Bool} (m : dk_mp h b S ld) : dk_sp h b := by
  obtain ⟨g, s, m, z, -⟩ := m
  exact ⟨g, s, m, z⟩
/-- the desk's cells but its own, by their roles -/
def dk_r (h : am_H) (d bM bS kp ks : Nat) (V : dv) : Prop :=
  am_txt h (d + 1) (d + 2) 600 V.dr ∧ dk_tr h d ∧ am_cb h (d + 99) V.gk V.gt V.gf V.gl V.n V.rc ∧ dk_mp h bM V.S V.ld ∧ dk_sp h bS ∧ am_txt h kp (kp + 1) 1000 V.pr ∧ (∃ o, am_txt h ks (ks + 1) 1000 o)
theorem dk_r.ag {h h' : am_H} {d bM bS kp ks : Nat} {V : dv} (D : dk_r h d bM bS kp ks V) (rl : dk_rl d bM bS kp ks) (f : agr (d + 1) 421 h h') : dk_r h' d bM bS kp ks V := by
  obtain ⟨D1, D2, D3, D4, D5, D6, o, D7⟩ := D
  obtain ⟨r1, r2⟩ := rl
  exact ⟨D1.ag rfl (f.sub (by omega) (by omega)), D2.ag (f.sub (by omega) (by omega)), D3.ag (f.sub (by omega) (by omega)), D4.ag (f.sub (by omega) (by omega)), D5.ag (f.sub (by omega) (by omega)), D6.ag rfl (f.sub (by omega) (by omega)), o, D7.ag rfl (f.sub (by omega) (by omega))⟩
/-- another draft -/
theorem dk_r.dr {h h' : am_H} {d bM bS kp ks : Nat} {V : dv} {dr : List Int} (D : dk_r h d bM bS kp ks V) (rl : dk_rl d bM bS kp ks) (a : am_txt h' (d + 1) (d + 2) 600 dr) (f : agr (d + 3) 419 h h') : dk_r h' d bM bS kp ks (dv.s_dr V (dr)) := by
  obtain ⟨D1, D2, D3, D4, D5, D6, o, D7⟩ := D
  obtain ⟨r1, r2⟩ := rl
  exact ⟨a, D2.ag (f.sub (by omega) (by omega)), D3.ag (f.sub (by omega) (by omega)), D4.ag (f.sub (by omega) (by omega)), D5.ag (f.sub (by omega) (by omega)), D6.ag rfl (f.sub (by omega) (by omega)), o, D7.ag rfl (f.sub (by omega) (by omega))⟩
abbrev dk_c (h : am_H) (d bM bS kp ks : Nat) (V : dv) : Prop := h[d]? = some (ce_RD d bM bS kp ks (sp_i V.ld) V.wr V.db)
def am_dk (h : am_H) (d : Nat) (V : dv) : Prop := V.ok ∧ ∃ bM bS kp ks : Nat, dk_rl d bM bS kp ks ∧ dk_c h d bM bS kp ks V ∧ dk_r h d bM bS kp ks V
theorem am_dk.ag {h h' : am_H} {d : Nat} {V : dv} (D : am_dk h d V) (f : agr d 422 h h') : am_dk h' d V := by
  obtain ⟨ok, bM, bS, kp, ks, rl, c, r⟩ := D
  exact ⟨ok, bM, bS, kp, ks, rl, f _ _ (by omega) (by omega) c, r.ag rl (f.sub (by omega) (by omega))⟩
/-- a text that is not overfull -/
theorem am_txt.all {h : am_H} {k c N : Nat} {out : List Int} (t : am_txt h k c N out) (hl : out.length ≤ N) : ∃ g, h[k]? = some (ce_TX c out.length 0) ∧ h[c]? = some (am_ia 0 N g) ∧ am_cok g ∧ (∀ j : Nat, j < out.length → g j = out.getD j 0) ∧ N < 1000000 := by
  obtain ⟨g, s, o, r, q, hg, ⟨k1, k2, ⟨rfl, rfl, k3⟩ | ⟨-, k4⟩⟩, hN⟩ := t
  · exact ⟨g, r, q, hg, k3, hN⟩
  · omega
theorem m_TX_clr {l : Launch} {G : am_G} {h : am_H} {k c : Nat} {s o : Int} (r : h[k]? = some (ce_TX c s o)) : am_M l G M_TX_clear [.ref k] h (fun r h' => r = none ∧ h' = h.set k (ce_TX c 0 0)) := by
  refine am_M.of (by decide) (Nat.le_of_ble_eq_true rfl) (fun X hB hR => ?_)
  show am_Z X 0 [.ref k] [] h 0 0
  refine am_aload_n hB d_TX_clear_0 rfl rfl rfl ?_
  refine ai_const hB d_TX_clear_1 ?_
  refine am_putf hB d_TX_clear_2 P_TX_15_8 r (by simp) am_fit.i rfl ?_
  refine am_aload_n hB d_TX_clear_5 rfl rfl rfl ?_
  refine ai_const hB d_TX_clear_6 ?_
  refine am_putf hB d_TX_clear_7 P_TX_19_8 (am_rs r) (by simp) (am_fit.z (Or.inl rfl)) rfl ?_
  refine am_vret hB hR d_TX_clear_10 rfl ?_ (Nat.zero_le _) (Nat.zero_le _)
  exact ⟨rfl, List.set_set _⟩
theorem am_txt.clr {h : am_H} {k c N : Nat} {out : List Int} (t : am_txt h k c N out) : am_txt (h.set k (ce_TX c 0 0)) k c N [] := by
  have hne := t.ne
  obtain ⟨g, s, o, r, q, hg, ok, hN⟩ := t
  exact ⟨g, 0, 0, am_rs r, am_rn hne q, hg, ⟨Int.le_refl 0, Int.natCast_nonneg N, Or.inl ⟨rfl, rfl, fun j hj => absurd hj (Nat.not_lt_zero j)⟩⟩, hN⟩
theorem m_RD_scrap {l : Launch} {G : am_G} {h : am_H} {d : Nat} {V : dv} (D : am_dk h d V) : am_M l G M_RD_scrap [.ref d] h (fun r h' => r = none ∧ am_dk h' d (dv.s_dr V ([])) ∧ ko d 422 h h') := by
  obtain ⟨ok, bM, bS, kp, ks, rl, D1, D2⟩ := D
  refine am_M.of (by decide) (Nat.le_of_ble_eq_true rfl) (fun X hB hR => ?_)
  show am_Z X 0 [.ref d] [] h 0 0
  have DD := D2
  obtain ⟨_, _, _, x1, -⟩ := id DD.1
  refine am_aload_n hB d_RD_scrap_0 rfl rfl rfl ?_
  refine am_getf hB d_RD_scrap_1 F_RD_14_10 D1 rfl ?_
  refine am_callV hB hR (as := []) x1 (m_TX_clear D2.1) c_RD_70 rfl rfl d_RD_scrap_4 ⟨by decide, Nat.le_of_ble_eq_true rfl⟩ ⟨by decide, by decide⟩ rfl rfl (fun rr hh hp => ?_)
  obtain ⟨rfl, a1, f1⟩ := hp
  show am_Z X 7 [.ref d] [] hh 0 0
  refine am_vret hB hR d_RD_scrap_7 rfl ?_ (Nat.zero_le _) (Nat.zero_le _)
  have f2 : ko (d + 1) 2 h hh := f1.ko (by intro q hq; simp only [List.mem_cons, List.not_mem_nil, or_false] at hq; omega)
  exact ⟨rfl, ⟨⟨Nat.zero_le _, ok.2⟩, bM, bS, kp, ks, rl, f2 _ _ (by omega) D1, DD.dr rl a1 (f2.ag (by omega))⟩, f2.sub (by omega) (by omega)⟩
