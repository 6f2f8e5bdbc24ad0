/-! a desk in cells -/
def cd (x : Int64) (k : Int) : Int := ((x.toUInt64 >>> ((am_i (8 * k)).toInt64.toUInt64 &&& Int64.toUInt64 63)).toInt64 &&& 255).toInt32.toInt
theorem cd_and (x : Int64) : 0 ≤ (x &&& 255).toInt32.toInt ∧ (x &&& 255).toInt32.toInt < 256 := by
  have hb : (x &&& 255).toBitVec.toNat ≤ 255 := by
    rw [Int64.toBitVec_and, BitVec.toNat_and]
    exact Nat.and_le_right
  have h1 : (x &&& 255).toInt = ((x &&& 255).toBitVec.toNat : Int) := by
    show (x &&& 255).toBitVec.toInt = _
    rw [BitVec.toInt_eq_toNat_of_lt]
    omega
  rw [Int64.toInt_toInt32, h1, Int.bmod_eq_of_le (by omega) (by omega)]
  omega
theorem cd_in (x : Int64) (k : Int) : 0 ≤ cd x k ∧ cd x k < 256 := cd_and _
theorem m_RD_codeIn {l : Launch} {G : am_G} {x : Int64} {k : Int} (h : am_H) : am_M l G M_RD_codeIn [.long x, am_n k] h (am_is (am_n (cd x k)) h) := by
  have hin := cd_in x k
  refine am_M.of (by decide) (Nat.le_of_ble_eq_true rfl) (fun X hB hR => ?_)
  show am_Z X 0 [.long x, am_u, am_n k] [] h 0 0
  refine am_lload_n hB d_RD_codeIn_0 rfl rfl ?_
  refine ai_bipush hB d_RD_codeIn_1 (by decide) ?_
  refine am_iload_n hB d_RD_codeIn_3 rfl rfl ?_
  refine ai_mul hB d_RD_codeIn_4 ?_
  refine am_lushr hB d_RD_codeIn_5 ?_
  refine am_ldc2 hB d_RD_codeIn_6 J_RD_190 ?_
  refine am_land hB d_RD_codeIn_9 ?_
  refine am_l2i hB d_RD_codeIn_10 ?_
  have e : ((x.toUInt64 >>> ((am_i (8 * k)).toInt64.toUInt64 &&& Int64.toUInt64 63)).toInt64 &&& 255).toInt32 = am_i (cd x k) := am_i_of _
  rw [e]
  refine ai_i2c hB d_RD_codeIn_11 ?_
  refine am_iret hB hR d_RD_codeIn_12 rfl (am_i_nar (by omega) (by omega)) ?_ (Nat.zero_le _) (Nat.zero_le _)
  exact ⟨rfl, rfl⟩
def dc_ok (c : Int) : Bool := decide (c = 10) || (decide (c = 9) || (decide (32 ≤ c) && decide (c ≤ 126)))
theorem m_RD_isDraftCode {l : Launch} {G : am_G} {c : Int} (h0 : 0 ≤ c) (h1 : c < 65536) (h : am_H) : am_M l G M_RD_isDraftCode [am_n c] h (am_is (am_n (sp_i (dc_ok c))) h) := by
  refine am_M.of (by decide) (Nat.le_of_ble_eq_true rfl) (fun X hB hR => ?_)
  show am_Z X 0 [am_n c] [] h 0 0
  have yes : dc_ok c = true → am_Z X 24 [am_n c] [] h 0 0 := by
    intro hz
    refine ai_const hB d_RD_isDraftCode_24 ?_
    refine am_goto (tgt := 29) hB d_RD_isDraftCode_25 (by decide) ?_
    refine am_iret hB hR d_RD_isDraftCode_29 rfl (by decide) ?_ (Nat.zero_le _) (Nat.zero_le _)
    rw [hz]
    exact ⟨rfl, rfl⟩
  have no : dc_ok c = false → am_Z X 28 [am_n c] [] h 0 0 := by
    intro hz
    refine ai_const hB d_RD_isDraftCode_28 ?_
    refine am_iret hB hR d_RD_isDraftCode_29 rfl (by decide) ?_ (Nat.zero_le _) (Nat.zero_le _)
    rw [hz]
    exact ⟨rfl, rfl⟩
  refine am_iload_n hB d_RD_isDraftCode_0 rfl rfl ?_
  refine ai_bipush hB d_RD_isDraftCode_1 (by decide) ?_
  refine ai_jeq (tgt := 24) hB d_RD_isDraftCode_3 (by decide) (fun c1 => ?_) (fun c1 => ?_)
  · exact yes (by unfold dc_ok; rw [decide_eq_true c1]; rfl)
  refine am_iload_n hB d_RD_isDraftCode_6 rfl rfl ?_
  refine ai_bipush hB d_RD_isDraftCode_7 (by decide) ?_
  refine ai_jeq (tgt := 24) hB d_RD_isDraftCode_9 (by decide) (fun c2 => ?_) (fun c2 => ?_)
  · exact yes (by unfold dc_ok; rw [decide_eq_true c2]; simp)
  refine am_iload_n hB d_RD_isDraftCode_12 rfl rfl ?_
  refine ai_bipush hB d_RD_isDraftCode_13 (by decide) ?_
  refine ai_jlt (tgt := 28) hB d_RD_isDraftCode_15 (by decide) (fun c3 => ?_) (fun c3 => ?_)
  · exact no (by unfold dc_ok; rw [decide_eq_false c1, decide_eq_false c2, decide_eq_false (show ¬ 32 ≤ c by omega)]; rfl)
  refine am_iload_n hB d_RD_isDraftCode_18 rfl rfl ?_
  refine ai_bipush hB d_RD_isDraftCode_19 (by decide) ?_
  refine ai_jgt (tgt := 28) hB d_RD_isDraftCode_21 (by decide) (fun c4 => ?_) (fun c4 => ?_)
  · exact no (by unfold dc_ok; rw [decide_eq_false c1, decide_eq_false c2, decide_eq_false (show ¬ c ≤ 126 by omega)]; simp)
  · exact yes (by unfold dc_ok; rw [decide_eq_true (show 32 ≤ c by omega), decide_eq_true (show c ≤ 126 by omega)]; simp)
abbrev ce_RD (d bM bS kp ks : Nat) (ld wr db : Int) : va_E := .inr (10, [.ref (d + 1), .ref (d + 3), .ref (d + 99), .ref bM, .ref bS, .ref kp, .ref ks, am_n ld, am_n wr, am_n db])
/-- which of the two mappings and of the two prints is in use -/
def dk_rl (d bM bS kp ks : Nat) : Prop := ((bM = d + 104 ∧ bS = d + 261) ∨ (bM = d + 261 ∧ bS = d + 104)) ∧ ((kp = d + 418 ∧ ks = d + 420) ∨ (kp = d + 420 ∧ ks = d + 418))
/-- the desk's cells, by their roles -/
def dk_at (h : am_H) (d bM bS kp ks : Nat) (dr : List Int) (S : pm_S) (ld : Bool) (pr : List Int) (wr db : Int) (gk : Int → Int64) (gt gf gl : Int → Int) (n rc : Int) : Prop :=
  h[d]? = some (ce_RD d bM bS kp ks (sp_i ld) wr db) ∧ (am_txt h (d + 1) (d + 2) 600 dr ∧ dr.length ≤ 600) ∧ (∃ t, ∀ q, q < 96 → h[d + 3 + q]? = some (tr_cell (d + 3) (d + 2) t q)) ∧ (am_cb h (d + 99) gk gt gf gl n rc ∧ 0 ≤ n ∧ n ≤ 16) ∧ (∃ g s, am_map h bM g s ∧ am_cok g ∧ s 2 = (S.1.length : Nat) ∧ S.1.length ≤ 8 ∧ (ld = true → mp_rep g s S)) ∧ (∃ g s, am_map h bS g s ∧ am_cok g) ∧ (am_txt h kp (kp + 1) 1000 pr ∧ pr.length ≤ 1000) ∧ (∃ o, am_txt h ks (ks + 1) 1000 o)
def am_dk (h : am_H) (d : Nat) (dr : List Int) (S : pm_S) (ld : Bool) (pr : List Int) (wr db : Int) (gk : Int → Int64) (gt gf gl : Int → Int) (n rc : Int) : Prop := ∃ bM bS kp ks : Nat, dk_rl d bM bS kp ks ∧ dk_at h d bM bS kp ks dr S ld pr wr db gk gt gf gl n rc
/-- only the desk's own cells are written, and cells may be added -/
def dk_fr (d : Nat) (h h' : am_H) : Prop := h.length ≤ h'.length ∧ ∀ q : Nat, q < h.length → (q < d ∨ d + 422 ≤ q) → h'[q]? = h[q]?
theorem dk_fr.rf {d : Nat} {h : am_H} : dk_fr d h h := ⟨Nat.le_refl _, fun _ _ _ => rfl⟩
theorem dk_fr.tr {d : Nat} {h h1 h2 : am_H} (a : dk_fr d h h1) (b : dk_fr d h1 h2) : dk_fr d h h2 := ⟨Nat.le_trans a.1 b.1, fun q h1 h2 => (b.2 q (Nat.lt_of_lt_of_le h1 a.1) h2).trans (a.2 q h1 h2)⟩
theorem am_fr.dk {d : Nat} {A : List Nat} {h h1 : am_H} (f : am_fr A h h1) (ha : ∀ q ∈ A, d ≤ q ∧ q < d + 422) : dk_fr d h h1 := ⟨by rw [f.1]; exact Nat.le_refl _, fun q _ h2 => f.2 q (fun z => by have := ha q z; omega)⟩
theorem am_rg.dk {d a n : Nat} {h h1 : am_H} (f : am_rg a n h h1) (h0 : d ≤ a) (h2 : a + n ≤ d + 422) : dk_fr d h h1 := ⟨by rw [f.1]; exact Nat.le_refl _, fun q _ h2 => f.2 q (by omega)⟩
/-- a text that is not overfull -/
theorem am_txt.all {h : am_H} {k c N : Nat} {out : List Int} (t : am_txt h k c N out) (hl : out.length ≤ N) : ∃ g, h[k]? = some (ce_TX c out.length 0) ∧ h[c]? = some (am_ia 0 N g) ∧ am_cok g ∧ (∀ j : Nat, j < out.length → g j = out.getD j 0) ∧ N < 1000000 := by
  obtain ⟨g, s, o, r, q, hg, ⟨k1, k2, ⟨rfl, rfl, k3⟩ | ⟨-, k4⟩⟩, hN⟩ := t
  · exact ⟨g, r, q, hg, k3, hN⟩
  · omega
theorem m_RD_scrap {l : Launch} {G : am_G} {h : am_H} {d : Nat} {dr pr : List Int} {S : pm_S} {ld : Bool} {wr db : Int} {gk : Int → Int64} {gt gf gl : Int → Int} {n rc : Int} (D : am_dk h d dr S ld pr wr db gk gt gf gl n rc) : am_M l G M_RD_scrap [.ref d] h (fun r h' => r = none ∧ am_dk h' d [] S ld pr wr db gk gt gf gl n rc ∧ dk_fr d h h') := by
  obtain ⟨bM, bS, kp, ks, rl, D1, ⟨D2, D3⟩, D4, D5, D6, D7, ⟨D8, D9⟩, D10⟩ := D
  refine am_M.of (by decide) (Nat.le_of_ble_eq_true rfl) (fun X hB hR => ?_)
  show am_Z X 0 [.ref d] [] h 0 0
  obtain ⟨_, _, _, x1, -⟩ := id D2
  refine am_aload_n hB d_RD_scrap_0 rfl rfl rfl ?_
  refine am_getf hB d_RD_scrap_1 F_RD_14_10 D1 rfl ?_
  refine am_callV hB hR (as := []) x1 (m_TX_clear D2) c_RD_70 rfl rfl d_RD_scrap_4 ⟨by decide, Nat.le_of_ble_eq_true rfl⟩ ⟨by decide, by decide⟩ rfl rfl (fun rr hh hp => ?_)
  obtain ⟨rfl, a1, f1⟩ := hp
  show am_Z X 7 [.ref d] [] hh 0 0
  refine am_vret hB hR d_RD_scrap_7 rfl ?_ (Nat.zero_le _) (Nat.zero_le _)
  sorry
