/-! the model reads: parts, names, numbers, words -/
def sp_pr (g : Int → Int) (ps : Int) : Nat → Int → Int
  | 0, i => i
  | n + 1, i => if (sp_let (g i) || (sp_fig (g i) && decide (ps < i))) = true then sp_pr g ps n (i + 1) else i
theorem sp_pr_in (g : Int → Int) (ps : Int) : ∀ (n : Nat) (i : Int), i ≤ sp_pr g ps n i ∧ sp_pr g ps n i ≤ i + n
  | 0, i => by unfold sp_pr; omega
  | n + 1, i => by
    have := sp_pr_in g ps n (i + 1)
    unfold sp_pr
    split <;> omega
theorem sp_pr_no (g : Int → Int) (ps : Int) : ∀ (n : Nat) (i j : Int), i ≤ j → j < sp_pr g ps n i → g j ≠ 46
  | 0, i, j, h1, h2 => by
    unfold sp_pr at h2
    omega
  | n + 1, i, j, h1, h2 => by
    unfold sp_pr at h2
    by_cases c : (sp_let (g i) || (sp_fig (g i) && decide (ps < i))) = true
    · rw [if_pos c] at h2
      by_cases e : j = i
      · subst e
        intro z
        rw [z] at c
        simp [sp_let, sp_fig] at c
      · exact sp_pr_no g ps n (i + 1) j (by omega) h2
    · rw [if_neg c] at h2
      omega
theorem sp_tp_pr (g : Int → Int) (mp : Int) : ∀ (n : Nat) (i ps q : Int), sp_tp g mp n i ps q = (if sp_pr g ps n i = i + n then some (sp_pr g ps n i, ps) else if g (sp_pr g ps n i) ≠ 46 ∨ sp_pr g ps n i = ps ∨ q = mp then some (sp_pr g ps n i, ps) else if 40 < sp_pr g ps n i - ps then none else sp_tp g mp (n - (sp_pr g ps n i - i).toNat - 1) (sp_pr g ps n i + 1) (sp_pr g ps n i + 1) (q + 1))
  | 0, i, ps, q => by
    unfold sp_pr sp_tp
    rw [if_pos (by omega)]
  | n + 1, i, ps, q => by
    have hin := sp_pr_in g ps n (i + 1)
    conv => lhs; rw [sp_tp]
    by_cases c : (sp_let (g i) || (sp_fig (g i) && decide (ps < i))) = true
    · rw [if_pos c, sp_tp_pr g mp n (i + 1) ps q]
      have e : sp_pr g ps (n + 1) i = sp_pr g ps n (i + 1) := by
        rw [sp_pr]
        exact if_pos c
      rw [e]
      have e1 : (sp_pr g ps n (i + 1) = i + 1 + (n : Int)) = (sp_pr g ps n (i + 1) = i + ((n + 1 : Nat) : Int)) := propext ⟨fun z => by omega, fun z => by omega⟩
      have e2 : n - (sp_pr g ps n (i + 1) - (i + 1)).toNat - 1 = n + 1 - (sp_pr g ps n (i + 1) - i).toNat - 1 := by omega
      simp only [e1, e2]
    · rw [if_neg c]
      have e : sp_pr g ps (n + 1) i = i := by
        rw [sp_pr]
        exact if_neg c
      rw [e, if_neg (show ¬ i = i + ((n + 1 : Nat) : Int) by omega), show n + 1 - (i - i).toNat - 1 = n by omega]
def sp_pe (g : Int → Int) (a e : Int) : Int := if sp_pr g a (e - a).toNat a = a ∨ 40 < sp_pr g a (e - a).toNat a - a then -1 else sp_pr g a (e - a).toNat a
theorem sp_pe_in (g : Int → Int) {a e : Int} (h0 : 0 ≤ a) (h1 : a ≤ e) : sp_pe g a e = -1 ∨ (a < sp_pe g a e ∧ sp_pe g a e ≤ e ∧ sp_pe g a e = sp_pr g a (e - a).toNat a) := by
  have := sp_pr_in g a (e - a).toNat a
  unfold sp_pe
  split
  · exact Or.inl rfl
  · exact Or.inr ⟨by omega, by omega, rfl⟩
theorem m_MO_partEnd {l : Launch} {G : am_G} {h : am_H} {m : Nat} {U : mv} {a e : Int} (M : am_mo h m U) (hg : am_cok U.all_) (h0 : 0 ≤ a) (h1 : a ≤ e) (h2 : e ≤ 1200) : am_M l G M_MO_partEnd [.ref m, am_n a, am_n e] h (am_is (am_n (sp_pe U.all_ a e)) h) := by
  refine am_M.of (by decide) (Nat.le_of_ble_eq_true rfl) (fun X hB hR => ?_)
  show am_Z X 0 [.ref m, am_n a, am_n e, am_u] [] h 0 0
  have fin : ∀ i : Int, a ≤ i → i ≤ e → sp_pr U.all_ a (e - a).toNat a = i → am_Z X 42 [.ref m, am_n a, am_n e, am_n i] [] h 0 0 := by
    intro i i1 i2 hs
    have no : (i = a ∨ 40 < i - a) → am_Z X 55 [.ref m, am_n a, am_n e, am_n i] [] h 0 0 := by
      intro hz
      have e1 : sp_pe U.all_ a e = -1 := by
        unfold sp_pe
        rw [hs, if_pos hz]
      refine ai_const hB d_MO_partEnd_55 ?_
      refine am_goto (tgt := 60) hB d_MO_partEnd_56 (by decide) ?_
      refine am_iret hB hR d_MO_partEnd_60 rfl rfl ?_ (Nat.zero_le _) (Nat.zero_le _)
      rw [e1]
      exact ⟨rfl, rfl⟩
    refine am_iload_n hB d_MO_partEnd_42 rfl rfl ?_
    refine am_iload_n hB d_MO_partEnd_43 rfl rfl ?_
    refine ai_jeq (tgt := 55) hB d_MO_partEnd_44 (by decide) (fun c1 => ?_) (fun c1 => ?_)
    · exact no (Or.inl c1)
    refine am_iload_n hB d_MO_partEnd_47 rfl rfl ?_
    refine am_iload_n hB d_MO_partEnd_48 rfl rfl ?_
    refine ai_sub hB d_MO_partEnd_49 ?_
    refine ai_bipush hB d_MO_partEnd_50 (by decide) ?_
    refine ai_jle (tgt := 59) hB d_MO_partEnd_52 (by decide) (fun c2 => ?_) (fun c2 => ?_)
    · refine am_iload_n hB d_MO_partEnd_59 rfl rfl ?_
      refine am_iret hB hR d_MO_partEnd_60 rfl rfl ?_ (Nat.zero_le _) (Nat.zero_le _)
      have e1 : sp_pe U.all_ a e = i := by
        unfold sp_pe
        rw [hs, if_neg (by omega)]
      rw [e1]
      exact ⟨rfl, rfl⟩
    · exact no (Or.inr (by omega))
  have loop : ∀ (d : Nat) (i : Int), a ≤ i → i + d = e → sp_pr U.all_ a (e - a).toNat a = sp_pr U.all_ a d i → am_Z X 2 [.ref m, am_n a, am_n e, am_n i] [] h 0 0 := by
    intro d
    induction d with
    | zero =>
      intro i i1 hd hs
      refine am_iload_n hB d_MO_partEnd_2 rfl rfl ?_
      refine am_iload_n hB d_MO_partEnd_3 rfl rfl ?_
      refine ai_jge (tgt := 42) hB d_MO_partEnd_4 (by decide) (fun c1 => ?_) (fun c1 => ?_)
      · exact fin i i1 (by omega) hs
      · omega
    | succ d ih =>
      intro i i1 hd hs
      have hgi := hg i
      rw [sp_pr] at hs
      have go : sp_pr U.all_ a (e - a).toNat a = sp_pr U.all_ a d (i + 1) → am_Z X 36 [.ref m, am_n a, am_n e, am_n i] [] h 0 0 := by
        intro hz
        refine ai_inc hB d_MO_partEnd_36 rfl (by rw [hR.nL]; decide) rfl ?_
        exact am_goto (tgt := 2) hB d_MO_partEnd_39 (by decide) (ih (i + 1) (by omega) (by omega) hz)
      refine am_iload_n hB d_MO_partEnd_2 rfl rfl ?_
      refine am_iload_n hB d_MO_partEnd_3 rfl rfl ?_
      refine ai_jge (tgt := 42) hB d_MO_partEnd_4 (by decide) (fun c1 => ?_) (fun c1 => ?_)
      · omega
      refine am_aload_n hB d_MO_partEnd_7 rfl rfl rfl ?_
      refine am_getf hB d_MO_partEnd_8 F_MO_13_11 M.1 rfl ?_
      refine am_iload_n hB d_MO_partEnd_11 rfl rfl ?_
      refine ai_iald hB d_MO_partEnd_12 ty_1 M.all ?_
      refine am_callS hB hR (as := [am_n (U.all_ i)]) (n_isLetter hgi.1 hgi.2 h) c_MO_122 rfl rfl d_MO_partEnd_13 ⟨by decide, Nat.le_of_ble_eq_true rfl⟩ ⟨by decide, by decide⟩ rfl rfl (fun rr h hp => ?_)
      obtain ⟨rfl, rfl⟩ := hp
      show am_Z X 16 [.ref m, am_n a, am_n e, am_n i] [am_n (sp_i (sp_let (U.all_ i)))] h 0 0
      cases q1 : sp_let (U.all_ i) with
      | true =>
        rw [q1, Bool.true_or, if_pos rfl] at hs
        show am_Z X 16 [.ref m, am_n a, am_n e, am_n i] [am_n 1] h 0 0
        refine ai_zne (tgt := 36) hB d_MO_partEnd_16 (by decide) (fun c2 => ?_) (fun c2 => ?_)
        · exact go hs
        · omega
      | false =>
        rw [q1, Bool.false_or] at hs
        show am_Z X 16 [.ref m, am_n a, am_n e, am_n i] [am_n 0] h 0 0
        refine ai_zne (tgt := 36) hB d_MO_partEnd_16 (by decide) (fun c2 => ?_) (fun c2 => ?_)
        · omega
        refine am_iload_n hB d_MO_partEnd_19 rfl rfl ?_
        refine am_iload_n hB d_MO_partEnd_20 rfl rfl ?_
        refine ai_jle (tgt := 42) hB d_MO_partEnd_21 (by decide) (fun c3 => ?_) (fun c3 => ?_)
        · rw [decide_eq_false (show ¬ a < i by omega), Bool.and_false, if_neg (by decide)] at hs
          exact fin i i1 (by omega) hs
        refine am_aload_n hB d_MO_partEnd_24 rfl rfl rfl ?_
        refine am_getf hB d_MO_partEnd_25 F_MO_13_11 M.1 rfl ?_
        refine am_iload_n hB d_MO_partEnd_28 rfl rfl ?_
        refine ai_iald hB d_MO_partEnd_29 ty_1 M.all ?_
        rw [decide_eq_true (show a < i by omega), Bool.and_true] at hs
        refine am_callS hB hR (as := [am_n (U.all_ i)]) (n_isFigure hgi.1 hgi.2 h) c_MO_126 rfl rfl d_MO_partEnd_30 ⟨by decide, Nat.le_of_ble_eq_true rfl⟩ ⟨by decide, by decide⟩ rfl rfl (fun rr h hp => ?_)
        obtain ⟨rfl, rfl⟩ := hp
        show am_Z X 33 [.ref m, am_n a, am_n e, am_n i] [am_n (sp_i (sp_fig (U.all_ i)))] h 0 0
        cases q2 : sp_fig (U.all_ i) with
        | true =>
          rw [q2, if_pos rfl] at hs
          show am_Z X 33 [.ref m, am_n a, am_n e, am_n i] [am_n 1] h 0 0
          refine ai_zeq (tgt := 42) hB d_MO_partEnd_33 (by decide) (fun c4 => ?_) (fun c4 => ?_)
          · omega
          · exact go hs
        | false =>
          rw [q2, if_neg (by decide)] at hs
          show am_Z X 33 [.ref m, am_n a, am_n e, am_n i] [am_n 0] h 0 0
          refine ai_zeq (tgt := 42) hB d_MO_partEnd_33 (by decide) (fun c4 => ?_) (fun c4 => ?_)
          · exact fin i i1 (by omega) hs
          · omega
  refine am_iload_n hB d_MO_partEnd_0 rfl rfl ?_
  refine am_istore_n hB d_MO_partEnd_1 rfl (by rw [hR.nL]; decide) rfl ?_
  exact loop (e - a).toNat a (Int.le_refl a) (by omega) rfl
theorem sp_lp_none (g : Int → Int) (a : Int) : ∀ n : Nat, (∀ j : Nat, j < n → g (a + j) ≠ 46) → sp_lp g a n = -1
  | 0, _ => rfl
  | n + 1, h => by
    unfold sp_lp
    rw [if_neg (h n (by omega))]
    exact sp_lp_none g a n (fun j hj => h j (by omega))
theorem sp_lp_at (g : Int → Int) (a : Int) (k : Nat) (hk : g (a + k) = 46) : ∀ n : Nat, k < n → (∀ j : Nat, k < j → j < n → g (a + j) ≠ 46) → sp_lp g a n = a + k
  | 0, h, _ => absurd h (Nat.not_lt_zero k)
  | n + 1, h, hj => by
    unfold sp_lp
    by_cases c : k = n
    · subst c
      rw [if_pos hk]
    · rw [if_neg (hj n (by omega) (by omega))]
      exact sp_lp_at g a k hk n (by omega) (fun j h1 h2 => hj j h1 (by omega))
def tk_fin (a : Int) : Option (Int × Int) → Option Int
  | none => none
  | some (i, ps) => if i = ps ∨ 40 < i - ps ∨ 40 < i - a then none else some i
theorem sp_take_fin (g : Int → Int) (a e : Int) : sp_take g 40 40 a e = tk_fin a (sp_tp g 40 (e - a).toNat a a 1) := by
  unfold sp_take tk_fin
  rfl
/-- what a name's end leaves -/
def nm_post (g : Int → Int) (a e p lp : Int) : Prop := ∀ j, sp_take g 40 40 a e = some j → lp = sp_mf g a j ∧ (1 ≤ p ∧ p ≤ 1200) ∧ (p = 1 ↔ sp_lp g a (j - a).toNat = -1)
theorem m_MO_nameEnd {l : Launch} {G : am_G} {h : am_H} {m : Nat} {U : mv} {a e : Int} (M : am_mo h m U) (hg : am_cok U.all_) (h0 : 0 ≤ a) (h1 : a ≤ e) (h2 : e ≤ 1200) : am_M l G M_MO_nameEnd [.ref m, am_n a, am_n e] h (fun r h' => ∃ p lp : Int, r = some (am_n ((sp_take U.all_ 40 40 a e).getD (-1))) ∧ am_mo h' m (mv.s_lastPart (mv.s_parts U (p)) (lp)) ∧ ko m 35 h h' ∧ nm_post U.all_ a e p lp) := by
  have f : ko m 35 h h := ko.rf
  refine am_M.of (by decide) (Nat.le_of_ble_eq_true rfl) (fun X hB hR => ?_)
  show am_Z X 0 [.ref m, am_n a, am_n e, am_u, am_u] [] h 0 0
  have fin : ∀ (k p lp : Int) (h1 : am_H), (k = -1 ∨ (a ≤ k ∧ k ≤ e)) → (sp_take U.all_ 40 40 a e).getD (-1) = (if k = -1 ∨ 40 < k - a then -1 else k) → nm_post U.all_ a e p lp → am_mo h1 m (mv.s_lastPart (mv.s_parts U (p)) (lp)) → ko m 35 h h1 → am_Z X 10 [.ref m, am_n a, am_n e, am_n k, am_n 0] [] h1 0 0 := by
    intro k p lp h1 hk hs np M f
    refine am_iload hB d_MO_nameEnd_10 rfl ?_
    refine ai_zeq (tgt := 80) hB d_MO_nameEnd_12 (by decide) (fun c0 => ?_) (fun c0 => ?_)
    rotate_left
    · omega
    have no : (k = -1 ∨ 40 < k - a) → am_Z X 92 [.ref m, am_n a, am_n e, am_n k, am_n 0] [] h1 0 0 := by
      intro hz
      rw [if_pos hz] at hs
      refine ai_const hB d_MO_nameEnd_92 ?_
      refine am_goto (tgt := 97) hB d_MO_nameEnd_93 (by decide) ?_
      refine am_iret hB hR d_MO_nameEnd_97 rfl rfl ?_ (Nat.zero_le _) (Nat.zero_le _)
      exact ⟨p, lp, by rw [hs], M, f, np⟩
    refine am_iload_n hB d_MO_nameEnd_80 rfl rfl ?_
    refine ai_zlt (tgt := 92) hB d_MO_nameEnd_81 (by decide) (fun c1 => ?_) (fun c1 => ?_)
    · exact no (by omega)
    refine am_iload_n hB d_MO_nameEnd_84 rfl rfl ?_
    refine am_iload_n hB d_MO_nameEnd_85 rfl rfl ?_
    refine ai_sub hB d_MO_nameEnd_86 ?_
    refine ai_bipush hB d_MO_nameEnd_87 (by decide) ?_
    refine ai_jle (tgt := 96) hB d_MO_nameEnd_89 (by decide) (fun c2 => ?_) (fun c2 => ?_)
    · rw [if_neg (by omega)] at hs
      refine am_iload_n hB d_MO_nameEnd_96 rfl rfl ?_
      refine am_iret hB hR d_MO_nameEnd_97 rfl rfl ?_ (Nat.zero_le _) (Nat.zero_le _)
      exact ⟨p, lp, by rw [hs], M, f, np⟩
    · exact no (by omega)
  have loop : ∀ (d : Nat) (k p lp : Int) (h1 : am_H), (e - k).toNat < d → a ≤ k → k ≤ e → 0 ≤ p → p ≤ k - a → ((p = 0 ∧ k = a) ∨ (0 < p ∧ a < k ∧ U.all_ (k - 1) = 46)) → ((sp_take U.all_ 40 40 a e = tk_fin a (sp_tp U.all_ 40 (e - k).toNat k k (p + 1)) ∧ 2 * p ≤ k - a) ∨ (sp_take U.all_ 40 40 a e = none ∧ 40 < k - a)) → am_mo h1 m (mv.s_lastPart (mv.s_parts U (p)) (lp)) → ko m 35 h h1 → am_Z X 10 [.ref m, am_n a, am_n e, am_n k, am_n 1] [] h1 0 0 := by
    intro d
    induction d with
    | zero => intro k p lp h1 hd; omega
    | succ d ih =>
      intro k p lp h1 hd k1 k2 p1 p2 hk ht M f
      have hpin := sp_pe_in U.all_ (a := k) (e := e) (by omega) k2
      have hpr := sp_pr_in U.all_ k (e - k).toNat k
      have htp := sp_tp_pr U.all_ 40 (e - k).toNat k k (p + 1)
      refine am_iload hB d_MO_nameEnd_10 rfl ?_
      refine ai_zeq (tgt := 80) hB d_MO_nameEnd_12 (by decide) (fun c0 => ?_) (fun c0 => ?_)
      · omega
      refine am_aload_n hB d_MO_nameEnd_15 rfl rfl rfl ?_
      refine am_iload_n hB d_MO_nameEnd_16 rfl rfl ?_
      refine mo_p_lastPart hB d_MO_nameEnd_17 P_MO_132_11 M f (fun h M f => ?_)
      refine am_aload_n hB d_MO_nameEnd_20 rfl rfl rfl ?_
      refine am_dup hB d_MO_nameEnd_21 rfl ?_
      refine am_getf hB d_MO_nameEnd_22 F_MO_129_11 M.1 rfl ?_
      refine ai_const hB d_MO_nameEnd_25 ?_
      refine ai_add hB d_MO_nameEnd_26 ?_
      refine mo_p_parts hB d_MO_nameEnd_27 P_MO_129_11 M f (fun h M f => ?_)
      refine am_aload_n hB d_MO_nameEnd_30 rfl rfl rfl ?_
      refine am_iload_n hB d_MO_nameEnd_31 rfl rfl ?_
      refine am_iload_n hB d_MO_nameEnd_32 rfl rfl ?_
      have M : am_mo h m (mv.s_lastPart (mv.s_parts U (p + 1)) (k)) := M
      refine am_callV hB hR (as := [am_n k, am_n e]) M.1 (m_MO_partEnd M hg (by omega) k2 h2) c_MO_135 rfl rfl d_MO_nameEnd_33 ⟨by decide, Nat.le_of_ble_eq_true rfl⟩ ⟨by decide, by decide⟩ rfl rfl (fun rr h hp => ?_)
      obtain ⟨rfl, rfl⟩ := hp
      show am_Z X 36 [.ref m, am_n a, am_n e, am_n k, am_n 1] [am_n (sp_pe U.all_ k e)] h 0 0
      have stop : ∀ j : Int, j = sp_pe U.all_ k e → (j < 0 ∨ e ≤ j ∨ U.all_ j ≠ 46) → am_Z X 61 [.ref m, am_n a, am_n e, am_n j, am_n 1] [] h 0 0 := by
        intro j hj hz
        refine ai_const hB d_MO_nameEnd_61 ?_
        refine am_istore hB d_MO_nameEnd_62 (by rw [hR.nL]; decide) rfl ?_
        refine am_iload hB d_MO_nameEnd_64 rfl ?_
        refine ai_zeq (tgt := 75) hB d_MO_nameEnd_66 (by decide) (fun c9 => ?_) (fun c9 => ?_)
        rotate_left
        · omega
        refine am_iload_n hB d_MO_nameEnd_75 rfl rfl ?_
        refine am_istore_n hB d_MO_nameEnd_76 rfl (by rw [hR.nL]; decide) rfl ?_
        refine am_goto (tgt := 10) hB d_MO_nameEnd_77 (by decide) (fin j (p + 1) k h (by omega) ?_ ?_ M f)
        · rcases ht with ⟨ht, -⟩ | ⟨ht, h40⟩
          · rw [ht, htp]
            unfold sp_pe at hj
            by_cases c : sp_pr U.all_ k (e - k).toNat k = k ∨ 40 < sp_pr U.all_ k (e - k).toNat k - k
            · rw [if_pos c] at hj
              rw [if_pos (Or.inl hj)]
              have t1 : ∀ z, tk_fin a (some (sp_pr U.all_ k (e - k).toNat k, z)) = none ∨ z ≠ k := fun z => by
                by_cases cz : z = k
                · subst cz
                  exact Or.inl (if_pos (by omega))
                · exact Or.inr cz
              have t2 := (t1 k).resolve_right (fun z => z rfl)
              by_cases b1 : sp_pr U.all_ k (e - k).toNat k = k + ((e - k).toNat : Int)
              · rw [if_pos b1, t2]; rfl
              · rw [if_neg b1]
                by_cases b2 : U.all_ (sp_pr U.all_ k (e - k).toNat k) ≠ 46 ∨ sp_pr U.all_ k (e - k).toNat k = k ∨ p + 1 = 40
                · rw [if_pos b2, t2]; rfl
                · rw [if_neg b2, if_pos (by omega)]; rfl
            · rw [if_neg c] at hj
              rw [← hj] at c hpr ⊢
              have b : (if j = k + ((e - k).toNat : Int) then some (j, k) else if U.all_ j ≠ 46 ∨ j = k ∨ p + 1 = 40 then some (j, k) else if 40 < j - k then none else sp_tp U.all_ 40 ((e - k).toNat - (j - k).toNat - 1) (j + 1) (j + 1) (p + 1 + 1)) = some (j, k) := by
                by_cases b1 : j = k + ((e - k).toNat : Int)
                · rw [if_pos b1]
                · rw [if_neg b1, if_pos (Or.inl (by rcases hz with hz | hz | hz; · omega
                                                    · omega
                                                    · exact hz))]
              have tf : tk_fin a (some (j, k)) = if j = k ∨ 40 < j - k ∨ 40 < j - a then none else some j := rfl
              rw [b, tf]
              by_cases c40 : 40 < j - a
              · rw [if_pos (Or.inr (Or.inr c40)), if_pos (Or.inr c40)]; rfl
              · rw [if_neg (by omega), if_neg (by omega)]; rfl
          · rw [ht, if_pos (by omega)]
            rfl
        · intro j' hs'
          have hjj : j' = j ∧ j = sp_pr U.all_ k (e - k).toNat k := by
            rcases ht with ⟨ht, -⟩ | ⟨ht, -⟩
            · rw [ht, htp] at hs'
              unfold sp_pe at hj
              by_cases c : sp_pr U.all_ k (e - k).toNat k = k ∨ 40 < sp_pr U.all_ k (e - k).toNat k - k
              · exfalso
                have t2 : tk_fin a (some (sp_pr U.all_ k (e - k).toNat k, k)) = none := if_pos (by omega)
                by_cases b1 : sp_pr U.all_ k (e - k).toNat k = k + ((e - k).toNat : Int)
                · rw [if_pos b1, t2] at hs'; cases hs'
                · rw [if_neg b1] at hs'
                  by_cases b2 : U.all_ (sp_pr U.all_ k (e - k).toNat k) ≠ 46 ∨ sp_pr U.all_ k (e - k).toNat k = k ∨ p + 1 = 40
                  · rw [if_pos b2, t2] at hs'; cases hs'
                  · rw [if_neg b2, if_pos (by omega)] at hs'; cases hs'
              · rw [if_neg c] at hj
                rw [← hj] at hs' hpr
                have b : (if j = k + ((e - k).toNat : Int) then some (j, k) else if U.all_ j ≠ 46 ∨ j = k ∨ p + 1 = 40 then some (j, k) else if 40 < j - k then none else sp_tp U.all_ 40 ((e - k).toNat - (j - k).toNat - 1) (j + 1) (j + 1) (p + 1 + 1)) = some (j, k) := by
                  by_cases b1 : j = k + ((e - k).toNat : Int)
                  · rw [if_pos b1]
                  · rw [if_neg b1, if_pos (Or.inl (by rcases hz with hz | hz | hz; · omega
                                                      · omega
                                                      · exact hz))]
                have tf : tk_fin a (some (j, k)) = if j = k ∨ 40 < j - k ∨ 40 < j - a then none else some j := rfl
                rw [b, tf] at hs'
                split at hs'
                · cases hs'
                · exact ⟨(Option.some.inj hs').symm, hj⟩
            · rw [ht] at hs'; cases hs'
          obtain ⟨rfl, hjp⟩ := hjj
          have nop : ∀ i, k ≤ i → i < j' → U.all_ i ≠ 46 := fun i h1 h2 => sp_pr_no U.all_ k (e - k).toNat k i h1 (by omega)
          rcases hk with ⟨q1, q2⟩ | ⟨q1, q2, q3⟩
          · have e1 : sp_lp U.all_ a (j' - a).toNat = -1 := sp_lp_none _ _ _ (fun i hi => nop _ (by omega) (by omega))
            unfold sp_mf
            rw [e1, if_pos rfl]
            exact ⟨q2, ⟨by omega, by omega⟩, ⟨fun _ => rfl, fun _ => by omega⟩⟩
          · have e1 : sp_lp U.all_ a (j' - a).toNat = a + ((k - 1 - a).toNat : Int) := sp_lp_at _ _ (k - 1 - a).toNat (by rw [show a + ((k - 1 - a).toNat : Int) = k - 1 by omega]; exact q3) _ (by omega) (fun i h1 h2 => nop _ (by omega) (by omega))
            unfold sp_mf
            rw [e1, if_neg (by omega)]
            exact ⟨by omega, ⟨by omega, by omega⟩, ⟨fun z => by omega, fun z => by omega⟩⟩
      generalize hj : sp_pe U.all_ k e = j at hpin
      have hgj := hg j
      refine am_istore_n hB d_MO_nameEnd_36 rfl (by rw [hR.nL]; decide) rfl ?_
      refine am_iload_n hB d_MO_nameEnd_37 rfl rfl ?_
      refine ai_zlt (tgt := 61) hB d_MO_nameEnd_38 (by decide) (fun c1 => ?_) (fun c1 => ?_)
      · exact stop j hj.symm (Or.inl c1)
      refine am_iload_n hB d_MO_nameEnd_41 rfl rfl ?_
      refine am_iload_n hB d_MO_nameEnd_42 rfl rfl ?_
      refine ai_jge (tgt := 61) hB d_MO_nameEnd_43 (by decide) (fun c2 => ?_) (fun c2 => ?_)
      · exact stop j hj.symm (Or.inr (Or.inl c2))
      refine am_aload_n hB d_MO_nameEnd_46 rfl rfl rfl ?_
      refine am_getf hB d_MO_nameEnd_47 F_MO_13_11 M.1 rfl ?_
      refine am_iload_n hB d_MO_nameEnd_50 rfl rfl ?_
      refine ai_iald hB d_MO_nameEnd_51 ty_1 M.all ?_
      refine ai_bipush hB d_MO_nameEnd_52 (by decide) ?_
      show am_Z X 54 [.ref m, am_n a, am_n e, am_n j, am_n 1] [am_n 46, am_n (U.all_ j)] h 0 0
      refine ai_jne (tgt := 61) hB d_MO_nameEnd_54 (by decide) (fun c3 => ?_) (fun c3 => ?_)
      · exact stop j hj.symm (Or.inr (Or.inr c3))
      refine ai_const hB d_MO_nameEnd_57 ?_
      refine am_goto (tgt := 62) hB d_MO_nameEnd_58 (by decide) ?_
      refine am_istore hB d_MO_nameEnd_62 (by rw [hR.nL]; decide) rfl ?_
      refine am_iload hB d_MO_nameEnd_64 rfl ?_
      refine ai_zeq (tgt := 75) hB d_MO_nameEnd_66 (by decide) (fun c4 => ?_) (fun c4 => ?_)
      · omega
      refine am_iload_n hB d_MO_nameEnd_69 rfl rfl ?_
      refine ai_const hB d_MO_nameEnd_70 ?_
      refine ai_add hB d_MO_nameEnd_71 ?_
      refine am_goto (tgt := 76) hB d_MO_nameEnd_72 (by decide) ?_
      refine am_istore_n hB d_MO_nameEnd_76 rfl (by rw [hR.nL]; decide) rfl ?_
      refine am_goto (tgt := 10) hB d_MO_nameEnd_77 (by decide) (ih (j + 1) (p + 1) k h (by omega) (by omega) (by omega) (by omega) (by omega) (Or.inr ⟨by omega, by omega, by rw [show j + 1 - 1 = j by omega]; exact c3⟩) ?_ M f)
      obtain ⟨hj1, hj2, hj3⟩ := hpin.resolve_left (by omega)
      rcases ht with ⟨ht, h2p⟩ | ⟨ht, h40⟩
      · rw [htp, ← hj3, if_neg (by omega)] at ht
        by_cases q : p + 1 = 40
        · rw [if_pos (Or.inr (Or.inr q))] at ht
          refine Or.inr ⟨ht.trans (if_pos (by omega)), by omega⟩
        · have c40 : ¬ 40 < j - k := by
            intro z
            have : sp_pe U.all_ k e = -1 := by
              unfold sp_pe
              rw [← hj3, if_pos (Or.inr z)]
            omega
          rw [if_neg (by rintro (z | z | z); · exact z c3
                         · omega
                         · exact q z), if_neg c40, show (e - k).toNat - (j - k).toNat - 1 = (e - (j + 1)).toNat by omega] at ht
          exact Or.inl ⟨ht, by omega⟩
      · exact Or.inr ⟨ht, by omega⟩
  refine am_aload_n hB d_MO_nameEnd_0 rfl rfl rfl ?_
  refine ai_const hB d_MO_nameEnd_1 ?_
  refine mo_p_parts hB d_MO_nameEnd_2 P_MO_129_11 M f (fun h M f => ?_)
  refine am_iload_n hB d_MO_nameEnd_5 rfl rfl ?_
  refine am_istore_n hB d_MO_nameEnd_6 rfl (by rw [hR.nL]; decide) rfl ?_
  refine ai_const hB d_MO_nameEnd_7 ?_
  refine am_istore hB d_MO_nameEnd_8 (by rw [hR.nL]; decide) rfl ?_
  exact loop ((e - a).toNat + 1) a 0 _ h (by omega) (by omega) h1 (by omega) (by omega) (Or.inl ⟨rfl, rfl⟩) (Or.inl ⟨sp_take_fin _ _ _, by omega⟩) M f
