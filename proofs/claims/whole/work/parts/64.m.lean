/-! the model reads: numbers, words, names that are alike -/
def nuE (g : Int → Int) (a e : Int) : Int := match sp_nu g a e with
  | none => -1
  | some p => p.2
theorem m_MO_numberEnd {l : Launch} {G : am_G} {h : am_H} {m : Nat} {U : mv} {a e : Int} (M : am_mo h m U) (hg : am_cok U.all_) (h0 : 0 ≤ a) (h1 : a ≤ e) (h2 : e ≤ 1200) : am_M l G M_MO_numberEnd [.ref m, am_n a, am_n e] h (fun r h' => ∃ v : Int, r = some (am_n (nuE U.all_ a e)) ∧ am_mo h' m (mv.s_value U (v)) ∧ ko m 35 h h' ∧ (0 ≤ v ∧ v < 100000) ∧ ∀ p, sp_nu U.all_ a e = some p → v = p.1) := by
  have f : ko m 35 h h := ko.rf
  have hga := hg a
  refine am_M.of (by decide) (Nat.le_of_ble_eq_true rfl) (fun X hB hR => ?_)
  show am_Z X 0 [.ref m, am_n a, am_n e, am_u, am_u] [] h 0 0
  have fin : ∀ (t : Nat) (h1 : am_H), a + t ≤ e → t ≤ 5 → (sp_run U.all_ a (e - a).toNat = t ∨ (t = 5 ∧ 5 < sp_run U.all_ a (e - a).toNat)) → am_mo h1 m (mv.s_value U (sp_val U.all_ a t)) → ko m 35 h h1 → am_Z X 58 [.ref m, am_n a, am_n e, am_n (a + t), am_u] [] h1 0 0 := by
    intro t h1 t1 t2 hr M f
    have hv := sp_val_in U.all_ a t (fun j hj => sp_run_fig U.all_ (e - a).toNat a j (by omega))
    have hv : 0 ≤ sp_val U.all_ a t ∧ sp_val U.all_ a t < 100000 := by
      refine ⟨hv.1, Int.lt_of_lt_of_le hv.2 ?_⟩
      have : (10 : Int) ^ t ≤ 10 ^ 5 := by
        exact_mod_cast Nat.pow_le_pow_right (by decide : 0 < 10) t2
      exact this
    have no : ¬ (1 ≤ sp_run U.all_ a (e - a).toNat ∧ sp_run U.all_ a (e - a).toNat ≤ 4 ∧ (sp_run U.all_ a (e - a).toNat = 1 ∨ U.all_ a ≠ 48)) → am_Z X 92 [.ref m, am_n a, am_n e, am_n (a + t), am_u] [] h1 0 0 := by
      intro hz
      have e1 : sp_nu U.all_ a e = none := if_neg hz
      refine ai_const hB d_MO_numberEnd_92 ?_
      refine am_istore hB d_MO_numberEnd_93 (by rw [hR.nL]; decide) rfl ?_
      refine am_iload hB d_MO_numberEnd_95 rfl ?_
      refine ai_zeq (tgt := 104) hB d_MO_numberEnd_97 (by decide) (fun c9 => ?_) (fun c9 => ?_)
      rotate_left
      · omega
      refine ai_const hB d_MO_numberEnd_104 ?_
      refine am_iret hB hR d_MO_numberEnd_105 rfl rfl ?_ (Nat.zero_le _) (Nat.zero_le _)
      exact ⟨_, by unfold nuE; rw [e1], M, f, hv, fun p hp => by rw [e1] at hp; cases hp⟩
    have yes : (1 ≤ sp_run U.all_ a (e - a).toNat ∧ sp_run U.all_ a (e - a).toNat ≤ 4 ∧ (sp_run U.all_ a (e - a).toNat = 1 ∨ U.all_ a ≠ 48)) → am_Z X 88 [.ref m, am_n a, am_n e, am_n (a + t), am_u] [] h1 0 0 := by
      intro hz
      have e1 : sp_nu U.all_ a e = some (sp_val U.all_ a (sp_run U.all_ a (e - a).toNat), a + sp_run U.all_ a (e - a).toNat) := if_pos hz
      have e2 : sp_run U.all_ a (e - a).toNat = t := by omega
      rw [e2] at e1
      refine ai_const hB d_MO_numberEnd_88 ?_
      refine am_goto (tgt := 93) hB d_MO_numberEnd_89 (by decide) ?_
      refine am_istore hB d_MO_numberEnd_93 (by rw [hR.nL]; decide) rfl ?_
      refine am_iload hB d_MO_numberEnd_95 rfl ?_
      refine ai_zeq (tgt := 104) hB d_MO_numberEnd_97 (by decide) (fun c9 => ?_) (fun c9 => ?_)
      · omega
      refine am_iload_n hB d_MO_numberEnd_100 rfl rfl ?_
      refine am_goto (tgt := 105) hB d_MO_numberEnd_101 (by decide) ?_
      refine am_iret hB hR d_MO_numberEnd_105 rfl rfl ?_ (Nat.zero_le _) (Nat.zero_le _)
      exact ⟨_, by unfold nuE; rw [e1], M, f, hv, fun p hp => by rw [e1] at hp; cases hp; rfl⟩
    refine am_iload_n hB d_MO_numberEnd_58 rfl rfl ?_
    refine am_iload_n hB d_MO_numberEnd_59 rfl rfl ?_
    refine ai_jle (tgt := 92) hB d_MO_numberEnd_60 (by decide) (fun c1 => ?_) (fun c1 => ?_)
    · exact no (by omega)
    refine am_iload_n hB d_MO_numberEnd_63 rfl rfl ?_
    refine am_iload_n hB d_MO_numberEnd_64 rfl rfl ?_
    refine ai_sub hB d_MO_numberEnd_65 ?_
    refine ai_const hB d_MO_numberEnd_66 ?_
    refine ai_jge (tgt := 92) hB d_MO_numberEnd_67 (by decide) (fun c2 => ?_) (fun c2 => ?_)
    · exact no (by omega)
    refine am_aload_n hB d_MO_numberEnd_70 rfl rfl rfl ?_
    refine am_getf hB d_MO_numberEnd_71 F_MO_13_11 M.1 rfl ?_
    refine am_iload_n hB d_MO_numberEnd_74 rfl rfl ?_
    refine ai_iald hB d_MO_numberEnd_75 ty_1 M.all ?_
    refine ai_bipush hB d_MO_numberEnd_76 (by decide) ?_
    show am_Z X 78 [.ref m, am_n a, am_n e, am_n (a + t), am_u] [am_n 48, am_n (U.all_ a)] h1 0 0
    refine ai_jne (tgt := 88) hB d_MO_numberEnd_78 (by decide) (fun c3 => ?_) (fun c3 => ?_)
    · exact yes ⟨by omega, by omega, Or.inr c3⟩
    refine am_iload_n hB d_MO_numberEnd_81 rfl rfl ?_
    refine am_iload_n hB d_MO_numberEnd_82 rfl rfl ?_
    refine ai_const hB d_MO_numberEnd_83 ?_
    refine ai_add hB d_MO_numberEnd_84 ?_
    refine ai_jne (tgt := 92) hB d_MO_numberEnd_85 (by decide) (fun c4 => ?_) (fun c4 => ?_)
    · exact no (by omega)
    · exact yes ⟨by omega, by omega, Or.inl (by omega)⟩
  have loop : ∀ (d t : Nat) (h1 : am_H), a + t + d = e → t ≤ 5 → sp_run U.all_ a (e - a).toNat = t + sp_run U.all_ (a + t) d → am_mo h1 m (mv.s_value U (sp_val U.all_ a t)) → ko m 35 h h1 → am_Z X 7 [.ref m, am_n a, am_n e, am_n (a + t), am_u] [] h1 0 0 := by
    intro d
    induction d with
    | zero =>
      intro t h1 ht t5 hr M f
      refine am_iload_n hB d_MO_numberEnd_7 rfl rfl ?_
      refine am_iload_n hB d_MO_numberEnd_8 rfl rfl ?_
      refine ai_jge (tgt := 58) hB d_MO_numberEnd_9 (by decide) (fun c1 => ?_) (fun c1 => ?_)
      · exact fin t h1 (by omega) t5 (Or.inl (by rw [hr]; rfl)) M f
      · omega
    | succ d ih =>
      intro t h1 ht t5 hr M f
      have hgi := hg (a + t)
      rw [sp_run] at hr
      refine am_iload_n hB d_MO_numberEnd_7 rfl rfl ?_
      refine am_iload_n hB d_MO_numberEnd_8 rfl rfl ?_
      refine ai_jge (tgt := 58) hB d_MO_numberEnd_9 (by decide) (fun c1 => ?_) (fun c1 => ?_)
      · omega
      refine am_aload_n hB d_MO_numberEnd_12 rfl rfl rfl ?_
      refine am_getf hB d_MO_numberEnd_13 F_MO_13_11 M.1 rfl ?_
      refine am_iload_n hB d_MO_numberEnd_16 rfl rfl ?_
      refine ai_iald hB d_MO_numberEnd_17 ty_1 M.all ?_
      refine am_callS hB hR (as := [am_n (U.all_ (a + t))]) (n_isFigure hgi.1 hgi.2 h1) c_MO_126 rfl rfl d_MO_numberEnd_18 ⟨by decide, Nat.le_of_ble_eq_true rfl⟩ ⟨by decide, by decide⟩ rfl rfl (fun rr h hp => ?_)
      obtain ⟨rfl, rfl⟩ := hp
      show am_Z X 21 [.ref m, am_n a, am_n e, am_n (a + t), am_u] [am_n (sp_i (sp_fig (U.all_ (a + t))))] h1 0 0
      cases q : sp_fig (U.all_ (a + t)) with
      | false =>
        rw [q, if_neg (by decide)] at hr
        show am_Z X 21 [.ref m, am_n a, am_n e, am_n (a + t), am_u] [am_n 0] h1 0 0
        refine ai_zeq (tgt := 58) hB d_MO_numberEnd_21 (by decide) (fun c2 => ?_) (fun c2 => ?_)
        · exact fin t h1 (by omega) t5 (Or.inl (by omega)) M f
        · omega
      | true =>
        rw [q, if_pos rfl] at hr
        show am_Z X 21 [.ref m, am_n a, am_n e, am_n (a + t), am_u] [am_n 1] h1 0 0
        refine ai_zeq (tgt := 58) hB d_MO_numberEnd_21 (by decide) (fun c2 => ?_) (fun c2 => ?_)
        · omega
        refine am_iload_n hB d_MO_numberEnd_24 rfl rfl ?_
        refine am_iload_n hB d_MO_numberEnd_25 rfl rfl ?_
        refine ai_sub hB d_MO_numberEnd_26 ?_
        refine ai_const hB d_MO_numberEnd_27 ?_
        refine ai_jge (tgt := 58) hB d_MO_numberEnd_28 (by decide) (fun c3 => ?_) (fun c3 => ?_)
        · exact fin t h1 (by omega) t5 (Or.inr (by omega)) M f
        refine am_aload_n hB d_MO_numberEnd_31 rfl rfl rfl ?_
        refine ai_bipush hB d_MO_numberEnd_32 (by decide) ?_
        refine am_aload_n hB d_MO_numberEnd_34 rfl rfl rfl ?_
        refine am_getf hB d_MO_numberEnd_35 F_MO_139_11 M.1 rfl ?_
        refine ai_mul hB d_MO_numberEnd_38 ?_
        refine am_aload_n hB d_MO_numberEnd_39 rfl rfl rfl ?_
        refine am_getf hB d_MO_numberEnd_40 F_MO_13_11 M.1 rfl ?_
        refine am_iload_n hB d_MO_numberEnd_43 rfl rfl ?_
        refine ai_iald hB d_MO_numberEnd_44 ty_1 M.all ?_
        refine ai_add hB d_MO_numberEnd_45 ?_
        refine ai_bipush hB d_MO_numberEnd_46 (by decide) ?_
        refine ai_sub hB d_MO_numberEnd_48 ?_
        refine mo_p_value (v := 10 * sp_val U.all_ a t + U.all_ (a + t) - 48) hB d_MO_numberEnd_49 P_MO_139_11 M f (fun h M f => ?_)
        have M : am_mo h m (mv.s_value U (sp_val U.all_ a (t + 1))) := by
          rw [sp_val, show sp_val U.all_ a t * 10 + (U.all_ (a + t) - 48) = 10 * sp_val U.all_ a t + U.all_ (a + t) - 48 by omega]
          exact M
        refine ai_inc hB d_MO_numberEnd_52 rfl (by rw [hR.nL]; decide) rfl ?_
        have z := ih (t + 1) h (by omega) (by omega) (by rw [hr, show a + ((t + 1 : Nat) : Int) = a + t + 1 by omega]; omega) M f
        rw [show a + ((t + 1 : Nat) : Int) = a + t + 1 by omega] at z
        exact am_goto (tgt := 7) hB d_MO_numberEnd_55 (by decide) z
  refine am_aload_n hB d_MO_numberEnd_0 rfl rfl rfl ?_
  refine ai_const hB d_MO_numberEnd_1 ?_
  refine mo_p_value hB d_MO_numberEnd_2 P_MO_139_11 M f (fun h M f => ?_)
  refine am_iload_n hB d_MO_numberEnd_5 rfl rfl ?_
  refine am_istore_n hB d_MO_numberEnd_6 rfl (by rw [hR.nL]; decide) rfl ?_
  have z := loop (e - a).toNat 0 h (by omega) (by omega) (by rw [show a + ((0 : Nat) : Int) = a by omega]; omega) M f
  rw [show a + ((0 : Nat) : Int) = a by omega] at z
  exact z
/-- the k-th byte of a word of n -/
def wb (w : Int64) (n : Nat) (k : Int) : Int := ((w >>> ((am_i (8 * ((n : Int) - 1 - k))).toInt64 &&& 63)) &&& 255).toInt
def sp_st (g : Int → Int) (w : Int64) (n : Nat) (a e : Int) : Bool := decide (0 ≤ a ∧ a + n ≤ e) && sp_same g (wb w n) a 0 n
theorem am_i64 {c : Int} (h0 : -2147483648 ≤ c) (h1 : c < 2147483648) : (am_i c).toInt64.toInt = c := by
  rw [Int32.toInt_toInt64]
  exact am_i_t h0 h1
theorem am_i64_eq {c : Int} {x : Int64} (h0 : -2147483648 ≤ c) (h1 : c < 2147483648) : (am_i c).toInt64 = x ↔ c = x.toInt := by
  rw [← Int64.toInt_inj, am_i64 h0 h1]
theorem m_MO_stands {l : Launch} {G : am_G} {h : am_H} {m : Nat} {U : mv} {a e : Int} {w : Int64} {n : Nat} (M : am_mo h m U) (hg : am_cok U.all_) (h0 : -1 ≤ a) (h1 : a ≤ 1200) (h2 : e ≤ 1200) (h3 : -1 ≤ e) (hn : n ≤ 8) : am_M l G M_MO_stands [.ref m, am_n a, am_n e, .long w, am_n n] h (am_is (am_n (sp_i (sp_st U.all_ w n a e))) h) := by
  refine am_M.of (by decide) (Nat.le_of_ble_eq_true rfl) (fun X hB hR => ?_)
  show am_Z X 0 [.ref m, am_n a, am_n e, .long w, am_u, am_n n, am_u, am_u] [] h 0 0
  have fin : ∀ (b : Bool) (i : Int), b = sp_st U.all_ w n a e → am_Z X 77 [.ref m, am_n a, am_n e, .long w, am_u, am_n n, am_n (sp_i b), am_n i] [] h 0 0 := by
    intro b i hb
    refine am_iload hB d_MO_stands_77 rfl ?_
    refine am_iret hB hR d_MO_stands_79 rfl (by cases b <;> decide) ?_ (Nat.zero_le _) (Nat.zero_le _)
    rw [hb]
    exact ⟨rfl, rfl⟩
  have loop : (0 ≤ a ∧ a + n ≤ e) → ∀ (d k : Nat), k + d = n → sp_st U.all_ w n a e = sp_same U.all_ (wb w n) (a + k) k d → am_Z X 22 [.ref m, am_n a, am_n e, .long w, am_u, am_n n, am_n 1, am_n k] [] h 0 0 := by
    intro hA d
    induction d with
    | zero =>
      intro k hk hs
      refine am_iload hB d_MO_stands_22 rfl ?_
      refine am_iload hB d_MO_stands_24 rfl ?_
      refine ai_jge (tgt := 77) hB d_MO_stands_26 (by decide) (fun c1 => ?_) (fun c1 => ?_)
      · exact fin true k hs.symm
      · omega
    | succ d ih =>
      intro k hk hs
      have hgi := hg (a + k)
      rw [sp_same] at hs
      refine am_iload hB d_MO_stands_22 rfl ?_
      refine am_iload hB d_MO_stands_24 rfl ?_
      refine ai_jge (tgt := 77) hB d_MO_stands_26 (by decide) (fun c1 => ?_) (fun c1 => ?_)
      · omega
      refine am_iload hB d_MO_stands_29 rfl ?_
      refine ai_zeq (tgt := 77) hB d_MO_stands_31 (by decide) (fun c2 => ?_) (fun c2 => ?_)
      · omega
      refine am_aload_n hB d_MO_stands_34 rfl rfl rfl ?_
      refine am_getf hB d_MO_stands_35 F_MO_13_11 M.1 rfl ?_
      refine am_iload_n hB d_MO_stands_38 rfl rfl ?_
      refine am_iload hB d_MO_stands_39 rfl ?_
      refine ai_add hB d_MO_stands_41 ?_
      refine ai_iald hB d_MO_stands_42 ty_1 M.all ?_
      refine am_i2l hB d_MO_stands_43 ?_
      refine am_lload_n hB d_MO_stands_44 rfl rfl ?_
      refine ai_bipush hB d_MO_stands_45 (by decide) ?_
      refine am_iload hB d_MO_stands_47 rfl ?_
      refine ai_const hB d_MO_stands_49 ?_
      refine ai_sub hB d_MO_stands_50 ?_
      refine am_iload hB d_MO_stands_51 rfl ?_
      refine ai_sub hB d_MO_stands_53 ?_
      refine ai_mul hB d_MO_stands_54 ?_
      refine am_lshr hB d_MO_stands_55 ?_
      refine am_ldc2 hB d_MO_stands_56 J_MO_120 ?_
      refine am_land hB d_MO_stands_59 ?_
      refine am_lcmp hB d_MO_stands_60 ?_
      refine am_if_ne (tgt := 68) hB d_MO_stands_61 (by decide) (fun c3 => ?_) (fun c3 => ?_)
      · have c3 : ¬ U.all_ (a + k) = wb w n k := fun z => c3 ((lg_cmp_eq _ _).mpr ((am_i64_eq (by omega) (by omega)).mpr z))
        rw [decide_eq_false c3, Bool.false_and] at hs
        refine ai_const hB d_MO_stands_68 ?_
        refine am_istore hB d_MO_stands_69 (by rw [hR.nL]; decide) rfl ?_
        refine ai_inc hB d_MO_stands_71 rfl (by rw [hR.nL]; decide) rfl ?_
        refine am_goto (tgt := 22) hB d_MO_stands_74 (by decide) ?_
        refine am_iload hB d_MO_stands_22 rfl ?_
        refine am_iload hB d_MO_stands_24 rfl ?_
        refine ai_jge (tgt := 77) hB d_MO_stands_26 (by decide) (fun c4 => ?_) (fun c4 => ?_)
        · exact fin false _ hs.symm
        refine am_iload hB d_MO_stands_29 rfl ?_
        refine ai_zeq (tgt := 77) hB d_MO_stands_31 (by decide) (fun c5 => ?_) (fun c5 => ?_)
        · exact fin false _ hs.symm
        · omega
      · have c3 : U.all_ (a + k) = wb w n k := (am_i64_eq (by omega) (by omega)).mp ((lg_cmp_eq _ _).mp c3)
        rw [decide_eq_true c3, Bool.true_and] at hs
        refine ai_const hB d_MO_stands_64 ?_
        refine am_goto (tgt := 69) hB d_MO_stands_65 (by decide) ?_
        refine am_istore hB d_MO_stands_69 (by rw [hR.nL]; decide) rfl ?_
        refine ai_inc hB d_MO_stands_71 rfl (by rw [hR.nL]; decide) rfl ?_
        have z := ih (k + 1) (by omega) (by rw [hs, show a + ((k + 1 : Nat) : Int) = a + k + 1 by omega]; rfl)
        exact am_goto (tgt := 22) hB d_MO_stands_74 (by decide) z
  have no : ¬ (0 ≤ a ∧ a + n ≤ e) → am_Z X 16 [.ref m, am_n a, am_n e, .long w, am_u, am_n n, am_u, am_u] [] h 0 0 := by
    intro hz
    have e1 : sp_st U.all_ w n a e = false := by
      unfold sp_st
      rw [decide_eq_false hz]
      rfl
    refine ai_const hB d_MO_stands_16 ?_
    refine am_istore hB d_MO_stands_17 (by rw [hR.nL]; decide) rfl ?_
    refine ai_const hB d_MO_stands_19 ?_
    refine am_istore hB d_MO_stands_20 (by rw [hR.nL]; decide) rfl ?_
    refine am_iload hB d_MO_stands_22 rfl ?_
    refine am_iload hB d_MO_stands_24 rfl ?_
    refine ai_jge (tgt := 77) hB d_MO_stands_26 (by decide) (fun c4 => ?_) (fun c4 => ?_)
    · exact fin false 0 e1.symm
    refine am_iload hB d_MO_stands_29 rfl ?_
    refine ai_zeq (tgt := 77) hB d_MO_stands_31 (by decide) (fun c5 => ?_) (fun c5 => ?_)
    · exact fin false 0 e1.symm
    · omega
  refine am_iload_n hB d_MO_stands_0 rfl rfl ?_
  refine ai_zlt (tgt := 16) hB d_MO_stands_1 (by decide) (fun c1 => ?_) (fun c1 => ?_)
  · exact no (by omega)
  refine am_iload_n hB d_MO_stands_4 rfl rfl ?_
  refine am_iload hB d_MO_stands_5 rfl ?_
  refine ai_add hB d_MO_stands_7 ?_
  refine am_iload_n hB d_MO_stands_8 rfl rfl ?_
  refine ai_jgt (tgt := 16) hB d_MO_stands_9 (by decide) (fun c2 => ?_) (fun c2 => ?_)
  · exact no (by omega)
  refine ai_const hB d_MO_stands_12 ?_
  refine am_goto (tgt := 17) hB d_MO_stands_13 (by decide) ?_
  refine am_istore hB d_MO_stands_17 (by rw [hR.nL]; decide) rfl ?_
  refine ai_const hB d_MO_stands_19 ?_
  refine am_istore hB d_MO_stands_20 (by rw [hR.nL]; decide) rfl ?_
  have z := loop ⟨by omega, by omega⟩ n 0 (by omega) (by
    unfold sp_st
    rw [decide_eq_true ⟨by omega, by omega⟩, Bool.true_and, show a + ((0 : Nat) : Int) = a by omega]
    rfl)
  exact z
/-- the model's words are the class's -/
theorem sp_same_cg2 {g w w' : Int → Int} : ∀ (n : Nat) (a : Int) (k : Nat), (∀ j : Nat, k ≤ j → j < k + n → w j = w' j) → sp_same g w a k n = sp_same g w' a k n
  | 0, _, _, _ => rfl
  | n + 1, a, k, h => by
    unfold sp_same
    rw [h k (by omega) (by omega)]
    have := sp_same_cg2 (g := g) n (a + 1) (k + 1) (fun j h1 h2 => h j (by omega) (by omega))
    rw [show ((k + 1 : Nat) : Int) = (k : Int) + 1 by omega] at this
    rw [this]
theorem sp_st_tw {g : Int → Int} {w : Int64} {n wi : Nat} {a e : Int} (hl : am_len.getD wi 0 = n) (hw : ∀ j : Nat, j < n → wb w n j = sp_ch wi j) : sp_st g w n a e = (decide (0 ≤ a) && sp_tw g wi a e) := by
  unfold sp_st sp_tw
  have e0 : sp_same g (wb w n) a 0 n = sp_same g (sp_ch wi) a 0 n := sp_same_cg2 (g := g) n a 0 (fun j _ hj => hw j (by omega))
  rw [hl, e0]
  by_cases c1 : 0 ≤ a
  · by_cases c2 : a + n ≤ e
    · rw [decide_eq_true ⟨c1, c2⟩, decide_eq_true c1, decide_eq_true (show (n : Int) ≤ e - a by omega)]
      rfl
    · rw [decide_eq_false (fun z => c2 z.2), decide_eq_false (show ¬ (n : Int) ≤ e - a by omega)]
      simp
  · rw [decide_eq_false (fun z => c1 z.1), decide_eq_false c1]
    rfl
theorem st_arrow (g : Int → Int) (a e : Int) : sp_st g 539835936 4 a e = (decide (0 ≤ a) && sp_tw g 2 a e) := sp_st_tw rfl (by decide)
theorem st_colon (g : Int → Int) (a e : Int) : sp_st g 58 1 a e = (decide (0 ≤ a) && sp_tw g 1 a e) := sp_st_tw rfl (by decide)
theorem st_indent (g : Int → Int) (a e : Int) : sp_st g 538976288 4 a e = (decide (0 ≤ a) && sp_tw g 0 a e) := sp_st_tw rfl (by decide)
theorem st_msg (g : Int → Int) (a e : Int) : sp_st g 14880 2 a e = (decide (0 ≤ a) && sp_tw g 4 a e) := sp_st_tw rfl (by decide)
theorem st_more (g : Int → Int) (a e : Int) : sp_st g 39429484064 5 a e = (decide (0 ≤ a) && sp_tw g 6 a e) := sp_st_tw rfl (by decide)
theorem st_moreEnd (g : Int → Int) (a e : Int) : sp_st g 139274973797 5 a e = (decide (0 ≤ a) && sp_tw g 7 a e) := sp_st_tw rfl (by decide)
theorem st_at (g : Int → Int) (a e : Int) : sp_st g 157381664 4 a e = (decide (0 ≤ a) && sp_tw g 5 a e) := sp_st_tw rfl (by decide)
theorem m_MO_same {l : Launch} {G : am_G} {h : am_H} {m : Nat} {U : mv} {a b c d : Int} (M : am_mo h m U) (hg : am_cok U.all_) (h0 : 0 ≤ a) (h1 : a ≤ b) (h2 : b ≤ 1200) (h3 : 0 ≤ c) (h4 : c ≤ d) (h5 : d ≤ 1200) : am_M l G M_MO_same [.ref m, am_n a, am_n b, am_n c, am_n d] h (am_is (am_n (sp_i (sp_eq U.all_ a b U.all_ c d))) h) := by
  refine am_M.of (by decide) (Nat.le_of_ble_eq_true rfl) (fun X hB hR => ?_)
  show am_Z X 0 [.ref m, am_n a, am_n b, am_n c, am_n d, am_u, am_u] [] h 0 0
  have fin : ∀ (z : Bool) (i : Int), z = sp_eq U.all_ a b U.all_ c d → am_Z X 67 [.ref m, am_n a, am_n b, am_n c, am_n d, am_n (sp_i z), am_n i] [] h 0 0 := by
    intro z i hz
    refine am_iload hB d_MO_same_67 rfl ?_
    refine am_iret hB hR d_MO_same_69 rfl (by cases z <;> decide) ?_ (Nat.zero_le _) (Nat.zero_le _)
    rw [hz]
    exact ⟨rfl, rfl⟩
  have loop : d - c = b - a → ∀ (x k : Nat), (k : Int) + x = b - a → sp_eq U.all_ a b U.all_ c d = sp_same U.all_ U.all_ (a + k) (c + k) x → am_Z X 20 [.ref m, am_n a, am_n b, am_n c, am_n d, am_n 1, am_n k] [] h 0 0 := by
    intro hA x
    induction x with
    | zero =>
      intro k hk hs
      refine am_iload hB d_MO_same_20 rfl ?_
      refine ai_zeq (tgt := 67) hB d_MO_same_22 (by decide) (fun c1 => ?_) (fun c1 => ?_)
      · omega
      refine am_iload hB d_MO_same_25 rfl ?_
      refine am_iload_n hB d_MO_same_27 rfl rfl ?_
      refine am_iload_n hB d_MO_same_28 rfl rfl ?_
      refine ai_sub hB d_MO_same_29 ?_
      refine ai_jge (tgt := 67) hB d_MO_same_30 (by decide) (fun c2 => ?_) (fun c2 => ?_)
      · exact fin true k hs.symm
      · omega
    | succ x ih =>
      intro k hk hs
      have hg1 := hg (a + k)
      have hg2 := hg (c + k)
      rw [sp_same] at hs
      refine am_iload hB d_MO_same_20 rfl ?_
      refine ai_zeq (tgt := 67) hB d_MO_same_22 (by decide) (fun c1 => ?_) (fun c1 => ?_)
      · omega
      refine am_iload hB d_MO_same_25 rfl ?_
      refine am_iload_n hB d_MO_same_27 rfl rfl ?_
      refine am_iload_n hB d_MO_same_28 rfl rfl ?_
      refine ai_sub hB d_MO_same_29 ?_
      refine ai_jge (tgt := 67) hB d_MO_same_30 (by decide) (fun c2 => ?_) (fun c2 => ?_)
      · omega
      refine am_aload_n hB d_MO_same_33 rfl rfl rfl ?_
      refine am_getf hB d_MO_same_34 F_MO_13_11 M.1 rfl ?_
      refine am_iload_n hB d_MO_same_37 rfl rfl ?_
      refine am_iload hB d_MO_same_38 rfl ?_
      refine ai_add hB d_MO_same_40 ?_
      refine ai_iald hB d_MO_same_41 ty_1 M.all ?_
      refine am_aload_n hB d_MO_same_42 rfl rfl rfl ?_
      refine am_getf hB d_MO_same_43 F_MO_13_11 M.1 rfl ?_
      refine am_iload_n hB d_MO_same_46 rfl rfl ?_
      refine am_iload hB d_MO_same_47 rfl ?_
      refine ai_add hB d_MO_same_49 ?_
      refine ai_iald hB d_MO_same_50 ty_1 M.all ?_
      refine ai_jne (tgt := 58) hB d_MO_same_51 (by decide) (fun c3 => ?_) (fun c3 => ?_)
      · rw [decide_eq_false c3, Bool.false_and] at hs
        refine ai_const hB d_MO_same_58 ?_
        refine am_istore hB d_MO_same_59 (by rw [hR.nL]; decide) rfl ?_
        refine ai_inc hB d_MO_same_61 rfl (by rw [hR.nL]; decide) rfl ?_
        refine am_goto (tgt := 20) hB d_MO_same_64 (by decide) ?_
        refine am_iload hB d_MO_same_20 rfl ?_
        refine ai_zeq (tgt := 67) hB d_MO_same_22 (by decide) (fun c4 => ?_) (fun c4 => ?_)
        · exact fin false _ hs.symm
        · omega
      · rw [decide_eq_true c3, Bool.true_and] at hs
        refine ai_const hB d_MO_same_54 ?_
        refine am_goto (tgt := 59) hB d_MO_same_55 (by decide) ?_
        refine am_istore hB d_MO_same_59 (by rw [hR.nL]; decide) rfl ?_
        refine ai_inc hB d_MO_same_61 rfl (by rw [hR.nL]; decide) rfl ?_
        have z := ih (k + 1) (by omega) (by rw [hs, show a + ((k + 1 : Nat) : Int) = a + k + 1 by omega, show c + ((k + 1 : Nat) : Int) = c + k + 1 by omega])
        exact am_goto (tgt := 20) hB d_MO_same_64 (by decide) z
  refine am_iload_n hB d_MO_same_0 rfl rfl ?_
  refine am_iload_n hB d_MO_same_1 rfl rfl ?_
  refine ai_sub hB d_MO_same_2 ?_
  refine am_iload hB d_MO_same_3 rfl ?_
  refine am_iload_n hB d_MO_same_5 rfl rfl ?_
  refine ai_sub hB d_MO_same_6 ?_
  refine ai_jne (tgt := 14) hB d_MO_same_7 (by decide) (fun c1 => ?_) (fun c1 => ?_)
  · refine ai_const hB d_MO_same_14 ?_
    refine am_istore hB d_MO_same_15 (by rw [hR.nL]; decide) rfl ?_
    refine ai_const hB d_MO_same_17 ?_
    refine am_istore hB d_MO_same_18 (by rw [hR.nL]; decide) rfl ?_
    refine am_iload hB d_MO_same_20 rfl ?_
    refine ai_zeq (tgt := 67) hB d_MO_same_22 (by decide) (fun c4 => ?_) (fun c4 => ?_)
    · exact fin false 0 (by unfold sp_eq; rw [decide_eq_false (show ¬ d - c = b - a by omega)]; rfl)
    · omega
  · refine ai_const hB d_MO_same_10 ?_
    refine am_goto (tgt := 15) hB d_MO_same_11 (by decide) ?_
    refine am_istore hB d_MO_same_15 (by rw [hR.nL]; decide) rfl ?_
    refine ai_const hB d_MO_same_17 ?_
    refine am_istore hB d_MO_same_18 (by rw [hR.nL]; decide) rfl ?_
    exact loop (by omega) (b - a).toNat 0 (by omega) (by unfold sp_eq; rw [decide_eq_true (show d - c = b - a by omega), Bool.true_and, show a + ((0 : Nat) : Int) = a by omega, show c + ((0 : Nat) : Int) = c by omega])
