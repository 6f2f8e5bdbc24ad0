/-! the model's short methods -/
theorem n_isFigure {l : Launch} {G : am_G} {c : Int} (h0 : 0 ≤ c) (h1 : c < 65536) (h : am_H) : am_M l G M_MO_isFigure [am_n c] h (am_is (am_n (sp_i (sp_fig c))) h) := by
  refine am_M.of (by decide) (Nat.le_of_ble_eq_true rfl) (fun X hB hR => ?_)
  show am_Z X 0 [am_n c] [] h 0 0
  refine am_iload_n hB d_MO_isFigure_0 rfl rfl ?_
  refine ai_bipush hB d_MO_isFigure_1 (by decide) ?_
  refine ai_jlt (tgt := 16) hB d_MO_isFigure_3 (by decide) (fun hc => ?_) (fun hc => ?_)
  · refine ai_const hB d_MO_isFigure_16 ?_
    refine am_iret hB hR d_MO_isFigure_17 rfl (by decide) ?_ (Nat.zero_le _) (Nat.zero_le _)
    have e : sp_fig c = false := by simp [sp_fig]; omega
    rw [e]
    exact ⟨rfl, rfl⟩
  refine am_iload_n hB d_MO_isFigure_6 rfl rfl ?_
  refine ai_bipush hB d_MO_isFigure_7 (by decide) ?_
  refine ai_jgt (tgt := 16) hB d_MO_isFigure_9 (by decide) (fun hd => ?_) (fun hd => ?_)
  · refine ai_const hB d_MO_isFigure_16 ?_
    refine am_iret hB hR d_MO_isFigure_17 rfl (by decide) ?_ (Nat.zero_le _) (Nat.zero_le _)
    have e : sp_fig c = false := by simp [sp_fig]; omega
    rw [e]
    exact ⟨rfl, rfl⟩
  refine ai_const hB d_MO_isFigure_12 ?_
  refine am_goto (tgt := 17) hB d_MO_isFigure_13 (by decide) ?_
  refine am_iret hB hR d_MO_isFigure_17 rfl (by decide) ?_ (Nat.zero_le _) (Nat.zero_le _)
  have e : sp_fig c = true := by simp [sp_fig]; omega
  rw [e]
  exact ⟨rfl, rfl⟩
theorem n_isLetter {l : Launch} {G : am_G} {c : Int} (h0 : 0 ≤ c) (h1 : c < 65536) (h : am_H) : am_M l G M_MO_isLetter [am_n c] h (am_is (am_n (sp_i (sp_let c))) h) := by
  refine am_M.of (by decide) (Nat.le_of_ble_eq_true rfl) (fun X hB hR => ?_)
  show am_Z X 0 [am_n c] [] h 0 0
  have hT : sp_let c = true → am_Z X 36 [am_n c] [] h 0 0 := by
    intro e
    refine ai_const hB d_MO_isLetter_36 ?_
    refine am_goto (tgt := 41) hB d_MO_isLetter_37 (by decide) ?_
    refine am_iret hB hR d_MO_isLetter_41 rfl (by decide) ?_ (Nat.zero_le _) (Nat.zero_le _)
    rw [e]
    exact ⟨rfl, rfl⟩
  have h24 : (c < 65 ∨ 90 < c) → (c < 97 ∨ 122 < c) → am_Z X 24 [am_n c] [] h 0 0 := by
    intro q1 q2
    refine am_iload_n hB d_MO_isLetter_24 rfl rfl ?_
    refine ai_bipush hB d_MO_isLetter_25 (by decide) ?_
    refine ai_jeq (tgt := 36) hB d_MO_isLetter_27 (by decide) (fun a1 => ?_) (fun a1 => ?_)
    · exact hT (by simp [sp_let]; omega)
    refine am_iload_n hB d_MO_isLetter_30 rfl rfl ?_
    refine ai_bipush hB d_MO_isLetter_31 (by decide) ?_
    refine ai_jne (tgt := 40) hB d_MO_isLetter_33 (by decide) (fun a2 => ?_) (fun a2 => ?_)
    · refine ai_const hB d_MO_isLetter_40 ?_
      refine am_iret hB hR d_MO_isLetter_41 rfl (by decide) ?_ (Nat.zero_le _) (Nat.zero_le _)
      have e : sp_let c = false := by simp [sp_let]; omega
      rw [e]
      exact ⟨rfl, rfl⟩
    · exact hT (by simp [sp_let]; omega)
  have h12 : (c < 97 ∨ 122 < c) → am_Z X 12 [am_n c] [] h 0 0 := by
    intro q2
    refine am_iload_n hB d_MO_isLetter_12 rfl rfl ?_
    refine ai_bipush hB d_MO_isLetter_13 (by decide) ?_
    refine ai_jlt (tgt := 24) hB d_MO_isLetter_15 (by decide) (fun a1 => ?_) (fun a1 => ?_)
    · exact h24 (Or.inl a1) q2
    refine am_iload_n hB d_MO_isLetter_18 rfl rfl ?_
    refine ai_bipush hB d_MO_isLetter_19 (by decide) ?_
    refine ai_jle (tgt := 36) hB d_MO_isLetter_21 (by decide) (fun a2 => ?_) (fun a2 => ?_)
    · exact hT (by simp [sp_let]; omega)
    · exact h24 (Or.inr a2) q2
  refine am_iload_n hB d_MO_isLetter_0 rfl rfl ?_
  refine ai_bipush hB d_MO_isLetter_1 (by decide) ?_
  refine ai_jlt (tgt := 12) hB d_MO_isLetter_3 (by decide) (fun a1 => ?_) (fun a1 => ?_)
  · exact h12 (Or.inl a1)
  refine am_iload_n hB d_MO_isLetter_6 rfl rfl ?_
  refine ai_bipush hB d_MO_isLetter_7 (by decide) ?_
  refine ai_jle (tgt := 36) hB d_MO_isLetter_9 (by decide) (fun a2 => ?_) (fun a2 => ?_)
  · exact hT (by simp [sp_let]; omega)
  · exact h12 (Or.inr a2)
/-- a row that begins with a list -/
def rl (g : Int → Int) (xs : List Int) : Prop := ∀ j : Nat, j < xs.length → g j = xs.getD j 0
theorem rl.add {g : Int → Int} {xs : List Int} {x : Int} (r : rl g xs) : rl (am_up g xs.length x) (xs ++ [x]) := fun j hj => by
  rw [List.length_append, List.length_singleton] at hj
  by_cases c : j = xs.length
  · subst c
    rw [am_up_eq, List.getD_eq_getElem?_getD, List.getElem?_append_right (by omega)]
    simp
  · rw [am_up_ne _ _ (by omega), r j (by omega), List.getD_eq_getElem?_getD, List.getD_eq_getElem?_getD, List.getElem?_append_left (by omega)]
theorem m_MO_put {l : Launch} {G : am_G} {hA : am_H} {m : Nat} {U : mv} {V : dv} {n : Int} {x : Int64} (M : am_mo hA m U) (hs : U.size_ = V.dr.length) (hl : V.dr.length ≤ 600) (hr : rl U.draft_ V.dr) (hc : am_cok U.draft_) (hn : -2147483648 ≤ n ∧ n < 2147483648) : am_M l G M_MO_put [.ref m, am_n n, .long x] hA (fun r h' => r = some (am_n (sp_i (dv_put V n x))) ∧ ∃ (g : Int → Int) (xs : List Int), xs = (if dv_put V n x = true then V.dr ++ cds x n.toNat else V.dr) ∧ am_mo h' m (mv.s_size (mv.s_draft (mv.s_code U (0)) (g)) (xs.length)) ∧ rl g xs ∧ am_cok g ∧ ko m 35 hA h') := by
  have f : ko m 35 hA hA := ko.rf
  refine am_M.of (by decide) (Nat.le_of_ble_eq_true rfl) (fun X hB hR => ?_)
  show am_Z X 0 [.ref m, am_n n, .long x, am_u, am_u, am_u, am_u] [] hA 0 0
  refine am_aload_n hB d_MO_put_0 rfl rfl rfl ?_
  refine ai_const hB d_MO_put_1 ?_
  refine mo_p_code hB d_MO_put_2 P_MO_113_11 M f (fun h M f => ?_)
  have M : am_mo h m (mv.s_size (mv.s_draft (mv.s_code U (0)) (U.draft_)) (V.dr.length)) := by rw [← hs]; exact M
  have no : ¬ (1 ≤ n ∧ n ≤ 8 ∧ V.dr.length + n ≤ 600) → am_Z X 28 [.ref m, am_n n, .long x, am_u, am_u, am_u, am_u] [] h 0 0 := by
    intro hz
    have e : dv_put V n x = false := by
      unfold dv_put
      rw [decide_eq_false hz]
      rfl
    refine ai_const hB d_MO_put_28 ?_
    refine am_iret hB hR d_MO_put_29 rfl (by decide) ?_ (Nat.zero_le _) (Nat.zero_le _)
    rw [e]
    exact ⟨rfl, U.draft_, V.dr, rfl, M, hr, hc, f⟩
  refine am_iload_n hB d_MO_put_5 rfl rfl ?_
  refine ai_const hB d_MO_put_6 ?_
  refine ai_jlt (tgt := 28) hB d_MO_put_7 (by decide) (fun c1 => ?_) (fun c1 => ?_)
  · exact no (by omega)
  refine am_iload_n hB d_MO_put_10 rfl rfl ?_
  refine ai_bipush hB d_MO_put_11 (by decide) ?_
  refine ai_jgt (tgt := 28) hB d_MO_put_13 (by decide) (fun c2 => ?_) (fun c2 => ?_)
  · exact no (by omega)
  refine am_aload_n hB d_MO_put_16 rfl rfl rfl ?_
  refine am_getf hB d_MO_put_17 F_MO_117_11 M.1 rfl ?_
  refine am_iload_n hB d_MO_put_20 rfl rfl ?_
  refine ai_add hB d_MO_put_21 ?_
  show am_Z X 22 [.ref m, am_n n, .long x, am_u, am_u, am_u, am_u] [am_n ((V.dr.length : Int) + n)] h 0 0
  refine ai_sipush hB d_MO_put_22 (by decide) ?_
  refine ai_jle (tgt := 30) hB d_MO_put_25 (by decide) (fun c3 => ?_) (fun c3 => ?_)
  rotate_left
  · exact no (by omega)
  have yes : decide (1 ≤ n ∧ n ≤ 8 ∧ V.dr.length + n ≤ 600) = true := decide_eq_true ⟨by omega, by omega, by omega⟩
  have add : (cds x n.toNat).all dc_ok = true → ∀ (k : Nat) (i : Int) (xs : List Int) (h1 : am_H) (g : Int → Int) (v : Value), i = (k : Int) - 1 → (k : Int) ≤ n → V.dr ++ cds x n.toNat = xs ++ cds x k → am_mo h1 m (mv.s_size (mv.s_draft (mv.s_code U (0)) (g)) (xs.length)) → rl g xs → am_cok g → ko m 35 hA h1 → am_Z X 107 [.ref m, am_n n, .long x, am_u, am_n 1, am_n i, v] [] h1 0 0 := by
    intro al k
    induction k with
    | zero =>
      intro i xs h1 g v hi hm hs M hr hc f
      refine am_iload hB d_MO_put_107 rfl ?_
      refine ai_zlt (tgt := 154) hB d_MO_put_109 (by decide) (fun c4 => ?_) (fun c4 => ?_)
      · refine am_iload hB d_MO_put_154 rfl ?_
        refine am_iret hB hR d_MO_put_156 rfl (by decide) ?_ (Nat.zero_le _) (Nat.zero_le _)
        have e : dv_put V n x = true := by
          unfold dv_put
          rw [yes, al]
          rfl
        rw [e, if_pos rfl, hs]
        simp only [cds, List.append_nil]
        exact ⟨rfl, g, xs, rfl, M, hr, hc, f⟩
      · omega
    | succ k ih =>
      intro i xs h1 g v hi hm hs M hr hc f
      have hi' : i = (k : Int) := by omega
      subst hi'
      have c0 := cd_in x k
      have hlen : xs.length + (k + 1) = V.dr.length + n.toNat := by
        have := congrArg List.length hs
        rw [List.length_append, List.length_append, cds_len, cds_len] at this
        omega
      refine am_iload hB d_MO_put_107 rfl ?_
      refine ai_zlt (tgt := 154) hB d_MO_put_109 (by decide) (fun c4 => ?_) (fun c4 => ?_)
      · omega
      refine am_iload hB d_MO_put_112 rfl ?_
      refine ai_zeq (tgt := 154) hB d_MO_put_114 (by decide) (fun c5 => ?_) (fun c5 => ?_)
      · omega
      refine am_aload_n hB d_MO_put_117 rfl rfl rfl ?_
      refine am_getf hB d_MO_put_118 F_MO_7_11 M.1 rfl ?_
      refine am_aload_n hB d_MO_put_121 rfl rfl rfl ?_
      refine am_getf hB d_MO_put_122 F_MO_117_11 M.1 rfl ?_
      refine am_lload_n hB d_MO_put_125 rfl rfl ?_
      refine ai_bipush hB d_MO_put_126 (by decide) ?_
      refine am_iload hB d_MO_put_128 rfl ?_
      refine ai_mul hB d_MO_put_130 ?_
      refine am_lushr hB d_MO_put_131 ?_
      refine am_ldc2 hB d_MO_put_132 J_MO_120 ?_
      refine am_land hB d_MO_put_135 ?_
      refine am_l2i hB d_MO_put_136 ?_
      have e : ((x.toUInt64 >>> ((am_i (8 * k)).toInt64.toUInt64 &&& Int64.toUInt64 63)).toInt64 &&& 255).toInt32 = am_i (cd x k) := am_i_of _
      rw [e]
      show am_Z X 137 [.ref m, am_n n, .long x, am_u, am_n 1, am_n k, v] [am_n (cd x k), am_n xs.length, .ref (m + 1)] h1 0 0
      refine mo_s_draft hB d_MO_put_137 M f (fun h M f => ?_)
      refine am_aload_n hB d_MO_put_138 rfl rfl rfl ?_
      refine am_dup hB d_MO_put_139 rfl ?_
      refine am_getf hB d_MO_put_140 F_MO_117_11 M.1 rfl ?_
      refine ai_const hB d_MO_put_143 ?_
      refine ai_add hB d_MO_put_144 ?_
      refine mo_p_size (v := (xs.length : Int) + 1) hB d_MO_put_145 P_MO_117_11 M f (fun h M f => ?_)
      have M : am_mo h m (mv.s_size (mv.s_draft (mv.s_code U (0)) (am_up g xs.length (cd x k))) ((xs ++ [cd x k]).length)) := by
        rw [show (((xs ++ [cd x k]).length : Nat) : Int) = (xs.length : Int) + 1 by simp]
        exact M
      refine ai_inc hB d_MO_put_148 rfl (by rw [hR.nL]; decide) rfl ?_
      exact am_goto (tgt := 107) hB d_MO_put_151 (by decide) (ih ((k : Int) + -1) (xs ++ [cd x k]) h _ v (by omega) (by omega) (by rw [hs, cds]; simp) M hr.add (hc.up c0.1 (by omega)) f)
  have chk : ∀ (d k : Nat) (v : Value), (k : Int) + d = n → am_Z X 36 [.ref m, am_n n, .long x, am_u, am_n (sp_i ((cds x k).all dc_ok)), am_n k, v] [] h 0 0 := by
    intro d
    induction d with
    | zero =>
      intro k v hd
      have hk : k = n.toNat := by omega
      refine am_iload hB d_MO_put_36 rfl ?_
      refine am_iload_n hB d_MO_put_38 rfl rfl ?_
      refine ai_jge (tgt := 102) hB d_MO_put_39 (by decide) (fun c4 => ?_) (fun c4 => ?_)
      · refine am_iload_n hB d_MO_put_102 rfl rfl ?_
        refine ai_const hB d_MO_put_103 ?_
        refine ai_sub hB d_MO_put_104 ?_
        refine am_istore hB d_MO_put_105 (by rw [hR.nL]; decide) rfl ?_
        cases q : (cds x n.toNat).all dc_ok with
        | true =>
          rw [hk, q]
          exact add q n.toNat (n - 1) V.dr h U.draft_ v (by omega) (by omega) rfl M hr hc f
        | false =>
          rw [hk, q]
          show am_Z X 107 [.ref m, am_n n, .long x, am_u, am_n 0, am_n (n - 1), v] [] h 0 0
          refine am_iload hB d_MO_put_107 rfl ?_
          refine ai_zlt (tgt := 154) hB d_MO_put_109 (by decide) (fun c5 => ?_) (fun c5 => ?_)
          · omega
          refine am_iload hB d_MO_put_112 rfl ?_
          refine ai_zeq (tgt := 154) hB d_MO_put_114 (by decide) (fun c6 => ?_) (fun c6 => ?_)
          · refine am_iload hB d_MO_put_154 rfl ?_
            refine am_iret hB hR d_MO_put_156 rfl (by decide) ?_ (Nat.zero_le _) (Nat.zero_le _)
            have e : dv_put V n x = false := by
              unfold dv_put
              rw [yes, q]
              rfl
            rw [e]
            exact ⟨rfl, U.draft_, V.dr, rfl, M, hr, hc, f⟩
          · omega
      · omega
    | succ d ih =>
      intro k v hd
      have c0 := cd_in x k
      refine am_iload hB d_MO_put_36 rfl ?_
      refine am_iload_n hB d_MO_put_38 rfl rfl ?_
      refine ai_jge (tgt := 102) hB d_MO_put_39 (by decide) (fun c4 => ?_) (fun c4 => ?_)
      · omega
      refine am_lload_n hB d_MO_put_42 rfl rfl ?_
      refine ai_bipush hB d_MO_put_43 (by decide) ?_
      refine am_iload hB d_MO_put_45 rfl ?_
      refine ai_mul hB d_MO_put_47 ?_
      refine am_lushr hB d_MO_put_48 ?_
      refine am_ldc2 hB d_MO_put_49 J_MO_120 ?_
      refine am_land hB d_MO_put_52 ?_
      refine am_l2i hB d_MO_put_53 ?_
      have e : ((x.toUInt64 >>> ((am_i (8 * k)).toInt64.toUInt64 &&& Int64.toUInt64 63)).toInt64 &&& 255).toInt32 = am_i (cd x k) := am_i_of _
      rw [e]
      have nxt : am_Z X 94 [.ref m, am_n n, .long x, am_u, am_n (sp_i ((cds x k).all dc_ok)), am_n k, am_n (cd x k)] [am_n (sp_i (dc_ok (cd x k) && (cds x k).all dc_ok))] h 0 0 := by
        refine am_istore hB d_MO_put_94 (by rw [hR.nL]; decide) rfl ?_
        refine ai_inc hB d_MO_put_96 rfl (by rw [hR.nL]; decide) rfl ?_
        have q := ih (k + 1) (am_n (cd x k)) (by omega)
        rw [cds, List.all_cons] at q
        exact am_goto (tgt := 36) hB d_MO_put_99 (by decide) q
      refine am_istore hB d_MO_put_54 (by rw [hR.nL]; decide) rfl ?_
      refine am_iload hB d_MO_put_56 rfl ?_
      cases q : (cds x k).all dc_ok with
      | false =>
        rw [q, Bool.and_false] at nxt
        show am_Z X 58 [.ref m, am_n n, .long x, am_u, am_n 0, am_n k, am_n (cd x k)] [am_n 0] h 0 0
        refine ai_zeq (tgt := 93) hB d_MO_put_58 (by decide) (fun c5 => ?_) (fun c5 => ?_)
        · refine ai_const hB d_MO_put_93 ?_
          exact nxt
        · omega
      | true =>
        rw [q, Bool.and_true] at nxt
        have yes : dc_ok (cd x k) = true → am_Z X 89 [.ref m, am_n n, .long x, am_u, am_n 1, am_n k, am_n (cd x k)] [] h 0 0 := by
          intro e
          rw [e] at nxt
          refine ai_const hB d_MO_put_89 ?_
          exact am_goto (tgt := 94) hB d_MO_put_90 (by decide) nxt
        have no : dc_ok (cd x k) = false → am_Z X 93 [.ref m, am_n n, .long x, am_u, am_n 1, am_n k, am_n (cd x k)] [] h 0 0 := by
          intro e
          rw [e] at nxt
          refine ai_const hB d_MO_put_93 ?_
          exact nxt
        show am_Z X 58 [.ref m, am_n n, .long x, am_u, am_n 1, am_n k, am_n (cd x k)] [am_n 1] h 0 0
        generalize cd x k = c at *
        refine ai_zeq (tgt := 93) hB d_MO_put_58 (by decide) (fun c5 => ?_) (fun c5 => ?_)
        · omega
        refine am_iload hB d_MO_put_61 rfl ?_
        refine ai_bipush hB d_MO_put_63 (by decide) ?_
        refine ai_jeq (tgt := 89) hB d_MO_put_65 (by decide) (fun c6 => ?_) (fun c6 => ?_)
        · exact yes (by unfold dc_ok; rw [decide_eq_true c6]; simp)
        refine am_iload hB d_MO_put_68 rfl ?_
        refine ai_bipush hB d_MO_put_70 (by decide) ?_
        refine ai_jeq (tgt := 89) hB d_MO_put_72 (by decide) (fun c7 => ?_) (fun c7 => ?_)
        · exact yes (by unfold dc_ok; rw [decide_eq_true c7]; rfl)
        refine am_iload hB d_MO_put_75 rfl ?_
        refine ai_bipush hB d_MO_put_77 (by decide) ?_
        refine ai_jlt (tgt := 93) hB d_MO_put_79 (by decide) (fun c8 => ?_) (fun c8 => ?_)
        · exact no (by unfold dc_ok; rw [decide_eq_false c6, decide_eq_false c7, decide_eq_false (show ¬ 32 ≤ c by omega)]; rfl)
        refine am_iload hB d_MO_put_82 rfl ?_
        refine ai_bipush hB d_MO_put_84 (by decide) ?_
        refine ai_jgt (tgt := 93) hB d_MO_put_86 (by decide) (fun c9 => ?_) (fun c9 => ?_)
        · exact no (by unfold dc_ok; rw [decide_eq_false c6, decide_eq_false c7, decide_eq_false (show ¬ c ≤ 126 by omega)]; simp)
        · exact yes (by unfold dc_ok; rw [decide_eq_true (show 32 ≤ c by omega), decide_eq_true (show c ≤ 126 by omega)]; simp)
  refine ai_const hB d_MO_put_30 ?_
  refine am_istore hB d_MO_put_31 (by rw [hR.nL]; decide) rfl ?_
  refine ai_const hB d_MO_put_33 ?_
  refine am_istore hB d_MO_put_34 (by rw [hR.nL]; decide) rfl ?_
  exact chk n.toNat 0 am_u (by omega)
theorem m_MO_scrap {l : Launch} {G : am_G} {h : am_H} {m : Nat} {U : mv} (M : am_mo h m U) : am_M l G M_MO_scrap [.ref m] h (fun r h' => r = none ∧ am_mo h' m (mv.s_size (mv.s_code U (0)) (0)) ∧ ko m 35 h h') := by
  have f : ko m 35 h h := ko.rf
  refine am_M.of (by decide) (Nat.le_of_ble_eq_true rfl) (fun X hB hR => ?_)
  show am_Z X 0 [.ref m] [] h 0 0
  refine am_aload_n hB d_MO_scrap_0 rfl rfl rfl ?_
  refine ai_const hB d_MO_scrap_1 ?_
  refine mo_p_code hB d_MO_scrap_2 P_MO_113_11 M f (fun h M f => ?_)
  refine am_aload_n hB d_MO_scrap_5 rfl rfl rfl ?_
  refine ai_const hB d_MO_scrap_6 ?_
  refine mo_p_size hB d_MO_scrap_7 P_MO_117_11 M f (fun h M f => ?_)
  refine am_vret hB hR d_MO_scrap_10 rfl ?_ (Nat.zero_le _) (Nat.zero_le _)
  exact ⟨rfl, M, f⟩
theorem m_MO_thrown {l : Launch} {G : am_G} {h : am_H} {m : Nat} {U : mv} (M : am_mo h m U) : am_M l G M_MO_thrown [.ref m] h (am_is (am_n U.code_) h) := by
  refine am_M.of (by decide) (Nat.le_of_ble_eq_true rfl) (fun X hB hR => ?_)
  show am_Z X 0 [.ref m] [] h 0 0
  refine am_aload_n hB d_MO_thrown_0 rfl rfl rfl ?_
  refine am_getf hB d_MO_thrown_1 F_MO_113_11 M.1 rfl ?_
  refine am_iret hB hR d_MO_thrown_4 rfl rfl ?_ (Nat.zero_le _) (Nat.zero_le _)
  exact ⟨rfl, rfl⟩
theorem m_MO_wrong {l : Launch} {G : am_G} {h : am_H} {m : Nat} {U : mv} (M : am_mo h m U) : am_M l G M_MO_wrong [.ref m] h (fun r h' => r = some (am_n U.wrongLine_) ∧ am_mo h' m (mv.s_code U (0)) ∧ ko m 35 h h') := by
  have f : ko m 35 h h := ko.rf
  refine am_M.of (by decide) (Nat.le_of_ble_eq_true rfl) (fun X hB hR => ?_)
  show am_Z X 0 [.ref m] [] h 0 0
  refine am_aload_n hB d_MO_wrong_0 rfl rfl rfl ?_
  refine ai_const hB d_MO_wrong_1 ?_
  refine mo_p_code hB d_MO_wrong_2 P_MO_113_11 M f (fun h M f => ?_)
  refine am_aload_n hB d_MO_wrong_5 rfl rfl rfl ?_
  refine am_getf hB d_MO_wrong_6 F_MO_200_11 M.1 rfl ?_
  refine am_iret hB hR d_MO_wrong_9 rfl rfl ?_ (Nat.zero_le _) (Nat.zero_le _)
  exact ⟨rfl, M, f⟩
theorem m_MO_length {l : Launch} {G : am_G} {h : am_H} {m : Nat} {U : mv} (M : am_mo h m U) : am_M l G M_MO_length [.ref m] h (fun r h' => r = some (am_n U.printSize_) ∧ am_mo h' m (mv.s_code U (0)) ∧ ko m 35 h h') := by
  have f : ko m 35 h h := ko.rf
  refine am_M.of (by decide) (Nat.le_of_ble_eq_true rfl) (fun X hB hR => ?_)
  show am_Z X 0 [.ref m] [] h 0 0
  refine am_aload_n hB d_MO_length_0 rfl rfl rfl ?_
  refine ai_const hB d_MO_length_1 ?_
  refine mo_p_code hB d_MO_length_2 P_MO_113_11 M f (fun h M f => ?_)
  refine am_aload_n hB d_MO_length_5 rfl rfl rfl ?_
  refine am_getf hB d_MO_length_6 F_MO_344_11 M.1 rfl ?_
  refine am_iret hB hR d_MO_length_9 rfl rfl ?_ (Nat.zero_le _) (Nat.zero_le _)
  exact ⟨rfl, M, f⟩
theorem m_MO_doubtful {l : Launch} {G : am_G} {h : am_H} {m : Nat} {U : mv} (M : am_mo h m U) : am_M l G M_MO_doubtful [.ref m] h (fun r h' => r = some (am_n U.doubtsKept_) ∧ am_mo h' m (mv.s_code U (0)) ∧ ko m 35 h h') := by
  have f : ko m 35 h h := ko.rf
  refine am_M.of (by decide) (Nat.le_of_ble_eq_true rfl) (fun X hB hR => ?_)
  show am_Z X 0 [.ref m] [] h 0 0
  refine am_aload_n hB d_MO_doubtful_0 rfl rfl rfl ?_
  refine ai_const hB d_MO_doubtful_1 ?_
  refine mo_p_code hB d_MO_doubtful_2 P_MO_113_11 M f (fun h M f => ?_)
  refine am_aload_n hB d_MO_doubtful_5 rfl rfl rfl ?_
  refine am_getf hB d_MO_doubtful_6 F_MO_351_11 M.1 rfl ?_
  refine am_iret hB hR d_MO_doubtful_9 rfl rfl ?_ (Nat.zero_le _) (Nat.zero_le _)
  exact ⟨rfl, M, f⟩
theorem m_MO_crashes {l : Launch} {G : am_G} {h : am_H} {m : Nat} {U : mv} (M : am_mo h m U) : am_M l G M_MO_crashes [.ref m] h (fun r h' => r = some (am_n U.crashCount_) ∧ am_mo h' m (mv.s_code U (0)) ∧ ko m 35 h h') := by
  have f : ko m 35 h h := ko.rf
  refine am_M.of (by decide) (Nat.le_of_ble_eq_true rfl) (fun X hB hR => ?_)
  show am_Z X 0 [.ref m] [] h 0 0
  refine am_aload_n hB d_MO_crashes_0 rfl rfl rfl ?_
  refine ai_const hB d_MO_crashes_1 ?_
  refine mo_p_code hB d_MO_crashes_2 P_MO_113_11 M f (fun h M f => ?_)
  refine am_aload_n hB d_MO_crashes_5 rfl rfl rfl ?_
  refine am_getf hB d_MO_crashes_6 F_MO_388_11 M.1 rfl ?_
  refine am_iret hB hR d_MO_crashes_9 rfl rfl ?_ (Nat.zero_le _) (Nat.zero_le _)
  exact ⟨rfl, M, f⟩
