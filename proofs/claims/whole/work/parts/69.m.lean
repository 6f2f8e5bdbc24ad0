/-! the model reads a mapping -/
def mo_rm (h : am_H) (m : Nat) (U : mv) (o : Int ⊕ pm_S) : am_Y := fun r h' => ∃ U', am_mo h' m U' ∧ mo_q U U' ∧ ko m 35 h h' ∧ (match o with
  | .inl row => r = some (am_n row)
  | .inr S' => r = some (am_n 0) ∧ mo_map U' S')
theorem mo_map_0 (U : mv) : mo_map (mv.s_groups (mv.s_methods (mv.s_classes U (0)) (0)) (0)) ([], []) := ⟨rfl, by decide, rfl, by decide, rfl, fun i c hc => by simp at hc, fun i x hx => by simp at hx⟩
theorem m_MO_readMapping {l : Launch} {G : am_G} {hA : am_H} {m : Nat} {U : mv} {n : Int} (M : am_mo hA m U) (hg : am_cok U.all_) (hn : 0 ≤ n ∧ n ≤ 600) : am_M l G M_MO_readMapping [.ref m, am_n n] hA (mo_rm hA m U (pm_run (pm_step U.all_) U.all_ n (n + 1).toNat 0 1 ([], []))) := by
  have f : ko m 35 hA hA := ko.rf
  refine am_M.of (by decide) (Nat.le_of_ble_eq_true rfl) (fun X hB hR => ?_)
  show am_Z X 0 [.ref m, am_n n, am_u, am_u, am_u, am_u, am_u] [] hA 0 0
  have out : ∀ (a row : Int) (v4 v5 v6 : Value) (S : pm_S) (U1 : mv) (h1 : am_H), n < a → a ≤ 601 → pm_run (pm_step U.all_) U.all_ n (n + 1).toNat 0 1 ([], []) = .inr S → mo_q U U1 → mo_map U1 S → am_mo h1 m U1 → ko m 35 hA h1 → am_Z X 19 [.ref m, am_n n, am_n a, am_n row, v4, v5, v6] [] h1 0 0 := by
    intro a row v4 v5 v6 S U1 h1 ha ha2 hr q mp M f
    refine am_iload_n hB d_MO_readMapping_19 rfl rfl ?_
    refine am_iload_n hB d_MO_readMapping_20 rfl rfl ?_
    refine ai_jgt (tgt := 142) hB d_MO_readMapping_21 (by decide) (fun c1 => ?_) (fun c1 => ?_)
    rotate_left
    · omega
    refine ai_const hB d_MO_readMapping_142 ?_
    refine am_iret hB hR d_MO_readMapping_143 rfl rfl ?_ (Nat.zero_le _) (Nat.zero_le _)
    rw [hr]
    exact ⟨U1, M, q, f, rfl, mp⟩
  have loop : ∀ (d : Nat) (a row : Int) (v4 v5 v6 : Value) (S : pm_S) (U1 : mv) (h1 : am_H), 0 ≤ a → a ≤ n + 1 → n + 1 - a ≤ d → (1 ≤ row ∧ row ≤ a + 1) → pm_run (pm_step U.all_) U.all_ n (n + 1).toNat 0 1 ([], []) = pm_run (pm_step U.all_) U.all_ n d a row S → mo_q U U1 → mo_map U1 S → am_mo h1 m U1 → ko m 35 hA h1 → am_Z X 19 [.ref m, am_n n, am_n a, am_n row, v4, v5, v6] [] h1 0 0 := by
    intro d
    induction d with
    | zero =>
      intro a row v4 v5 v6 S U1 h1 a0 a1 hd hrow hr q mp M f
      exact out a row v4 v5 v6 S U1 h1 (by omega) (by omega) hr q mp M f
    | succ d ih =>
      intro a row v4 v5 v6 S U1 h1 a0 a1 hd hrow hr q mp M f
      have qa := q.1.2.2.1
      have hg1 : am_cok U1.all_ := by rw [qa]; exact hg
      rw [pm_run] at hr
      by_cases han : a ≤ n
      rotate_left
      · rw [if_neg han] at hr
        exact out a row v4 v5 v6 S U1 h1 (by omega) (by omega) hr q mp M f
      rw [if_pos han] at hr
      have hin := sp_ix_in U.all_ 10 (n - a).toNat a
      have hga := hg a
      have go : ∀ t : Int, t = sp_ix U.all_ 10 a (n - a).toNat → am_Z X 51 [.ref m, am_n n, am_n a, am_n row, am_n t, v5, v6] [] h1 0 0 := by
        intro t ht
        rw [← ht] at hr hin
        have fin : ∀ (z : Int) (lf : Int) (U2 : mv) (h2 : am_H), mo_q U U2 → am_mo h2 m U2 → ko m 35 hA h2 → (z = 0 ∧ pm_step U.all_ S a t = none ∨ z = 1 ∧ ∃ S', pm_step U.all_ S a t = some S' ∧ mo_map U2 S') → am_Z X 122 [.ref m, am_n n, am_n a, am_n row, am_n t, am_n lf, v6] [am_n z] h2 0 0 := by
          intro z lf U2 h2 q2 M f hz
          refine am_istore hB d_MO_readMapping_122 (by rw [hR.nL]; decide) rfl ?_
          refine am_iload hB d_MO_readMapping_124 rfl ?_
          rcases hz with ⟨rfl, hz⟩ | ⟨rfl, S', hz, mp'⟩
          · refine ai_zne (tgt := 131) hB d_MO_readMapping_126 (by decide) (fun c9 => ?_) (fun c9 => ?_)
            · omega
            refine am_iload_n hB d_MO_readMapping_129 rfl rfl ?_
            refine am_iret hB hR d_MO_readMapping_130 rfl rfl ?_ (Nat.zero_le _) (Nat.zero_le _)
            rw [hr, hz]
            exact ⟨U2, M, q2, f, rfl⟩
          · refine ai_zne (tgt := 131) hB d_MO_readMapping_126 (by decide) (fun c9 => ?_) (fun c9 => ?_)
            rotate_left
            · omega
            rw [hz] at hr
            refine am_iload hB d_MO_readMapping_131 rfl ?_
            refine ai_const hB d_MO_readMapping_133 ?_
            refine ai_add hB d_MO_readMapping_134 ?_
            refine am_istore_n hB d_MO_readMapping_135 rfl (by rw [hR.nL]; decide) rfl ?_
            refine ai_inc hB d_MO_readMapping_136 rfl (by rw [hR.nL]; decide) rfl ?_
            exact am_goto (tgt := 19) hB d_MO_readMapping_139 (by decide) (ih (t + 1) (row + 1) _ _ _ S' U2 h2 (by omega) (by omega) (by omega) (by omega) hr q2 mp' M f)
        have left : pm_step U.all_ S a t = some S → am_Z X 68 [.ref m, am_n n, am_n a, am_n row, am_n t, v5, v6] [] h1 0 0 := by
          intro hz
          refine ai_const hB d_MO_readMapping_68 ?_
          refine am_goto (tgt := 73) hB d_MO_readMapping_69 (by decide) ?_
          refine am_istore hB d_MO_readMapping_73 (by rw [hR.nL]; decide) rfl ?_
          refine am_iload hB d_MO_readMapping_75 rfl ?_
          show am_Z X 77 [.ref m, am_n n, am_n a, am_n row, am_n t, am_n 1, v6] [am_n 1] h1 0 0
          refine ai_zne (tgt := 117) hB d_MO_readMapping_77 (by decide) (fun c8 => ?_) (fun c8 => ?_)
          rotate_left
          · omega
          refine ai_const hB d_MO_readMapping_117 ?_
          refine am_goto (tgt := 122) hB d_MO_readMapping_118 (by decide) ?_
          exact fin 1 1 U1 h1 q M f (Or.inr ⟨rfl, S, hz, mp⟩)
        refine am_iload hB d_MO_readMapping_51 rfl ?_
        refine am_iload_n hB d_MO_readMapping_53 rfl rfl ?_
        refine ai_jeq (tgt := 68) hB d_MO_readMapping_54 (by decide) (fun c1 => ?_) (fun c1 => ?_)
        · exact left (if_pos (Or.inl c1.symm))
        refine am_aload_n hB d_MO_readMapping_57 rfl rfl rfl ?_
        refine am_getf hB d_MO_readMapping_58 F_MO_13_11 M.1 rfl ?_
        refine am_iload_n hB d_MO_readMapping_61 rfl rfl ?_
        refine ai_iald hB d_MO_readMapping_62 ty_1 M.all ?_
        refine ai_bipush hB d_MO_readMapping_63 (by decide) ?_
        show am_Z X 65 [.ref m, am_n n, am_n a, am_n row, am_n t, v5, v6] [am_n 35, am_n (U1.all_ a)] h1 0 0
        rw [qa]
        refine ai_jne (tgt := 72) hB d_MO_readMapping_65 (by decide) (fun c2 => ?_) (fun c2 => ?_)
        rotate_left
        · exact left (if_pos (Or.inr c2))
        have hst : pm_step U.all_ S a t = if sp_tw U.all_ 0 a t = true then ml_opt U.all_ S (a + 4) t else pc_step U.all_ S a t := by
          unfold pm_step ml_opt pc_step
          rw [if_neg (by rintro (z | z); · exact c1 z.symm
                         · exact c2 z)]
          rfl
        refine ai_const hB d_MO_readMapping_72 ?_
        refine am_istore hB d_MO_readMapping_73 (by rw [hR.nL]; decide) rfl ?_
        refine am_iload hB d_MO_readMapping_75 rfl ?_
        show am_Z X 77 [.ref m, am_n n, am_n a, am_n row, am_n t, am_n 0, v6] [am_n 0] h1 0 0
        refine ai_zne (tgt := 117) hB d_MO_readMapping_77 (by decide) (fun c3 => ?_) (fun c3 => ?_)
        · omega
        refine am_aload_n hB d_MO_readMapping_80 rfl rfl rfl ?_
        refine am_iload_n hB d_MO_readMapping_81 rfl rfl ?_
        refine am_iload hB d_MO_readMapping_82 rfl ?_
        refine am_ldc2 hB d_MO_readMapping_84 J_MO_176 ?_
        refine ai_const hB d_MO_readMapping_87 ?_
        refine am_callV hB hR (as := [am_n a, am_n t, .long 538976288, am_n (4 : Nat)]) M.1 (m_MO_stands (n := 4) M hg1 (by omega) (by omega) (by omega) (by omega) (by omega)) c_MO_150 rfl rfl d_MO_readMapping_88 ⟨by decide, Nat.le_of_ble_eq_true rfl⟩ ⟨by decide, by decide⟩ rfl rfl (fun rr h hp => ?_)
        obtain ⟨rfl, rfl⟩ := hp
        show am_Z X 91 [.ref m, am_n n, am_n a, am_n row, am_n t, am_n 0, v6] [am_n (sp_i (sp_st U1.all_ 538976288 4 a t))] h1 0 0
        rw [qa, st_indent, decide_eq_true a0, Bool.true_and]
        cases e1 : sp_tw U.all_ 0 a t with
        | true =>
          have ha4 : a + 4 ≤ t := sp_tw_le e1
          rw [e1, if_pos rfl] at hst
          show am_Z X 91 [.ref m, am_n n, am_n a, am_n row, am_n t, am_n 0, v6] [am_n 1] h1 0 0
          refine ai_zeq (tgt := 107) hB d_MO_readMapping_91 (by decide) (fun c4 => ?_) (fun c4 => ?_)
          · omega
          refine am_aload_n hB d_MO_readMapping_94 rfl rfl rfl ?_
          refine am_iload_n hB d_MO_readMapping_95 rfl rfl ?_
          refine am_iload hB d_MO_readMapping_96 rfl ?_
          refine am_callV hB hR (as := [am_n a, am_n t]) M.1 (m_MO_methodLine M hg1 mp a0 ha4 (by omega)) c_MO_178 rfl rfl d_MO_readMapping_98 ⟨by decide, Nat.le_of_ble_eq_true rfl⟩ ⟨by decide, by decide⟩ rfl rfl (fun rr h hp => ?_)
          obtain ⟨U2, M2, q2, f2, p2⟩ := hp
          rw [qa, ← hst] at p2
          cases e2 : pm_step U.all_ S a t with
          | none =>
            rw [e2] at p2
            simp only at p2
            subst p2
            show am_Z X 101 [.ref m, am_n n, am_n a, am_n row, am_n t, am_n 0, v6] [am_n 0] h 0 0
            refine ai_zeq (tgt := 121) hB d_MO_readMapping_101 (by decide) (fun c5 => ?_) (fun c5 => ?_)
            rotate_left
            · omega
            refine ai_const hB d_MO_readMapping_121 ?_
            exact fin 0 0 U2 h (q.tr q2) M2 (f.tr f2) (Or.inl ⟨rfl, e2⟩)
          | some S' =>
            rw [e2] at p2
            obtain ⟨rfl, p2⟩ := p2
            show am_Z X 101 [.ref m, am_n n, am_n a, am_n row, am_n t, am_n 0, v6] [am_n 1] h 0 0
            refine ai_zeq (tgt := 121) hB d_MO_readMapping_101 (by decide) (fun c5 => ?_) (fun c5 => ?_)
            · omega
            refine am_goto (tgt := 117) hB d_MO_readMapping_104 (by decide) ?_
            refine ai_const hB d_MO_readMapping_117 ?_
            refine am_goto (tgt := 122) hB d_MO_readMapping_118 (by decide) ?_
            exact fin 1 0 U2 h (q.tr q2) M2 (f.tr f2) (Or.inr ⟨rfl, S', e2, p2⟩)
        | false =>
          rw [e1, if_neg (by decide)] at hst
          show am_Z X 91 [.ref m, am_n n, am_n a, am_n row, am_n t, am_n 0, v6] [am_n 0] h1 0 0
          refine ai_zeq (tgt := 107) hB d_MO_readMapping_91 (by decide) (fun c4 => ?_) (fun c4 => ?_)
          rotate_left
          · omega
          refine am_aload_n hB d_MO_readMapping_107 rfl rfl rfl ?_
          refine am_iload_n hB d_MO_readMapping_108 rfl rfl ?_
          refine am_iload hB d_MO_readMapping_109 rfl ?_
          refine am_callV hB hR (as := [am_n a, am_n t]) M.1 (m_MO_classLine M hg1 mp a0 (by omega) (by omega)) c_MO_182 rfl rfl d_MO_readMapping_111 ⟨by decide, Nat.le_of_ble_eq_true rfl⟩ ⟨by decide, by decide⟩ rfl rfl (fun rr h hp => ?_)
          obtain ⟨U2, M2, q2, f2, p2⟩ := hp
          rw [qa, ← hst] at p2
          cases e2 : pm_step U.all_ S a t with
          | none =>
            rw [e2] at p2
            simp only at p2
            subst p2
            show am_Z X 114 [.ref m, am_n n, am_n a, am_n row, am_n t, am_n 0, v6] [am_n 0] h 0 0
            refine ai_zeq (tgt := 121) hB d_MO_readMapping_114 (by decide) (fun c5 => ?_) (fun c5 => ?_)
            rotate_left
            · omega
            refine ai_const hB d_MO_readMapping_121 ?_
            exact fin 0 0 U2 h (q.tr q2) M2 (f.tr f2) (Or.inl ⟨rfl, e2⟩)
          | some S' =>
            rw [e2] at p2
            obtain ⟨rfl, p2⟩ := p2
            show am_Z X 114 [.ref m, am_n n, am_n a, am_n row, am_n t, am_n 0, v6] [am_n 1] h 0 0
            refine ai_zeq (tgt := 121) hB d_MO_readMapping_114 (by decide) (fun c5 => ?_) (fun c5 => ?_)
            · omega
            refine ai_const hB d_MO_readMapping_117 ?_
            refine am_goto (tgt := 122) hB d_MO_readMapping_118 (by decide) ?_
            exact fin 1 0 U2 h (q.tr q2) M2 (f.tr f2) (Or.inr ⟨rfl, S', e2, p2⟩)
      have inner : ∀ (x : Nat) (i : Int), a ≤ i → i + x = n → sp_ix U.all_ 10 a (n - a).toNat = sp_ix U.all_ 10 i x → am_Z X 27 [.ref m, am_n n, am_n a, am_n row, am_n i, v5, v6] [] h1 0 0 := by
        intro x
        induction x with
        | zero =>
          intro i i1 hx hs
          refine am_iload hB d_MO_readMapping_27 rfl ?_
          refine am_iload_n hB d_MO_readMapping_29 rfl rfl ?_
          refine ai_jge (tgt := 51) hB d_MO_readMapping_30 (by decide) (fun c1 => ?_) (fun c1 => ?_)
          · exact go i (by rw [hs]; rfl)
          · omega
        | succ x ihx =>
          intro i i1 hx hs
          have hgi := hg i
          rw [sp_ix] at hs
          refine am_iload hB d_MO_readMapping_27 rfl ?_
          refine am_iload_n hB d_MO_readMapping_29 rfl rfl ?_
          refine ai_jge (tgt := 51) hB d_MO_readMapping_30 (by decide) (fun c1 => ?_) (fun c1 => ?_)
          · omega
          refine am_aload_n hB d_MO_readMapping_33 rfl rfl rfl ?_
          refine am_getf hB d_MO_readMapping_34 F_MO_13_11 M.1 rfl ?_
          refine am_iload hB d_MO_readMapping_37 rfl ?_
          refine ai_iald hB d_MO_readMapping_39 ty_1 M.all ?_
          refine ai_bipush hB d_MO_readMapping_40 (by decide) ?_
          show am_Z X 42 [.ref m, am_n n, am_n a, am_n row, am_n i, v5, v6] [am_n 10, am_n (U1.all_ i)] h1 0 0
          rw [qa]
          refine ai_jeq (tgt := 51) hB d_MO_readMapping_42 (by decide) (fun c2 => ?_) (fun c2 => ?_)
          · rw [if_pos c2] at hs
            exact go i hs.symm
          · rw [if_neg c2] at hs
            refine ai_inc hB d_MO_readMapping_45 rfl (by rw [hR.nL]; decide) rfl ?_
            exact am_goto (tgt := 27) hB d_MO_readMapping_48 (by decide) (ihx (i + 1) (by omega) (by omega) hs)
      refine am_iload_n hB d_MO_readMapping_19 rfl rfl ?_
      refine am_iload_n hB d_MO_readMapping_20 rfl rfl ?_
      refine ai_jgt (tgt := 142) hB d_MO_readMapping_21 (by decide) (fun c1 => ?_) (fun c1 => ?_)
      · omega
      refine am_iload_n hB d_MO_readMapping_24 rfl rfl ?_
      refine am_istore hB d_MO_readMapping_25 (by rw [hR.nL]; decide) rfl ?_
      exact inner (n - a).toNat a (Int.le_refl a) (by omega) rfl
  refine am_aload_n hB d_MO_readMapping_0 rfl rfl rfl ?_
  refine ai_const hB d_MO_readMapping_1 ?_
  refine mo_p_classes hB d_MO_readMapping_2 P_MO_145_11 M f (fun h M f => ?_)
  refine am_aload_n hB d_MO_readMapping_5 rfl rfl rfl ?_
  refine ai_const hB d_MO_readMapping_6 ?_
  refine mo_p_methods hB d_MO_readMapping_7 P_MO_163_11 M f (fun h M f => ?_)
  refine am_aload_n hB d_MO_readMapping_10 rfl rfl rfl ?_
  refine ai_const hB d_MO_readMapping_11 ?_
  refine mo_p_groups hB d_MO_readMapping_12 P_MO_173_11 M f (fun h M f => ?_)
  refine ai_const hB d_MO_readMapping_15 ?_
  refine am_istore_n hB d_MO_readMapping_16 rfl (by rw [hR.nL]; decide) rfl ?_
  refine ai_const hB d_MO_readMapping_17 ?_
  refine am_istore_n hB d_MO_readMapping_18 rfl (by rw [hR.nL]; decide) rfl ?_
  exact loop (n + 1).toNat 0 1 am_u am_u am_u ([], []) (mv.s_groups (mv.s_methods (mv.s_classes U (0)) (0)) (0)) h (by omega) (by omega) (by omega) (by omega) rfl (mo_q.rf U) (mo_map_0 U) M f
/-- a row is laid into the text -/
theorem m_MO_lay {l : Launch} {G : am_G} {hA : am_H} {m : Nat} {U : mv} {p n : Int} {b : Bool} (M : am_mo hA m U) (hp : 0 ≤ p) (hn : 0 ≤ n ∧ n ≤ 600) (hpn : p + n ≤ 1200) : am_M l G M_MO_lay [.ref m, am_n p, am_n n, am_n (sp_i b)] hA (fun r h' => ∃ g, r = none ∧ am_mo h' m (mv.s_all U (g)) ∧ ko m 35 hA h' ∧ (∀ k, 0 ≤ k → k < n → g (p + k) = if b = true then U.kept_ k else U.draft_ k) ∧ ∀ j, (j < p ∨ p + n ≤ j) → g j = U.all_ j) := by
  refine am_M.of (by decide) (Nat.le_of_ble_eq_true rfl) (fun X hB hR => ?_)
  show am_Z X 0 [.ref m, am_n p, am_n n, am_n (sp_i b), am_u] [] hA 0 0
  have loop : ∀ (d : Nat) (k : Int) (g : Int → Int) (h1 : am_H), 0 ≤ k → k + d = n → am_mo h1 m (mv.s_all U (g)) → ko m 35 hA h1 → (∀ i, 0 ≤ i → i < k → g (p + i) = if b = true then U.kept_ i else U.draft_ i) → (∀ j, (j < p ∨ p + k ≤ j) → g j = U.all_ j) → am_Z X 3 [.ref m, am_n p, am_n n, am_n (sp_i b), am_n k] [] h1 0 0 := by
    intro d
    induction d with
    | zero =>
      intro k g h1 k0 hd M f g1 g2
      refine am_iload hB d_MO_lay_3 rfl ?_
      refine am_iload_n hB d_MO_lay_5 rfl rfl ?_
      refine ai_jge (tgt := 45) hB d_MO_lay_6 (by decide) (fun c1 => ?_) (fun c1 => ?_)
      · refine am_vret hB hR d_MO_lay_45 rfl ?_ (Nat.zero_le _) (Nat.zero_le _)
        exact ⟨g, rfl, M, f, fun i h1 h2 => g1 i h1 (by omega), fun j hj => g2 j (by omega)⟩
      · omega
    | succ d ih =>
      intro k g h1 k0 hd M f g1 g2
      have nxt : ∀ v : Int, v = (if b = true then U.kept_ k else U.draft_ k) → am_Z X 38 [.ref m, am_n p, am_n n, am_n (sp_i b), am_n k] [am_n v, am_n (p + k), .ref (m + 2)] h1 0 0 := by
        intro v hv
        refine mo_s_all hB d_MO_lay_38 M f (fun h M f => ?_)
        refine ai_inc hB d_MO_lay_39 rfl (by rw [hR.nL]; decide) rfl ?_
        refine am_goto (tgt := 3) hB d_MO_lay_42 (by decide) (ih (k + 1) _ h (by omega) (by omega) M f (fun i i0 i1 => ?_) (fun j hj => ?_))
        · show am_up g (p + k) v (p + i) = _
          by_cases c : i = k
          · subst c
            rw [am_up_eq, hv]
          · rw [am_up_ne _ _ (by omega)]
            exact g1 i i0 (by omega)
        · show am_up g (p + k) v j = _
          rw [am_up_ne _ _ (by omega)]
          exact g2 j (by omega)
      refine am_iload hB d_MO_lay_3 rfl ?_
      refine am_iload_n hB d_MO_lay_5 rfl rfl ?_
      refine ai_jge (tgt := 45) hB d_MO_lay_6 (by decide) (fun c1 => ?_) (fun c1 => ?_)
      · omega
      refine am_aload_n hB d_MO_lay_9 rfl rfl rfl ?_
      refine am_getf hB d_MO_lay_10 F_MO_13_11 M.1 rfl ?_
      refine am_iload_n hB d_MO_lay_13 rfl rfl ?_
      refine am_iload hB d_MO_lay_14 rfl ?_
      refine ai_add hB d_MO_lay_16 ?_
      refine am_iload_n hB d_MO_lay_17 rfl rfl ?_
      cases b with
      | false =>
        show am_Z X 18 [.ref m, am_n p, am_n n, am_n 0, am_n k] [am_n 0, am_n (p + k), .ref (m + 2)] h1 0 0
        refine ai_zeq (tgt := 31) hB d_MO_lay_18 (by decide) (fun c2 => ?_) (fun c2 => ?_)
        rotate_left
        · omega
        refine am_aload_n hB d_MO_lay_31 rfl rfl rfl ?_
        refine am_getf hB d_MO_lay_32 F_MO_7_11 M.1 rfl ?_
        refine am_iload hB d_MO_lay_35 rfl ?_
        refine ai_iald hB d_MO_lay_37 ty_1 M.draft ?_
        exact nxt _ rfl
      | true =>
        show am_Z X 18 [.ref m, am_n p, am_n n, am_n 1, am_n k] [am_n 1, am_n (p + k), .ref (m + 2)] h1 0 0
        refine ai_zeq (tgt := 31) hB d_MO_lay_18 (by decide) (fun c2 => ?_) (fun c2 => ?_)
        · omega
        refine am_aload_n hB d_MO_lay_21 rfl rfl rfl ?_
        refine am_getf hB d_MO_lay_22 F_MO_16_11 M.1 rfl ?_
        refine am_iload hB d_MO_lay_25 rfl ?_
        refine ai_iald hB d_MO_lay_27 ty_1 M.kept ?_
        refine am_goto (tgt := 38) hB d_MO_lay_28 (by decide) ?_
        exact nxt _ rfl
  refine ai_const hB d_MO_lay_0 ?_
  refine am_istore hB d_MO_lay_1 (by rw [hR.nL]; decide) rfl ?_
  exact loop n.toNat 0 U.all_ hA (by omega) (by omega) M ko.rf (fun i h1 h2 => by omega) (fun j _ => rfl)
