/-! the model reads a frame -/
theorem sp_same_split (g w : Int → Int) : ∀ (n k : Nat) (a b : Int), sp_same g w a b (n + k) = (sp_same g w a b n && sp_same g w (a + n) (b + n) k)
  | 0, k, a, b => by
    rw [Nat.zero_add, show a + ((0 : Nat) : Int) = a by omega, show b + ((0 : Nat) : Int) = b by omega]
    rfl
  | n + 1, k, a, b => by
    rw [show n + 1 + k = (n + k) + 1 by omega, sp_same, sp_same, sp_same_split g w n k, Bool.and_assoc, show a + ((n + 1 : Nat) : Int) = a + 1 + n by omega, show b + ((n + 1 : Nat) : Int) = b + 1 + n by omega]
theorem sp_same_sh2 (g w w' : Int → Int) : ∀ (n : Nat) (a : Int) (b b' : Int), (∀ j : Nat, j < n → w (b + j) = w' (b' + j)) → sp_same g w a b n = sp_same g w' a b' n
  | 0, _, _, _, _ => rfl
  | n + 1, a, b, b', h => by
    have h0 := h 0 (by omega)
    rw [show b + ((0 : Nat) : Int) = b by omega, show b' + ((0 : Nat) : Int) = b' by omega] at h0
    unfold sp_same
    rw [h0, sp_same_sh2 g w w' n (a + 1) (b + 1) (b' + 1) (fun j hj => by
      have := h (j + 1) (by omega)
      rw [show b + ((j + 1 : Nat) : Int) = b + 1 + j by omega, show b' + ((j + 1 : Nat) : Int) = b' + 1 + j by omega] at this
      exact this)]
/-- a word of the class, read by the model in two pieces -/
theorem st_two {g : Int → Int} {w1 w2 : Int64} {n1 n2 wi : Nat} {a e : Int} (h0 : 0 ≤ a) (hl : am_len.getD wi 0 = n1 + n2) (k1 : ∀ j : Nat, j < n1 → wb w1 n1 (0 + j) = sp_ch wi (0 + j)) (k2 : ∀ j : Nat, j < n2 → wb w2 n2 (0 + j) = sp_ch wi (0 + n1 + j)) : (sp_st g w1 n1 a e && sp_st g w2 n2 (a + n1) e) = sp_tw g wi a e := by
  unfold sp_st sp_tw
  rw [hl, sp_same_split, sp_same_sh2 g (wb w1 n1) (sp_ch wi) n1 a 0 0 k1, sp_same_sh2 g (wb w2 n2) (sp_ch wi) n2 (a + n1) 0 (0 + n1) k2]
  by_cases c : a + n1 + n2 ≤ e
  · rw [decide_eq_true ⟨h0, by omega⟩, decide_eq_true ⟨by omega, c⟩, decide_eq_true (by omega)]
    simp
  · rw [decide_eq_false (show ¬ (0 ≤ a + (n1 : Int) ∧ a + n1 + n2 ≤ e) by omega), decide_eq_false (show ¬ ((n1 + n2 : Nat) : Int) ≤ e - a by omega)]
    simp
theorem st_unknown {g : Int → Int} {a e : Int} (h0 : 0 ≤ a) : (sp_st g 6155975862722719264 8 a e && sp_st g 91738176906085 6 (a + 8) e) = sp_tw g 9 a e := st_two (n1 := 8) (n2 := 6) h0 rfl (by decide) (by decide)
theorem st_native {g : Int → Int} {a e : Int} (h0 : 0 ≤ a) : (sp_st g 5647923404006039629 8 a e && sp_st g 435744698212 5 (a + 8) e) = sp_tw g 10 a e := st_two (n1 := 8) (n2 := 5) h0 rfl (by decide) (by decide)
theorem st_caused {g : Int → Int} {a e : Int} (h0 : 0 ≤ a) : (sp_st g 4855291011764854882 8 a e && sp_st g 7944736 3 (a + 8) e) = sp_tw g 3 a e := st_two (n1 := 8) (n2 := 3) h0 rfl (by decide) (by decide)
theorem m_MO_isNowhere {l : Launch} {G : am_G} {h : am_H} {m : Nat} {U : mv} {a t : Int} (M : am_mo h m U) (hg : am_cok U.all_) (h0 : 0 ≤ a) (hat : a ≤ t) (h2 : t ≤ 1200) : am_M l G M_MO_isNowhere [.ref m, am_n a, am_n t] h (am_is (am_n (sp_i (nw_is U.all_ a t))) h) := by
  refine am_M.of (by decide) (Nat.le_of_ble_eq_true rfl) (fun X hB hR => ?_)
  show am_Z X 0 [.ref m, am_n a, am_n t, am_u] [] h 0 0
  have B : ∀ z : Bool, z = (decide (t - a = 14) && sp_tw U.all_ 9 a t) → am_Z X 44 [.ref m, am_n a, am_n t, am_u] [am_n (sp_i z)] h 0 0 := by
    intro z hz
    have yes : nw_is U.all_ a t = true → ∀ v : Int, am_Z X 87 [.ref m, am_n a, am_n t, am_n v] [] h 0 0 := by
      intro e v
      refine ai_const hB d_MO_isNowhere_87 ?_
      refine am_goto (tgt := 92) hB d_MO_isNowhere_88 (by decide) ?_
      refine am_iret hB hR d_MO_isNowhere_92 rfl (by decide) ?_ (Nat.zero_le _) (Nat.zero_le _)
      rw [e]
      exact ⟨rfl, rfl⟩
    have no : nw_is U.all_ a t = false → ∀ v : Int, am_Z X 91 [.ref m, am_n a, am_n t, am_n v] [] h 0 0 := by
      intro e v
      refine ai_const hB d_MO_isNowhere_91 ?_
      refine am_iret hB hR d_MO_isNowhere_92 rfl (by decide) ?_ (Nat.zero_le _) (Nat.zero_le _)
      rw [e]
      exact ⟨rfl, rfl⟩
    refine am_istore_n hB d_MO_isNowhere_44 rfl (by rw [hR.nL]; decide) rfl ?_
    refine am_iload_n hB d_MO_isNowhere_45 rfl rfl ?_
    cases z with
    | true =>
      show am_Z X 46 [.ref m, am_n a, am_n t, am_n 1] [am_n 1] h 0 0
      refine ai_zne (tgt := 87) hB d_MO_isNowhere_46 (by decide) (fun c1 => ?_) (fun c1 => ?_)
      · exact yes (by unfold nw_is; rw [← hz]; rfl) 1
      · omega
    | false =>
      have hn : nw_is U.all_ a t = (decide (t - a = 13) && sp_tw U.all_ 10 a t) := by
        unfold nw_is
        rw [← hz, Bool.false_or]
      show am_Z X 46 [.ref m, am_n a, am_n t, am_n 0] [am_n 0] h 0 0
      refine ai_zne (tgt := 87) hB d_MO_isNowhere_46 (by decide) (fun c1 => ?_) (fun c1 => ?_)
      · omega
      refine am_iload_n hB d_MO_isNowhere_49 rfl rfl ?_
      refine am_iload_n hB d_MO_isNowhere_50 rfl rfl ?_
      refine ai_sub hB d_MO_isNowhere_51 ?_
      refine ai_bipush hB d_MO_isNowhere_52 (by decide) ?_
      refine ai_jne (tgt := 91) hB d_MO_isNowhere_54 (by decide) (fun c2 => ?_) (fun c2 => ?_)
      · exact no (by rw [hn, decide_eq_false c2]; rfl) 0
      rw [decide_eq_true c2, Bool.true_and, ← st_native h0] at hn
      refine am_aload_n hB d_MO_isNowhere_57 rfl rfl rfl ?_
      refine am_iload_n hB d_MO_isNowhere_58 rfl rfl ?_
      refine am_iload_n hB d_MO_isNowhere_59 rfl rfl ?_
      refine am_ldc2 hB d_MO_isNowhere_60 J_MO_216 ?_
      refine ai_bipush hB d_MO_isNowhere_63 (by decide) ?_
      refine am_callV hB hR (as := [am_n a, am_n t, .long 5647923404006039629, am_n (8 : Nat)]) M.1 (m_MO_stands (n := 8) M hg (by omega) (by omega) (by omega) (by omega) (by omega)) c_MO_150 rfl rfl d_MO_isNowhere_65 ⟨by decide, Nat.le_of_ble_eq_true rfl⟩ ⟨by decide, by decide⟩ rfl rfl (fun rr h hp => ?_)
      obtain ⟨rfl, rfl⟩ := hp
      show am_Z X 68 [.ref m, am_n a, am_n t, am_n 0] [am_n (sp_i (sp_st U.all_ 5647923404006039629 8 a t))] h 0 0
      cases q : sp_st U.all_ 5647923404006039629 8 a t with
      | false =>
        show am_Z X 68 [.ref m, am_n a, am_n t, am_n 0] [am_n 0] h 0 0
        refine ai_zeq (tgt := 91) hB d_MO_isNowhere_68 (by decide) (fun c3 => ?_) (fun c3 => ?_)
        · exact no (by rw [hn, q]; rfl) 0
        · omega
      | true =>
        rw [q, Bool.true_and] at hn
        show am_Z X 68 [.ref m, am_n a, am_n t, am_n 0] [am_n 1] h 0 0
        refine ai_zeq (tgt := 91) hB d_MO_isNowhere_68 (by decide) (fun c3 => ?_) (fun c3 => ?_)
        · omega
        refine am_aload_n hB d_MO_isNowhere_71 rfl rfl rfl ?_
        refine am_iload_n hB d_MO_isNowhere_72 rfl rfl ?_
        refine ai_bipush hB d_MO_isNowhere_73 (by decide) ?_
        refine ai_add hB d_MO_isNowhere_75 ?_
        refine am_iload_n hB d_MO_isNowhere_76 rfl rfl ?_
        refine am_ldc2 hB d_MO_isNowhere_77 J_MO_218 ?_
        refine ai_const hB d_MO_isNowhere_80 ?_
        refine am_callV hB hR (as := [am_n (a + 8), am_n t, .long 435744698212, am_n (5 : Nat)]) M.1 (m_MO_stands (n := 5) M hg (by omega) (by omega) (by omega) (by omega) (by omega)) c_MO_150 rfl rfl d_MO_isNowhere_81 ⟨by decide, Nat.le_of_ble_eq_true rfl⟩ ⟨by decide, by decide⟩ rfl rfl (fun rr h hp => ?_)
        obtain ⟨rfl, rfl⟩ := hp
        show am_Z X 84 [.ref m, am_n a, am_n t, am_n 0] [am_n (sp_i (sp_st U.all_ 435744698212 5 (a + 8) t))] h 0 0
        cases q2 : sp_st U.all_ 435744698212 5 (a + 8) t with
        | false =>
          show am_Z X 84 [.ref m, am_n a, am_n t, am_n 0] [am_n 0] h 0 0
          refine ai_zeq (tgt := 91) hB d_MO_isNowhere_84 (by decide) (fun c4 => ?_) (fun c4 => ?_)
          · exact no (by rw [hn, q2]) 0
          · omega
        | true =>
          show am_Z X 84 [.ref m, am_n a, am_n t, am_n 0] [am_n 1] h 0 0
          refine ai_zeq (tgt := 91) hB d_MO_isNowhere_84 (by decide) (fun c4 => ?_) (fun c4 => ?_)
          · omega
          · exact yes (by rw [hn, q2]) 0
  have no : (decide (t - a = 14) && sp_tw U.all_ 9 a t) = false → am_Z X 43 [.ref m, am_n a, am_n t, am_u] [] h 0 0 := by
    intro e
    refine ai_const hB d_MO_isNowhere_43 ?_
    exact B false e.symm
  refine am_iload_n hB d_MO_isNowhere_0 rfl rfl ?_
  refine am_iload_n hB d_MO_isNowhere_1 rfl rfl ?_
  refine ai_sub hB d_MO_isNowhere_2 ?_
  refine ai_bipush hB d_MO_isNowhere_3 (by decide) ?_
  refine ai_jne (tgt := 43) hB d_MO_isNowhere_5 (by decide) (fun c1 => ?_) (fun c1 => ?_)
  · exact no (by rw [decide_eq_false c1]; rfl)
  rw [decide_eq_true c1, Bool.true_and, ← st_unknown h0] at no B
  refine am_aload_n hB d_MO_isNowhere_8 rfl rfl rfl ?_
  refine am_iload_n hB d_MO_isNowhere_9 rfl rfl ?_
  refine am_iload_n hB d_MO_isNowhere_10 rfl rfl ?_
  refine am_ldc2 hB d_MO_isNowhere_11 J_MO_212 ?_
  refine ai_bipush hB d_MO_isNowhere_14 (by decide) ?_
  refine am_callV hB hR (as := [am_n a, am_n t, .long 6155975862722719264, am_n (8 : Nat)]) M.1 (m_MO_stands (n := 8) M hg (by omega) (by omega) (by omega) (by omega) (by omega)) c_MO_150 rfl rfl d_MO_isNowhere_16 ⟨by decide, Nat.le_of_ble_eq_true rfl⟩ ⟨by decide, by decide⟩ rfl rfl (fun rr h hp => ?_)
  obtain ⟨rfl, rfl⟩ := hp
  show am_Z X 19 [.ref m, am_n a, am_n t, am_u] [am_n (sp_i (sp_st U.all_ 6155975862722719264 8 a t))] h 0 0
  cases q : sp_st U.all_ 6155975862722719264 8 a t with
  | false =>
    show am_Z X 19 [.ref m, am_n a, am_n t, am_u] [am_n 0] h 0 0
    refine ai_zeq (tgt := 43) hB d_MO_isNowhere_19 (by decide) (fun c3 => ?_) (fun c3 => ?_)
    · exact no (by rw [q]; rfl)
    · omega
  | true =>
    rw [q, Bool.true_and] at no B
    show am_Z X 19 [.ref m, am_n a, am_n t, am_u] [am_n 1] h 0 0
    refine ai_zeq (tgt := 43) hB d_MO_isNowhere_19 (by decide) (fun c3 => ?_) (fun c3 => ?_)
    · omega
    refine am_aload_n hB d_MO_isNowhere_22 rfl rfl rfl ?_
    refine am_iload_n hB d_MO_isNowhere_23 rfl rfl ?_
    refine ai_bipush hB d_MO_isNowhere_24 (by decide) ?_
    refine ai_add hB d_MO_isNowhere_26 ?_
    refine am_iload_n hB d_MO_isNowhere_27 rfl rfl ?_
    refine am_ldc2 hB d_MO_isNowhere_28 J_MO_214 ?_
    refine ai_bipush hB d_MO_isNowhere_31 (by decide) ?_
    refine am_callV hB hR (as := [am_n (a + 8), am_n t, .long 91738176906085, am_n (6 : Nat)]) M.1 (m_MO_stands (n := 6) M hg (by omega) (by omega) (by omega) (by omega) (by omega)) c_MO_150 rfl rfl d_MO_isNowhere_33 ⟨by decide, Nat.le_of_ble_eq_true rfl⟩ ⟨by decide, by decide⟩ rfl rfl (fun rr h hp => ?_)
    obtain ⟨rfl, rfl⟩ := hp
    show am_Z X 36 [.ref m, am_n a, am_n t, am_u] [am_n (sp_i (sp_st U.all_ 91738176906085 6 (a + 8) t))] h 0 0
    cases q2 : sp_st U.all_ 91738176906085 6 (a + 8) t with
    | false =>
      show am_Z X 36 [.ref m, am_n a, am_n t, am_u] [am_n 0] h 0 0
      refine ai_zeq (tgt := 43) hB d_MO_isNowhere_36 (by decide) (fun c4 => ?_) (fun c4 => ?_)
      · exact no q2
      · omega
    | true =>
      show am_Z X 36 [.ref m, am_n a, am_n t, am_u] [am_n 1] h 0 0
      refine ai_zeq (tgt := 43) hB d_MO_isNowhere_36 (by decide) (fun c4 => ?_) (fun c4 => ?_)
      · omega
      refine ai_const hB d_MO_isNowhere_39 ?_
      refine am_goto (tgt := 44) hB d_MO_isNowhere_40 (by decide) ?_
      exact B true q2.symm
theorem m_MO_place {l : Launch} {G : am_G} {hA : am_H} {m n : Nat} {U : mv} {a t : Int} (M : am_mo hA m U) (hg : am_cok U.all_) (hn : U.lines_ = n) (h32 : n < 32) (h0 : 0 ≤ a) (hat : a ≤ t) (h2 : t ≤ 1199) : am_M l G M_MO_place [.ref m, am_n a, am_n t] hA (fun r h' => ∃ U', am_mo h' m U' ∧ mo_t U U' n ∧ ko m 35 hA h' ∧ (U'.nameFrom_ n = U.nameFrom_ n ∧ U'.nameTo_ n = U.nameTo_ n ∧ U'.methodFrom_ n = U.methodFrom_ n) ∧ (match pr_pl U.all_ a t with
    | none => r = some (am_n 0)
    | some x => r = some (am_n 1) ∧ U'.fileFrom_ n = a ∧ U'.fileTo_ n = x.1 ∧ U'.number_ n = x.2)) := by
  have f : ko m 35 hA hA := ko.rf
  refine am_M.of (by decide) (Nat.le_of_ble_eq_true rfl) (fun X hB hR => ?_)
  show am_Z X 0 [.ref m, am_n a, am_n t, am_u] [] hA 0 0
  refine am_aload_n hB d_MO_place_0 rfl rfl rfl ?_
  refine am_getf hB d_MO_place_1 F_MO_91_11 M.1 rfl ?_
  refine am_aload_n hB d_MO_place_4 rfl rfl rfl ?_
  refine am_getf hB d_MO_place_5 F_MO_203_11 M.1 rfl ?_
  show am_Z X 8 [.ref m, am_n a, am_n t, am_u] [am_n U.lines_, .ref (m + 28)] hA 0 0
  rw [hn]
  refine ai_const hB d_MO_place_8 ?_
  refine mo_s_number hB d_MO_place_9 M f (fun h M f => ?_)
  refine am_aload_n hB d_MO_place_10 rfl rfl rfl ?_
  refine am_getf hB d_MO_place_11 F_MO_85_11 M.1 rfl ?_
  refine am_aload_n hB d_MO_place_14 rfl rfl rfl ?_
  refine am_getf hB d_MO_place_15 F_MO_203_11 M.1 rfl ?_
  show am_Z X 18 [.ref m, am_n a, am_n t, am_u] [am_n U.lines_, .ref (m + 26)] h 0 0
  rw [hn]
  refine am_iload_n hB d_MO_place_18 rfl rfl ?_
  refine mo_s_fileFrom hB d_MO_place_19 M f (fun h M f => ?_)
  refine am_aload_n hB d_MO_place_20 rfl rfl rfl ?_
  refine am_getf hB d_MO_place_21 F_MO_88_11 M.1 rfl ?_
  refine am_aload_n hB d_MO_place_24 rfl rfl rfl ?_
  refine am_getf hB d_MO_place_25 F_MO_203_11 M.1 rfl ?_
  show am_Z X 28 [.ref m, am_n a, am_n t, am_u] [am_n U.lines_, .ref (m + 27)] h 0 0
  rw [hn]
  refine am_iload_n hB d_MO_place_28 rfl rfl ?_
  refine mo_s_fileTo hB d_MO_place_29 M f (fun h M f => ?_)
  refine am_aload_n hB d_MO_place_30 rfl rfl rfl ?_
  refine am_iload_n hB d_MO_place_31 rfl rfl ?_
  refine am_iload_n hB d_MO_place_32 rfl rfl ?_
  have M : am_mo h m (mv.s_fileTo (mv.s_fileFrom (mv.s_number U (am_up U.number_ n (-1))) (am_up U.fileFrom_ n a)) (am_up U.fileTo_ n a)) := M
  have u_0 := ((mo_t_number U n (-1)).tr (mo_t_fileFrom _ n a)).tr (mo_t_fileTo _ n a)
  have u : mo_t U (mv.s_fileTo (mv.s_fileFrom (mv.s_number U (am_up U.number_ n (-1))) (am_up U.fileFrom_ n a)) (am_up U.fileTo_ n a)) n := u_0
  refine am_callV hB hR (as := [am_n a, am_n t]) M.1 (m_MO_isNowhere M hg h0 hat (by omega)) c_MO_220 rfl rfl d_MO_place_33 ⟨by decide, Nat.le_of_ble_eq_true rfl⟩ ⟨by decide, by decide⟩ rfl rfl (fun rr h hp => ?_)
  obtain ⟨rfl, rfl⟩ := hp
  show am_Z X 36 [.ref m, am_n a, am_n t, am_u] [am_n (sp_i (nw_is U.all_ a t))] h 0 0
  cases q : nw_is U.all_ a t with
  | true =>
    show am_Z X 36 [.ref m, am_n a, am_n t, am_u] [am_n 1] h 0 0
    refine ai_zeq (tgt := 41) hB d_MO_place_36 (by decide) (fun c1 => ?_) (fun c1 => ?_)
    · omega
    refine ai_const hB d_MO_place_39 ?_
    refine am_iret hB hR d_MO_place_40 rfl (by decide) ?_ (Nat.zero_le _) (Nat.zero_le _)
    have e : pr_pl U.all_ a t = some (a, -1) := if_pos q
    rw [e]
    exact ⟨_, M, u, f, ⟨rfl, rfl, rfl⟩, rfl, am_up_eq _ _ _, am_up_eq _ _ _, am_up_eq _ _ _⟩
  | false =>
    have hpl : pr_pl U.all_ a t = if pf_end2 U.all_ a t = -1 then none else if pf_end2 U.all_ a t < t ∧ U.all_ (pf_end2 U.all_ a t) = 58 then (if nuE U.all_ (pf_end2 U.all_ a t + 1) t = t then some (pf_end2 U.all_ a t, sp_nv U.all_ (pf_end2 U.all_ a t + 1) t) else none) else if pf_end2 U.all_ a t = t then some (pf_end2 U.all_ a t, -1) else none := by
      unfold pr_pl
      rw [q, if_neg (by decide)]
    show am_Z X 36 [.ref m, am_n a, am_n t, am_u] [am_n 0] h 0 0
    refine ai_zeq (tgt := 41) hB d_MO_place_36 (by decide) (fun c1 => ?_) (fun c1 => ?_)
    rotate_left
    · omega
    refine am_aload_n hB d_MO_place_41 rfl rfl rfl ?_
    refine am_iload_n hB d_MO_place_42 rfl rfl ?_
    refine am_iload_n hB d_MO_place_43 rfl rfl ?_
    refine am_callV hB hR (as := [am_n a, am_n t]) M.1 (m_MO_partEnd M hg h0 hat (by omega)) c_MO_135 rfl rfl d_MO_place_44 ⟨by decide, Nat.le_of_ble_eq_true rfl⟩ ⟨by decide, by decide⟩ rfl rfl (fun rr h hp => ?_)
    obtain ⟨rfl, rfl⟩ := hp
    show am_Z X 47 [.ref m, am_n a, am_n t, am_u] [am_n (sp_pe U.all_ a t)] h 0 0
    have pin := sp_pe_in U.all_ h0 hat
    have B : ∀ k : Int, k = pf_end2 U.all_ a t → (k = -1 ∨ (a ≤ k ∧ k ≤ t)) → am_Z X 77 [.ref m, am_n a, am_n t, am_n k] [] h 0 0 := by
      intro k hk kin
      rw [← hk] at hpl
      have hgk := hg k
      refine am_iload_n hB d_MO_place_77 rfl rfl ?_
      by_cases k1 : k = -1
      · rw [if_pos k1] at hpl
        refine ai_zge (tgt := 83) hB d_MO_place_78 (by decide) (fun c5 => ?_) (fun c5 => ?_)
        · omega
        refine ai_const hB d_MO_place_81 ?_
        refine am_iret hB hR d_MO_place_82 rfl (by decide) ?_ (Nat.zero_le _) (Nat.zero_le _)
        rw [hpl]
        exact ⟨_, M, u, f, ⟨rfl, rfl, rfl⟩, rfl⟩
      have kin := kin.resolve_left k1
      rw [if_neg k1] at hpl
      refine ai_zge (tgt := 83) hB d_MO_place_78 (by decide) (fun c5 => ?_) (fun c5 => ?_)
      rotate_left
      · omega
      refine am_aload_n hB d_MO_place_83 rfl rfl rfl ?_
      refine am_getf hB d_MO_place_84 F_MO_88_11 M.1 rfl ?_
      refine am_aload_n hB d_MO_place_87 rfl rfl rfl ?_
      refine am_getf hB d_MO_place_88 F_MO_203_11 M.1 rfl ?_
      show am_Z X 91 [.ref m, am_n a, am_n t, am_n k] [am_n U.lines_, .ref (m + 27)] h 0 0
      rw [hn]
      refine am_iload_n hB d_MO_place_91 rfl rfl ?_
      refine mo_s_fileTo hB d_MO_place_92 M f (fun h M f => ?_)
      refine am_iload_n hB d_MO_place_93 rfl rfl ?_
      refine am_iload_n hB d_MO_place_94 rfl rfl ?_
      have M : am_mo h m (mv.s_fileTo (mv.s_fileFrom (mv.s_number U (am_up U.number_ n (-1))) (am_up U.fileFrom_ n a)) (am_up (am_up U.fileTo_ n a) n k)) := M
      have u_0 := u.tr (mo_t_fileTo _ n k)
      have u : mo_t U (mv.s_fileTo (mv.s_fileFrom (mv.s_number U (am_up U.number_ n (-1))) (am_up U.fileFrom_ n a)) (am_up (am_up U.fileTo_ n a) n k)) n := u_0
      have plain : ¬ (k < t ∧ U.all_ k = 58) → am_Z X 131 [.ref m, am_n a, am_n t, am_n k] [] h 0 0 := by
        intro hz
        rw [if_neg hz] at hpl
        refine am_iload_n hB d_MO_place_131 rfl rfl ?_
        refine am_iload_n hB d_MO_place_132 rfl rfl ?_
        refine ai_jne (tgt := 140) hB d_MO_place_133 (by decide) (fun c6 => ?_) (fun c6 => ?_)
        · rw [if_neg c6] at hpl
          refine ai_const hB d_MO_place_140 ?_
          refine am_iret hB hR d_MO_place_141 rfl (by decide) ?_ (Nat.zero_le _) (Nat.zero_le _)
          rw [hpl]
          exact ⟨_, M, u, f, ⟨rfl, rfl, rfl⟩, rfl⟩
        · rw [if_pos c6] at hpl
          refine ai_const hB d_MO_place_136 ?_
          refine am_goto (tgt := 141) hB d_MO_place_137 (by decide) ?_
          refine am_iret hB hR d_MO_place_141 rfl (by decide) ?_ (Nat.zero_le _) (Nat.zero_le _)
          rw [hpl]
          exact ⟨_, M, u, f, ⟨rfl, rfl, rfl⟩, rfl, am_up_eq _ _ _, am_up_eq _ _ _, am_up_eq _ _ _⟩
      refine ai_jge (tgt := 131) hB d_MO_place_95 (by decide) (fun c6 => ?_) (fun c6 => ?_)
      · exact plain (by omega)
      refine am_aload_n hB d_MO_place_98 rfl rfl rfl ?_
      refine am_getf hB d_MO_place_99 F_MO_13_11 M.1 rfl ?_
      refine am_iload_n hB d_MO_place_102 rfl rfl ?_
      refine ai_iald hB d_MO_place_103 ty_1 M.all ?_
      refine ai_bipush hB d_MO_place_104 (by decide) ?_
      show am_Z X 106 [.ref m, am_n a, am_n t, am_n k] [am_n 58, am_n (U.all_ k)] h 0 0
      refine ai_jne (tgt := 131) hB d_MO_place_106 (by decide) (fun c7 => ?_) (fun c7 => ?_)
      · exact plain (fun z => c7 z.2)
      rw [if_pos ⟨c6, c7⟩] at hpl
      refine am_aload_n hB d_MO_place_109 rfl rfl rfl ?_
      refine am_iload_n hB d_MO_place_110 rfl rfl ?_
      refine ai_const hB d_MO_place_111 ?_
      refine ai_add hB d_MO_place_112 ?_
      refine am_iload_n hB d_MO_place_113 rfl rfl ?_
      refine am_callV hB hR (as := [am_n (k + 1), am_n t]) M.1 (m_MO_numberEnd M hg (by omega) (by omega) (by omega)) c_MO_160 rfl rfl d_MO_place_114 ⟨by decide, Nat.le_of_ble_eq_true rfl⟩ ⟨by decide, by decide⟩ rfl rfl (fun rr h hp => ?_)
      obtain ⟨v, rfl, M, f2, v1, v2⟩ := hp
      have f := f.tr f2
      have v2 : ∀ p, sp_nu U.all_ (k + 1) t = some p → v = p.1 := v2
      have M : am_mo h m (mv.s_value (mv.s_fileTo (mv.s_fileFrom (mv.s_number U (am_up U.number_ n (-1))) (am_up U.fileFrom_ n a)) (am_up (am_up U.fileTo_ n a) n k)) (v)) := M
      show am_Z X 117 [.ref m, am_n a, am_n t, am_n k] [am_n (nuE U.all_ (k + 1) t)] h 0 0
      have nin : -1 ≤ nuE U.all_ (k + 1) t ∧ nuE U.all_ (k + 1) t ≤ t := by
        rcases nu_cases U.all_ (show k + 1 ≤ t by omega) with ⟨o1, o2, o3, o4⟩ | ⟨v', i, o1, o2, o3, o4, o5, o6, o7, o8⟩ <;> omega
      have hval : nuE U.all_ (k + 1) t = t → sp_nv U.all_ (k + 1) t = v := by
        intro hz
        rcases nu_cases U.all_ (show k + 1 ≤ t by omega) with ⟨o1, o2, o3, o4⟩ | ⟨v', i, o1, o2, o3, o4, o5, o6, o7, o8⟩
        · omega
        · rw [o3]
          exact (v2 _ o1).symm
      refine am_istore_n hB d_MO_place_117 rfl (by rw [hR.nL]; decide) rfl ?_
      refine am_aload_n hB d_MO_place_118 rfl rfl rfl ?_
      refine am_getf hB d_MO_place_119 F_MO_91_11 M.1 rfl ?_
      refine am_aload_n hB d_MO_place_122 rfl rfl rfl ?_
      refine am_getf hB d_MO_place_123 F_MO_203_11 M.1 rfl ?_
      show am_Z X 126 [.ref m, am_n a, am_n t, am_n (nuE U.all_ (k + 1) t)] [am_n U.lines_, .ref (m + 28)] h 0 0
      rw [hn]
      refine am_aload_n hB d_MO_place_126 rfl rfl rfl ?_
      refine am_getf hB d_MO_place_127 F_MO_139_11 M.1 rfl ?_
      refine mo_s_number hB d_MO_place_130 M f (fun h M f => ?_)
      refine am_iload_n hB d_MO_place_131 rfl rfl ?_
      refine am_iload_n hB d_MO_place_132 rfl rfl ?_
      have M : am_mo h m (mv.s_value (mv.s_fileTo (mv.s_fileFrom (mv.s_number U (am_up (am_up U.number_ n (-1)) n v)) (am_up U.fileFrom_ n a)) (am_up (am_up U.fileTo_ n a) n k)) (v)) := M
      have u_0 := (u.tr (mo_t_number _ n v)).tr (mo_t_v _ n v)
      have u : mo_t U (mv.s_value (mv.s_fileTo (mv.s_fileFrom (mv.s_number U (am_up (am_up U.number_ n (-1)) n v)) (am_up U.fileFrom_ n a)) (am_up (am_up U.fileTo_ n a) n k)) (v)) n := u_0
      refine ai_jne (tgt := 140) hB d_MO_place_133 (by decide) (fun c8 => ?_) (fun c8 => ?_)
      · rw [if_neg c8] at hpl
        refine ai_const hB d_MO_place_140 ?_
        refine am_iret hB hR d_MO_place_141 rfl (by decide) ?_ (Nat.zero_le _) (Nat.zero_le _)
        rw [hpl]
        exact ⟨_, M, u, f, ⟨rfl, rfl, rfl⟩, rfl⟩
      · rw [if_pos c8, hval c8] at hpl
        refine ai_const hB d_MO_place_136 ?_
        refine am_goto (tgt := 141) hB d_MO_place_137 (by decide) ?_
        refine am_iret hB hR d_MO_place_141 rfl (by decide) ?_ (Nat.zero_le _) (Nat.zero_le _)
        rw [hpl]
        exact ⟨_, M, u, f, ⟨rfl, rfl, rfl⟩, rfl, am_up_eq _ _ _, am_up_eq _ _ _, am_up_eq _ _ _⟩
    have hgp := hg (sp_pe U.all_ a t)
    refine am_istore_n hB d_MO_place_47 rfl (by rw [hR.nL]; decide) rfl ?_
    refine am_iload_n hB d_MO_place_48 rfl rfl ?_
    refine ai_zlt (tgt := 77) hB d_MO_place_49 (by decide) (fun c2 => ?_) (fun c2 => ?_)
    · exact B _ (by unfold pf_end2; rw [if_neg (by omega)]) (by omega)
    refine am_iload_n hB d_MO_place_52 rfl rfl ?_
    refine am_iload_n hB d_MO_place_53 rfl rfl ?_
    refine ai_jge (tgt := 77) hB d_MO_place_54 (by decide) (fun c3 => ?_) (fun c3 => ?_)
    · exact B _ (by unfold pf_end2; rw [if_neg (by omega)]) (by omega)
    refine am_aload_n hB d_MO_place_57 rfl rfl rfl ?_
    refine am_getf hB d_MO_place_58 F_MO_13_11 M.1 rfl ?_
    refine am_iload_n hB d_MO_place_61 rfl rfl ?_
    refine ai_iald hB d_MO_place_62 ty_1 M.all ?_
    refine ai_bipush hB d_MO_place_63 (by decide) ?_
    show am_Z X 65 [.ref m, am_n a, am_n t, am_n (sp_pe U.all_ a t)] [am_n 46, am_n (U.all_ (sp_pe U.all_ a t))] h 0 0
    refine ai_jne (tgt := 77) hB d_MO_place_65 (by decide) (fun c4 => ?_) (fun c4 => ?_)
    · exact B _ (by unfold pf_end2; rw [if_neg (fun z => c4 z.2.2)]) (by omega)
    refine am_aload_n hB d_MO_place_68 rfl rfl rfl ?_
    refine am_iload_n hB d_MO_place_69 rfl rfl ?_
    refine ai_const hB d_MO_place_70 ?_
    refine ai_add hB d_MO_place_71 ?_
    refine am_iload_n hB d_MO_place_72 rfl rfl ?_
    refine am_callV hB hR (as := [am_n (sp_pe U.all_ a t + 1), am_n t]) M.1 (m_MO_partEnd M hg (by omega) (by omega) (by omega)) c_MO_135 rfl rfl d_MO_place_73 ⟨by decide, Nat.le_of_ble_eq_true rfl⟩ ⟨by decide, by decide⟩ rfl rfl (fun rr h hp => ?_)
    obtain ⟨rfl, rfl⟩ := hp
    show am_Z X 76 [.ref m, am_n a, am_n t, am_n (sp_pe U.all_ a t)] [am_n (sp_pe U.all_ (sp_pe U.all_ a t + 1) t)] h 0 0
    have pin2 := sp_pe_in U.all_ (a := sp_pe U.all_ a t + 1) (e := t) (by omega) (by omega)
    refine am_istore_n hB d_MO_place_76 rfl (by rw [hR.nL]; decide) rfl ?_
    exact B _ (by unfold pf_end2; rw [if_pos ⟨by omega, by omega, c4⟩]) (by omega)
