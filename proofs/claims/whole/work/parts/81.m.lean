/-! groups by their numbers -/
theorem pm_ld_s {L : List pm_L} {i : Nat} {x : pm_L} (h : L[i]? = some x) : pm_ld L (i + 1) = pm_ld L i + (if x.2.2.2 = true then 1 else 0) := by
  unfold pm_ld
  rw [List.take_add_one, h, List.filter_append, List.length_append]
  congr 1
  by_cases c : x.2.2.2 = true
  · rw [if_pos c]
    simp [c]
  · rw [if_neg c]
    simp [c]
theorem pm_ld_m {L : List pm_L} {i : Nat} : ∀ d : Nat, pm_ld L i ≤ pm_ld L (i + d)
  | 0 => Nat.le_refl _
  | d + 1 => by
    have ih := pm_ld_m (L := L) (i := i) d
    by_cases c : i + d < L.length
    · have := pm_ld_s (List.getElem?_eq_getElem c)
      rw [← Nat.add_assoc]
      omega
    · have e : pm_ld L (i + (d + 1)) = pm_ld L (i + d) := by
        unfold pm_ld
        rw [List.take_of_length_le (by omega), List.take_of_length_le (by omega)]
      omega
theorem pm_ld_le2 {L : List pm_L} {i j : Nat} (h : i ≤ j) : pm_ld L i ≤ pm_ld L j := by
  have := pm_ld_m (L := L) (i := i) (j - i)
  rw [show i + (j - i) = j by omega] at this
  exact this
theorem ld_flat {L : List pm_L} {i : Nat} : ∀ d : Nat, i + d ≤ L.length → (∀ (j : Nat) y, i ≤ j → j < i + d → L[j]? = some y → y.2.2.2 = false) → pm_ld L (i + d) = pm_ld L i
  | 0, _, _ => rfl
  | d + 1, hd, h => by
    have ih := ld_flat (L := L) (i := i) d (by omega) (fun j y h1 h2 h3 => h j y h1 (by omega) h3)
    have e := pm_ld_s (List.getElem?_eq_getElem (show i + d < L.length by omega))
    rw [h (i + d) _ (by omega) (by omega) (List.getElem?_eq_getElem (by omega)), if_neg (by decide)] at e
    rw [← Nat.add_assoc, e, ih]
    rfl
theorem ld_next {L : List pm_L} {i : Nat} (hi : i ≤ L.length) (hg : pm_ld L i < pm_ld L L.length) : ∃ (i' : Nat) (x : pm_L), i ≤ i' ∧ i' < L.length ∧ L[i']? = some x ∧ x.2.2.2 = true ∧ pm_ld L i' = pm_ld L i ∧ ∀ (j : Nat) y, i ≤ j → j < i' → L[j]? = some y → y.2.2.2 = false := by
  cases e : sp_fd (fun j => (L[j]?.map (fun x => x.2.2.2)).getD false) i (L.length - i) with
  | none =>
    have hn := (sp_fd_none _ _).mp e
    have := ld_flat (L := L) (i := i) (L.length - i) (by omega) (fun j y h1 h2 h3 => by
      have := hn j h1 h2
      simp only [h3, Option.map_some, Option.getD_some] at this
      exact this)
    rw [show i + (L.length - i) = L.length by omega] at this
    omega
  | some i' =>
    obtain ⟨h1, h2, h3⟩ := sp_fd_lt _ _ e
    have hb := sp_fd_bef _ _ e
    have hl : i' < L.length := by omega
    have hx := List.getElem?_eq_getElem hl
    simp only [hx, Option.map_some, Option.getD_some] at h3
    have hno : ∀ (j : Nat) y, i ≤ j → j < i' → L[j]? = some y → y.2.2.2 = false := fun j y a b c => by
      have := hb j a b
      simp only [c, Option.map_some, Option.getD_some] at this
      exact this
    have hf := ld_flat (L := L) (i := i) (i' - i) (by omega) (fun j y a b c => hno j y a (by omega) c)
    rw [show i + (i' - i) = i' by omega] at hf
    exact ⟨i', _, h1, hl, hx, h3, hf, hno⟩
theorem ld_none {L : List pm_L} {i j : Nat} {y : pm_L} (h : pm_ld L L.length ≤ pm_ld L i) (hj : i ≤ j) (hy : L[j]? = some y) : y.2.2.2 = false := by
  cases c : y.2.2.2 with
  | false => rfl
  | true =>
    have e := pm_ld_s hy
    rw [if_pos c] at e
    have l1 := pm_ld_le2 (L := L) hj
    have l2 := pm_ld_le2 (L := L) (show j + 1 ≤ L.length from am_lt hy)
    omega
theorem m_MO_lineOf {l : Launch} {G : am_G} {h : am_H} {m : Nat} {U : mv} {S : pm_S} {i : Nat} {x : pm_L} (M : am_mo h m U) (mp : mo_map U S) (hx : S.2[i]? = some x) (hl : x.2.2.2 = true) : am_M l G M_MO_lineOf [.ref m, am_n (pm_ld S.2 i)] h (am_is (am_n i) h) := by
  have hi := am_lt hx
  have m4 := mp.2.2.2.1
  have hs := pm_ld_s hx
  rw [if_pos hl] at hs
  have hbig : pm_ld S.2 i ≤ 32 := by
    have : pm_ld S.2 i ≤ S.2.length := by
      unfold pm_ld
      exact Nat.le_trans (List.length_filter_le _ _) (by rw [List.length_take]; omega)
    omega
  refine am_M.of (by decide) (Nat.le_of_ble_eq_true rfl) (fun X hB hR => ?_)
  show am_Z X 0 [.ref m, am_n (pm_ld S.2 i), am_u] [] h 0 0
  have loop : ∀ (d j : Nat), j + d = i → am_Z X 2 [.ref m, am_n (pm_ld S.2 i), am_n j] [] h 0 0 := by
    intro d
    induction d with
    | zero =>
      intro j hj
      have hj : j = i := by omega
      subst hj
      obtain ⟨-, -, -, -, g5, -⟩ := mp.2.2.2.2.2.2 j x hx
      refine am_aload_n hB d_MO_lineOf_2 rfl rfl rfl ?_
      refine am_getf hB d_MO_lineOf_3 F_MO_64_11 M.1 rfl ?_
      refine am_iload_n hB d_MO_lineOf_6 rfl rfl ?_
      refine ai_iald hB d_MO_lineOf_7 ty_1 M.groupOf ?_
      rw [g5, hs]
      refine am_iload_n hB d_MO_lineOf_8 rfl rfl ?_
      refine ai_jeq (tgt := 18) hB d_MO_lineOf_9 (by decide) (fun c1 => ?_) (fun c1 => ?_)
      rotate_left
      · exact absurd (by omega) c1
      refine am_iload_n hB d_MO_lineOf_18 rfl rfl ?_
      refine am_iret hB hR d_MO_lineOf_19 rfl rfl ?_ (Nat.zero_le _) (Nat.zero_le _)
      exact ⟨rfl, rfl⟩
    | succ d ih =>
      intro j hj
      obtain ⟨-, -, -, -, g5, -⟩ := mp.2.2.2.2.2.2 j _ (List.getElem?_eq_getElem (show j < S.2.length by omega))
      have l1 := pm_ld_le2 (L := S.2) (show j + 1 ≤ i by omega)
      refine am_aload_n hB d_MO_lineOf_2 rfl rfl rfl ?_
      refine am_getf hB d_MO_lineOf_3 F_MO_64_11 M.1 rfl ?_
      refine am_iload_n hB d_MO_lineOf_6 rfl rfl ?_
      refine ai_iald hB d_MO_lineOf_7 ty_1 M.groupOf ?_
      rw [g5]
      refine am_iload_n hB d_MO_lineOf_8 rfl rfl ?_
      refine ai_jeq (tgt := 18) hB d_MO_lineOf_9 (by decide) (fun c1 => ?_) (fun c1 => ?_)
      · omega
      refine ai_inc hB d_MO_lineOf_12 rfl (by rw [hR.nL]; decide) rfl ?_
      exact am_goto (tgt := 2) hB d_MO_lineOf_15 (by decide) (ih (j + 1) (by omega))
  refine ai_const hB d_MO_lineOf_0 ?_
  refine am_istore_n hB d_MO_lineOf_1 rfl (by rw [hR.nL]; decide) rfl ?_
  exact loop i 0 (by omega)
theorem m_MO_lastOf {l : Launch} {G : am_G} {h : am_H} {m : Nat} {U : mv} {S : pm_S} {i : Nat} {x : pm_L} (M : am_mo h m U) (mp : mo_map U S) (hx : S.2[i]? = some x) (hl : x.2.2.2 = true) : am_M l G M_MO_lastOf [.ref m, am_n (pm_ld S.2 i)] h (am_is (am_n ((pf_end S i : Int) - 1)) h) := by
  have hi := am_lt hx
  have m4 := mp.2.2.2.1
  have m3 := mp.2.2.1
  have hs := pm_ld_s hx
  rw [if_pos hl] at hs
  obtain ⟨e1, e2⟩ := pf_end_le (S := S) hi
  have hbig : pm_ld S.2 S.2.length ≤ 32 := by
    have : pm_ld S.2 S.2.length ≤ S.2.length := by
      unfold pm_ld
      exact Nat.le_trans (List.length_filter_le _ _) (by rw [List.length_take]; omega)
    omega
  have hbig2 := pm_ld_le2 (L := S.2) (show i ≤ S.2.length by omega)
  refine am_M.of (by decide) (Nat.le_of_ble_eq_true rfl) (fun X hB hR => ?_)
  show am_Z X 0 [.ref m, am_n (pm_ld S.2 i), am_u] [] h 0 0
  have loop : ∀ (d j : Nat), i ≤ j → j + 1 + d = pf_end S i → am_Z X 6 [.ref m, am_n (pm_ld S.2 i), am_n j] [] h 0 0 := by
    intro d
    induction d with
    | zero =>
      intro j h1 hj
      have fin : am_Z X 34 [.ref m, am_n (pm_ld S.2 i), am_n j] [] h 0 0 := by
        refine am_iload_n hB d_MO_lastOf_34 rfl rfl ?_
        refine am_iret hB hR d_MO_lastOf_35 rfl rfl ?_ (Nat.zero_le _) (Nat.zero_le _)
        rw [show ((pf_end S i : Int) - 1) = j by omega]
        exact ⟨rfl, rfl⟩
      refine am_iload_n hB d_MO_lastOf_6 rfl rfl ?_
      refine ai_const hB d_MO_lastOf_7 ?_
      refine ai_add hB d_MO_lastOf_8 ?_
      refine am_aload_n hB d_MO_lastOf_9 rfl rfl rfl ?_
      refine am_getf hB d_MO_lastOf_10 F_MO_163_11 M.1 rfl ?_
      rw [m3]
      refine ai_jge (tgt := 34) hB d_MO_lastOf_13 (by decide) (fun c1 => ?_) (fun c1 => ?_)
      · exact fin
      have hj1 : j + 1 < S.2.length := by omega
      have hy := List.getElem?_eq_getElem hj1
      have hle : (S.2[j + 1]).2.2.2 = true := by
        cases c : (S.2[j + 1]).2.2.2 with
        | true => rfl
        | false =>
          exfalso
          have hp : pf_end S i = j + 1 := by omega
          unfold pf_end at hp
          split at hp
          · omega
          · rename_i jj e
            have := (sp_fd_lt _ _ e).2.2
            subst hp
            simp only [hy, Option.map_some, Option.getD_some] at this
            rw [c] at this
            cases this
      have hs1 := pm_ld_s hy
      rw [if_pos hle] at hs1
      have l1 := pm_ld_le2 (L := S.2) (show i + 1 ≤ j + 1 by omega)
      have l2 := pm_ld_le2 (L := S.2) (show j + 1 + 1 ≤ S.2.length by omega)
      obtain ⟨-, -, -, -, g5, -⟩ := mp.2.2.2.2.2.2 (j + 1) _ hy
      rw [show ((j + 1 : Nat) : Int) = (j : Int) + 1 by omega] at g5
      refine am_aload_n hB d_MO_lastOf_16 rfl rfl rfl ?_
      refine am_getf hB d_MO_lastOf_17 F_MO_64_11 M.1 rfl ?_
      refine am_iload_n hB d_MO_lastOf_20 rfl rfl ?_
      refine ai_const hB d_MO_lastOf_21 ?_
      refine ai_add hB d_MO_lastOf_22 ?_
      refine ai_iald hB d_MO_lastOf_23 ty_1 M.groupOf ?_
      rw [g5]
      refine am_iload_n hB d_MO_lastOf_24 rfl rfl ?_
      refine ai_jne (tgt := 34) hB d_MO_lastOf_25 (by decide) (fun c2 => ?_) (fun c2 => ?_)
      · exact fin
      · omega
    | succ d ih =>
      intro j h1 hj
      have hj1 : j + 1 < S.2.length := by omega
      have hy := List.getElem?_eq_getElem hj1
      have hf := ld_flat (L := S.2) (i := i + 1) (j + 1 - i) (by omega) (fun q y a b c => pf_end_in (S := S) (a := i) (by omega) (by omega) c)
      rw [show i + 1 + (j + 1 - i) = j + 1 + 1 by omega] at hf
      obtain ⟨-, -, -, -, g5, -⟩ := mp.2.2.2.2.2.2 (j + 1) _ hy
      rw [show ((j + 1 : Nat) : Int) = (j : Int) + 1 by omega] at g5
      refine am_iload_n hB d_MO_lastOf_6 rfl rfl ?_
      refine ai_const hB d_MO_lastOf_7 ?_
      refine ai_add hB d_MO_lastOf_8 ?_
      refine am_aload_n hB d_MO_lastOf_9 rfl rfl rfl ?_
      refine am_getf hB d_MO_lastOf_10 F_MO_163_11 M.1 rfl ?_
      rw [m3]
      refine ai_jge (tgt := 34) hB d_MO_lastOf_13 (by decide) (fun c1 => ?_) (fun c1 => ?_)
      · omega
      refine am_aload_n hB d_MO_lastOf_16 rfl rfl rfl ?_
      refine am_getf hB d_MO_lastOf_17 F_MO_64_11 M.1 rfl ?_
      refine am_iload_n hB d_MO_lastOf_20 rfl rfl ?_
      refine ai_const hB d_MO_lastOf_21 ?_
      refine ai_add hB d_MO_lastOf_22 ?_
      refine ai_iald hB d_MO_lastOf_23 ty_1 M.groupOf ?_
      rw [g5]
      refine am_iload_n hB d_MO_lastOf_24 rfl rfl ?_
      refine ai_jne (tgt := 34) hB d_MO_lastOf_25 (by decide) (fun c2 => ?_) (fun c2 => ?_)
      · omega
      refine ai_inc hB d_MO_lastOf_28 rfl (by rw [hR.nL]; decide) rfl ?_
      exact am_goto (tgt := 6) hB d_MO_lastOf_31 (by decide) (ih (j + 1) (by omega) (by omega))
  refine am_aload_n hB d_MO_lastOf_0 rfl rfl rfl ?_
  refine am_iload_n hB d_MO_lastOf_1 rfl rfl ?_
  refine am_callV hB hR (as := [am_n (pm_ld S.2 i)]) M.1 (m_MO_lineOf M mp hx hl) c_MO_269 rfl rfl d_MO_lastOf_2 ⟨by decide, Nat.le_of_ble_eq_true rfl⟩ ⟨by decide, by decide⟩ rfl rfl (fun rr h hp => ?_)
  obtain ⟨rfl, rfl⟩ := hp
  show am_Z X 5 [.ref m, am_n (pm_ld S.2 i), am_u] [am_n i] h 0 0
  refine am_istore_n hB d_MO_lastOf_5 rfl (by rw [hR.nL]; decide) rfl ?_
  exact loop (pf_end S i - (i + 1)) i (Nat.le_refl i) (by omega)
theorem m_MO_classLineOf {l : Launch} {G : am_G} {h : am_H} {m : Nat} {U : mv} {S : pm_S} {a b : Int} {r : Bool} (M : am_mo h m U) (hg : am_cok U.all_) (mp : mo_map U S) (h0 : 0 ≤ a) (hab : a ≤ b) (h2 : b ≤ 1200) : am_M l G M_MO_classLineOf [.ref m, am_n a, am_n b, am_n (sp_i r)] h (am_is (am_n (sp_oi (if r = true then pc_real S (nm U.all_ a b) else pc_brief S (nm U.all_ a b)))) h) := by
  have m1 := mp.1
  have m2 := mp.2.1
  refine am_M.of (by decide) (Nat.le_of_ble_eq_true rfl) (fun X hB hR => ?_)
  show am_Z X 0 [.ref m, am_n a, am_n b, am_n (sp_i r), am_u] [] h 0 0
  have loop : ∀ (P : Nat → Bool), (∀ (i : Nat) c, S.1[i]? = some c → P i = if r = true then decide (c.1 = nm U.all_ a b) else decide (c.2 = nm U.all_ a b)) → sp_fd P 0 S.1.length = (if r = true then pc_real S (nm U.all_ a b) else pc_brief S (nm U.all_ a b)) → ∀ (d i : Nat), i + d = S.1.length → sp_fd P 0 S.1.length = sp_fd P i d → am_Z X 3 [.ref m, am_n a, am_n b, am_n (sp_i r), am_n i] [] h 0 0 := by
    intro P hP hres d
    induction d with
    | zero =>
      intro i hi hs
      refine am_iload hB d_MO_classLineOf_3 rfl ?_
      refine am_aload_n hB d_MO_classLineOf_5 rfl rfl rfl ?_
      refine am_getf hB d_MO_classLineOf_6 F_MO_145_11 M.1 rfl ?_
      rw [m1]
      refine ai_jge (tgt := 74) hB d_MO_classLineOf_9 (by decide) (fun c1 => ?_) (fun c1 => ?_)
      rotate_left
      · omega
      refine ai_const hB d_MO_classLineOf_74 ?_
      refine am_iret hB hR d_MO_classLineOf_75 rfl rfl ?_ (Nat.zero_le _) (Nat.zero_le _)
      rw [← hres, hs]
      exact ⟨rfl, rfl⟩
    | succ d ih =>
      intro i hi hs
      rw [sp_fd] at hs
      have hc := List.getElem?_eq_getElem (show i < S.1.length by omega)
      have hPi := hP i _ hc
      obtain ⟨q1, q2, q3, q4⟩ := mp.2.2.2.2.2.1 i _ hc
      generalize S.1[i]'(by omega) = c at hc hPi q3 q4
      have yes : P i = true → am_Z X 65 [.ref m, am_n a, am_n b, am_n (sp_i r), am_n i] [] h 0 0 := by
        intro hz
        rw [if_pos hz] at hs
        refine am_iload hB d_MO_classLineOf_65 rfl ?_
        refine am_iret hB hR d_MO_classLineOf_67 rfl rfl ?_ (Nat.zero_le _) (Nat.zero_le _)
        rw [← hres, hs]
        exact ⟨rfl, rfl⟩
      have no : P i = false → am_Z X 68 [.ref m, am_n a, am_n b, am_n (sp_i r), am_n i] [] h 0 0 := by
        intro hz
        rw [if_neg (by rw [hz]; decide)] at hs
        refine ai_inc hB d_MO_classLineOf_68 rfl (by rw [hR.nL]; decide) rfl ?_
        exact am_goto (tgt := 3) hB d_MO_classLineOf_71 (by decide) (ih (i + 1) (by omega) hs)
      refine am_iload hB d_MO_classLineOf_3 rfl ?_
      refine am_aload_n hB d_MO_classLineOf_5 rfl rfl rfl ?_
      refine am_getf hB d_MO_classLineOf_6 F_MO_145_11 M.1 rfl ?_
      rw [m1]
      refine ai_jge (tgt := 74) hB d_MO_classLineOf_9 (by decide) (fun c1 => ?_) (fun c1 => ?_)
      · omega
      refine am_iload_n hB d_MO_classLineOf_12 rfl rfl ?_
      cases r with
      | true =>
        rw [if_pos rfl] at hPi
        show am_Z X 13 [.ref m, am_n a, am_n b, am_n 1, am_n i] [am_n 1] h 0 0
        refine ai_zeq (tgt := 42) hB d_MO_classLineOf_13 (by decide) (fun c2 => ?_) (fun c2 => ?_)
        · omega
        refine am_aload_n hB d_MO_classLineOf_16 rfl rfl rfl ?_
        refine am_iload_n hB d_MO_classLineOf_17 rfl rfl ?_
        refine am_iload_n hB d_MO_classLineOf_18 rfl rfl ?_
        refine am_aload_n hB d_MO_classLineOf_19 rfl rfl rfl ?_
        refine am_getf hB d_MO_classLineOf_20 F_MO_19_11 M.1 rfl ?_
        refine am_iload hB d_MO_classLineOf_23 rfl ?_
        refine ai_iald hB d_MO_classLineOf_25 ty_1 M.realFrom ?_
        refine am_aload_n hB d_MO_classLineOf_26 rfl rfl rfl ?_
        refine am_getf hB d_MO_classLineOf_27 F_MO_22_11 M.1 rfl ?_
        refine am_iload hB d_MO_classLineOf_30 rfl ?_
        refine ai_iald hB d_MO_classLineOf_32 ty_1 M.realTo ?_
        refine am_callV hB hR (as := [am_n a, am_n b, am_n (U.realFrom_ i), am_n (U.realTo_ i)]) M.1 (m_MO_same M hg h0 hab h2 q1.1 q1.2.1 (by omega)) c_MO_154 rfl rfl d_MO_classLineOf_33 ⟨by decide, Nat.le_of_ble_eq_true rfl⟩ ⟨by decide, by decide⟩ rfl rfl (fun rr h hp => ?_)
        obtain ⟨rfl, rfl⟩ := hp
        show am_Z X 36 [.ref m, am_n a, am_n b, am_n 1, am_n i] [am_n (sp_i (sp_eq U.all_ a b U.all_ (U.realFrom_ i) (U.realTo_ i)))] h 0 0
        rw [sp_eq_nm hab q1.2.1, q3]
        by_cases z : nm U.all_ a b = c.1
        · rw [decide_eq_true z]
          show am_Z X 36 [.ref m, am_n a, am_n b, am_n 1, am_n i] [am_n 1] h 0 0
          refine ai_zeq (tgt := 68) hB d_MO_classLineOf_36 (by decide) (fun c3 => ?_) (fun c3 => ?_)
          · omega
          refine am_goto (tgt := 65) hB d_MO_classLineOf_39 (by decide) ?_
          exact yes (by rw [hPi]; exact decide_eq_true z.symm)
        · rw [decide_eq_false z]
          show am_Z X 36 [.ref m, am_n a, am_n b, am_n 1, am_n i] [am_n 0] h 0 0
          refine ai_zeq (tgt := 68) hB d_MO_classLineOf_36 (by decide) (fun c3 => ?_) (fun c3 => ?_)
          · exact no (by rw [hPi]; exact decide_eq_false (fun w => z w.symm))
          · omega
      | false =>
        rw [if_neg (by decide)] at hPi
        show am_Z X 13 [.ref m, am_n a, am_n b, am_n 0, am_n i] [am_n 0] h 0 0
        refine ai_zeq (tgt := 42) hB d_MO_classLineOf_13 (by decide) (fun c2 => ?_) (fun c2 => ?_)
        rotate_left
        · omega
        refine am_aload_n hB d_MO_classLineOf_42 rfl rfl rfl ?_
        refine am_iload_n hB d_MO_classLineOf_43 rfl rfl ?_
        refine am_iload_n hB d_MO_classLineOf_44 rfl rfl ?_
        refine am_aload_n hB d_MO_classLineOf_45 rfl rfl rfl ?_
        refine am_getf hB d_MO_classLineOf_46 F_MO_25_11 M.1 rfl ?_
        refine am_iload hB d_MO_classLineOf_49 rfl ?_
        refine ai_iald hB d_MO_classLineOf_51 ty_1 M.shortFrom ?_
        refine am_aload_n hB d_MO_classLineOf_52 rfl rfl rfl ?_
        refine am_getf hB d_MO_classLineOf_53 F_MO_28_11 M.1 rfl ?_
        refine am_iload hB d_MO_classLineOf_56 rfl ?_
        refine ai_iald hB d_MO_classLineOf_58 ty_1 M.shortTo ?_
        refine am_callV hB hR (as := [am_n a, am_n b, am_n (U.shortFrom_ i), am_n (U.shortTo_ i)]) M.1 (m_MO_same M hg h0 hab h2 q2.1 q2.2.1 (by omega)) c_MO_154 rfl rfl d_MO_classLineOf_59 ⟨by decide, Nat.le_of_ble_eq_true rfl⟩ ⟨by decide, by decide⟩ rfl rfl (fun rr h hp => ?_)
        obtain ⟨rfl, rfl⟩ := hp
        show am_Z X 62 [.ref m, am_n a, am_n b, am_n 0, am_n i] [am_n (sp_i (sp_eq U.all_ a b U.all_ (U.shortFrom_ i) (U.shortTo_ i)))] h 0 0
        rw [sp_eq_nm hab q2.2.1, q4]
        by_cases z : nm U.all_ a b = c.2
        · rw [decide_eq_true z]
          show am_Z X 62 [.ref m, am_n a, am_n b, am_n 0, am_n i] [am_n 1] h 0 0
          refine ai_zeq (tgt := 68) hB d_MO_classLineOf_62 (by decide) (fun c3 => ?_) (fun c3 => ?_)
          · omega
          · exact yes (by rw [hPi]; exact decide_eq_true z.symm)
        · rw [decide_eq_false z]
          show am_Z X 62 [.ref m, am_n a, am_n b, am_n 0, am_n i] [am_n 0] h 0 0
          refine ai_zeq (tgt := 68) hB d_MO_classLineOf_62 (by decide) (fun c3 => ?_) (fun c3 => ?_)
          · exact no (by rw [hPi]; exact decide_eq_false (fun w => z w.symm))
          · omega
  refine ai_const hB d_MO_classLineOf_0 ?_
  refine am_istore hB d_MO_classLineOf_1 (by rw [hR.nL]; decide) rfl ?_
  cases r with
  | true => exact loop _ (fun i c hc => by simp only [hc]; rfl) rfl S.1.length 0 (by omega) rfl
  | false => exact loop _ (fun i c hc => by simp only [hc]; rfl) rfl S.1.length 0 (by omega) rfl
