/-! the model's short answers; a report -/
theorem mo_rel.cd {U : mv} {V : dv} {c : Int} (R : mo_rel U V) : mo_rel (mv.s_code U (c)) V := R
theorem m_MO_at {l : Launch} {G : am_G} {hA : am_H} {m : Nat} {U : mv} {V : dv} {i : Int} (M : am_mo hA m U) (R : mo_rel U V) (ok : V.ok) (hi : -2147483648 ≤ i ∧ i < 2147483648) : am_M l G M_MO_at [.ref m, am_n i] hA (fun rr h' => ∃ c, am_mo h' m (mv.s_code U (c)) ∧ ko m 35 hA h' ∧ (if 0 ≤ i ∧ i < V.pr.length then c = 0 ∧ rr = some (am_n (V.pr.getD i.toNat 0)) else c = 1 ∧ ∃ v : Int, rr = some (am_n v))) := by
  have f : ko m 35 hA hA := ko.rf
  have hp := R.2.2.2.2.2.1
  have hl := ok.2.1
  refine am_M.of (by decide) (Nat.le_of_ble_eq_true rfl) (fun X hB hR => ?_)
  show am_Z X 0 [.ref m, am_n i] [] hA 0 0
  have no : ¬ (0 ≤ i ∧ i < V.pr.length) → am_Z X 13 [.ref m, am_n i] [.ref m] hA 0 0 := by
    intro hn
    refine ai_const hB d_MO_at_13 ?_
    refine am_goto (tgt := 18) hB d_MO_at_14 (by decide) ?_
    refine mo_p_code hB d_MO_at_18 P_MO_113_11 M f (fun h M f => ?_)
    refine am_aload_n hB d_MO_at_21 rfl rfl rfl ?_
    refine am_getf hB d_MO_at_22 F_MO_113_11 M.1 rfl ?_
    show am_Z X 25 [.ref m, am_n i] [am_n 1] h 0 0
    refine ai_zle (tgt := 32) hB d_MO_at_25 (by decide) (fun c3 => ?_) (fun c3 => ?_)
    · omega
    refine ai_const hB d_MO_at_28 ?_
    refine am_goto (tgt := 38) hB d_MO_at_29 (by decide) ?_
    refine am_iret hB hR d_MO_at_38 rfl rfl ?_ (Nat.zero_le _) (Nat.zero_le _)
    refine ⟨1, M, f, ?_⟩
    rw [if_neg hn]
    exact ⟨rfl, _, rfl⟩
  refine am_aload_n hB d_MO_at_0 rfl rfl rfl ?_
  refine am_iload_n hB d_MO_at_1 rfl rfl ?_
  refine ai_zlt (tgt := 13) hB d_MO_at_2 (by decide) (fun c1 => ?_) (fun c1 => ?_)
  · exact no (by omega)
  refine am_iload_n hB d_MO_at_5 rfl rfl ?_
  refine am_aload_n hB d_MO_at_6 rfl rfl rfl ?_
  refine am_getf hB d_MO_at_7 F_MO_344_11 M.1 rfl ?_
  show am_Z X 10 [.ref m, am_n i] [am_n U.printSize_, am_n i, .ref m] hA 0 0
  rw [hp.1]
  refine ai_jlt (tgt := 17) hB d_MO_at_10 (by decide) (fun c2 => ?_) (fun c2 => ?_)
  rotate_left
  · exact no (by omega)
  refine ai_const hB d_MO_at_17 ?_
  refine mo_p_code hB d_MO_at_18 P_MO_113_11 M f (fun h M f => ?_)
  refine am_aload_n hB d_MO_at_21 rfl rfl rfl ?_
  refine am_getf hB d_MO_at_22 F_MO_113_11 M.1 rfl ?_
  show am_Z X 25 [.ref m, am_n i] [am_n 0] h 0 0
  refine ai_zle (tgt := 32) hB d_MO_at_25 (by decide) (fun c3 => ?_) (fun c3 => ?_)
  rotate_left
  · omega
  refine am_aload_n hB d_MO_at_32 rfl rfl rfl ?_
  refine am_getf hB d_MO_at_33 F_MO_97_11 M.1 rfl ?_
  refine am_iload_n hB d_MO_at_36 rfl rfl ?_
  refine ai_iald hB d_MO_at_37 ty_1 M.print ?_
  refine am_iret hB hR d_MO_at_38 rfl rfl ?_ (Nat.zero_le _) (Nat.zero_le _)
  refine ⟨0, M, f, ?_⟩
  rw [if_pos ⟨by omega, by omega⟩]
  refine ⟨rfl, ?_⟩
  have := hp.2 i.toNat (by omega)
  rw [show ((i.toNat : Nat) : Int) = i by omega] at this
  rw [← this]
  rfl
theorem m_MO_key {l : Launch} {G : am_G} {hA : am_H} {m : Nat} {U : mv} {V : dv} {i : Int} (M : am_mo hA m U) (R : mo_rel U V) (ok : V.ok) (hi : -2147483648 ≤ i ∧ i < 2147483648) : am_M l G M_MO_key [.ref m, am_n i] hA (fun rr h' => ∃ c, am_mo h' m (mv.s_code U (c)) ∧ ko m 35 hA h' ∧ (if 0 ≤ i ∧ i < V.n then c = 0 ∧ rr = some (.long (V.gk i)) else c = 1 ∧ ∃ x : Int64, rr = some (.long x))) := by
  have f : ko m 35 hA hA := ko.rf
  have hp := R.2.2.2.2.2.2.2.1
  have hl := ok.2.2.1
  refine am_M.of (by decide) (Nat.le_of_ble_eq_true rfl) (fun X hB hR => ?_)
  show am_Z X 0 [.ref m, am_n i] [] hA 0 0
  have no : ¬ (0 ≤ i ∧ i < V.n) → am_Z X 13 [.ref m, am_n i] [.ref m] hA 0 0 := by
    intro hn
    refine ai_const hB d_MO_key_13 ?_
    refine am_goto (tgt := 18) hB d_MO_key_14 (by decide) ?_
    refine mo_p_code hB d_MO_key_18 P_MO_113_11 M f (fun h M f => ?_)
    refine am_aload_n hB d_MO_key_21 rfl rfl rfl ?_
    refine am_getf hB d_MO_key_22 F_MO_113_11 M.1 rfl ?_
    show am_Z X 25 [.ref m, am_n i] [am_n 1] h 0 0
    refine ai_zle (tgt := 32) hB d_MO_key_25 (by decide) (fun c3 => ?_) (fun c3 => ?_)
    · omega
    refine am_lconst hB d_MO_key_28 rfl ?_
    refine am_goto (tgt := 38) hB d_MO_key_29 (by decide) ?_
    refine am_lret hB hR d_MO_key_38 rfl ?_ (Nat.zero_le _) (Nat.zero_le _)
    refine ⟨1, M, f, ?_⟩
    rw [if_neg hn]
    exact ⟨rfl, _, rfl⟩
  refine am_aload_n hB d_MO_key_0 rfl rfl rfl ?_
  refine am_iload_n hB d_MO_key_1 rfl rfl ?_
  refine ai_zlt (tgt := 13) hB d_MO_key_2 (by decide) (fun c1 => ?_) (fun c1 => ?_)
  · exact no (by omega)
  refine am_iload_n hB d_MO_key_5 rfl rfl ?_
  refine am_aload_n hB d_MO_key_6 rfl rfl rfl ?_
  refine am_getf hB d_MO_key_7 F_MO_388_11 M.1 rfl ?_
  show am_Z X 10 [.ref m, am_n i] [am_n U.crashCount_, am_n i, .ref m] hA 0 0
  rw [hp.1]
  refine ai_jlt (tgt := 17) hB d_MO_key_10 (by decide) (fun c2 => ?_) (fun c2 => ?_)
  rotate_left
  · exact no (by omega)
  refine ai_const hB d_MO_key_17 ?_
  refine mo_p_code hB d_MO_key_18 P_MO_113_11 M f (fun h M f => ?_)
  refine am_aload_n hB d_MO_key_21 rfl rfl rfl ?_
  refine am_getf hB d_MO_key_22 F_MO_113_11 M.1 rfl ?_
  show am_Z X 25 [.ref m, am_n i] [am_n 0] h 0 0
  refine ai_zle (tgt := 32) hB d_MO_key_25 (by decide) (fun c3 => ?_) (fun c3 => ?_)
  rotate_left
  · omega
  refine am_aload_n hB d_MO_key_32 rfl rfl rfl ?_
  refine am_getf hB d_MO_key_33 F_MO_100_11 M.1 rfl ?_
  refine am_iload_n hB d_MO_key_36 rfl rfl ?_
  refine ai_lald hB d_MO_key_37 ty_2 M.keys ?_
  refine am_lret hB hR d_MO_key_38 rfl ?_ (Nat.zero_le _) (Nat.zero_le _)
  refine ⟨0, M, f, ?_⟩
  rw [if_pos ⟨by omega, by omega⟩, ← hp.2.2.1]
  exact ⟨rfl, rfl⟩
theorem m_MO_reports {l : Launch} {G : am_G} {hA : am_H} {m : Nat} {U : mv} {V : dv} {i w : Int} (M : am_mo hA m U) (R : mo_rel U V) (ok : V.ok) (hi : -2147483648 ≤ i ∧ i < 2147483648) (hw : -2147483648 ≤ w ∧ w < 2147483648) : am_M l G M_MO_reports [.ref m, am_n i, am_n w] hA (fun rr h' => ∃ c, am_mo h' m (mv.s_code U (c)) ∧ ko m 35 hA h' ∧ (if 0 ≤ i ∧ i < V.n then (if 0 ≤ w ∧ w ≤ 2 then c = 0 ∧ rr = some (am_n (dv_rep V i w)) else c = 2 ∧ ∃ v : Int, rr = some (am_n v)) else c = 1 ∧ ∃ v : Int, rr = some (am_n v))) := by
  have f : ko m 35 hA hA := ko.rf
  have hp := R.2.2.2.2.2.2.2.1
  have hl := ok.2.2.1
  refine am_M.of (by decide) (Nat.le_of_ble_eq_true rfl) (fun X hB hR => ?_)
  show am_Z X 0 [.ref m, am_n i, am_n w] [] hA 0 0
  have no : ∀ c : Int, 0 < c → c < 3 → (if 0 ≤ i ∧ i < V.n then (if 0 ≤ w ∧ w ≤ 2 then c = 0 else c = 2) else c = 1) → am_Z X 31 [.ref m, am_n i, am_n w] [am_n c, .ref m] hA 0 0 := by
    intro c c0 c9 hn
    refine mo_p_code hB d_MO_reports_31 P_MO_113_11 M f (fun h M f => ?_)
    refine am_aload_n hB d_MO_reports_34 rfl rfl rfl ?_
    refine am_getf hB d_MO_reports_35 F_MO_113_11 M.1 rfl ?_
    show am_Z X 38 [.ref m, am_n i, am_n w] [am_n c] h 0 0
    refine ai_zle (tgt := 43) hB d_MO_reports_38 (by decide) (fun c3 => ?_) (fun c3 => ?_)
    · omega
    refine ai_const hB d_MO_reports_41 ?_
    refine am_iret hB hR d_MO_reports_42 rfl rfl ?_ (Nat.zero_le _) (Nat.zero_le _)
    refine ⟨c, M, f, ?_⟩
    by_cases q1 : 0 ≤ i ∧ i < V.n
    · rw [if_pos q1] at hn ⊢
      by_cases q2 : 0 ≤ w ∧ w ≤ 2
      · rw [if_pos q2] at hn
        omega
      · rw [if_neg q2] at hn ⊢
        exact ⟨hn, _, rfl⟩
    · rw [if_neg q1] at hn ⊢
      exact ⟨hn, _, rfl⟩
  have no1 : ¬ (0 ≤ i ∧ i < V.n) → am_Z X 13 [.ref m, am_n i, am_n w] [.ref m] hA 0 0 := by
    intro hn
    refine ai_const hB d_MO_reports_13 ?_
    refine am_goto (tgt := 31) hB d_MO_reports_14 (by decide) ?_
    exact no 1 (by omega) (by omega) (by rw [if_neg hn])
  have no2 : (0 ≤ i ∧ i < V.n) → ¬ (0 ≤ w ∧ w ≤ 2) → am_Z X 26 [.ref m, am_n i, am_n w] [.ref m] hA 0 0 := by
    intro hn hn2
    refine ai_const hB d_MO_reports_26 ?_
    refine am_goto (tgt := 31) hB d_MO_reports_27 (by decide) ?_
    exact no 2 (by omega) (by omega) (by rw [if_pos hn, if_neg hn2])
  refine am_aload_n hB d_MO_reports_0 rfl rfl rfl ?_
  refine am_iload_n hB d_MO_reports_1 rfl rfl ?_
  refine ai_zlt (tgt := 13) hB d_MO_reports_2 (by decide) (fun c1 => ?_) (fun c1 => ?_)
  · exact no1 (by omega)
  refine am_iload_n hB d_MO_reports_5 rfl rfl ?_
  refine am_aload_n hB d_MO_reports_6 rfl rfl rfl ?_
  refine am_getf hB d_MO_reports_7 F_MO_388_11 M.1 rfl ?_
  show am_Z X 10 [.ref m, am_n i, am_n w] [am_n U.crashCount_, am_n i, .ref m] hA 0 0
  rw [hp.1]
  refine ai_jlt (tgt := 17) hB d_MO_reports_10 (by decide) (fun c2 => ?_) (fun c2 => ?_)
  rotate_left
  · exact no1 (by omega)
  refine am_iload_n hB d_MO_reports_17 rfl rfl ?_
  refine ai_zlt (tgt := 26) hB d_MO_reports_18 (by decide) (fun c4 => ?_) (fun c4 => ?_)
  · exact no2 ⟨by omega, by omega⟩ (by omega)
  refine am_iload_n hB d_MO_reports_21 rfl rfl ?_
  refine ai_const hB d_MO_reports_22 ?_
  refine ai_jle (tgt := 30) hB d_MO_reports_23 (by decide) (fun c5 => ?_) (fun c5 => ?_)
  rotate_left
  · exact no2 ⟨by omega, by omega⟩ (by omega)
  refine ai_const hB d_MO_reports_30 ?_
  refine mo_p_code hB d_MO_reports_31 P_MO_113_11 M f (fun h M f => ?_)
  refine am_aload_n hB d_MO_reports_34 rfl rfl rfl ?_
  refine am_getf hB d_MO_reports_35 F_MO_113_11 M.1 rfl ?_
  show am_Z X 38 [.ref m, am_n i, am_n w] [am_n 0] h 0 0
  refine ai_zle (tgt := 43) hB d_MO_reports_38 (by decide) (fun c3 => ?_) (fun c3 => ?_)
  rotate_left
  · omega
  have fin : ∀ v : Int, v = dv_rep V i w → am_Z X 76 [.ref m, am_n i, am_n w] [am_n v] h 0 0 := by
    intro v hv
    refine am_iret hB hR d_MO_reports_76 rfl rfl ?_ (Nat.zero_le _) (Nat.zero_le _)
    refine ⟨0, M, f, ?_⟩
    rw [if_pos ⟨by omega, by omega⟩, if_pos ⟨by omega, by omega⟩, hv]
    exact ⟨rfl, rfl⟩
  refine am_iload_n hB d_MO_reports_43 rfl rfl ?_
  refine ai_zne (tgt := 56) hB d_MO_reports_44 (by decide) (fun c6 => ?_) (fun c6 => ?_)
  · refine am_iload_n hB d_MO_reports_56 rfl rfl ?_
    refine ai_const hB d_MO_reports_57 ?_
    refine ai_jne (tgt := 70) hB d_MO_reports_58 (by decide) (fun c7 => ?_) (fun c7 => ?_)
    · refine am_aload_n hB d_MO_reports_70 rfl rfl rfl ?_
      refine am_getf hB d_MO_reports_71 F_MO_110_11 M.1 rfl ?_
      refine am_iload_n hB d_MO_reports_74 rfl rfl ?_
      refine ai_iald hB d_MO_reports_75 ty_1 M.lasts ?_
      show am_Z X 76 [.ref m, am_n i, am_n w] [am_n (U.lasts_ i)] h 0 0
      refine fin _ ?_
      unfold dv_rep
      rw [if_neg (by omega), if_neg (by omega), hp.2.2.2.2.2]
    · refine am_aload_n hB d_MO_reports_61 rfl rfl rfl ?_
      refine am_getf hB d_MO_reports_62 F_MO_107_11 M.1 rfl ?_
      refine am_iload_n hB d_MO_reports_65 rfl rfl ?_
      refine ai_iald hB d_MO_reports_66 ty_1 M.firsts ?_
      refine am_goto (tgt := 76) hB d_MO_reports_67 (by decide) ?_
      show am_Z X 76 [.ref m, am_n i, am_n w] [am_n (U.firsts_ i)] h 0 0
      refine fin _ ?_
      unfold dv_rep
      rw [if_neg (by omega), if_pos (by omega), hp.2.2.2.2.1]
  · refine am_aload_n hB d_MO_reports_47 rfl rfl rfl ?_
    refine am_getf hB d_MO_reports_48 F_MO_104_11 M.1 rfl ?_
    refine am_iload_n hB d_MO_reports_51 rfl rfl ?_
    refine ai_iald hB d_MO_reports_52 ty_1 M.times ?_
    refine am_goto (tgt := 76) hB d_MO_reports_53 (by decide) ?_
    show am_Z X 76 [.ref m, am_n i, am_n w] [am_n (U.times_ i)] h 0 0
    refine fin _ ?_
    unfold dv_rep
    rw [if_pos (by omega), hp.2.2.2.1]
def fc (P : pm_L → Bool) (L : List pm_L) (k : Nat) : Nat := ((L.take k).filter P).length
theorem fc_s {P : pm_L → Bool} {L : List pm_L} {i : Nat} {x : pm_L} (h : L[i]? = some x) : fc P L (i + 1) = fc P L i + (if P x = true then 1 else 0) := by
  unfold fc
  rw [List.take_add_one, h, List.filter_append, List.length_append]
  congr 1
  by_cases c : P x = true
  · rw [if_pos c]
    simp [c]
  · rw [if_neg c]
    simp [c]
theorem fc_flat {P : pm_L → Bool} {L : List pm_L} {i : Nat} : ∀ d : Nat, i + d ≤ L.length → (∀ (j : Nat) y, i ≤ j → j < i + d → L[j]? = some y → P y = false) → fc P L (i + d) = fc P L i
  | 0, _, _ => rfl
  | d + 1, hd, h => by
    have ih := fc_flat (P := P) (L := L) (i := i) d (by omega) (fun j y h1 h2 h3 => h j y h1 (by omega) h3)
    have e := fc_s (P := P) (List.getElem?_eq_getElem (show i + d < L.length by omega))
    rw [h (i + d) _ (by omega) (by omega) (List.getElem?_eq_getElem (by omega)), if_neg (by decide)] at e
    rw [← Nat.add_assoc, e, ih]
    rfl
theorem m_MO_groups {l : Launch} {G : am_G} {hA : am_H} {m : Nat} {U : mv} {V : dv} {i : Int} (M : am_mo hA m U) (R : mo_rel U V) (hi : -2147483648 ≤ i ∧ i < 2147483648) : am_M l G M_MO_groups [.ref m, am_n i] hA (fun rr h' => ∃ c, am_mo h' m (mv.s_code U (c)) ∧ ko m 35 hA h' ∧ (if 0 ≤ i ∧ i < V.S.1.length then c = 0 ∧ rr = some (am_n (dv_grp V i)) else c = 1 ∧ ∃ v : Int, rr = some (am_n v))) := by
  have f : ko m 35 hA hA := ko.rf
  have mp := R.2.2.2.2.1
  have hl := mp.2.1
  have hm := mp.2.2.2.1
  have hgs := mp.2.2.2.2.1
  have hle : ∀ k, pm_ld V.S.2 k ≤ V.S.2.length := fun k => by
    unfold pm_ld
    exact Nat.le_trans (List.length_filter_le _ _) (by rw [List.length_take]; omega)
  have hle1 := hle V.S.2.length
  refine am_M.of (by decide) (Nat.le_of_ble_eq_true rfl) (fun X hB hR => ?_)
  show am_Z X 0 [.ref m, am_n i, am_u, am_u] [] hA 0 0
  have no : ¬ (0 ≤ i ∧ i < V.S.1.length) → am_Z X 13 [.ref m, am_n i, am_u, am_u] [.ref m] hA 0 0 := by
    intro hn
    refine ai_const hB d_MO_groups_13 ?_
    refine am_goto (tgt := 18) hB d_MO_groups_14 (by decide) ?_
    refine mo_p_code hB d_MO_groups_18 P_MO_113_11 M f (fun h M f => ?_)
    refine ai_const hB d_MO_groups_21 ?_
    refine am_istore_n hB d_MO_groups_22 rfl (by rw [hR.nL]; decide) rfl ?_
    refine ai_const hB d_MO_groups_23 ?_
    refine am_istore_n hB d_MO_groups_24 rfl (by rw [hR.nL]; decide) rfl ?_
    refine am_iload_n hB d_MO_groups_25 rfl rfl ?_
    refine am_aload_n hB d_MO_groups_26 rfl rfl rfl ?_
    refine am_getf hB d_MO_groups_27 F_MO_173_11 M.1 rfl ?_
    show am_Z X 30 [.ref m, am_n i, am_n 0, am_n 0] [am_n U.groups_, am_n 0] h 0 0
    rw [hgs]
    have fin : am_Z X 68 [.ref m, am_n i, am_n 0, am_n 0] [] h 0 0 := by
      refine am_iload_n hB d_MO_groups_68 rfl rfl ?_
      refine am_iret hB hR d_MO_groups_69 rfl rfl ?_ (Nat.zero_le _) (Nat.zero_le _)
      refine ⟨1, M, f, ?_⟩
      rw [if_neg hn]
      exact ⟨rfl, _, rfl⟩
    refine ai_jge (tgt := 68) hB d_MO_groups_30 (by decide) (fun c3 => ?_) (fun c3 => ?_)
    · exact fin
    refine am_aload_n hB d_MO_groups_33 rfl rfl rfl ?_
    refine am_getf hB d_MO_groups_34 F_MO_113_11 M.1 rfl ?_
    show am_Z X 37 [.ref m, am_n i, am_n 0, am_n 0] [am_n 1] h 0 0
    refine ai_zne (tgt := 68) hB d_MO_groups_37 (by decide) (fun c4 => ?_) (fun c4 => ?_)
    · exact fin
    · omega
  refine am_aload_n hB d_MO_groups_0 rfl rfl rfl ?_
  refine am_iload_n hB d_MO_groups_1 rfl rfl ?_
  refine ai_zlt (tgt := 13) hB d_MO_groups_2 (by decide) (fun c1 => ?_) (fun c1 => ?_)
  · exact no (by omega)
  refine am_iload_n hB d_MO_groups_5 rfl rfl ?_
  refine am_aload_n hB d_MO_groups_6 rfl rfl rfl ?_
  refine am_getf hB d_MO_groups_7 F_MO_145_11 M.1 rfl ?_
  show am_Z X 10 [.ref m, am_n i, am_u, am_u] [am_n U.classes_, am_n i, .ref m] hA 0 0
  rw [mp.1]
  refine ai_jlt (tgt := 17) hB d_MO_groups_10 (by decide) (fun c2 => ?_) (fun c2 => ?_)
  rotate_left
  · exact no (by omega)
  refine ai_const hB d_MO_groups_17 ?_
  refine mo_p_code hB d_MO_groups_18 P_MO_113_11 M f (fun h M f => ?_)
  refine ai_const hB d_MO_groups_21 ?_
  refine am_istore_n hB d_MO_groups_22 rfl (by rw [hR.nL]; decide) rfl ?_
  refine ai_const hB d_MO_groups_23 ?_
  refine am_istore_n hB d_MO_groups_24 rfl (by rw [hR.nL]; decide) rfl ?_
  have M : am_mo h m (mv.s_code U (0)) := M
  have mp0 : mo_map (mv.s_code U (0)) V.S := mp
  have loop : ∀ (d g k n : Nat), g + d = pm_ld V.S.2 V.S.2.length → k ≤ V.S.2.length → pm_ld V.S.2 k = g → n = fc (fun x => x.2.2.2 && decide (x.2.2.1 = i.toNat)) V.S.2 k → n ≤ g → am_Z X 25 [.ref m, am_n i, am_n n, am_n g] [] h 0 0 := by
    intro d
    induction d with
    | zero =>
      intro g k n hd hk hg hn hng
      refine am_iload_n hB d_MO_groups_25 rfl rfl ?_
      refine am_aload_n hB d_MO_groups_26 rfl rfl rfl ?_
      refine am_getf hB d_MO_groups_27 F_MO_173_11 M.1 rfl ?_
      show am_Z X 30 [.ref m, am_n i, am_n n, am_n g] [am_n U.groups_, am_n g] h 0 0
      rw [hgs]
      refine ai_jge (tgt := 68) hB d_MO_groups_30 (by decide) (fun c3 => ?_) (fun c3 => ?_)
      rotate_left
      · omega
      refine am_iload_n hB d_MO_groups_68 rfl rfl ?_
      refine am_iret hB hR d_MO_groups_69 rfl rfl ?_ (Nat.zero_le _) (Nat.zero_le _)
      refine ⟨0, M, f, ?_⟩
      rw [if_pos ⟨by omega, by omega⟩]
      refine ⟨rfl, ?_⟩
      have hfl := fc_flat (P := fun x => x.2.2.2 && decide (x.2.2.1 = i.toNat)) (L := V.S.2) (i := k) (V.S.2.length - k) (by omega) (fun j y j1 j2 hy => by
        have := ld_none (L := V.S.2) (i := k) (by omega) j1 hy
        simp only [this, Bool.false_and])
      rw [show k + (V.S.2.length - k) = V.S.2.length by omega] at hfl
      unfold dv_grp
      rw [hn, ← hfl]
      unfold fc
      rw [List.take_length]
    | succ d ih =>
      intro g k n hd hk hg hn hng
      obtain ⟨k', x, k1, k2, hx, hxl, hk', hno⟩ := ld_next (L := V.S.2) (i := k) hk (by omega)
      have hs := pm_ld_s hx
      rw [if_pos hxl] at hs
      have hfl := fc_flat (P := fun x => x.2.2.2 && decide (x.2.2.1 = i.toNat)) (L := V.S.2) (i := k) (k' - k) (by omega) (fun j y j1 j2 hy => by
        have := hno j y j1 (by omega) hy
        simp only [this, Bool.false_and])
      rw [show k + (k' - k) = k' by omega] at hfl
      have hfs := fc_s (P := fun x => x.2.2.2 && decide (x.2.2.1 = i.toNat)) hx
      simp only [hxl, Bool.true_and, decide_eq_true_eq] at hfs
      have hcl := (mp.2.2.2.2.2.2 k' x hx).2.2.2.1
      have hcb := (mp.2.2.2.2.2.2 k' x hx).2.2.2.2.2.1
      have hgg : pm_ld V.S.2 k' = g := by omega
      refine am_iload_n hB d_MO_groups_25 rfl rfl ?_
      refine am_aload_n hB d_MO_groups_26 rfl rfl rfl ?_
      refine am_getf hB d_MO_groups_27 F_MO_173_11 M.1 rfl ?_
      show am_Z X 30 [.ref m, am_n i, am_n n, am_n g] [am_n U.groups_, am_n g] h 0 0
      rw [hgs]
      refine ai_jge (tgt := 68) hB d_MO_groups_30 (by decide) (fun c3 => ?_) (fun c3 => ?_)
      · omega
      refine am_aload_n hB d_MO_groups_33 rfl rfl rfl ?_
      refine am_getf hB d_MO_groups_34 F_MO_113_11 M.1 rfl ?_
      show am_Z X 37 [.ref m, am_n i, am_n n, am_n g] [am_n 0] h 0 0
      refine ai_zne (tgt := 68) hB d_MO_groups_37 (by decide) (fun c4 => ?_) (fun c4 => ?_)
      · omega
      refine am_aload_n hB d_MO_groups_40 rfl rfl rfl ?_
      refine am_getf hB d_MO_groups_41 F_MO_61_11 M.1 rfl ?_
      refine am_aload_n hB d_MO_groups_44 rfl rfl rfl ?_
      refine am_iload_n hB d_MO_groups_45 rfl rfl ?_
      have lo := m_MO_lineOf (l := l) (G := G) M mp0 hx hxl
      rw [hgg] at lo
      refine am_callV hB hR (as := [am_n g]) M.1 lo c_MO_269 rfl rfl d_MO_groups_46 ⟨by decide, Nat.le_of_ble_eq_true rfl⟩ ⟨by decide, by decide⟩ rfl rfl (fun rr h hp => ?_)
      obtain ⟨rfl, rfl⟩ := hp
      show am_Z X 49 [.ref m, am_n i, am_n n, am_n g] [am_n k', .ref (m + 18)] h 0 0
      refine ai_iald hB d_MO_groups_49 ty_1 M.classOf ?_
      refine am_iload_n hB d_MO_groups_50 rfl rfl ?_
      show am_Z X 51 [.ref m, am_n i, am_n n, am_n g] [am_n i, am_n (U.classOf_ k')] h 0 0
      rw [hcl]
      have fin : ∀ n' : Nat, n' = fc (fun x => x.2.2.2 && decide (x.2.2.1 = i.toNat)) V.S.2 (k' + 1) → n' ≤ g + 1 → am_Z X 61 [.ref m, am_n i, am_n n, am_n g] [am_n n'] h 0 0 := by
        intro n' hn' hng'
        refine am_istore_n hB d_MO_groups_61 rfl (by rw [hR.nL]; decide) rfl ?_
        refine ai_inc hB d_MO_groups_62 rfl (by rw [hR.nL]; decide) rfl ?_
        exact am_goto (tgt := 25) hB d_MO_groups_65 (by decide) (ih (g + 1) (k' + 1) n' (by omega) (by omega) (by omega) hn' hng')
      refine ai_jne (tgt := 60) hB d_MO_groups_51 (by decide) (fun c5 => ?_) (fun c5 => ?_)
      · refine am_iload_n hB d_MO_groups_60 rfl rfl ?_
        refine fin n ?_ (by omega)
        rw [hfs, if_neg (by omega)]
        omega
      · refine am_iload_n hB d_MO_groups_54 rfl rfl ?_
        refine ai_const hB d_MO_groups_55 ?_
        refine ai_add hB d_MO_groups_56 ?_
        refine am_goto (tgt := 61) hB d_MO_groups_57 (by decide) ?_
        refine fin (n + 1) ?_ (by omega)
        rw [hfs, if_pos (by omega)]
        omega
  exact loop (pm_ld V.S.2 V.S.2.length) 0 0 0 (by omega) (Nat.zero_le _) rfl rfl (Nat.le_refl _)
