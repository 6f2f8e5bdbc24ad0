/-! what is made anew -/
theorem am_qa_up {t n q : Nat} {g : Int → Option Nat} {i : Int} (h1 : 0 ≤ i) (h2 : i < 2147483648) : (.inl (t, n, .inr (.inr (.inr (.inr (va_up (fun j : Nat => g j) (am_i i).toNatClampNeg (some q)))))) : va_E) = am_qa t n (fun j => if j = i then some q else g j) := by
  unfold am_qa
  have e : va_up (fun j : Nat => g j) (am_i i).toNatClampNeg (some q) = fun j : Nat => if (j : Int) = i then some q else g j := by
    funext j
    rw [am_i_cl h1 h2]
    unfold va_up
    by_cases hj : j = i.toNat
    · rw [if_pos hj, if_pos (by omega)]
    · rw [if_neg hj, if_neg (by omega)]
  rw [e]
section AmAast
variable {X : am_C} {own : String} {cc : ByteArray} {pc : Nat} {L st : List Value} {h : am_H} {cs sl : Nat}
theorem ai_aast (hB : am_B X own cc) {k t n q ci : Nat} {fs : List Value} {g : Int → Option Nat} {a : Int} {C : String} {T : u_T} {N : Nat} {h' : am_H} (hdg : decode cc pc = .ok (.aastore, 1)) (ht : ∀ G : am_G, (am_tys G)[t]? = some (G.2.1 t, .object C)) (hr : h[k]? = some (am_qa t n g)) (hq : h[q]? = some (.inr (ci, fs))) (hc : vwCl[ci]? = some (C, T, N)) (hh : h.set k (am_qa t n (fun j => if j = a then some q else g j)) = h') (kk : am_Z X (pc + 1) L st h' cs sl) (h1 : 0 ≤ a := by omega) (h2 : a < n := by omega) (h3 : n < 2147483648 := by omega) : am_Z X pc L (.ref q :: am_n a :: .ref k :: st) h cs sl :=
  am_aast hB hdg ht hr hq hc (am_i_in h1 h2 h3) (by rw [am_qa_up h1 (by omega)]; exact hh) kk
end AmAast
/-- one more cell -/
theorem ap_nw {h : am_H} {e : va_E} {q : Nat} (hq : q = h.length) : (h ++ [e])[q]? = some e := by
  rw [hq]
  simp
theorem ap_old {h : am_H} {e : va_E} {q : Nat} {x : va_E} (r : h[q]? = some x) : (h ++ [e])[q]? = some x := by
  rw [List.getElem?_append_left (am_lt r)]
  exact r
theorem ap_len {h : am_H} {e : va_E} : (h ++ [e]).length = h.length + 1 := by simp
/-- a cell that was just made and is set -/
theorem ap_sl {h h1 : am_H} {e x : va_E} {q : Nat} (hq : q = h.length) (e1 : h1 = (h ++ [e]).set q x) : h1 = h ++ [x] := by
  rw [e1, hq]
  simp
abbrev nw_SL : va_E := .inr (7, [.null, .int 0, .int 0])
theorem m_SL_init {l : Launch} {G : am_G} {h : am_H} {k c : Nat} (r : h[k]? = some nw_SL) : am_M l G M_SL_init [.ref k, .ref c] h (fun r h' => r = none ∧ h' = h.set k (ce_SL c 0 0)) := by
  refine am_M.of (by decide) (Nat.le_of_ble_eq_true rfl) (fun X hB hR => ?_)
  show am_Z X 0 [.ref k, .ref c] [] h 0 0
  refine am_aload_n hB d_SL_init_0 rfl rfl rfl ?_
  refine am_obj hB hR d_SL_init_1 O_SL_3 ⟨by decide, Nat.le_of_ble_eq_true rfl⟩ ?_
  refine am_aload_n hB d_SL_init_4 rfl rfl rfl ?_
  refine am_aload_n hB d_SL_init_5 rfl rfl rfl ?_
  refine am_putF hB d_SL_init_6 P_SL_9_7 (hR.name.trans rfl) r (by simp) (am_fit.r rfl (Or.inr ⟨_, rfl⟩)) rfl ?_
  refine am_vret hB hR d_SL_init_9 rfl ?_ (Nat.zero_le _) (Nat.zero_le _)
  exact ⟨rfl, rfl⟩
abbrev nw_CL : va_E := .inr (0, [.null, .null, .int 0, .int 0, .int 0])
theorem m_CL_init {l : Launch} {G : am_G} {h : am_H} {k c : Nat} (r : h[k]? = some nw_CL) : am_M l G M_CL_init [.ref k, .ref c] h (fun r h' => r = none ∧ h'.length = h.length + 2 ∧ h'[k]? = some (ce_CL (h.length) (h.length + 1) 0 0 0) ∧ (h'[h.length]? = some (ce_SL c 0 0) ∧ h'[h.length + 1]? = some (ce_SL c 0 0)) ∧ ko k 1 h h') := by
  have hk := am_lt r
  refine am_M.of (by decide) (Nat.le_of_ble_eq_true rfl) (fun X hB hR => ?_)
  show am_Z X 0 [.ref k, .ref c] [] h 0 0
  refine am_aload_n hB d_CL_init_0 rfl rfl rfl ?_
  refine am_obj hB hR d_CL_init_1 O_CL_1 ⟨by decide, Nat.le_of_ble_eq_true rfl⟩ ?_
  refine am_aload_n hB d_CL_init_4 rfl rfl rfl ?_
  refine am_new hB d_CL_init_5 N_CL_7 (by rw [hR.room]; decide) (by rw [hR.room]; decide) (q := h.length) rfl rfl rfl rfl ?_
  refine am_dup hB d_CL_init_8 rfl ?_
  refine am_aload_n hB d_CL_init_9 rfl rfl rfl ?_
  refine am_callI hB hR (as := [.ref c]) (m_SL_init (ap_nw (by simp))) c_CL_9 rfl rfl d_CL_init_10 ⟨by decide, Nat.le_of_ble_eq_true rfl⟩ ⟨by decide, by decide⟩ rfl rfl (fun rr hh hp => ?_)
  obtain ⟨rfl, e0⟩ := hp
  have e0 := ap_sl (by simp) e0
  subst e0
  show am_Z X 13 [.ref k, .ref c] [.ref (h.length), .ref k] _ 1 3
  refine am_putF hB d_CL_init_13 P_CL_12_0 (hR.name.trans rfl) (ap_old r) (by simp) (am_fit.r rfl (Or.inl ⟨_, rfl⟩)) rfl ?_
  refine am_aload_n hB d_CL_init_16 rfl rfl rfl ?_
  refine am_new hB d_CL_init_17 N_CL_7 (by rw [hR.room]; decide) (by rw [hR.room]; decide) (q := h.length + 1) (by simp) rfl rfl rfl ?_
  refine am_dup hB d_CL_init_20 rfl ?_
  refine am_aload_n hB d_CL_init_21 rfl rfl rfl ?_
  refine am_callI hB hR (as := [.ref c]) (m_SL_init (ap_nw (by simp))) c_CL_9 rfl rfl d_CL_init_22 ⟨by decide, Nat.le_of_ble_eq_true rfl⟩ ⟨by decide, by decide⟩ rfl rfl (fun rr hh hp => ?_)
  obtain ⟨rfl, e1⟩ := hp
  have e1 := ap_sl (by simp) e1
  subst e1
  show am_Z X 25 [.ref k, .ref c] [.ref (h.length + 1), .ref k] _ 2 6
  refine am_putF hB d_CL_init_25 P_CL_18_0 (hR.name.trans rfl) (ap_old (am_rs (ap_old r))) (by simp) (am_fit.r rfl (Or.inl ⟨_, rfl⟩)) rfl ?_
  refine am_vret hB hR d_CL_init_28 rfl ?_ (by decide) (by decide)
  exact ⟨rfl, by simp, (am_rs (ap_old (am_rs (ap_old r)))), ⟨(am_rn (by omega) (ap_old (am_rn (by omega) (ap_nw (by simp))))), (am_rn (by omega) (ap_nw (by simp)))⟩, (ko.app.tr (ko.set k _ (by omega) (by omega))).tr (ko.app.tr (ko.set k _ (by omega) (by omega)))⟩
abbrev nw_HE : va_E := .inr (3, [.null, .null, .int 0, .int 0, .int 0, .int 0])
theorem m_HE_init {l : Launch} {G : am_G} {h : am_H} {k c : Nat} (r : h[k]? = some nw_HE) : am_M l G M_HE_init [.ref k, .ref c] h (fun r h' => r = none ∧ h'.length = h.length + 2 ∧ h'[k]? = some (ce_HE (h.length) (h.length + 1) 0 0 0 0) ∧ (h'[h.length]? = some (ce_SL c 0 0) ∧ h'[h.length + 1]? = some (ce_SL c 0 0)) ∧ ko k 1 h h') := by
  have hk := am_lt r
  refine am_M.of (by decide) (Nat.le_of_ble_eq_true rfl) (fun X hB hR => ?_)
  show am_Z X 0 [.ref k, .ref c] [] h 0 0
  refine am_aload_n hB d_HE_init_0 rfl rfl rfl ?_
  refine am_obj hB hR d_HE_init_1 O_HE_1 ⟨by decide, Nat.le_of_ble_eq_true rfl⟩ ?_
  refine am_aload_n hB d_HE_init_4 rfl rfl rfl ?_
  refine am_new hB d_HE_init_5 N_HE_7 (by rw [hR.room]; decide) (by rw [hR.room]; decide) (q := h.length) rfl rfl rfl rfl ?_
  refine am_dup hB d_HE_init_8 rfl ?_
  refine am_aload_n hB d_HE_init_9 rfl rfl rfl ?_
  refine am_callI hB hR (as := [.ref c]) (m_SL_init (ap_nw (by simp))) c_HE_9 rfl rfl d_HE_init_10 ⟨by decide, Nat.le_of_ble_eq_true rfl⟩ ⟨by decide, by decide⟩ rfl rfl (fun rr hh hp => ?_)
  obtain ⟨rfl, e0⟩ := hp
  have e0 := ap_sl (by simp) e0
  subst e0
  show am_Z X 13 [.ref k, .ref c] [.ref (h.length), .ref k] _ 1 3
  refine am_putF hB d_HE_init_13 P_HE_12_3 (hR.name.trans rfl) (ap_old r) (by simp) (am_fit.r rfl (Or.inl ⟨_, rfl⟩)) rfl ?_
  refine am_aload_n hB d_HE_init_16 rfl rfl rfl ?_
  refine am_new hB d_HE_init_17 N_HE_7 (by rw [hR.room]; decide) (by rw [hR.room]; decide) (q := h.length + 1) (by simp) rfl rfl rfl ?_
  refine am_dup hB d_HE_init_20 rfl ?_
  refine am_aload_n hB d_HE_init_21 rfl rfl rfl ?_
  refine am_callI hB hR (as := [.ref c]) (m_SL_init (ap_nw (by simp))) c_HE_9 rfl rfl d_HE_init_22 ⟨by decide, Nat.le_of_ble_eq_true rfl⟩ ⟨by decide, by decide⟩ rfl rfl (fun rr hh hp => ?_)
  obtain ⟨rfl, e1⟩ := hp
  have e1 := ap_sl (by simp) e1
  subst e1
  show am_Z X 25 [.ref k, .ref c] [.ref (h.length + 1), .ref k] _ 2 6
  refine am_putF hB d_HE_init_25 P_HE_18_3 (hR.name.trans rfl) (ap_old (am_rs (ap_old r))) (by simp) (am_fit.r rfl (Or.inl ⟨_, rfl⟩)) rfl ?_
  refine am_vret hB hR d_HE_init_28 rfl ?_ (by decide) (by decide)
  exact ⟨rfl, by simp, (am_rs (ap_old (am_rs (ap_old r)))), ⟨(am_rn (by omega) (ap_old (am_rn (by omega) (ap_nw (by simp))))), (am_rn (by omega) (ap_nw (by simp)))⟩, (ko.app.tr (ko.set k _ (by omega) (by omega))).tr (ko.app.tr (ko.set k _ (by omega) (by omega)))⟩
abbrev nw_ML : va_E := .inr (5, [.null, .null, .null, .int 0, .int 0, .int 0, .int 0, .int 0, .int 0])
theorem m_ML_init {l : Launch} {G : am_G} {h : am_H} {k c : Nat} (r : h[k]? = some nw_ML) : am_M l G M_ML_init [.ref k, .ref c] h (fun r h' => r = none ∧ h'.length = h.length + 3 ∧ h'[k]? = some (ce_ML (h.length) (h.length + 1) (h.length + 2) 0 0 0 0 0 0) ∧ (h'[h.length]? = some (ce_SL c 0 0) ∧ h'[h.length + 1]? = some (ce_SL c 0 0) ∧ h'[h.length + 2]? = some (ce_SL c 0 0)) ∧ ko k 1 h h') := by
  have hk := am_lt r
  refine am_M.of (by decide) (Nat.le_of_ble_eq_true rfl) (fun X hB hR => ?_)
  show am_Z X 0 [.ref k, .ref c] [] h 0 0
  refine am_aload_n hB d_ML_init_0 rfl rfl rfl ?_
  refine am_obj hB hR d_ML_init_1 O_ML_3 ⟨by decide, Nat.le_of_ble_eq_true rfl⟩ ?_
  refine am_aload_n hB d_ML_init_4 rfl rfl rfl ?_
  refine am_new hB d_ML_init_5 N_ML_9 (by rw [hR.room]; decide) (by rw [hR.room]; decide) (q := h.length) rfl rfl rfl rfl ?_
  refine am_dup hB d_ML_init_8 rfl ?_
  refine am_aload_n hB d_ML_init_9 rfl rfl rfl ?_
  refine am_callI hB hR (as := [.ref c]) (m_SL_init (ap_nw (by simp))) c_ML_11 rfl rfl d_ML_init_10 ⟨by decide, Nat.le_of_ble_eq_true rfl⟩ ⟨by decide, by decide⟩ rfl rfl (fun rr hh hp => ?_)
  obtain ⟨rfl, e0⟩ := hp
  have e0 := ap_sl (by simp) e0
  subst e0
  show am_Z X 13 [.ref k, .ref c] [.ref (h.length), .ref k] _ 1 3
  refine am_putF hB d_ML_init_13 P_ML_14_5 (hR.name.trans rfl) (ap_old r) (by simp) (am_fit.r rfl (Or.inl ⟨_, rfl⟩)) rfl ?_
  refine am_aload_n hB d_ML_init_16 rfl rfl rfl ?_
  refine am_new hB d_ML_init_17 N_ML_9 (by rw [hR.room]; decide) (by rw [hR.room]; decide) (q := h.length + 1) (by simp) rfl rfl rfl ?_
  refine am_dup hB d_ML_init_20 rfl ?_
  refine am_aload_n hB d_ML_init_21 rfl rfl rfl ?_
  refine am_callI hB hR (as := [.ref c]) (m_SL_init (ap_nw (by simp))) c_ML_11 rfl rfl d_ML_init_22 ⟨by decide, Nat.le_of_ble_eq_true rfl⟩ ⟨by decide, by decide⟩ rfl rfl (fun rr hh hp => ?_)
  obtain ⟨rfl, e1⟩ := hp
  have e1 := ap_sl (by simp) e1
  subst e1
  show am_Z X 25 [.ref k, .ref c] [.ref (h.length + 1), .ref k] _ 2 6
  refine am_putF hB d_ML_init_25 P_ML_20_5 (hR.name.trans rfl) (ap_old (am_rs (ap_old r))) (by simp) (am_fit.r rfl (Or.inl ⟨_, rfl⟩)) rfl ?_
  refine am_aload_n hB d_ML_init_28 rfl rfl rfl ?_
  refine am_new hB d_ML_init_29 N_ML_9 (by rw [hR.room]; decide) (by rw [hR.room]; decide) (q := h.length + 2) (by simp) rfl rfl rfl ?_
  refine am_dup hB d_ML_init_32 rfl ?_
  refine am_aload_n hB d_ML_init_33 rfl rfl rfl ?_
  refine am_callI hB hR (as := [.ref c]) (m_SL_init (ap_nw (by simp))) c_ML_11 rfl rfl d_ML_init_34 ⟨by decide, Nat.le_of_ble_eq_true rfl⟩ ⟨by decide, by decide⟩ rfl rfl (fun rr hh hp => ?_)
  obtain ⟨rfl, e2⟩ := hp
  have e2 := ap_sl (by simp) e2
  subst e2
  show am_Z X 37 [.ref k, .ref c] [.ref (h.length + 2), .ref k] _ 3 9
  refine am_putF hB d_ML_init_37 P_ML_23_5 (hR.name.trans rfl) (ap_old (am_rs (ap_old (am_rs (ap_old r))))) (by simp) (am_fit.r rfl (Or.inl ⟨_, rfl⟩)) rfl ?_
  refine am_vret hB hR d_ML_init_40 rfl ?_ (by decide) (by decide)
  exact ⟨rfl, by simp, (am_rs (ap_old (am_rs (ap_old (am_rs (ap_old r)))))), ⟨(am_rn (by omega) (ap_old (am_rn (by omega) (ap_old (am_rn (by omega) (ap_nw (by simp))))))), (am_rn (by omega) (ap_old (am_rn (by omega) (ap_nw (by simp))))), (am_rn (by omega) (ap_nw (by simp)))⟩, ((ko.app.tr (ko.set k _ (by omega) (by omega))).tr (ko.app.tr (ko.set k _ (by omega) (by omega)))).tr (ko.app.tr (ko.set k _ (by omega) (by omega)))⟩
abbrev nw_FR : va_E := .inr (2, [.null, .null, .null, .int 0, .int 0])
theorem m_FR_init {l : Launch} {G : am_G} {h : am_H} {k c : Nat} (r : h[k]? = some nw_FR) : am_M l G M_FR_init [.ref k, .ref c] h (fun r h' => r = none ∧ h'.length = h.length + 3 ∧ h'[k]? = some (ce_FR (h.length) (h.length + 1) (h.length + 2) 0 0) ∧ (h'[h.length]? = some (ce_SL c 0 0) ∧ h'[h.length + 1]? = some (ce_SL c 0 0) ∧ h'[h.length + 2]? = some (ce_SL c 0 0)) ∧ ko k 1 h h') := by
  have hk := am_lt r
  refine am_M.of (by decide) (Nat.le_of_ble_eq_true rfl) (fun X hB hR => ?_)
  show am_Z X 0 [.ref k, .ref c] [] h 0 0
  refine am_aload_n hB d_FR_init_0 rfl rfl rfl ?_
  refine am_obj hB hR d_FR_init_1 O_FR_1 ⟨by decide, Nat.le_of_ble_eq_true rfl⟩ ?_
  refine am_aload_n hB d_FR_init_4 rfl rfl rfl ?_
  refine am_new hB d_FR_init_5 N_FR_7 (by rw [hR.room]; decide) (by rw [hR.room]; decide) (q := h.length) rfl rfl rfl rfl ?_
  refine am_dup hB d_FR_init_8 rfl ?_
  refine am_aload_n hB d_FR_init_9 rfl rfl rfl ?_
  refine am_callI hB hR (as := [.ref c]) (m_SL_init (ap_nw (by simp))) c_FR_9 rfl rfl d_FR_init_10 ⟨by decide, Nat.le_of_ble_eq_true rfl⟩ ⟨by decide, by decide⟩ rfl rfl (fun rr hh hp => ?_)
  obtain ⟨rfl, e0⟩ := hp
  have e0 := ap_sl (by simp) e0
  subst e0
  show am_Z X 13 [.ref k, .ref c] [.ref (h.length), .ref k] _ 1 3
  refine am_putF hB d_FR_init_13 P_FR_12_2 (hR.name.trans rfl) (ap_old r) (by simp) (am_fit.r rfl (Or.inl ⟨_, rfl⟩)) rfl ?_
  refine am_aload_n hB d_FR_init_16 rfl rfl rfl ?_
  refine am_new hB d_FR_init_17 N_FR_7 (by rw [hR.room]; decide) (by rw [hR.room]; decide) (q := h.length + 1) (by simp) rfl rfl rfl ?_
  refine am_dup hB d_FR_init_20 rfl ?_
  refine am_aload_n hB d_FR_init_21 rfl rfl rfl ?_
  refine am_callI hB hR (as := [.ref c]) (m_SL_init (ap_nw (by simp))) c_FR_9 rfl rfl d_FR_init_22 ⟨by decide, Nat.le_of_ble_eq_true rfl⟩ ⟨by decide, by decide⟩ rfl rfl (fun rr hh hp => ?_)
  obtain ⟨rfl, e1⟩ := hp
  have e1 := ap_sl (by simp) e1
  subst e1
  show am_Z X 25 [.ref k, .ref c] [.ref (h.length + 1), .ref k] _ 2 6
  refine am_putF hB d_FR_init_25 P_FR_18_2 (hR.name.trans rfl) (ap_old (am_rs (ap_old r))) (by simp) (am_fit.r rfl (Or.inl ⟨_, rfl⟩)) rfl ?_
  refine am_aload_n hB d_FR_init_28 rfl rfl rfl ?_
  refine am_new hB d_FR_init_29 N_FR_7 (by rw [hR.room]; decide) (by rw [hR.room]; decide) (q := h.length + 2) (by simp) rfl rfl rfl ?_
  refine am_dup hB d_FR_init_32 rfl ?_
  refine am_aload_n hB d_FR_init_33 rfl rfl rfl ?_
  refine am_callI hB hR (as := [.ref c]) (m_SL_init (ap_nw (by simp))) c_FR_9 rfl rfl d_FR_init_34 ⟨by decide, Nat.le_of_ble_eq_true rfl⟩ ⟨by decide, by decide⟩ rfl rfl (fun rr hh hp => ?_)
  obtain ⟨rfl, e2⟩ := hp
  have e2 := ap_sl (by simp) e2
  subst e2
  show am_Z X 37 [.ref k, .ref c] [.ref (h.length + 2), .ref k] _ 3 9
  refine am_putF hB d_FR_init_37 P_FR_21_2 (hR.name.trans rfl) (ap_old (am_rs (ap_old (am_rs (ap_old r))))) (by simp) (am_fit.r rfl (Or.inl ⟨_, rfl⟩)) rfl ?_
  refine am_vret hB hR d_FR_init_40 rfl ?_ (by decide) (by decide)
  exact ⟨rfl, by simp, (am_rs (ap_old (am_rs (ap_old (am_rs (ap_old r)))))), ⟨(am_rn (by omega) (ap_old (am_rn (by omega) (ap_old (am_rn (by omega) (ap_nw (by simp))))))), (am_rn (by omega) (ap_old (am_rn (by omega) (ap_nw (by simp))))), (am_rn (by omega) (ap_nw (by simp)))⟩, ((ko.app.tr (ko.set k _ (by omega) (by omega))).tr (ko.app.tr (ko.set k _ (by omega) (by omega)))).tr (ko.app.tr (ko.set k _ (by omega) (by omega)))⟩
theorem am_cok0 : am_cok (fun _ => 0) := fun _ => ⟨Int.le_refl 0, show (0 : Int) < 65536 by decide⟩
theorem m_FO_init {l : Launch} {G : am_G} {h : am_H} {k c ci : Nat} {tl : List Value} (hci : ci = 4 ∨ ci = 9) (r : h[k]? = some (.inr (ci, .null :: tl))) : am_M l G M_FO_init [.ref k, .ref c] h (fun r h' => r = none ∧ h' = h.set k (.inr (ci, .ref c :: tl))) := by
  rcases hci with rfl | rfl
  · refine am_M.of (by decide) (Nat.le_of_ble_eq_true rfl) (fun X hB hR => ?_)
    show am_Z X 0 [.ref k, .ref c] [] h 0 0
    refine am_aload_n hB d_FO_init_0 rfl rfl rfl ?_
    refine am_obj hB hR d_FO_init_1 O_FO_3 ⟨by decide, Nat.le_of_ble_eq_true rfl⟩ ?_
    refine am_aload_n hB d_FO_init_4 rfl rfl rfl ?_
    refine am_aload_n hB d_FO_init_5 rfl rfl rfl ?_
    refine am_putF hB d_FO_init_6 P_FO_9_4 (hR.name.trans rfl) r (by simp) (am_fit.r rfl (Or.inr ⟨_, rfl⟩)) rfl ?_
    refine am_vret hB hR d_FO_init_9 rfl ?_ (Nat.zero_le _) (Nat.zero_le _)
    exact ⟨rfl, rfl⟩
  · refine am_M.of (by decide) (Nat.le_of_ble_eq_true rfl) (fun X hB hR => ?_)
    show am_Z X 0 [.ref k, .ref c] [] h 0 0
    refine am_aload_n hB d_FO_init_0 rfl rfl rfl ?_
    refine am_obj hB hR d_FO_init_1 O_FO_3 ⟨by decide, Nat.le_of_ble_eq_true rfl⟩ ?_
    refine am_aload_n hB d_FO_init_4 rfl rfl rfl ?_
    refine am_aload_n hB d_FO_init_5 rfl rfl rfl ?_
    refine am_putF hB d_FO_init_6 P_FO_9_9 (hR.name.trans rfl) r (by simp) (am_fit.r rfl (Or.inr ⟨_, rfl⟩)) rfl ?_
    refine am_vret hB hR d_FO_init_9 rfl ?_ (Nat.zero_le _) (Nat.zero_le _)
    exact ⟨rfl, rfl⟩
abbrev nw_TX : va_E := .inr (8, [.null, .int 0, .int 0])
theorem m_TX_init {l : Launch} {G : am_G} {h : am_H} {k N : Nat} (r : h[k]? = some nw_TX) (hl : h.length = k + 1) (hN : N = 600 ∨ N = 1000) : am_M l G M_TX_init [.ref k, am_n N] h (fun r h' => r = none ∧ h'.length = k + 2 ∧ am_txt h' k (k + 1) N [] ∧ ko k 2 h h') := by
  have n1 : ¬ am_i N < 0 := by rcases hN with rfl | rfl <;> decide
  have n2 : (am_i N).toNatClampNeg = N := by rcases hN with rfl | rfl <;> decide
  refine am_M.of (by decide) (Nat.le_of_ble_eq_true rfl) (fun X hB hR => ?_)
  show am_Z X 0 [.ref k, am_n N] [] h 0 0
  refine am_aload_n hB d_TX_init_0 rfl rfl rfl ?_
  refine am_obj hB hR d_TX_init_1 O_TX_3 ⟨by decide, Nat.le_of_ble_eq_true rfl⟩ ?_
  refine am_aload_n hB d_TX_init_4 rfl rfl rfl ?_
  refine am_iload_n hB d_TX_init_5 rfl rfl ?_
  refine am_newC hB d_TX_init_6 ty_0 tb_58 n1 n2 (by omega) (by rw [hR.room]; decide) (by rw [hR.room]; show 0 + N ≤ 1000; omega) (q := k + 1) hl rfl rfl rfl ?_
  refine am_putF hB d_TX_init_8 P_TX_9_8 (hR.name.trans rfl) (ap_old r) (by simp) (am_fit.r rfl (Or.inr ⟨_, rfl⟩)) rfl ?_
  refine am_vret hB hR d_TX_init_11 rfl ?_ (by decide) (by show 0 + N ≤ 1000; omega)
  refine ⟨rfl, by simp [hl], ⟨fun _ => 0, 0, 0, am_rs (ap_old r), am_rn (by omega) (ap_nw hl.symm), am_cok0, ⟨by omega, by omega, Or.inl ⟨rfl, rfl, fun j hj => absurd hj (Nat.not_lt_zero j)⟩⟩, by omega⟩, ko.app.tr (ko.set k _ (by omega) (by omega))⟩
abbrev nw_CB : va_E := .inr (1, [.null, .null, .null, .null, .int 0, .int 0])
theorem m_CB_init {l : Launch} {G : am_G} {h : am_H} {k : Nat} (r : h[k]? = some nw_CB) (hl : h.length = k + 1) : am_M l G M_CB_init [.ref k] h (fun r h' => r = none ∧ h'.length = k + 5 ∧ am_cb h' k (fun _ => 0) (fun _ => 0) (fun _ => 0) (fun _ => 0) 0 0 ∧ ko k 5 h h') := by
  refine am_M.of (by decide) (Nat.le_of_ble_eq_true rfl) (fun X hB hR => ?_)
  show am_Z X 0 [.ref k] [] h 0 0
  refine am_aload_n hB d_CB_init_0 rfl rfl rfl ?_
  refine am_obj hB hR d_CB_init_1 O_CB_3 ⟨by decide, Nat.le_of_ble_eq_true rfl⟩ ?_
  refine am_aload_n hB d_CB_init_4 rfl rfl rfl ?_
  refine ai_bipush hB d_CB_init_5 (by decide) ?_
  refine am_newJ hB d_CB_init_7 ty_2 tb_220 (by decide) (N := 16) (by decide) (by decide) (by rw [hR.room]; decide) (by rw [hR.room]; decide) (q := k + 1) hl rfl rfl rfl ?_
  refine am_putF hB d_CB_init_9 P_CB_9_1 (hR.name.trans rfl) (ap_old r) (by simp) (am_fit.r rfl (Or.inr ⟨_, rfl⟩)) rfl ?_
  refine am_aload_n hB d_CB_init_12 rfl rfl rfl ?_
  refine ai_bipush hB d_CB_init_13 (by decide) ?_
  refine am_newI hB d_CB_init_15 ty_1 tb_221 (by decide) (N := 16) (by decide) (by decide) (by rw [hR.room]; decide) (by rw [hR.room]; decide) (q := k + 2) (by simp [hl]) rfl rfl rfl ?_
  refine am_putF hB d_CB_init_17 P_CB_15_1 (hR.name.trans rfl) (ap_old (am_rs (ap_old r))) (by simp) (am_fit.r rfl (Or.inr ⟨_, rfl⟩)) rfl ?_
  refine am_aload_n hB d_CB_init_20 rfl rfl rfl ?_
  refine ai_bipush hB d_CB_init_21 (by decide) ?_
  refine am_newI hB d_CB_init_23 ty_1 tb_221 (by decide) (N := 16) (by decide) (by decide) (by rw [hR.room]; decide) (by rw [hR.room]; decide) (q := k + 3) (by simp [hl]) rfl rfl rfl ?_
  refine am_putF hB d_CB_init_25 P_CB_19_1 (hR.name.trans rfl) (ap_old (am_rs (ap_old (am_rs (ap_old r))))) (by simp) (am_fit.r rfl (Or.inr ⟨_, rfl⟩)) rfl ?_
  refine am_aload_n hB d_CB_init_28 rfl rfl rfl ?_
  refine ai_bipush hB d_CB_init_29 (by decide) ?_
  refine am_newI hB d_CB_init_31 ty_1 tb_221 (by decide) (N := 16) (by decide) (by decide) (by rw [hR.room]; decide) (by rw [hR.room]; decide) (q := k + 4) (by simp [hl]) rfl rfl rfl ?_
  refine am_putF hB d_CB_init_33 P_CB_22_1 (hR.name.trans rfl) (ap_old (am_rs (ap_old (am_rs (ap_old (am_rs (ap_old r))))))) (by simp) (am_fit.r rfl (Or.inr ⟨_, rfl⟩)) rfl ?_
  refine am_vret hB hR d_CB_init_36 rfl ?_ (by decide) (by decide)
  refine ⟨rfl, by simp [hl], ⟨am_rs (ap_old (am_rs (ap_old (am_rs (ap_old (am_rs (ap_old r))))))), ?_, ?_, ?_, ?_⟩, ((((((ko.app.tr (ko.set k _ (by omega) (by omega))).tr ko.app).tr (ko.set k _ (by omega) (by omega))).tr ko.app).tr (ko.set k _ (by omega) (by omega))).tr ko.app).tr (ko.set k _ (by omega) (by omega))⟩
  · exact am_rn (by omega) (ap_old (am_rn (by omega) (ap_old (am_rn (by omega) (ap_old (am_rn (by omega) (ap_nw hl.symm)))))))
  · exact am_rn (by omega) (ap_old (am_rn (by omega) (ap_old (am_rn (by omega) (ap_nw (by simp [hl]))))))
  · exact am_rn (by omega) (ap_old (am_rn (by omega) (ap_nw (by simp [hl]))))
  · exact am_rn (by omega) (ap_nw (by simp [hl]))
