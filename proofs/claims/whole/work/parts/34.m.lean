/-! what a rewriter writes, in words -/
theorem sp_lp_sh (f f' : Int → Int) (a a' : Int) : ∀ n : Nat, (∀ i : Nat, i < n → f (a + i) = f' (a' + i)) → (sp_lp f a n = -1 ∧ sp_lp f' a' n = -1) ∨ (∃ i : Nat, i < n ∧ sp_lp f a n = a + i ∧ sp_lp f' a' n = a' + i)
  | 0, _ => Or.inl ⟨rfl, rfl⟩
  | n + 1, h => by
    unfold sp_lp
    rw [← h n (by omega)]
    by_cases z : f (a + n) = 46
    · rw [if_pos z, if_pos z]
      exact Or.inr ⟨n, by omega, rfl, rfl⟩
    · rw [if_neg z, if_neg z]
      rcases sp_lp_sh f f' a a' n (fun i hi => h i (by omega)) with q | ⟨i, h1, h2, h3⟩
      · exact Or.inl q
      · exact Or.inr ⟨i, by omega, h2, h3⟩
theorem sp_sp_cg (f f' : Int → Int) (a a' : Int) : ∀ n : Nat, (∀ i : Nat, i < n → f (a + i) = f' (a' + i)) → sp_sp f a n = sp_sp f' a' n := by
  intro n h
  unfold sp_sp
  apply List.map_congr_left
  intro i hi
  exact h i (List.mem_range.mp hi)
theorem sp_dl_sh (f f' : Int → Int) (lo lo' : Int) : ∀ (n : Nat) (e e' : Int), e - lo = e' - lo' → (∀ i : Nat, 1 ≤ i → i ≤ n → f (lo + i) = f' (lo' + i)) → sp_dl f lo e n - lo = sp_dl f' lo' e' n - lo'
  | 0, e, e', h, _ => h
  | n + 1, e, e', h, hf => by
    unfold sp_dl
    refine sp_dl_sh f f' lo lo' n _ _ ?_ (fun i h0 hi => hf i h0 (by omega))
    have q := hf (n + 1) (by omega) (Nat.le_refl _)
    have q1 : f (lo + ((n : Int) + 1)) = f' (lo' + ((n : Int) + 1)) := q
    rw [← q1]
    by_cases z : f (lo + ((n : Int) + 1)) = 36
    · rw [if_pos z, if_pos z]
      omega
    · rw [if_neg z, if_neg z]
      exact h
theorem sp_file_cg {f f' : Int → Int} {a b a' b' : Int} (h0 : 0 ≤ a) (h0' : 0 ≤ a') (h1 : a ≤ b) (h2 : b - a = b' - a') (hf : ∀ i : Nat, i < (b - a).toNat → f (a + i) = f' (a' + i)) : sp_file f a b = sp_file f' a' b' := by
  have key : sp_fa f a b - a = sp_fa f' a' b' - a' ∧ a ≤ sp_fa f a b ∧ sp_fa f a b ≤ b := by
    unfold sp_fa
    rw [← h2]
    rcases sp_lp_sh f f' a a' (b - a).toNat hf with ⟨q1, q2⟩ | ⟨i, i1, i2, i3⟩
    · rw [q1, q2, if_pos rfl, if_pos rfl]
      omega
    · rw [i2, i3, if_neg (by omega), if_neg (by omega)]
      omega
  obtain ⟨k1, k2, k3⟩ := key
  have hin := sp_fb_in f h0 h1
  have key2 : sp_fb f a b - sp_fa f a b = sp_fb f' a' b' - sp_fa f' a' b' := by
    unfold sp_fb
    have e : (b' - 1 - sp_fa f' a' b').toNat = (b - 1 - sp_fa f a b).toNat := by omega
    rw [e]
    refine sp_dl_sh f f' _ _ _ _ _ (by omega) (fun i i0 hi => ?_)
    have := hf (sp_fa f a b - a + i).toNat (by omega)
    rw [show a + (((sp_fa f a b - a + i).toNat : Nat) : Int) = sp_fa f a b + i by omega, show a' + (((sp_fa f a b - a + i).toNat : Nat) : Int) = sp_fa f' a' b' + i by omega] at this
    exact this
  unfold sp_file
  rw [← key2]
  congr 1
  apply sp_sp_cg
  intro i hi
  have := hf (sp_fa f a b - a + i).toNat (by omega)
  rw [show a + (((sp_fa f a b - a + i).toNat : Nat) : Int) = sp_fa f a b + i by omega, show a' + (((sp_fa f a b - a + i).toNat : Nat) : Int) = sp_fa f' a' b' + i by omega] at this
  exact this
def fl (n : List Int) : Int → Int := fun i => n.getD i.toNat 0
theorem nm_get (g : Int → Int) (a b : Int) (i : Nat) (h : i < (b - a).toNat) : (nm g a b).getD i 0 = g (a + i) := by
  unfold nm sp_sp
  rw [List.getD_eq_getElem?_getD, List.getElem?_map, List.getElem?_range h]
  rfl
/-- the file of a class name -/
def fn_file (n : List Int) : List Int := sp_file (fl n) 0 n.length
theorem sp_file_nm {g : Int → Int} {a b : Int} (h0 : 0 ≤ a) (h1 : a ≤ b) : sp_file g a b = fn_file (nm g a b) := by
  unfold fn_file
  refine sp_file_cg h0 (Int.le_refl 0) h1 (by rw [nm_len]; omega) (fun i hi => ?_)
  unfold fl
  rw [show ((0 : Int) + (i : Nat)).toNat = i by omega, nm_get g a b i hi]
theorem mn_addSlice {l : Launch} {G : am_G} {h : am_H} {k c N z : Nat} {out n : List Int} (t : am_txt h k c N out) (sz : am_sn h z n) : am_M l G M_TX_addSlice [.ref k, .ref z] h (am_tp h k c N (out ++ n)) := by
  obtain ⟨cz, f, e, Nz, g, ⟨r, q, hg, h0, h1, h2, h3⟩, rfl⟩ := sz
  exact m_TX_addSlice t r q hg h0 h1 h2 h3
theorem mn_addFileOf {l : Launch} {G : am_G} {h : am_H} {k c N z : Nat} {out n : List Int} (t : am_txt h k c N out) (sz : am_sn h z n) : am_M l G M_TX_addFileOf [.ref k, .ref z] h (am_tp h k c N (out ++ fn_file n)) := by
  obtain ⟨cz, f, e, Nz, g, ⟨r, q, hg, h0, h1, h2, h3⟩, rfl⟩ := sz
  rw [← sp_file_nm h0 h1]
  exact m_TX_addFileOf t r q hg h0 h1 h2 h3
def w_open (o m : List Int) : List Int := sp_wd 5 ++ o ++ [46] ++ m ++ [40]
def w_close (z : Int) : List Int := (if z = -1 then [] else 58 :: sp_num z) ++ sp_wd 12
def w_same (f : pt_F) : List Int := w_open f.1.1 f.1.2.1 ++ f.1.2.2 ++ w_close f.2.2
def w_real (o m : List Int) (f : pt_F) : List Int := w_open o m ++ (if f.2.1 then fn_file o else f.1.2.2) ++ w_close f.2.2
def w_short (o m : List Int) (f : pt_F) : List Int := w_open o m ++ (if f.2.1 then sp_wd 14 else f.1.2.2) ++ w_close f.2.2
def w_head (i : Nat) (ty : List Int) (x : pt_H) : List Int := (if i = 0 then [] else sp_wd 3) ++ ty ++ (if x.1.2.1 then sp_wd 4 ++ x.1.2.2 else []) ++ [10]
def w_more (x : pt_H) : List Int := if x.2.1 = -1 then [] else sp_wd 6 ++ sp_num x.2.1 ++ sp_wd 7 ++ [10]
abbrev ce_RW (bT bM kp : Nat) (fc dc : Int) : va_E := .inr (6, [.ref bT, .ref bM, .ref kp, am_n fc, am_n dc])
def am_tw (h : am_H) (b c : Nat) (T : pt_S) : Prop := ∃ g t, am_tr h b c g t ∧ am_cok g ∧ tr_rep g t T
theorem am_mw.fr {A : List Nat} {h h1 : am_H} {b : Nat} {S : pm_S} (m : am_mw h b S) (f : am_fr A h h1) (ha : ∀ q ∈ A, q < b ∨ b + 157 ≤ q) : am_mw h1 b S := by
  obtain ⟨g, s, ⟨m0, m1, m2, m3, m4, mC, mL⟩, hg, R⟩ := m
  have no : ∀ q, b ≤ q → q < b + 157 → q ∉ A := fun q h1 h2 z => by have := ha q z; omega
  refine ⟨g, s, ⟨f.get (no _ (by omega) (by omega)) m0, f.get (no _ (by omega) (by omega)) m1, f.get (no _ (by omega) (by omega)) m2, f.get (no _ (by omega) (by omega)) m3, f.get (no _ (by omega) (by omega)) m4, fun i hi => ?_, fun i hi => ?_⟩, hg, R⟩
  · obtain ⟨c1, c2, c3⟩ := mC i hi
    exact ⟨f.get (no _ (by omega) (by omega)) c1, f.get (no _ (by omega) (by omega)) c2, f.get (no _ (by omega) (by omega)) c3⟩
  · obtain ⟨c1, c2, c3, c4⟩ := mL i hi
    exact ⟨f.get (no _ (by omega) (by omega)) c1, f.get (no _ (by omega) (by omega)) c2, f.get (no _ (by omega) (by omega)) c3, f.get (no _ (by omega) (by omega)) c4⟩
theorem am_tw.fr {A : List Nat} {h h1 : am_H} {b c : Nat} {T : pt_S} (m : am_tw h b c T) (f : am_fr A h h1) (ha : ∀ q ∈ A, (q < b ∨ b + 96 ≤ q) ∧ q ≠ c) : am_tw h1 b c T := by
  obtain ⟨g, t, ⟨m0, m1, m2⟩, hg, R⟩ := m
  exact ⟨g, t, ⟨fun q hq => f.get (fun z => by have := ha _ z; omega) (m0 q hq), f.get (fun z => (ha _ z).2 rfl) m1, m2⟩, hg, R⟩
/-- the rewriter's cell and the print's two are no cells of the mapping, the trace, or the codes -/
def rw_sep (k bT c bM kp cp : Nat) : Prop := ∀ q ∈ [k, kp, cp], (q < bM ∨ bM + 157 ≤ q) ∧ (q < bT ∨ bT + 96 ≤ q) ∧ q ≠ c
def rw_W (h : am_H) (k bT c bM kp cp : Nat) (T : pt_S) (S : pm_S) (out : List Int) (fc dc : Int) : Prop := h[k]? = some (ce_RW bT bM kp fc dc) ∧ am_tw h bT c T ∧ am_mw h bM S ∧ am_txt h kp cp 1000 out ∧ rw_sep k bT c bM kp cp ∧ (0 ≤ fc ∧ fc ≤ 10000) ∧ (0 ≤ dc ∧ dc ≤ 10000)
theorem am_txt.ne6 {h : am_H} {k kp cp N bT bM : Nat} {out : List Int} {fc dc : Int} (t : am_txt h kp cp N out) (r : h[k]? = some (ce_RW bT bM kp fc dc)) : k ≠ kp ∧ k ≠ cp := by
  obtain ⟨g, s, o, r1, q1, -⟩ := t
  exact ⟨am_ne r r1 (fun w => by cases w), am_ne r q1 (fun w => by cases w)⟩
theorem rw_W.txt {h h' : am_H} {k bT c bM kp cp : Nat} {T : pt_S} {S : pm_S} {out out' : List Int} {fc dc : Int} (w : rw_W h k bT c bM kp cp T S out fc dc) (a : am_txt h' kp cp 1000 out') (f : am_fr [kp, cp] h h') : rw_W h' k bT c bM kp cp T S out' fc dc := by
  obtain ⟨w1, w2, w3, w4, w5, w6⟩ := w
  have ne := w4.ne6 w1
  have sub : ∀ q ∈ [kp, cp], q ∈ [k, kp, cp] := fun q hq => List.mem_cons_of_mem _ hq
  exact ⟨f.get (by simp; exact ne) w1, w2.fr f (fun q hq => (w5 q (sub q hq)).2), w3.fr f (fun q hq => (w5 q (sub q hq)).1), a, w5, w6⟩
/-- a slice that keeps its name while only A is written -/
def am_ss (A : List Nat) (h : am_H) (z : Nat) (n : List Int) : Prop := ∀ h', am_fr A h h' → am_sn h' z n
theorem am_ss.fr {A : List Nat} {h h1 : am_H} {z : Nat} {n : List Int} (s : am_ss A h z n) (f : am_fr A h h1) : am_ss A h1 z n := fun h' f' => s h' (f.tr f')
/-- what a rewriter's method leaves -/
def rw_P (h : am_H) (k bT c bM kp cp : Nat) (T : pt_S) (S : pm_S) (out : List Int) (fc dc : Int) : am_Y := fun r h' => r = none ∧ rw_W h' k bT c bM kp cp T S out fc dc ∧ am_fr [k, kp, cp] h h'
theorem am_fr.two {h h' : am_H} {k kp cp : Nat} (f : am_fr [kp, cp] h h') : am_fr [k, kp, cp] h h' := f.mono (fun q hq => List.mem_cons_of_mem _ hq)
theorem rw_W.put {h : am_H} {k bT c bM kp cp : Nat} {T : pt_S} {S : pm_S} {out : List Int} {fc dc : Int} (w : rw_W h k bT c bM kp cp T S out fc dc) (fc' dc' : Int) (h1 : 0 ≤ fc' ∧ fc' ≤ 10000) (h2 : 0 ≤ dc' ∧ dc' ≤ 10000) : rw_W (h.set k (ce_RW bT bM kp fc' dc')) k bT c bM kp cp T S out fc' dc' ∧ am_fr [k, kp, cp] h (h.set k (ce_RW bT bM kp fc' dc')) := by
  obtain ⟨w1, w2, w3, w4, w5, w6⟩ := w
  have ne := w4.ne6 w1
  have f : am_fr [k] h (h.set k (ce_RW bT bM kp fc' dc')) := am_fr.set _ (by simp)
  have sub : ∀ q ∈ [k], q ∈ [k, kp, cp] := fun q hq => by simp at hq; subst hq; simp
  exact ⟨⟨am_rs w1, w2.fr f (fun q hq => (w5 q (sub q hq)).2), w3.fr f (fun q hq => (w5 q (sub q hq)).1), w4.fr f (by simp; exact Ne.symm ne.1) (by simp; exact Ne.symm ne.2), w5, h1, h2⟩, f.mono sub⟩
theorem m_RW_openFrame {l : Launch} {G : am_G} {h : am_H} {k bT c bM kp cp z1 z2 : Nat} {T : pt_S} {S : pm_S} {out n1 n2 : List Int} {fc dc : Int} (w : rw_W h k bT c bM kp cp T S out fc dc) (s1 : am_ss [k, kp, cp] h z1 n1) (s2 : am_ss [k, kp, cp] h z2 n2) (hfc : fc < 10000) : am_M l G M_RW_openFrame [.ref k, .ref z1, .ref z2] h (rw_P h k bT c bM kp cp T S (out ++ w_open n1 n2) (fc + 1) dc) := by
  refine am_M.of (by decide) (Nat.le_of_ble_eq_true rfl) (fun X hB hR => ?_)
  show am_Z X 0 [.ref k, .ref z1, .ref z2] [] h 0 0
  obtain ⟨_, _, _, x1, -⟩ := w.2.2.2.1
  refine am_aload_n hB d_RW_openFrame_0 rfl rfl rfl ?_
  refine am_getf hB d_RW_openFrame_1 F_RW_19_6 w.1 rfl ?_
  refine am_ldcS hB d_RW_openFrame_4 (List.mem_of_getElem? (i := 15) rfl) ?_
  refine am_callV hB hR (as := [.retAddr 5]) x1 (m_TX_addWord w.2.2.2.1 (by decide)) c_RW_175 rfl rfl d_RW_openFrame_6 ⟨by decide, Nat.le_of_ble_eq_true rfl⟩ ⟨by decide, by decide⟩ rfl rfl (fun rr hh hp => ?_)
  obtain ⟨rfl, a1, f1⟩ := hp
  have w1 := w.txt a1 f1
  obtain ⟨_, _, _, x2, -⟩ := a1
  show am_Z X 9 [.ref k, .ref z1, .ref z2] [] hh 0 0
  refine am_aload_n hB d_RW_openFrame_9 rfl rfl rfl ?_
  refine am_getf hB d_RW_openFrame_10 F_RW_19_6 w1.1 rfl ?_
  refine am_aload_n hB d_RW_openFrame_13 rfl rfl rfl ?_
  refine am_callV hB hR (as := [.ref z1]) x2 (mn_addSlice w1.2.2.2.1 (s1 _ f1.two)) c_RW_198 rfl rfl d_RW_openFrame_14 ⟨by decide, Nat.le_of_ble_eq_true rfl⟩ ⟨by decide, by decide⟩ rfl rfl (fun rr hh hp => ?_)
  obtain ⟨rfl, a2, f2⟩ := hp
  have w2 := w1.txt a2 f2
  have f12 := f1.tr f2
  obtain ⟨_, _, _, x3, -⟩ := a2
  show am_Z X 17 [.ref k, .ref z1, .ref z2] [] hh 0 0
  refine am_aload_n hB d_RW_openFrame_17 rfl rfl rfl ?_
  refine am_getf hB d_RW_openFrame_18 F_RW_19_6 w2.1 rfl ?_
  refine ai_bipush hB d_RW_openFrame_21 (by decide) ?_
  refine am_callV hB hR (as := [am_n 46]) x3 (m_TX_add w2.2.2.2.1 (by omega) (by omega)) c_RW_210 rfl rfl d_RW_openFrame_23 ⟨by decide, Nat.le_of_ble_eq_true rfl⟩ ⟨by decide, by decide⟩ rfl rfl (fun rr hh hp => ?_)
  obtain ⟨rfl, a3, f3⟩ := hp
  have w3 := w2.txt a3 f3
  have f13 := f12.tr f3
  obtain ⟨_, _, _, x4, -⟩ := a3
  show am_Z X 26 [.ref k, .ref z1, .ref z2] [] hh 0 0
  refine am_aload_n hB d_RW_openFrame_26 rfl rfl rfl ?_
  refine am_getf hB d_RW_openFrame_27 F_RW_19_6 w3.1 rfl ?_
  refine am_aload_n hB d_RW_openFrame_30 rfl rfl rfl ?_
  refine am_callV hB hR (as := [.ref z2]) x4 (mn_addSlice w3.2.2.2.1 (s2 _ f13.two)) c_RW_198 rfl rfl d_RW_openFrame_31 ⟨by decide, Nat.le_of_ble_eq_true rfl⟩ ⟨by decide, by decide⟩ rfl rfl (fun rr hh hp => ?_)
  obtain ⟨rfl, a4, f4⟩ := hp
  have w4 := w3.txt a4 f4
  have f14 := f13.tr f4
  obtain ⟨_, _, _, x5, -⟩ := a4
  show am_Z X 34 [.ref k, .ref z1, .ref z2] [] hh 0 0
  refine am_aload_n hB d_RW_openFrame_34 rfl rfl rfl ?_
  refine am_getf hB d_RW_openFrame_35 F_RW_19_6 w4.1 rfl ?_
  refine ai_bipush hB d_RW_openFrame_38 (by decide) ?_
  refine am_callV hB hR (as := [am_n 40]) x5 (m_TX_add w4.2.2.2.1 (by omega) (by omega)) c_RW_210 rfl rfl d_RW_openFrame_40 ⟨by decide, Nat.le_of_ble_eq_true rfl⟩ ⟨by decide, by decide⟩ rfl rfl (fun rr hh hp => ?_)
  obtain ⟨rfl, a5, f5⟩ := hp
  have w5 := w4.txt a5 f5
  have f15 := f14.tr f5
  show am_Z X 43 [.ref k, .ref z1, .ref z2] [] hh 0 0
  obtain ⟨w6, f6⟩ := w5.put (fc + 1) dc ⟨by have := w.2.2.2.2.2.1; omega, by omega⟩ w.2.2.2.2.2.2
  have b1 := w.2.2.2.2.2.1
  refine am_aload_n hB d_RW_openFrame_43 rfl rfl rfl ?_
  refine am_dup hB d_RW_openFrame_44 rfl ?_
  refine am_getf hB d_RW_openFrame_45 F_RW_232_6 w5.1 rfl ?_
  refine ai_const hB d_RW_openFrame_48 ?_
  refine ai_add hB d_RW_openFrame_49 ?_
  refine am_putf hB d_RW_openFrame_50 P_RW_232_6 w5.1 (by simp) am_fit.i rfl ?_
  refine am_vret hB hR d_RW_openFrame_53 rfl ?_ (Nat.zero_le _) (Nat.zero_le _)
  refine ⟨rfl, ?_, f15.two.tr f6⟩
  have : out ++ sp_wd 5 ++ n1 ++ [46] ++ n2 ++ [40] = out ++ w_open n1 n2 := by
    unfold w_open
    simp only [List.append_assoc]
  rw [← this]
  exact w6
