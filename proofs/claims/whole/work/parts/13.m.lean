/-! more of Slice and Text -/
def sp_lp (f : Int → Int) (a : Int) : Nat → Int
  | 0 => -1
  | n + 1 => if f (a + n) = 46 then a + n else sp_lp f a n
theorem m_SL_lastPoint {l : Launch} {G : am_G} {h : am_H} {k c n : Nat} {f t : Int} {g : Int → Int} (r : h[k]? = some (ce_SL c f t)) (q : h[c]? = some (am_ia 0 n g)) (hg : am_cok g) (b : 0 ≤ f ∧ f ≤ t ∧ t ≤ n) (hn : n < 1000000) : am_M l G M_SL_lastPoint [.ref k] h (am_is (am_n (sp_lp g f (t - f).toNat)) h) := by
  refine am_M.of (by decide) (Nat.le_of_ble_eq_true rfl) (fun X hB hR => ?_)
  show am_Z X 0 [.ref k, am_u] [] h 0 0
  have loop : ∀ (m : Nat) (i : Int), i = f + m - 1 → f + m ≤ t → sp_lp g f (t - f).toNat = sp_lp g f m → am_Z X 7 [.ref k, am_n i] [] h 0 0 := by
    intro m
    induction m with
    | zero =>
      intro i hi hm hs
      refine am_iload_n hB d_SL_lastPoint_7 rfl rfl ?_
      refine am_aload_n hB d_SL_lastPoint_8 rfl rfl rfl ?_
      refine am_getf hB d_SL_lastPoint_9 F_SL_15_7 (by assumption) rfl ?_
      refine ai_jlt (tgt := 34) hB d_SL_lastPoint_12 (by decide) (fun hc => ?_) (fun hc => ?_)
      · refine ai_const hB d_SL_lastPoint_34 ?_
        refine am_iret hB hR d_SL_lastPoint_35 rfl rfl ?_ (Nat.zero_le _) (Nat.zero_le _)
        rw [hs]
        exact ⟨rfl, rfl⟩
      · omega
    | succ m ih =>
      intro i hi hm hs
      refine am_iload_n hB d_SL_lastPoint_7 rfl rfl ?_
      refine am_aload_n hB d_SL_lastPoint_8 rfl rfl rfl ?_
      refine am_getf hB d_SL_lastPoint_9 F_SL_15_7 (by assumption) rfl ?_
      refine ai_jlt (tgt := 34) hB d_SL_lastPoint_12 (by decide) (fun hc => ?_) (fun hc => ?_)
      · omega
      refine am_aload_n hB d_SL_lastPoint_15 rfl rfl rfl ?_
      refine am_getf hB d_SL_lastPoint_16 F_SL_9_7 (by assumption) rfl ?_
      refine am_iload_n hB d_SL_lastPoint_19 rfl rfl ?_
      refine ai_cald hB d_SL_lastPoint_20 ty_0 (by assumption) ?_
      refine ai_bipush hB d_SL_lastPoint_21 (by decide) ?_
      have z := hg i
      have ei : f + (m : Int) = i := by omega
      refine ai_jne (tgt := 28) hB d_SL_lastPoint_23 (by decide) (fun hd => ?_) (fun hd => ?_)
      · refine ai_inc hB d_SL_lastPoint_28 rfl (by rw [hR.nL]; decide) rfl ?_
        refine am_goto (tgt := 7) hB d_SL_lastPoint_31 (by decide) (ih (i + -1) (by omega) (by omega) ?_)
        rw [hs, sp_lp, ei, if_neg hd]
      · refine am_iload_n hB d_SL_lastPoint_26 rfl rfl ?_
        refine am_iret hB hR d_SL_lastPoint_27 rfl rfl ?_ (Nat.zero_le _) (Nat.zero_le _)
        rw [hs, sp_lp, ei, if_pos hd]
        exact ⟨rfl, rfl⟩
  refine am_aload_n hB d_SL_lastPoint_0 rfl rfl rfl ?_
  refine am_getf hB d_SL_lastPoint_1 F_SL_19_7 (by assumption) rfl ?_
  refine ai_const hB d_SL_lastPoint_4 ?_
  refine ai_sub hB d_SL_lastPoint_5 ?_
  refine am_istore_n hB d_SL_lastPoint_6 rfl (by rw [hR.nL]; decide) rfl ?_
  exact loop (t - f).toNat (t - 1) (by omega) (by omega) rfl
def sp_dg (v u : Int) : List Int := if u ≤ v then [48 + v / u % 10] else []
def sp_num (v : Int) : List Int := sp_dg v 1000 ++ sp_dg v 100 ++ sp_dg v 10 ++ [48 + v / 1 % 10]
theorem m_TX_addNumber {l : Launch} {G : am_G} {h : am_H} {k c N : Nat} {out : List Int} {v : Int} (a : am_txt h k c N out) (h0 : 0 ≤ v) (h1 : v < 10000) : am_M l G M_TX_addNumber [.ref k, am_n v] h (am_tp h k c N (out ++ sp_num v)) := by
  refine am_M.of (by decide) (Nat.le_of_ble_eq_true rfl) (fun X hB hR => ?_)
  show am_Z X 0 [.ref k, am_n v, am_u] [] h 0 0
  have step : ∀ (u : Int) (o1 : List Int) (h1 : am_H), 1 ≤ u → u ≤ 1000 → am_txt h1 k c N o1 → am_fr [k, c] h h1 → (∀ h2 : am_H, am_txt h2 k c N (o1 ++ if u ≤ v ∨ u = 1 then [48 + v / u % 10] else []) → am_fr [k, c] h h2 → am_Z X 4 [.ref k, am_n v, am_n (u / 10)] [] h2 0 0) → am_Z X 4 [.ref k, am_n v, am_n u] [] h1 0 0 := by
    intro u o1 h1 hu hu2 b f kk
    have kk33 : ∀ h2 : am_H, am_txt h2 k c N (o1 ++ if u ≤ v ∨ u = 1 then [48 + v / u % 10] else []) → am_fr [k, c] h h2 → am_Z X 33 [.ref k, am_n v, am_n u] [] h2 0 0 := by
      intro h2 b2 f2
      refine am_iload_n hB d_TX_addNumber_33 rfl rfl ?_
      refine ai_bipush hB d_TX_addNumber_34 (by decide) ?_
      refine ai_div hB d_TX_addNumber_36 ?_
      refine am_istore_n hB d_TX_addNumber_37 rfl (by rw [hR.nL]; decide) rfl ?_
      refine am_goto (tgt := 4) hB d_TX_addNumber_38 (by decide) (kk h2 b2 f2)
    have kk19 : (u ≤ v ∨ u = 1) → am_Z X 19 [.ref k, am_n v, am_n u] [] h1 0 0 := by
      intro hq
      have d0 : 0 ≤ v / u := Int.ediv_nonneg h0 (by omega)
      have d1 : v / u ≤ v := Int.ediv_le_self u h0
      refine am_aload_n hB d_TX_addNumber_19 rfl rfl rfl ?_
      refine ai_bipush hB d_TX_addNumber_20 (by decide) ?_
      refine am_iload_n hB d_TX_addNumber_22 rfl rfl ?_
      refine am_iload_n hB d_TX_addNumber_23 rfl rfl ?_
      refine ai_div hB d_TX_addNumber_24 ?_
      refine ai_bipush hB d_TX_addNumber_25 (by decide) ?_
      refine ai_rem hB d_TX_addNumber_27 ?_
      refine ai_add hB d_TX_addNumber_28 ?_
      refine ai_i2c hB d_TX_addNumber_29 ?_
      have b' := b
      obtain ⟨g, s, o, r, q, -⟩ := b'
      refine am_callV hB hR (as := [am_n (48 + v / u % 10)]) r (m_TX_add b (by omega) (by omega)) c_TX_33 rfl rfl d_TX_addNumber_30 ⟨by decide, Nat.le_of_ble_eq_true rfl⟩ ⟨by decide, by decide⟩ rfl rfl (fun rr hh hp => ?_)
      obtain ⟨rfl, b2, f2⟩ := hp
      rw [if_pos hq] at kk33
      exact kk33 hh b2 (f.tr f2)
    refine am_iload_n hB d_TX_addNumber_4 rfl rfl ?_
    refine ai_const hB d_TX_addNumber_5 ?_
    refine ai_jlt (tgt := 41) hB d_TX_addNumber_6 (by decide) (fun hc => ?_) (fun hc => ?_)
    · omega
    refine am_iload_n hB d_TX_addNumber_9 rfl rfl ?_
    refine am_iload_n hB d_TX_addNumber_10 rfl rfl ?_
    refine ai_jge (tgt := 19) hB d_TX_addNumber_11 (by decide) (fun hd => ?_) (fun hd => ?_)
    · exact kk19 (Or.inl hd)
    refine am_iload_n hB d_TX_addNumber_14 rfl rfl ?_
    refine ai_const hB d_TX_addNumber_15 ?_
    refine ai_jne (tgt := 33) hB d_TX_addNumber_16 (by decide) (fun he => ?_) (fun he => ?_)
    · refine kk33 h1 ?_ f
      rw [if_neg (by omega), List.append_nil]
      exact b
    · exact kk19 (Or.inr he)
  refine ai_sipush hB d_TX_addNumber_0 (by decide) ?_
  refine am_istore_n hB d_TX_addNumber_3 rfl (by rw [hR.nL]; decide) rfl ?_
  refine step 1000 out h (by omega) (by omega) a am_fr.rf (fun h2 b2 f2 => ?_)
  refine step 100 _ h2 (by omega) (by omega) b2 f2 (fun h3 b3 f3 => ?_)
  refine step 10 _ h3 (by omega) (by omega) b3 f3 (fun h4 b4 f4 => ?_)
  refine step 1 _ h4 (by omega) (by omega) b4 f4 (fun h5 b5 f5 => ?_)
  show am_Z X 4 [.ref k, am_n v, am_n 0] [] h5 0 0
  refine am_iload_n hB d_TX_addNumber_4 rfl rfl ?_
  refine ai_const hB d_TX_addNumber_5 ?_
  refine ai_jlt (tgt := 41) hB d_TX_addNumber_6 (by decide) (fun hc => ?_) (fun hc => ?_)
  · refine am_vret hB hR d_TX_addNumber_41 rfl ?_ (Nat.zero_le _) (Nat.zero_le _)
    refine ⟨rfl, ?_, f5⟩
    have e1 : (1000 ≤ v ∨ (1000 : Int) = 1) ↔ 1000 ≤ v := by omega
    have e2 : (100 ≤ v ∨ (100 : Int) = 1) ↔ 100 ≤ v := by omega
    have e3 : (10 ≤ v ∨ (10 : Int) = 1) ↔ 10 ≤ v := by omega
    simp only [e1, e2, e3, or_true, if_true] at b5
    unfold sp_num sp_dg
    simp only [← List.append_assoc]
    exact b5
  · omega
/-- the first place from a on, of n, that holds x; behind them if there is none -/
def sp_ix (f : Int → Int) (x : Int) (a : Int) : Nat → Int
  | 0 => a
  | n + 1 => if f a = x then a else sp_ix f x (a + 1) n
theorem sp_ix_in (f : Int → Int) (x : Int) : ∀ (n : Nat) (a : Int), a ≤ sp_ix f x a n ∧ sp_ix f x a n ≤ a + n
  | 0, a => ⟨Int.le_refl a, by simp [sp_ix]⟩
  | n + 1, a => by
    have ih := sp_ix_in f x n (a + 1)
    unfold sp_ix
    split <;> omega
theorem sp_ix_snoc (f : Int → Int) (x : Int) : ∀ (n : Nat) (a : Int), sp_ix f x a (n + 1) = if sp_ix f x a n = a + n then (if f (a + n) = x then a + n else a + n + 1) else sp_ix f x a n
  | 0, a => by simp [sp_ix]
  | n + 1, a => by
    have ih := sp_ix_snoc f x n (a + 1)
    have hin := sp_ix_in f x n (a + 1)
    rw [sp_ix, ih]
    conv => rhs; rw [show sp_ix f x a (n + 1) = if f a = x then a else sp_ix f x (a + 1) n from rfl]
    have e : a + 1 + (n : Int) = a + ((n + 1 : Nat) : Int) := by omega
    by_cases q : f a = x
    · simp only [if_pos q]
      rw [if_neg (by omega)]
    · simp only [if_neg q]
      rw [e]
def sp_dl (f : Int → Int) (lo e : Int) : Nat → Int
  | 0 => e
  | n + 1 => sp_dl f lo (if f (lo + (n + 1)) = 36 then lo + (n + 1) else e) n
theorem sp_dl_ix (f : Int → Int) (lo : Int) : ∀ (n : Nat) (e : Int), sp_dl f lo e n = if sp_ix f 36 (lo + 1) n = lo + 1 + n then e else sp_ix f 36 (lo + 1) n
  | 0, e => by simp [sp_dl, sp_ix]
  | n + 1, e => by
    have hin := sp_ix_in f 36 n (lo + 1)
    rw [sp_dl, sp_dl_ix f lo n, sp_ix_snoc, show lo + ((n : Int) + 1) = lo + 1 + n by omega]
    by_cases q : sp_ix f 36 (lo + 1) n = lo + 1 + n
    · simp only [if_pos q]
      by_cases z : f (lo + 1 + n) = 36
      · simp only [if_pos z]
        rw [if_neg (by omega)]
      · simp only [if_neg z]
        rw [if_pos (by omega)]
    · simp only [if_neg q]
      rw [if_neg (by omega)]
/-- a file of a class name that stands at a .. b: from behind the last point to the first $ that isn't its beginning -/
def sp_fa (f : Int → Int) (a b : Int) : Int := if sp_lp f a (b - a).toNat = -1 then a else sp_lp f a (b - a).toNat + 1
def sp_fb (f : Int → Int) (a b : Int) : Int := sp_dl f (sp_fa f a b) b (b - 1 - sp_fa f a b).toNat
def sp_file (f : Int → Int) (a b : Int) : List Int := sp_sp f (sp_fa f a b) (sp_fb f a b - sp_fa f a b).toNat ++ sp_wd 13
theorem sp_lp_in (f : Int → Int) (a : Int) (h : 0 ≤ a) : ∀ n : Nat, sp_lp f a n = -1 ∨ (a ≤ sp_lp f a n ∧ sp_lp f a n < a + n)
  | 0 => Or.inl rfl
  | n + 1 => by
    have ih := sp_lp_in f a h n
    unfold sp_lp
    split <;> omega
theorem sp_fa_in (f : Int → Int) {a b : Int} (h : 0 ≤ a) (h1 : a ≤ b) : a ≤ sp_fa f a b ∧ sp_fa f a b ≤ b := by
  have := sp_lp_in f a h (b - a).toNat
  unfold sp_fa
  split <;> omega
theorem sp_fb_in (f : Int → Int) {a b : Int} (h : 0 ≤ a) (h1 : a ≤ b) : sp_fa f a b ≤ sp_fb f a b ∧ sp_fb f a b ≤ b := by
  have h2 := sp_fa_in f h h1
  unfold sp_fb
  rw [sp_dl_ix]
  have := sp_ix_in f 36 (b - 1 - sp_fa f a b).toNat (sp_fa f a b + 1)
  split <;> omega
theorem m_TX_addFileOf {l : Launch} {G : am_G} {h : am_H} {k c N q n z : Nat} {out : List Int} {f : Int → Int} {a b : Int} (t : am_txt h k c N out) (rz : h[z]? = some (ce_SL q a b)) (rq : h[q]? = some (am_ia 0 n f)) (hf : am_cok f) (h0 : 0 ≤ a) (h1 : a ≤ b) (h2 : b ≤ n) (h3 : n < 1000000) : am_M l G M_TX_addFileOf [.ref k, .ref z] h (am_tp h k c N (out ++ sp_file f a b)) := by
  have hlp := sp_lp_in f a h0 (b - a).toNat
  have hfa := sp_fa_in f h0 h1
  have hfb := sp_fb_in f h0 h1
  have cl : am_M l G M_SL_lastPoint [.ref z] h (am_is (am_n (sp_lp f a (b - a).toNat)) h) := m_SL_lastPoint rz rq hf ⟨h0, h1, h2⟩ h3
  refine am_M.of (by decide) (Nat.le_of_ble_eq_true rfl) (fun X hB hR => ?_)
  show am_Z X 0 [.ref k, .ref z, am_u, am_u, am_u] [] h 0 0
  have tl : ∀ e : Int, e = sp_fb f a b → am_Z X 62 [.ref k, .ref z, am_n (sp_fa f a b), am_n e, am_n (sp_fa f a b)] [] h 0 0 := by
    intro e he
    subst he
    refine am_aload_n hB d_TX_addFileOf_62 rfl rfl rfl ?_
    refine am_aload_n hB d_TX_addFileOf_63 rfl rfl rfl ?_
    refine am_getf hB d_TX_addFileOf_64 F_TX_37_7 (by assumption) rfl ?_
    refine am_iload_n hB d_TX_addFileOf_67 rfl rfl ?_
    refine am_iload_n hB d_TX_addFileOf_68 rfl rfl ?_
    have t' := t
    obtain ⟨g, s, o, r, -⟩ := t'
    refine am_callV hB hR (as := [.ref q, am_n (sp_fa f a b), am_n (sp_fb f a b)]) r (m_TX_addSpan t rq hf (by omega) (by omega) (by omega) h3) c_TX_46 rfl rfl d_TX_addFileOf_69 ⟨by decide, Nat.le_of_ble_eq_true rfl⟩ ⟨by decide, by decide⟩ rfl rfl (fun rr hh hp => ?_)
    obtain ⟨rfl, b2, f2⟩ := hp
    refine am_aload_n hB d_TX_addFileOf_72 rfl rfl rfl ?_
    refine am_ldcS hB d_TX_addFileOf_73 (List.mem_of_getElem? (i := 17) rfl) ?_
    have b' := b2
    obtain ⟨g, s, o, r', -⟩ := b'
    refine am_callV hB hR (as := [.retAddr 13]) r' (m_TX_addWord b2 (by decide)) c_TX_61 rfl rfl d_TX_addFileOf_75 ⟨by decide, Nat.le_of_ble_eq_true rfl⟩ ⟨by decide, by decide⟩ rfl rfl (fun rr hh hp => ?_)
    obtain ⟨rfl, b3, f3⟩ := hp
    refine am_vret hB hR d_TX_addFileOf_78 rfl ?_ (Nat.zero_le _) (Nat.zero_le _)
    refine ⟨rfl, ?_, f2.tr f3⟩
    unfold sp_file
    rw [← List.append_assoc]
    exact b3
  have loop : ∀ (m : Nat) (i e : Int), i = sp_fa f a b + m → i < b ∨ m = 0 → sp_fb f a b = sp_dl f (sp_fa f a b) e m → am_Z X 35 [.ref k, .ref z, am_n (sp_fa f a b), am_n e, am_n i] [] h 0 0 := by
    intro m
    induction m with
    | zero =>
      intro i e hi hb hs
      refine am_iload hB d_TX_addFileOf_35 rfl ?_
      refine am_iload_n hB d_TX_addFileOf_37 rfl rfl ?_
      refine ai_jle (tgt := 62) hB d_TX_addFileOf_38 (by decide) (fun hc => ?_) (fun hc => ?_)
      · have ei : i = sp_fa f a b := by omega
        rw [ei]
        exact tl e hs.symm
      · omega
    | succ m ih =>
      intro i e hi hb hs
      refine am_iload hB d_TX_addFileOf_35 rfl ?_
      refine am_iload_n hB d_TX_addFileOf_37 rfl rfl ?_
      refine ai_jle (tgt := 62) hB d_TX_addFileOf_38 (by decide) (fun hc => ?_) (fun hc => ?_)
      · omega
      refine am_aload_n hB d_TX_addFileOf_41 rfl rfl rfl ?_
      refine am_getf hB d_TX_addFileOf_42 F_TX_37_7 (by assumption) rfl ?_
      refine am_iload hB d_TX_addFileOf_45 rfl ?_
      refine ai_cald hB d_TX_addFileOf_47 ty_0 (by assumption) ?_
      refine ai_bipush hB d_TX_addFileOf_48 (by decide) ?_
      have z1 := hf i
      have ei : sp_fa f a b + ((m : Int) + 1) = i := by omega
      refine ai_jne (tgt := 56) hB d_TX_addFileOf_50 (by decide) (fun hd => ?_) (fun hd => ?_)
      · refine ai_inc hB d_TX_addFileOf_56 rfl (by rw [hR.nL]; decide) rfl ?_
        refine am_goto (tgt := 35) hB d_TX_addFileOf_59 (by decide) (ih (i + -1) e (by omega) (by omega) ?_)
        rw [hs, sp_dl, ei, if_neg hd]
      · refine am_iload hB d_TX_addFileOf_53 rfl ?_
        refine am_istore_n hB d_TX_addFileOf_55 rfl (by rw [hR.nL]; decide) rfl ?_
        refine ai_inc hB d_TX_addFileOf_56 rfl (by rw [hR.nL]; decide) rfl ?_
        refine am_goto (tgt := 35) hB d_TX_addFileOf_59 (by decide) (ih (i + -1) i (by omega) (by omega) ?_)
        rw [hs, sp_dl, ei, if_pos hd]
  have mid : ∀ e : Int, e = sp_fa f a b → am_Z X 21 [.ref k, .ref z, am_u, am_u, am_u] [am_n e] h 0 0 := by
    intro e he
    subst he
    refine am_istore_n hB d_TX_addFileOf_21 rfl (by rw [hR.nL]; decide) rfl ?_
    refine am_aload_n hB d_TX_addFileOf_22 rfl rfl rfl ?_
    refine am_getf hB d_TX_addFileOf_23 F_TX_43_7 (by assumption) rfl ?_
    refine am_istore_n hB d_TX_addFileOf_26 rfl (by rw [hR.nL]; decide) rfl ?_
    refine am_aload_n hB d_TX_addFileOf_27 rfl rfl rfl ?_
    refine am_getf hB d_TX_addFileOf_28 F_TX_43_7 (by assumption) rfl ?_
    refine ai_const hB d_TX_addFileOf_31 ?_
    refine ai_sub hB d_TX_addFileOf_32 ?_
    refine am_istore hB d_TX_addFileOf_33 (by rw [hR.nL]; decide) rfl ?_
    by_cases hz : b - 1 < sp_fa f a b
    · have e1 : sp_fb f a b = b := by
        unfold sp_fb
        rw [show (b - 1 - sp_fa f a b).toNat = 0 by omega]
        rfl
      have e2 : sp_fa f a b = b := by omega
      refine am_iload hB d_TX_addFileOf_35 rfl ?_
      refine am_iload_n hB d_TX_addFileOf_37 rfl rfl ?_
      refine ai_jle (tgt := 62) hB d_TX_addFileOf_38 (by decide) (fun hc => ?_) (fun hc => ?_)
      · refine am_aload_n hB d_TX_addFileOf_62 rfl rfl rfl ?_
        refine am_aload_n hB d_TX_addFileOf_63 rfl rfl rfl ?_
        refine am_getf hB d_TX_addFileOf_64 F_TX_37_7 (by assumption) rfl ?_
        refine am_iload_n hB d_TX_addFileOf_67 rfl rfl ?_
        refine am_iload_n hB d_TX_addFileOf_68 rfl rfl ?_
        have t' := t
        obtain ⟨g, s, o, r, -⟩ := t'
        refine am_callV hB hR (as := [.ref q, am_n (sp_fa f a b), am_n b]) r (m_TX_addSpan t rq hf (by omega) (by omega) (by omega) h3) c_TX_46 rfl rfl d_TX_addFileOf_69 ⟨by decide, Nat.le_of_ble_eq_true rfl⟩ ⟨by decide, by decide⟩ rfl rfl (fun rr hh hp => ?_)
        obtain ⟨rfl, b2, f2⟩ := hp
        refine am_aload_n hB d_TX_addFileOf_72 rfl rfl rfl ?_
        refine am_ldcS hB d_TX_addFileOf_73 (List.mem_of_getElem? (i := 17) rfl) ?_
        have b' := b2
        obtain ⟨g, s, o, r', -⟩ := b'
        refine am_callV hB hR (as := [.retAddr 13]) r' (m_TX_addWord b2 (by decide)) c_TX_61 rfl rfl d_TX_addFileOf_75 ⟨by decide, Nat.le_of_ble_eq_true rfl⟩ ⟨by decide, by decide⟩ rfl rfl (fun rr hh hp => ?_)
        obtain ⟨rfl, b3, f3⟩ := hp
        refine am_vret hB hR d_TX_addFileOf_78 rfl ?_ (Nat.zero_le _) (Nat.zero_le _)
        refine ⟨rfl, ?_, f2.tr f3⟩
        unfold sp_file
        rw [← List.append_assoc, e1]
        exact b3
      · omega
    · exact loop (b - 1 - sp_fa f a b).toNat (b - 1) b (by omega) (by omega) rfl
  refine am_aload_n hB d_TX_addFileOf_0 rfl rfl rfl ?_
  refine am_callV hB hR (as := []) rz cl c_TX_56 rfl rfl d_TX_addFileOf_1 ⟨by decide, Nat.le_of_ble_eq_true rfl⟩ ⟨by decide, by decide⟩ rfl rfl (fun rr hh hp => ?_)
  obtain ⟨rfl, rfl⟩ := hp
  refine ai_const hB d_TX_addFileOf_4 ?_
  refine ai_jne (tgt := 15) hB d_TX_addFileOf_5 (by decide) (fun hc => ?_) (fun hc => ?_)
  · refine am_aload_n hB d_TX_addFileOf_15 rfl rfl rfl ?_
    refine am_callV hB hR (as := []) rz cl c_TX_56 rfl rfl d_TX_addFileOf_16 ⟨by decide, Nat.le_of_ble_eq_true rfl⟩ ⟨by decide, by decide⟩ rfl rfl (fun rr hh hp => ?_)
    obtain ⟨rfl, rfl⟩ := hp
    refine ai_const hB d_TX_addFileOf_19 ?_
    refine ai_add hB d_TX_addFileOf_20 ?_
    refine mid _ ?_
    unfold sp_fa
    rw [if_neg hc]
  · refine am_aload_n hB d_TX_addFileOf_8 rfl rfl rfl ?_
    refine am_getf hB d_TX_addFileOf_9 F_TX_40_7 (by assumption) rfl ?_
    refine am_goto (tgt := 21) hB d_TX_addFileOf_12 (by decide) (mid _ ?_)
    unfold sp_fa
    rw [if_pos hc]
theorem m_TX_sizeW {l : Launch} {G : am_G} {h : am_H} {k c N : Nat} {g : Int → Int} {s o : Int} (r : h[k]? = some (ce_TX c s o)) (q : h[c]? = some (am_ia 0 N g)) (hg : am_cok g) (h0 : 0 ≤ s) (h1 : s ≤ N) (hN : N < 1000000) : am_M l G M_TX_sizeWithoutEmptyLastLine [.ref k] h (am_is (am_n (if 0 < s ∧ g (s - 1) = 10 then s - 1 else s)) h) := by
  refine am_M.of (by decide) (Nat.le_of_ble_eq_true rfl) (fun X hB hR => ?_)
  show am_Z X 0 [.ref k] [] h 0 0
  refine am_aload_n hB d_TX_sizeWithoutEmptyLastLine_0 rfl rfl rfl ?_
  refine am_getf hB d_TX_sizeWithoutEmptyLastLine_1 F_TX_15_8 (by assumption) rfl ?_
  refine ai_zle (tgt := 32) hB d_TX_sizeWithoutEmptyLastLine_4 (by decide) (fun hc => ?_) (fun hc => ?_)
  · refine am_aload_n hB d_TX_sizeWithoutEmptyLastLine_32 rfl rfl rfl ?_
    refine am_getf hB d_TX_sizeWithoutEmptyLastLine_33 F_TX_15_8 (by assumption) rfl ?_
    refine am_iret hB hR d_TX_sizeWithoutEmptyLastLine_36 rfl rfl ?_ (Nat.zero_le _) (Nat.zero_le _)
    rw [if_neg (by omega)]
    exact ⟨rfl, rfl⟩
  refine am_aload_n hB d_TX_sizeWithoutEmptyLastLine_7 rfl rfl rfl ?_
  refine am_getf hB d_TX_sizeWithoutEmptyLastLine_8 F_TX_9_8 (by assumption) rfl ?_
  refine am_aload_n hB d_TX_sizeWithoutEmptyLastLine_11 rfl rfl rfl ?_
  refine am_getf hB d_TX_sizeWithoutEmptyLastLine_12 F_TX_15_8 (by assumption) rfl ?_
  refine ai_const hB d_TX_sizeWithoutEmptyLastLine_15 ?_
  refine ai_sub hB d_TX_sizeWithoutEmptyLastLine_16 ?_
  refine ai_cald hB d_TX_sizeWithoutEmptyLastLine_17 ty_0 (by assumption) ?_
  refine ai_bipush hB d_TX_sizeWithoutEmptyLastLine_18 (by decide) ?_
  have z := hg (s - 1)
  refine ai_jne (tgt := 32) hB d_TX_sizeWithoutEmptyLastLine_20 (by decide) (fun hd => ?_) (fun hd => ?_)
  · refine am_aload_n hB d_TX_sizeWithoutEmptyLastLine_32 rfl rfl rfl ?_
    refine am_getf hB d_TX_sizeWithoutEmptyLastLine_33 F_TX_15_8 (by assumption) rfl ?_
    refine am_iret hB hR d_TX_sizeWithoutEmptyLastLine_36 rfl rfl ?_ (Nat.zero_le _) (Nat.zero_le _)
    rw [if_neg (by omega)]
    exact ⟨rfl, rfl⟩
  · refine am_aload_n hB d_TX_sizeWithoutEmptyLastLine_23 rfl rfl rfl ?_
    refine am_getf hB d_TX_sizeWithoutEmptyLastLine_24 F_TX_15_8 (by assumption) rfl ?_
    refine ai_const hB d_TX_sizeWithoutEmptyLastLine_27 ?_
    refine ai_sub hB d_TX_sizeWithoutEmptyLastLine_28 ?_
    refine am_goto (tgt := 36) hB d_TX_sizeWithoutEmptyLastLine_29 (by decide) ?_
    refine am_iret hB hR d_TX_sizeWithoutEmptyLastLine_36 rfl rfl ?_ (Nat.zero_le _) (Nat.zero_le _)
    rw [if_pos ⟨hc, hd⟩]
    exact ⟨rfl, rfl⟩
theorem m_TX_placeOf {l : Launch} {G : am_G} {h : am_H} {k c N : Nat} {g : Int → Int} {s o x a b : Int} (r : h[k]? = some (ce_TX c s o)) (q : h[c]? = some (am_ia 0 N g)) (hg : am_cok g) (h0 : 0 ≤ a) (h1 : a ≤ b) (h2 : b ≤ N) (hN : N < 1000000) (x0 : 0 ≤ x) (x1 : x < 65536) : am_M l G M_TX_placeOf [.ref k, am_n x, am_n a, am_n b] h (am_is (am_n (sp_ix g x a (b - a).toNat)) h) := by
  refine am_M.of (by decide) (Nat.le_of_ble_eq_true rfl) (fun X hB hR => ?_)
  show am_Z X 0 [.ref k, am_n x, am_n a, am_n b, am_u] [] h 0 0
  have loop : ∀ (m : Nat) (i : Int), 0 ≤ i → i + m = b → sp_ix g x a (b - a).toNat = sp_ix g x i m → am_Z X 3 [.ref k, am_n x, am_n a, am_n b, am_n i] [] h 0 0 := by
    intro m
    induction m with
    | zero =>
      intro i hi hm hs
      refine am_iload hB d_TX_placeOf_3 rfl ?_
      refine am_iload_n hB d_TX_placeOf_5 rfl rfl ?_
      refine ai_jge (tgt := 29) hB d_TX_placeOf_6 (by decide) (fun hc => ?_) (fun hc => ?_)
      · refine am_iload_n hB d_TX_placeOf_29 rfl rfl ?_
        refine am_iret hB hR d_TX_placeOf_30 rfl rfl ?_ (Nat.zero_le _) (Nat.zero_le _)
        rw [hs, sp_ix, show i = b by omega]
        exact ⟨rfl, rfl⟩
      · omega
    | succ m ih =>
      intro i hi hm hs
      refine am_iload hB d_TX_placeOf_3 rfl ?_
      refine am_iload_n hB d_TX_placeOf_5 rfl rfl ?_
      refine ai_jge (tgt := 29) hB d_TX_placeOf_6 (by decide) (fun hc => ?_) (fun hc => ?_)
      · omega
      refine am_aload_n hB d_TX_placeOf_9 rfl rfl rfl ?_
      refine am_getf hB d_TX_placeOf_10 F_TX_9_8 (by assumption) rfl ?_
      refine am_iload hB d_TX_placeOf_13 rfl ?_
      refine ai_cald hB d_TX_placeOf_15 ty_0 (by assumption) ?_
      refine am_iload_n hB d_TX_placeOf_16 rfl rfl ?_
      have z := hg i
      refine ai_jne (tgt := 23) hB d_TX_placeOf_17 (by decide) (fun hd => ?_) (fun hd => ?_)
      · refine ai_inc hB d_TX_placeOf_23 rfl (by rw [hR.nL]; decide) rfl ?_
        refine am_goto (tgt := 3) hB d_TX_placeOf_26 (by decide) (ih (i + 1) (by omega) (by omega) ?_)
        rw [hs, sp_ix, if_neg hd]
      · refine am_iload hB d_TX_placeOf_20 rfl ?_
        refine am_iret hB hR d_TX_placeOf_22 rfl rfl ?_ (Nat.zero_le _) (Nat.zero_le _)
        rw [hs, sp_ix, if_pos hd]
        exact ⟨rfl, rfl⟩
  refine am_iload_n hB d_TX_placeOf_0 rfl rfl ?_
  refine am_istore hB d_TX_placeOf_1 (by rw [hR.nL]; decide) rfl ?_
  exact loop (b - a).toNat a h0 (by omega) rfl
theorem m_TX_hasWordAt {l : Launch} {G : am_G} {h : am_H} {k c N w : Nat} {g : Int → Int} {s o a : Int} (r : h[k]? = some (ce_TX c s o)) (q : h[c]? = some (am_ia 0 N g)) (hg : am_cok g) (h0 : 0 ≤ a) (h1 : 0 ≤ s) (h2 : s ≤ N) (hN : N < 1000000) (ha : a < 1000000) (hw : w < 15) : am_M l G M_TX_hasWordAt [.ref k, am_n a, .retAddr w] h (am_is (am_n (sp_i (decide ((am_len.getD w 0 : Nat) ≤ s - a) && sp_same g (sp_ch w) a 0 (am_len.getD w 0)))) h) := by
  have hl := am_len_lt w hw
  refine am_M.of (by decide) (Nat.le_of_ble_eq_true rfl) (fun X hB hR => ?_)
  show am_Z X 0 [.ref k, am_n a, .retAddr w, am_u] [] h 0 0
  have loop : ∀ (m : Nat) (i : Int), 0 ≤ i → i + m = (am_len.getD w 0 : Nat) → ((am_len.getD w 0 : Nat) : Int) ≤ s - a → sp_same g (sp_ch w) a 0 (am_len.getD w 0) = sp_same g (sp_ch w) (a + i) i m → am_Z X 17 [.ref k, am_n a, .retAddr w, am_n i] [] h 0 0 := by
    intro m
    induction m with
    | zero =>
      intro i hi hm hq hs
      refine am_iload_n hB d_TX_hasWordAt_17 rfl rfl ?_
      refine am_aload_n hB d_TX_hasWordAt_18 rfl rfl rfl ?_
      refine am_callX hB hR (as := []) hw (m_S_length hw h) (cX_length lk_TX_23) rfl rfl d_TX_hasWordAt_19 ⟨by decide, Nat.le_of_ble_eq_true rfl⟩ ⟨by decide, by decide⟩ rfl rfl (fun rr hh hp => ?_)
      obtain ⟨rfl, rfl⟩ := hp
      refine ai_jge (tgt := 49) hB d_TX_hasWordAt_22 (by decide) (fun hc => ?_) (fun hc => ?_)
      · refine ai_const hB d_TX_hasWordAt_49 ?_
        refine am_iret hB hR d_TX_hasWordAt_50 rfl (by decide) ?_ (Nat.zero_le _) (Nat.zero_le _)
        rw [hs, decide_eq_true hq]
        exact ⟨rfl, rfl⟩
      · omega
    | succ m ih =>
      intro i hi hm hq hs
      refine am_iload_n hB d_TX_hasWordAt_17 rfl rfl ?_
      refine am_aload_n hB d_TX_hasWordAt_18 rfl rfl rfl ?_
      refine am_callX hB hR (as := []) hw (m_S_length hw h) (cX_length lk_TX_23) rfl rfl d_TX_hasWordAt_19 ⟨by decide, Nat.le_of_ble_eq_true rfl⟩ ⟨by decide, by decide⟩ rfl rfl (fun rr hh hp => ?_)
      obtain ⟨rfl, rfl⟩ := hp
      refine ai_jge (tgt := 49) hB d_TX_hasWordAt_22 (by decide) (fun hc => ?_) (fun hc => ?_)
      · omega
      refine am_aload_n hB d_TX_hasWordAt_25 rfl rfl rfl ?_
      refine am_getf hB d_TX_hasWordAt_26 F_TX_9_8 (by assumption) rfl ?_
      refine am_iload_n hB d_TX_hasWordAt_29 rfl rfl ?_
      refine am_iload_n hB d_TX_hasWordAt_30 rfl rfl ?_
      refine ai_add hB d_TX_hasWordAt_31 ?_
      refine ai_cald hB d_TX_hasWordAt_32 ty_0 (by assumption) ?_
      refine am_aload_n hB d_TX_hasWordAt_33 rfl rfl rfl ?_
      refine am_iload_n hB d_TX_hasWordAt_34 rfl rfl ?_
      refine am_callX hB hR (as := [am_n i]) hw (m_S_charAt hw hi (by omega) h) (cX_charAt lk_TX_29) rfl rfl d_TX_hasWordAt_35 ⟨by decide, Nat.le_of_ble_eq_true rfl⟩ ⟨by decide, by decide⟩ rfl rfl (fun rr hh hp => ?_)
      obtain ⟨rfl, rfl⟩ := hp
      obtain ⟨c1, c2, -⟩ := sp_ch_is hw hi (show i < (am_len.getD w 0 : Nat) by omega)
      have z := hg (a + i)
      refine ai_jeq (tgt := 43) hB d_TX_hasWordAt_38 (by decide) (fun hd => ?_) (fun hd => ?_)
      · refine ai_inc hB d_TX_hasWordAt_43 rfl (by rw [hR.nL]; decide) rfl ?_
        refine am_goto (tgt := 17) hB d_TX_hasWordAt_46 (by decide) (ih (i + 1) (by omega) (by omega) hq ?_)
        rw [hs, sp_same, decide_eq_true hd, Bool.true_and]
        congr 1
        omega
      · refine ai_const hB d_TX_hasWordAt_41 ?_
        refine am_iret hB hR d_TX_hasWordAt_42 rfl (by decide) ?_ (Nat.zero_le _) (Nat.zero_le _)
        rw [hs, sp_same, decide_eq_false hd, Bool.false_and, Bool.and_false]
        exact ⟨rfl, rfl⟩
  refine am_aload_n hB d_TX_hasWordAt_0 rfl rfl rfl ?_
  refine am_callX hB hR (as := []) hw (m_S_length hw h) (cX_length lk_TX_23) rfl rfl d_TX_hasWordAt_1 ⟨by decide, Nat.le_of_ble_eq_true rfl⟩ ⟨by decide, by decide⟩ rfl rfl (fun rr hh hp => ?_)
  obtain ⟨rfl, rfl⟩ := hp
  refine am_aload_n hB d_TX_hasWordAt_4 rfl rfl rfl ?_
  refine am_getf hB d_TX_hasWordAt_5 F_TX_15_8 (by assumption) rfl ?_
  refine am_iload_n hB d_TX_hasWordAt_8 rfl rfl ?_
  refine ai_sub hB d_TX_hasWordAt_9 ?_
  refine ai_jle (tgt := 15) hB d_TX_hasWordAt_10 (by decide) (fun hc => ?_) (fun hc => ?_)
  · refine ai_const hB d_TX_hasWordAt_15 ?_
    refine am_istore_n hB d_TX_hasWordAt_16 rfl (by rw [hR.nL]; decide) rfl ?_
    exact loop (am_len.getD w 0) 0 (by omega) (by omega) hc (by congr 1; omega)
  · refine ai_const hB d_TX_hasWordAt_13 ?_
    refine am_iret hB hR d_TX_hasWordAt_14 rfl (by decide) ?_ (Nat.zero_le _) (Nat.zero_le _)
    rw [decide_eq_false (by omega), Bool.false_and]
    exact ⟨rfl, rfl⟩
