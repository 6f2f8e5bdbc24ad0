/-! crash keys -/
def kx_mix (k : Int64) (c : Int) : Int64 := (k ^^^ (am_i c).toInt64) * 1099511628211
theorem m_CB_mix {l : Launch} {G : am_G} {k : Int64} {c : Int} (h : am_H) : am_M l G M_CB_mix [.long k, am_n c] h (am_is (.long (kx_mix k c)) h) := by
  refine am_M.of (by decide) (Nat.le_of_ble_eq_true rfl) (fun X hB hR => ?_)
  show am_Z X 0 [.long k, am_u, am_n c] [] h 0 0
  refine am_lload_n hB d_CB_mix_0 rfl rfl ?_
  refine am_iload_n hB d_CB_mix_1 rfl rfl ?_
  refine am_i2l hB d_CB_mix_2 ?_
  refine am_lxor hB d_CB_mix_3 ?_
  refine am_ldc2 hB d_CB_mix_4 J_CB_90 ?_
  refine am_lmul hB d_CB_mix_7 ?_
  refine am_lret hB hR d_CB_mix_8 rfl ?_ (Nat.zero_le _) (Nat.zero_le _)
  exact ⟨rfl, rfl⟩
def kx_run {α : Type} (mx : α → Int → α) (g : Int → Int) : Nat → Int → α → α
  | 0, _, k => k
  | n + 1, a, k => kx_run mx g n (a + 1) (mx k (g a))
def kx_call {α : Type} (mx : α → Int → α) (g : Int → Int) (N : Int) (k : α) (a : Int) : α := mx (kx_run mx g (sp_ix g 40 a (N - a).toNat - a).toNat a k) 10
theorem m_CB_mixCall {l : Launch} {G : am_G} {h : am_H} {z c N : Nat} {g : Int → Int} {s o a : Int} {k : Int64} (r : h[z]? = some (ce_TX c s o)) (q : h[c]? = some (am_ia 0 N g)) (hg : am_cok g) (h0 : 0 ≤ a) (h1 : a ≤ s) (h2 : s ≤ N) (hN : N < 1000000) : am_M l G M_CB_mixCall [.long k, .ref z, am_n a] h (am_is (.long (kx_call kx_mix g s k a)) h) := by
  have hin := sp_ix_in g 40 (s - a).toNat a
  refine am_M.of (by decide) (Nat.le_of_ble_eq_true rfl) (fun X hB hR => ?_)
  show am_Z X 0 [.long k, am_u, .ref z, am_n a, am_u, am_u, am_u, am_u] [] h 0 0
  refine am_lload_n hB d_CB_mixCall_0 rfl rfl ?_
  refine am_lstore hB d_CB_mixCall_1 (by rw [hR.nL]; decide) rfl ?_
  refine am_aload_n hB d_CB_mixCall_3 rfl rfl rfl ?_
  refine ai_bipush hB d_CB_mixCall_4 (by decide) ?_
  refine am_iload_n hB d_CB_mixCall_6 rfl rfl ?_
  refine am_aload_n hB d_CB_mixCall_7 rfl rfl rfl ?_
  refine am_getf hB d_CB_mixCall_8 F_CB_34_8 r rfl ?_
  refine am_callV hB hR (as := [am_n 40, am_n a, am_n s]) r (m_TX_placeOf r q hg h0 h1 h2 hN (by omega) (by omega)) c_CB_75 rfl rfl d_CB_mixCall_11 ⟨by decide, Nat.le_of_ble_eq_true rfl⟩ ⟨by decide, by decide⟩ rfl rfl (fun rr hh hp => ?_)
  obtain ⟨rfl, rfl⟩ := hp
  show am_Z X 14 [.long k, am_u, .ref z, am_n a, .long k, am_u, am_u, am_u] [am_n (sp_ix g 40 a (s - a).toNat)] h 0 0
  generalize hE : sp_ix g 40 a (s - a).toNat = E at hin
  have loop : ∀ (d : Nat) (i : Int) (k' : Int64), 0 ≤ i → i + d = E → kx_run kx_mix g (E - a).toNat a k = kx_run kx_mix g d i k' → am_Z X 19 [.long k, am_u, .ref z, am_n a, .long k', am_u, am_n E, am_n i] [] h 0 0 := by
    intro d
    induction d with
    | zero =>
      intro i k' hi hd hs
      refine am_iload hB d_CB_mixCall_19 rfl ?_
      refine am_iload hB d_CB_mixCall_21 rfl ?_
      refine ai_jge (tgt := 46) hB d_CB_mixCall_23 (by decide) (fun c1 => ?_) (fun c1 => ?_)
      · refine am_lload hB d_CB_mixCall_46 rfl ?_
        refine ai_bipush hB d_CB_mixCall_48 (by decide) ?_
        refine am_callS hB hR (as := [.long k', am_n 10]) (m_CB_mix h) c_CB_79 rfl rfl d_CB_mixCall_50 ⟨by decide, Nat.le_of_ble_eq_true rfl⟩ ⟨by decide, by decide⟩ rfl rfl (fun rr hh hp => ?_)
        obtain ⟨rfl, rfl⟩ := hp
        show am_Z X 53 [.long k, am_u, .ref z, am_n a, .long k', am_u, am_n E, am_n i] [.long (kx_mix k' 10)] h 0 0
        refine am_lret hB hR d_CB_mixCall_53 rfl ?_ (Nat.zero_le _) (Nat.zero_le _)
        unfold kx_call
        rw [hE, hs]
        exact ⟨rfl, rfl⟩
      · omega
    | succ d ih =>
      intro i k' hi hd hs
      have zi := hg i
      refine am_iload hB d_CB_mixCall_19 rfl ?_
      refine am_iload hB d_CB_mixCall_21 rfl ?_
      refine ai_jge (tgt := 46) hB d_CB_mixCall_23 (by decide) (fun c1 => ?_) (fun c1 => ?_)
      · omega
      refine am_lload hB d_CB_mixCall_26 rfl ?_
      refine am_aload_n hB d_CB_mixCall_28 rfl rfl rfl ?_
      refine am_getf hB d_CB_mixCall_29 F_CB_37_8 r rfl ?_
      refine am_iload hB d_CB_mixCall_32 rfl ?_
      refine ai_cald hB d_CB_mixCall_34 ty_0 q ?_
      refine am_callS hB hR (as := [.long k', am_n (g i)]) (m_CB_mix h) c_CB_79 rfl rfl d_CB_mixCall_35 ⟨by decide, Nat.le_of_ble_eq_true rfl⟩ ⟨by decide, by decide⟩ rfl rfl (fun rr hh hp => ?_)
      obtain ⟨rfl, rfl⟩ := hp
      show am_Z X 38 [.long k, am_u, .ref z, am_n a, .long k', am_u, am_n E, am_n i] [.long (kx_mix k' (g i))] h 0 0
      refine am_lstore hB d_CB_mixCall_38 (by rw [hR.nL]; decide) rfl ?_
      refine ai_inc hB d_CB_mixCall_40 rfl (by rw [hR.nL]; decide) rfl ?_
      exact am_goto (tgt := 19) hB d_CB_mixCall_43 (by decide) (ih (i + 1) (kx_mix k' (g i)) (by omega) (by omega) (by rw [hs, kx_run]))
  refine am_istore hB d_CB_mixCall_14 (by rw [hR.nL]; decide) rfl ?_
  refine am_iload_n hB d_CB_mixCall_16 rfl rfl ?_
  refine am_istore hB d_CB_mixCall_17 (by rw [hR.nL]; decide) rfl ?_
  exact loop (E - a).toNat a k h0 (by omega) rfl
def kx_fl {α : Type} (mx : α → Int → α) (g : Int → Int) (lo : Int) : Nat → Int → α → α
  | 0, _, k => k
  | n + 1, i, k => kx_fl mx g lo n (i + 1) (if sp_fig (g i) = true then (if i = lo ∨ sp_fig (g (i - 1)) = false then mx k 48 else k) else mx k (g i))
theorem m_CB_mixWF {l : Launch} {G : am_G} {h : am_H} {z c N : Nat} {g : Int → Int} {s o a b : Int} {k : Int64} (r : h[z]? = some (ce_TX c s o)) (q : h[c]? = some (am_ia 0 N g)) (hg : am_cok g) (h0 : 0 ≤ a) (ha : a < 1000000) (h2 : b ≤ N) (hb : 0 ≤ b) (hN : N < 1000000) : am_M l G M_CB_mixWithoutFigures [.long k, .ref z, am_n a, am_n b] h (am_is (.long (kx_fl kx_mix g a (b - a).toNat a k)) h) := by
  refine am_M.of (by decide) (Nat.le_of_ble_eq_true rfl) (fun X hB hR => ?_)
  show am_Z X 0 [.long k, am_u, .ref z, am_n a, am_n b, am_u, am_u, am_u, am_u] [] h 0 0
  have loop : ∀ (d : Nat) (i : Int) (k' : Int64) (v8 : Value), a ≤ i → i < 1000001 → (b - i).toNat = d → kx_fl kx_mix g a (b - a).toNat a k = kx_fl kx_mix g a d i k' → am_Z X 6 [.long k, am_u, .ref z, am_n a, am_n b, .long k', am_u, am_n i, v8] [] h 0 0 := by
    intro d
    induction d with
    | zero =>
      intro i k' v8 hi hib hd hs
      refine am_iload hB d_CB_mixWithoutFigures_6 rfl ?_
      refine am_iload hB d_CB_mixWithoutFigures_8 rfl ?_
      refine ai_jge (tgt := 78) hB d_CB_mixWithoutFigures_10 (by decide) (fun c1 => ?_) (fun c1 => ?_)
      · refine am_lload hB d_CB_mixWithoutFigures_78 rfl ?_
        refine am_lret hB hR d_CB_mixWithoutFigures_80 rfl ?_ (Nat.zero_le _) (Nat.zero_le _)
        rw [hs]
        exact ⟨rfl, rfl⟩
      · omega
    | succ d ih =>
      intro i k' v8 hi hib hd hs
      have z1 := hg i
      have z2 := hg (i - 1)
      rw [kx_fl] at hs
      have next : ∀ (k2 : Int64), (if sp_fig (g i) = true then (if i = a ∨ sp_fig (g (i - 1)) = false then kx_mix k' 48 else k') else kx_mix k' (g i)) = k2 → am_Z X 72 [.long k, am_u, .ref z, am_n a, am_n b, .long k2, am_u, am_n i, am_n (g i)] [] h 0 0 := by
        intro k2 hk
        rw [hk] at hs
        refine ai_inc hB d_CB_mixWithoutFigures_72 rfl (by rw [hR.nL]; decide) rfl ?_
        exact am_goto (tgt := 6) hB d_CB_mixWithoutFigures_75 (by decide) (ih (i + 1) k2 _ (by omega) (by omega) (by omega) hs)
      refine am_iload hB d_CB_mixWithoutFigures_6 rfl ?_
      refine am_iload hB d_CB_mixWithoutFigures_8 rfl ?_
      refine ai_jge (tgt := 78) hB d_CB_mixWithoutFigures_10 (by decide) (fun c1 => ?_) (fun c1 => ?_)
      · omega
      refine am_aload_n hB d_CB_mixWithoutFigures_13 rfl rfl rfl ?_
      refine am_getf hB d_CB_mixWithoutFigures_14 F_CB_37_8 r rfl ?_
      refine am_iload hB d_CB_mixWithoutFigures_17 rfl ?_
      refine ai_cald hB d_CB_mixWithoutFigures_19 ty_0 q ?_
      refine am_istore hB d_CB_mixWithoutFigures_20 (by rw [hR.nL]; decide) rfl ?_
      refine am_iload hB d_CB_mixWithoutFigures_22 rfl ?_
      refine am_callN hB hR (as := [am_n (g i)]) (m_isFigure z1.1 z1.2 h) c_CB_86 rfl rfl d_CB_mixWithoutFigures_24 ⟨by decide, Nat.le_of_ble_eq_true rfl⟩ ⟨by decide, by decide⟩ rfl rfl (fun rr hh hp => ?_)
      obtain ⟨rfl, rfl⟩ := hp
      cases hf : sp_fig (g i) with
      | false =>
        show am_Z X 27 [.long k, am_u, .ref z, am_n a, am_n b, .long k', am_u, am_n i, am_n (g i)] [am_n 0] h 0 0
        refine ai_zne (tgt := 42) hB d_CB_mixWithoutFigures_27 (by decide) (fun c2 => ?_) (fun c2 => ?_)
        · omega
        refine am_lload hB d_CB_mixWithoutFigures_30 rfl ?_
        refine am_iload hB d_CB_mixWithoutFigures_32 rfl ?_
        refine am_callS hB hR (as := [.long k', am_n (g i)]) (m_CB_mix h) c_CB_79 rfl rfl d_CB_mixWithoutFigures_34 ⟨by decide, Nat.le_of_ble_eq_true rfl⟩ ⟨by decide, by decide⟩ rfl rfl (fun rr hh hp => ?_)
        obtain ⟨rfl, rfl⟩ := hp
        show am_Z X 37 [.long k, am_u, .ref z, am_n a, am_n b, .long k', am_u, am_n i, am_n (g i)] [.long (kx_mix k' (g i))] h 0 0
        refine am_lstore hB d_CB_mixWithoutFigures_37 (by rw [hR.nL]; decide) rfl ?_
        refine am_goto (tgt := 72) hB d_CB_mixWithoutFigures_39 (by decide) ?_
        exact next _ (by rw [hf, if_neg (by decide)])
      | true =>
        show am_Z X 27 [.long k, am_u, .ref z, am_n a, am_n b, .long k', am_u, am_n i, am_n (g i)] [am_n 1] h 0 0
        have mix0 : (i = a ∨ sp_fig (g (i - 1)) = false) → am_Z X 63 [.long k, am_u, .ref z, am_n a, am_n b, .long k', am_u, am_n i, am_n (g i)] [] h 0 0 := by
          intro hz
          refine am_lload hB d_CB_mixWithoutFigures_63 rfl ?_
          refine ai_bipush hB d_CB_mixWithoutFigures_65 (by decide) ?_
          refine am_callS hB hR (as := [.long k', am_n 48]) (m_CB_mix h) c_CB_79 rfl rfl d_CB_mixWithoutFigures_67 ⟨by decide, Nat.le_of_ble_eq_true rfl⟩ ⟨by decide, by decide⟩ rfl rfl (fun rr hh hp => ?_)
          obtain ⟨rfl, rfl⟩ := hp
          show am_Z X 70 [.long k, am_u, .ref z, am_n a, am_n b, .long k', am_u, am_n i, am_n (g i)] [.long (kx_mix k' 48)] h 0 0
          refine am_lstore hB d_CB_mixWithoutFigures_70 (by rw [hR.nL]; decide) rfl ?_
          exact next _ (by rw [hf, if_pos rfl, if_pos hz])
        refine ai_zne (tgt := 42) hB d_CB_mixWithoutFigures_27 (by decide) (fun c2 => ?_) (fun c2 => ?_)
        · refine am_iload hB d_CB_mixWithoutFigures_42 rfl ?_
          refine am_iload_n hB d_CB_mixWithoutFigures_44 rfl rfl ?_
          refine ai_jeq (tgt := 63) hB d_CB_mixWithoutFigures_45 (by decide) (fun c3 => ?_) (fun c3 => ?_)
          · exact mix0 (Or.inl c3)
          refine am_aload_n hB d_CB_mixWithoutFigures_48 rfl rfl rfl ?_
          refine am_getf hB d_CB_mixWithoutFigures_49 F_CB_37_8 r rfl ?_
          refine am_iload hB d_CB_mixWithoutFigures_52 rfl ?_
          refine ai_const hB d_CB_mixWithoutFigures_54 ?_
          refine ai_sub hB d_CB_mixWithoutFigures_55 ?_
          refine ai_cald hB d_CB_mixWithoutFigures_56 ty_0 q ?_
          refine am_callN hB hR (as := [am_n (g (i - 1))]) (m_isFigure z2.1 z2.2 h) c_CB_86 rfl rfl d_CB_mixWithoutFigures_57 ⟨by decide, Nat.le_of_ble_eq_true rfl⟩ ⟨by decide, by decide⟩ rfl rfl (fun rr hh hp => ?_)
          obtain ⟨rfl, rfl⟩ := hp
          cases hf2 : sp_fig (g (i - 1)) with
          | false =>
            show am_Z X 60 [.long k, am_u, .ref z, am_n a, am_n b, .long k', am_u, am_n i, am_n (g i)] [am_n 0] h 0 0
            refine ai_zne (tgt := 72) hB d_CB_mixWithoutFigures_60 (by decide) (fun c4 => ?_) (fun c4 => ?_)
            · omega
            · exact mix0 (Or.inr hf2)
          | true =>
            show am_Z X 60 [.long k, am_u, .ref z, am_n a, am_n b, .long k', am_u, am_n i, am_n (g i)] [am_n 1] h 0 0
            refine ai_zne (tgt := 72) hB d_CB_mixWithoutFigures_60 (by decide) (fun c4 => ?_) (fun c4 => ?_)
            · exact next k' (by rw [hf, if_pos rfl, if_neg (by rintro (w | w); exact c3 w; rw [hf2] at w; cases w)])
            · omega
        · omega
  refine am_lload_n hB d_CB_mixWithoutFigures_0 rfl rfl ?_
  refine am_lstore hB d_CB_mixWithoutFigures_1 (by rw [hR.nL]; decide) rfl ?_
  refine am_iload_n hB d_CB_mixWithoutFigures_3 rfl rfl ?_
  refine am_istore hB d_CB_mixWithoutFigures_4 (by rw [hR.nL]; decide) rfl ?_
  exact loop (b - a).toNat a k _ (Int.le_refl a) (by omega) rfl rfl
/-- where x stands between a and b, or b -/
def sp_pl1 (g : Int → Int) (x a b : Int) : Int := if a ≤ b then sp_ix g x a (b - a).toNat else b
theorem mk_placeOf {l : Launch} {G : am_G} {h : am_H} {k c N : Nat} {g : Int → Int} {s o x a b : Int} (r : h[k]? = some (ce_TX c s o)) (q : h[c]? = some (am_ia 0 N g)) (hg : am_cok g) (h0 : 0 ≤ a) (h1 : 0 ≤ b) (h2 : b ≤ N) (hN : N < 1000000) (ha : a < 1000000) (x0 : 0 ≤ x) (x1 : x < 65536) : am_M l G M_TX_placeOf [.ref k, am_n x, am_n a, am_n b] h (am_is (am_n (sp_pl1 g x a b)) h) := by
  by_cases hab : a ≤ b
  · have := m_TX_placeOf (l := l) (G := G) (x := x) r q hg h0 hab h2 hN x0 x1
    rw [show sp_ix g x a (b - a).toNat = sp_pl1 g x a b from (if_pos hab).symm] at this
    exact this
  · refine am_M.of (by decide) (Nat.le_of_ble_eq_true rfl) (fun X hB hR => ?_)
    show am_Z X 0 [.ref k, am_n x, am_n a, am_n b, am_u] [] h 0 0
    refine am_iload_n hB d_TX_placeOf_0 rfl rfl ?_
    refine am_istore hB d_TX_placeOf_1 (by rw [hR.nL]; decide) rfl ?_
    refine am_iload hB d_TX_placeOf_3 rfl ?_
    refine am_iload_n hB d_TX_placeOf_5 rfl rfl ?_
    refine ai_jge (tgt := 29) hB d_TX_placeOf_6 (by decide) (fun hc => ?_) (fun hc => ?_)
    · refine am_iload_n hB d_TX_placeOf_29 rfl rfl ?_
      refine am_iret hB hR d_TX_placeOf_30 rfl rfl ?_ (Nat.zero_le _) (Nat.zero_le _)
      unfold sp_pl1
      rw [if_neg hab]
      exact ⟨rfl, rfl⟩
    · omega
def kx_head {α : Type} (mx : α → Int → α) (g : Int → Int) (k : α) (a e : Int) : α := mx (kx_fl mx g (sp_pl1 g 58 a e + 2) (e - (sp_pl1 g 58 a e + 2)).toNat (sp_pl1 g 58 a e + 2) (mx (kx_fl mx g a (sp_pl1 g 58 a e - a).toNat a k) 58)) 10
theorem sp_pl1_in (g : Int → Int) (x : Int) {a b : Int} (h0 : 0 ≤ a) (h1 : 0 ≤ b) : 0 ≤ sp_pl1 g x a b ∧ sp_pl1 g x a b ≤ b := by
  unfold sp_pl1
  have := sp_ix_in g x (b - a).toNat a
  split <;> omega
theorem m_CB_mixHeader {l : Launch} {G : am_G} {h : am_H} {z c N : Nat} {g : Int → Int} {s o a e : Int} {k : Int64} (r : h[z]? = some (ce_TX c s o)) (q : h[c]? = some (am_ia 0 N g)) (hg : am_cok g) (h0 : 0 ≤ a) (ha : a < 1000000) (h1 : 0 ≤ e) (h2 : e ≤ N) (hN : N < 999000) : am_M l G M_CB_mixHeader [.long k, .ref z, am_n a, am_n e] h (am_is (.long (kx_head kx_mix g k a e)) h) := by
  have hin := sp_pl1_in g 58 h0 h1
  refine am_M.of (by decide) (Nat.le_of_ble_eq_true rfl) (fun X hB hR => ?_)
  show am_Z X 0 [.long k, am_u, .ref z, am_n a, am_n e, am_u, am_u, am_u] [] h 0 0
  refine am_aload_n hB d_CB_mixHeader_0 rfl rfl rfl ?_
  refine ai_bipush hB d_CB_mixHeader_1 (by decide) ?_
  refine am_iload_n hB d_CB_mixHeader_3 rfl rfl ?_
  refine am_iload hB d_CB_mixHeader_4 rfl ?_
  refine am_callV hB hR (as := [am_n 58, am_n a, am_n e]) r (mk_placeOf r q hg h0 h1 h2 (by omega) ha (by omega) (by omega)) c_CB_75 rfl rfl d_CB_mixHeader_6 ⟨by decide, Nat.le_of_ble_eq_true rfl⟩ ⟨by decide, by decide⟩ rfl rfl (fun rr hh hp => ?_)
  obtain ⟨rfl, rfl⟩ := hp
  show am_Z X 9 [.long k, am_u, .ref z, am_n a, am_n e, am_u, am_u, am_u] [am_n (sp_pl1 g 58 a e)] h 0 0
  refine am_istore hB d_CB_mixHeader_9 (by rw [hR.nL]; decide) rfl ?_
  refine am_lload_n hB d_CB_mixHeader_11 rfl rfl ?_
  refine am_aload_n hB d_CB_mixHeader_12 rfl rfl rfl ?_
  refine am_iload_n hB d_CB_mixHeader_13 rfl rfl ?_
  refine am_iload hB d_CB_mixHeader_14 rfl ?_
  refine am_callS hB hR (as := [.long k, .ref z, am_n a, am_n (sp_pl1 g 58 a e)]) (m_CB_mixWF r q hg h0 ha (by omega) (by omega) (by omega)) c_CB_83 rfl rfl d_CB_mixHeader_16 ⟨by decide, Nat.le_of_ble_eq_true rfl⟩ ⟨by decide, by decide⟩ rfl rfl (fun rr hh hp => ?_)
  obtain ⟨rfl, rfl⟩ := hp
  show am_Z X 19 [.long k, am_u, .ref z, am_n a, am_n e, am_n (sp_pl1 g 58 a e), am_u, am_u] [.long (kx_fl kx_mix g a (sp_pl1 g 58 a e - a).toNat a k)] h 0 0
  refine am_lstore hB d_CB_mixHeader_19 (by rw [hR.nL]; decide) rfl ?_
  refine am_lload hB d_CB_mixHeader_21 rfl ?_
  refine ai_bipush hB d_CB_mixHeader_23 (by decide) ?_
  refine am_callS hB hR (as := [.long (kx_fl kx_mix g a (sp_pl1 g 58 a e - a).toNat a k), am_n 58]) (m_CB_mix h) c_CB_79 rfl rfl d_CB_mixHeader_25 ⟨by decide, Nat.le_of_ble_eq_true rfl⟩ ⟨by decide, by decide⟩ rfl rfl (fun rr hh hp => ?_)
  obtain ⟨rfl, rfl⟩ := hp
  show am_Z X 28 [.long k, am_u, .ref z, am_n a, am_n e, am_n (sp_pl1 g 58 a e), .long (kx_fl kx_mix g a (sp_pl1 g 58 a e - a).toNat a k), am_u] [.long (kx_mix (kx_fl kx_mix g a (sp_pl1 g 58 a e - a).toNat a k) 58)] h 0 0
  refine am_lstore hB d_CB_mixHeader_28 (by rw [hR.nL]; decide) rfl ?_
  refine am_lload hB d_CB_mixHeader_30 rfl ?_
  refine am_aload_n hB d_CB_mixHeader_32 rfl rfl rfl ?_
  refine am_iload hB d_CB_mixHeader_33 rfl ?_
  refine ai_const hB d_CB_mixHeader_35 ?_
  refine ai_add hB d_CB_mixHeader_36 ?_
  refine am_iload hB d_CB_mixHeader_37 rfl ?_
  refine am_callS hB hR (as := [.long (kx_mix (kx_fl kx_mix g a (sp_pl1 g 58 a e - a).toNat a k) 58), .ref z, am_n (sp_pl1 g 58 a e + 2), am_n e]) (m_CB_mixWF r q hg (by omega) (by omega) h2 h1 (by omega)) c_CB_83 rfl rfl d_CB_mixHeader_39 ⟨by decide, Nat.le_of_ble_eq_true rfl⟩ ⟨by decide, by decide⟩ rfl rfl (fun rr hh hp => ?_)
  obtain ⟨rfl, rfl⟩ := hp
  generalize hK : kx_fl kx_mix g (sp_pl1 g 58 a e + 2) (e - (sp_pl1 g 58 a e + 2)).toNat (sp_pl1 g 58 a e + 2) (kx_mix (kx_fl kx_mix g a (sp_pl1 g 58 a e - a).toNat a k) 58) = K
  show am_Z X 42 [.long k, am_u, .ref z, am_n a, am_n e, am_n (sp_pl1 g 58 a e), .long (kx_mix (kx_fl kx_mix g a (sp_pl1 g 58 a e - a).toNat a k) 58), am_u] [.long K] h 0 0
  refine am_lstore hB d_CB_mixHeader_42 (by rw [hR.nL]; decide) rfl ?_
  refine am_lload hB d_CB_mixHeader_44 rfl ?_
  refine ai_bipush hB d_CB_mixHeader_46 (by decide) ?_
  refine am_callS hB hR (as := [.long K, am_n 10]) (m_CB_mix h) c_CB_79 rfl rfl d_CB_mixHeader_48 ⟨by decide, Nat.le_of_ble_eq_true rfl⟩ ⟨by decide, by decide⟩ rfl rfl (fun rr hh hp => ?_)
  obtain ⟨rfl, rfl⟩ := hp
  show am_Z X 51 [.long k, am_u, .ref z, am_n a, am_n e, am_n (sp_pl1 g 58 a e), .long K, am_u] [.long (kx_mix K 10)] h 0 0
  refine am_lret hB hR d_CB_mixHeader_51 rfl ?_ (Nat.zero_le _) (Nat.zero_le _)
  unfold kx_head
  rw [hK]
  exact ⟨rfl, rfl⟩
def kx_same (g : Int → Int) : Nat → Int → Int → Bool
  | 0, _, _ => false
  | n + 1, a, b => if g a = g b then (if g a = 40 then true else kx_same g n (a + 1) (b + 1)) else false
theorem m_CB_isSameCall {l : Launch} {G : am_G} {h : am_H} {z c N : Nat} {g : Int → Int} {s o a b : Int} (r : h[z]? = some (ce_TX c s o)) (q : h[c]? = some (am_ia 0 N g)) (hg : am_cok g) (h0 : 0 ≤ a) (h1 : a ≤ b) (h2 : b ≤ s) (h3 : s ≤ N) (hN : N < 1000000) : am_M l G M_CB_isSameCall [.ref z, am_n a, am_n b] h (am_is (am_n (sp_i (kx_same g (s - b).toNat a b))) h) := by
  refine am_M.of (by decide) (Nat.le_of_ble_eq_true rfl) (fun X hB hR => ?_)
  show am_Z X 0 [.ref z, am_n a, am_n b, am_u, am_u] [] h 0 0
  refine am_aload_n hB d_CB_isSameCall_0 rfl rfl rfl ?_
  refine am_getf hB d_CB_isSameCall_1 F_CB_34_8 r rfl ?_
  refine am_iload_n hB d_CB_isSameCall_4 rfl rfl ?_
  refine am_iload_n hB d_CB_isSameCall_5 rfl rfl ?_
  refine am_max hB hR d_CB_isSameCall_6 S_CB_69 ⟨by decide, Nat.le_of_ble_eq_true rfl⟩ ⟨by decide, by decide⟩ ?_
  rw [show (if a < b then b else a) = b by split <;> omega]
  have loop : ∀ (d : Nat) (i : Int), 0 ≤ i → i + d = s - b → kx_same g (s - b).toNat a b = kx_same g d (a + i) (b + i) → am_Z X 14 [.ref z, am_n a, am_n b, am_n (s - b), am_n i] [] h 0 0 := by
    intro d
    induction d with
    | zero =>
      intro i hi hd hs
      refine am_iload hB d_CB_isSameCall_14 rfl ?_
      refine am_iload_n hB d_CB_isSameCall_16 rfl rfl ?_
      refine ai_jge (tgt := 65) hB d_CB_isSameCall_17 (by decide) (fun c1 => ?_) (fun c1 => ?_)
      · refine ai_const hB d_CB_isSameCall_65 ?_
        refine am_iret hB hR d_CB_isSameCall_66 rfl (by decide) ?_ (Nat.zero_le _) (Nat.zero_le _)
        rw [hs]
        exact ⟨rfl, rfl⟩
      · omega
    | succ d ih =>
      intro i hi hd hs
      have z1 := hg (a + i)
      have z2 := hg (b + i)
      rw [kx_same] at hs
      refine am_iload hB d_CB_isSameCall_14 rfl ?_
      refine am_iload_n hB d_CB_isSameCall_16 rfl rfl ?_
      refine ai_jge (tgt := 65) hB d_CB_isSameCall_17 (by decide) (fun c1 => ?_) (fun c1 => ?_)
      · omega
      refine am_aload_n hB d_CB_isSameCall_20 rfl rfl rfl ?_
      refine am_getf hB d_CB_isSameCall_21 F_CB_37_8 r rfl ?_
      refine am_iload_n hB d_CB_isSameCall_24 rfl rfl ?_
      refine am_iload hB d_CB_isSameCall_25 rfl ?_
      refine ai_add hB d_CB_isSameCall_27 ?_
      refine ai_cald hB d_CB_isSameCall_28 ty_0 q ?_
      refine am_aload_n hB d_CB_isSameCall_29 rfl rfl rfl ?_
      refine am_getf hB d_CB_isSameCall_30 F_CB_37_8 r rfl ?_
      refine am_iload_n hB d_CB_isSameCall_33 rfl rfl ?_
      refine am_iload hB d_CB_isSameCall_34 rfl ?_
      refine ai_add hB d_CB_isSameCall_36 ?_
      refine ai_cald hB d_CB_isSameCall_37 ty_0 q ?_
      refine ai_jeq (tgt := 43) hB d_CB_isSameCall_38 (by decide) (fun c2 => ?_) (fun c2 => ?_)
      · rw [if_pos c2] at hs
        refine am_aload_n hB d_CB_isSameCall_43 rfl rfl rfl ?_
        refine am_getf hB d_CB_isSameCall_44 F_CB_37_8 r rfl ?_
        refine am_iload_n hB d_CB_isSameCall_47 rfl rfl ?_
        refine am_iload hB d_CB_isSameCall_48 rfl ?_
        refine ai_add hB d_CB_isSameCall_50 ?_
        refine ai_cald hB d_CB_isSameCall_51 ty_0 q ?_
        refine ai_bipush hB d_CB_isSameCall_52 (by decide) ?_
        refine ai_jne (tgt := 59) hB d_CB_isSameCall_54 (by decide) (fun c3 => ?_) (fun c3 => ?_)
        · rw [if_neg c3] at hs
          refine ai_inc hB d_CB_isSameCall_59 rfl (by rw [hR.nL]; decide) rfl ?_
          exact am_goto (tgt := 14) hB d_CB_isSameCall_62 (by decide) (ih (i + 1) (by omega) (by omega) (by rw [hs, show a + i + 1 = a + (i + 1) by omega, show b + i + 1 = b + (i + 1) by omega]))
        · rw [if_pos (by omega)] at hs
          refine ai_const hB d_CB_isSameCall_57 ?_
          refine am_iret hB hR d_CB_isSameCall_58 rfl (by decide) ?_ (Nat.zero_le _) (Nat.zero_le _)
          rw [hs]
          exact ⟨rfl, rfl⟩
      · rw [if_neg c2] at hs
        refine ai_const hB d_CB_isSameCall_41 ?_
        refine am_iret hB hR d_CB_isSameCall_42 rfl (by decide) ?_ (Nat.zero_le _) (Nat.zero_le _)
        rw [hs]
        exact ⟨rfl, rfl⟩
  refine ai_sub hB d_CB_isSameCall_9 ?_
  refine am_istore_n hB d_CB_isSameCall_10 rfl (by rw [hR.nL]; decide) rfl ?_
  refine ai_const hB d_CB_isSameCall_11 ?_
  refine am_istore hB d_CB_isSameCall_12 (by rw [hR.nL]; decide) rfl ?_
  exact loop (s - b).toNat 0 (by omega) (by omega) (by rw [show a + 0 = a by omega, show b + 0 = b by omega])
