/-! the desk reports -/
section KxCg
variable {α : Type} {mx : α → Int → α} {g' g : Int → Int} {N : Int}
theorem kx_run_cg (E : ∀ i, 0 ≤ i → i < N → g' i = g i) : ∀ (n : Nat) (a : Int) (k : α), 0 ≤ a → a + n ≤ N → kx_run mx g' n a k = kx_run mx g n a k
  | 0, _, _, _, _ => rfl
  | n + 1, a, k, h0, h1 => by
    unfold kx_run
    rw [E a h0 (by omega), kx_run_cg E n (a + 1) _ (by omega) (by omega)]
theorem kx_ix_cg (E : ∀ i, 0 ≤ i → i < N → g' i = g i) (x : Int) : ∀ (n : Nat) (a : Int), 0 ≤ a → a + n ≤ N → sp_ix g' x a n = sp_ix g x a n
  | 0, _, _, _ => rfl
  | n + 1, a, h0, h1 => by
    unfold sp_ix
    rw [E a h0 (by omega), kx_ix_cg E x n (a + 1) (by omega) (by omega)]
theorem kx_fl_cg (E : ∀ i, 0 ≤ i → i < N → g' i = g i) (lo : Int) (hlo : 0 ≤ lo) : ∀ (n : Nat) (i : Int) (k : α), lo ≤ i → i + n ≤ N → kx_fl mx g' lo n i k = kx_fl mx g lo n i k
  | 0, _, _, _, _ => rfl
  | n + 1, i, k, h0, h1 => by
    unfold kx_fl
    rw [E i (by omega) (by omega), kx_fl_cg E lo hlo n (i + 1) _ (by omega) (by omega)]
    by_cases c : i = lo
    · simp only [c, true_or]
    · rw [E (i - 1) (by omega) (by omega)]
theorem kx_same_cg (E : ∀ i, 0 ≤ i → i < N → g' i = g i) : ∀ (n : Nat) (a b : Int), 0 ≤ a → a ≤ b → b + n ≤ N → kx_same g' n a b = kx_same g n a b
  | 0, _, _, _, _, _ => rfl
  | n + 1, a, b, h0, h1, h2 => by
    unfold kx_same
    rw [E a h0 (by omega), E b (by omega) (by omega), kx_same_cg E n (a + 1) (b + 1) (by omega) (by omega) (by omega)]
theorem kx_sm_cg (E : ∀ i, 0 ≤ i → i < N → g' i = g i) (w : Int → Int) : ∀ (n : Nat) (a b : Int), 0 ≤ a → a + n ≤ N → sp_same g' w a b n = sp_same g w a b n
  | 0, _, _, _, _ => rfl
  | n + 1, a, b, h0, h1 => by
    unfold sp_same
    rw [E a h0 (by omega), kx_sm_cg E w n (a + 1) (b + 1) (by omega) (by omega)]
theorem kx_has_cg (E : ∀ i, 0 ≤ i → i < N → g' i = g i) {st : Int} (w : Nat) (h0 : 0 ≤ st) : kx_has g' N st w = kx_has g N st w := by
  unfold kx_has
  by_cases c : ((am_len.getD w 0 : Nat) : Int) ≤ N - st
  · rw [kx_sm_cg E (sp_ch w) (am_len.getD w 0) st 0 h0 (by omega)]
  · rw [decide_eq_false c]
    rfl
theorem kx_head_cg (E : ∀ i, 0 ≤ i → i < N → g' i = g i) {k : α} {a e : Int} (h0 : 0 ≤ a) (h1 : 0 ≤ e) (h2 : e ≤ N) : kx_head mx g' k a e = kx_head mx g k a e := by
  have p : sp_pl1 g' 58 a e = sp_pl1 g 58 a e := by
    unfold sp_pl1
    by_cases c : a ≤ e
    · rw [if_pos c, if_pos c, kx_ix_cg E 58 _ a h0 (by omega)]
    · rw [if_neg c, if_neg c]
  have pin := sp_pl1_in g 58 h0 h1
  unfold kx_head
  rw [p]
  by_cases c : a ≤ sp_pl1 g 58 a e
  · rw [kx_fl_cg E a h0 _ a k (Int.le_refl a) (by omega)]
    by_cases c2 : sp_pl1 g 58 a e + 2 ≤ e
    · rw [kx_fl_cg E _ (by omega) _ _ _ (Int.le_refl _) (by omega)]
    · rw [show (e - (sp_pl1 g 58 a e + 2)).toNat = 0 by omega]
      rfl
  · rw [show (sp_pl1 g 58 a e - a).toNat = 0 by omega]
    by_cases c2 : sp_pl1 g 58 a e + 2 ≤ e
    · rw [kx_fl_cg E _ (by omega) _ _ _ (Int.le_refl _) (by omega)]
      rfl
    · rw [show (e - (sp_pl1 g 58 a e + 2)).toNat = 0 by omega]
      rfl
theorem kx_ln_cg (E : ∀ i, 0 ≤ i → i < N → g' i = g i) {i : Int} {s : α × Int × Int × Int} (hi : 0 ≤ i ∧ i < N) (h1 : 0 ≤ s.2.1) (h3 : s.2.2.2 = -1 ∨ (0 ≤ s.2.2.2 ∧ s.2.2.2 ≤ s.2.1 + 4)) : kx_ln mx g' N i s = kx_ln mx g N i s := by
  unfold kx_ln
  rw [kx_has_cg E 5 h1, kx_has_cg E 6 h1]
  by_cases c : kx_has g N s.2.1 5 = true
  · have c4 : s.2.1 + 4 ≤ N := by
      unfold kx_has at c
      rw [Bool.and_eq_true, decide_eq_true_eq] at c
      have := c.1
      have e5 : am_len.getD 5 0 = 4 := rfl
      rw [e5] at this
      omega
    rw [if_pos c, if_pos c]
    have hin := sp_ix_in g 40 (N - (s.2.1 + 4)).toNat (s.2.1 + 4)
    have e1 : kx_call mx g' N s.1 (s.2.1 + 4) = kx_call mx g N s.1 (s.2.1 + 4) := by
      unfold kx_call
      rw [kx_ix_cg E 40 _ (s.2.1 + 4) (by omega) (by omega), kx_run_cg E _ _ _ (by omega) (by omega)]
    rw [e1]
    rcases h3 with h3 | h3
    · simp only [h3, true_or]
    · rw [kx_same_cg E _ _ _ h3.1 h3.2 (by omega)]
  · rw [if_neg c, if_neg c]
    by_cases c6 : kx_has g N s.2.1 6 = true
    · rw [if_pos c6, if_pos c6]
    · rw [if_neg c6, if_neg c6, kx_head_cg E (by split <;> omega) hi.1 (by omega)]
theorem kx_ln_in {i : Int} {s : α × Int × Int × Int} (hi : s.2.1 ≤ i) (h1 : 0 ≤ s.2.1) (h3 : s.2.2.2 = -1 ∨ (0 ≤ s.2.2.2 ∧ s.2.2.2 ≤ s.2.1 + 4)) : (kx_ln mx g N i s).2.1 = i + 1 ∧ ((kx_ln mx g N i s).2.2.2 = -1 ∨ (0 ≤ (kx_ln mx g N i s).2.2.2 ∧ (kx_ln mx g N i s).2.2.2 ≤ (kx_ln mx g N i s).2.1 + 4)) := by
  unfold kx_ln
  split
  · split
    · exact ⟨rfl, Or.inr ⟨by simp only; omega, by simp only; omega⟩⟩
    · refine ⟨rfl, ?_⟩
      rcases h3 with h3 | h3
      · exact Or.inl h3
      · exact Or.inr ⟨h3.1, by simp only; omega⟩
  · split
    · refine ⟨rfl, ?_⟩
      rcases h3 with h3 | h3
      · exact Or.inl h3
      · exact Or.inr ⟨h3.1, by simp only; omega⟩
    · exact ⟨rfl, Or.inl rfl⟩
theorem kx_go_cg (E : ∀ i, 0 ≤ i → i < N → g' i = g i) : ∀ (n : Nat) (i : Int) (s : α × Int × Int × Int), 0 ≤ i → i + n ≤ N → (0 ≤ s.2.1 ∧ s.2.1 ≤ i) → (s.2.2.2 = -1 ∨ (0 ≤ s.2.2.2 ∧ s.2.2.2 ≤ s.2.1 + 4)) → kx_go mx g' N n i s = kx_go mx g N n i s
  | 0, _, _, _, _, _, _ => rfl
  | n + 1, i, s, h0, h1, h2, h3 => by
    unfold kx_go
    rw [E i h0 (by omega)]
    by_cases c : g i = 10
    · rw [if_pos c, if_pos c, kx_ln_cg E ⟨h0, by omega⟩ h2.1 h3]
      have k := kx_ln_in (mx := mx) (g := g) (N := N) h2.2 h2.1 h3
      exact kx_go_cg E n (i + 1) _ (by omega) (by omega) ⟨by omega, by omega⟩ k.2
    · rw [if_neg c, if_neg c]
      exact kx_go_cg E n (i + 1) s (by omega) (by omega) ⟨h2.1, by omega⟩ h3
end KxCg
def dv_key (o : List Int) : Int64 := kx_go kx_mix (fl o) o.length o.length 0 (-3750763034362895579, 0, 0, -1)
theorem dv_key_of {g : Int → Int} {o : List Int} (h : ∀ j : Nat, j < o.length → g j = o.getD j 0) : kx_go kx_mix g o.length ((o.length : Int)).toNat 0 (-3750763034362895579, 0, 0, -1) = dv_key o := by
  unfold dv_key
  rw [show ((o.length : Int)).toNat = o.length by omega]
  refine kx_go_cg (fun i h0 h1 => ?_) o.length 0 _ (Int.le_refl 0) (by omega) ⟨Int.le_refl 0, Int.le_refl 0⟩ (Or.inl rfl)
  have := h i.toNat (by omega)
  rw [show i = ((i.toNat : Nat) : Int) by omega, this]
  rfl
def dv_at (V : dv) (o : List Int) : Int := kb_ix V.gk (dv_key o) V.n.toNat 0
/-- the book, one report later -/
def dv_ent (V : dv) (o : List Int) : dv := (dv.s_rc (dv.s_n (dv.s_gl (dv.s_gf (dv.s_gt (dv.s_gk V ((if dv_at V o = V.n then am_upj V.gk (dv_at V o) (dv_key o) else V.gk))) (am_up V.gt (dv_at V o) (V.gt (dv_at V o) + 1))) ((if dv_at V o = V.n then am_up V.gf (dv_at V o) (V.rc + 1) else V.gf))) (am_up V.gl (dv_at V o) (V.rc + 1))) ((if dv_at V o = V.n then V.n + 1 else V.n))) (V.rc + 1))
theorem dv_at_in {V : dv} {o : List Int} (hn : 0 ≤ V.n) : 0 ≤ dv_at V o ∧ dv_at V o ≤ V.n := by
  have := kb_ix_in V.gk (dv_key o) V.n.toNat 0
  unfold dv_at
  omega
theorem dv_ent_ok {V : dv} {o : List Int} (ok : V.ok) (hp : dv_at V o < 16) : (dv_ent V o).ok := by
  have hin := dv_at_in (o := o) ok.2.2.1.1
  obtain ⟨k1, k2, k3, k4, k5, k6⟩ := ok
  refine ⟨k1, k2, ?_, k4, k5, ?_⟩
  · show 0 ≤ (if dv_at V o = V.n then V.n + 1 else V.n) ∧ (if dv_at V o = V.n then V.n + 1 else V.n) ≤ 16
    split <;> omega
  · intro j hj
    have hj : (if dv_at V o = V.n then V.n + 1 else V.n) ≤ j := hj
    show am_up V.gt (dv_at V o) (V.gt (dv_at V o) + 1) j = 0
    have : j ≠ dv_at V o := by
      split at hj <;> omega
    rw [am_up_ne _ _ this]
    exact k6 j (by split at hj <;> omega)
theorem m_RD_report {l : Launch} {G : am_G} {h : am_H} {d : Nat} {V : dv} {T : pt_S} (D : am_dk h d V) (e : pt_parse (cut V.dr) = .inr T) (hld : V.ld = true) (ho : (r_all V.S T T.1.length).length ≤ 1000) (hp16 : dv_at V (r_all V.S T T.1.length) ≠ 16) : am_M l G M_RD_report [.ref d] h (fun r h' => r = some (am_n (dv_at V (r_all V.S T T.1.length))) ∧ am_dk h' d (dv_ent (dv.s_db (dv.s_pr (dv.s_dr V ([])) (r_all V.S T T.1.length)) (t_sum (r_dc V.S) T T.1.length)) (r_all V.S T T.1.length)) ∧ ko d 422 h h') := by
  obtain ⟨ok, bM, bS, kp, ks, rl, D1, D2⟩ := D
  have rl' := rl
  obtain ⟨r1, r2⟩ := rl'
  have hn := ok.2.2.1
  have hin := dv_at_in (o := r_all V.S T T.1.length) hn.1
  refine am_M.of (by decide) (Nat.le_of_ble_eq_true rfl) (fun X hB hR => ?_)
  show am_Z X 0 [.ref d, am_u, am_u, am_u, am_u] [] h 0 0
  refine am_aload_n hB d_RD_report_0 rfl rfl rfl ?_
  refine am_callV hB hR (as := []) D1 (m_RD_readTrace ok rl D1 D2 e) c_RD_94 rfl rfl d_RD_report_1 ⟨by decide, Nat.le_of_ble_eq_true rfl⟩ ⟨by decide, by decide⟩ rfl rfl (fun rr h1 hp => ?_)
  obtain ⟨rfl, ⟨C1, C2, C3⟩, f1⟩ := hp
  show am_Z X 4 [.ref d, am_u, am_u, am_u, am_u] [] h1 1 6
  refine am_aload_n hB d_RD_report_4 rfl rfl rfl ?_
  refine am_callV hB hR (as := []) C1 (m_RD_newRewriter rl C1 C2 hld C3) c_RD_97 rfl rfl d_RD_report_5 ⟨by decide, Nat.le_of_ble_eq_true rfl⟩ ⟨by decide, by decide⟩ rfl rfl (fun rr h2 hp => ?_)
  obtain ⟨k, rfl, ⟨k1, k2⟩, B1, B2, W, f2⟩ := hp
  show am_Z X 8 [.ref d, am_u, am_u, am_u, am_u] [.ref k] h2 2 12
  refine am_astore_n hB d_RD_report_8 rfl (by rw [hR.nL]; decide) rfl rfl ?_
  refine am_aload_n hB d_RD_report_9 rfl rfl rfl ?_
  refine am_callV hB hR (as := []) W.1 (m_RW_retraceTrace W (ok.2.2.2.1 hld)) c_RD_101 rfl rfl d_RD_report_10 ⟨by decide, Nat.le_of_ble_eq_true rfl⟩ ⟨by decide, by decide⟩ rfl rfl (fun rr h3 hp => ?_)
  obtain ⟨rfl, W3, f3⟩ := hp
  have W3 : rw_W h3 k (d + 3) (d + 2) bM ks (ks + 1) T V.S (r_all V.S T T.1.length) (t_sum (r_fc V.S) T T.1.length) (t_sum (r_dc V.S) T T.1.length) := W3
  have A := dk_after rl k1 B1 B2 W3 f3
  show am_Z X 13 [.ref d, .ref k, am_u, am_u, am_u] [] h3 2 12
  refine am_aload_n hB d_RD_report_13 rfl rfl rfl ?_
  refine am_callV hB hR (as := []) A.1 (m_RD_refuseLongPrint A.1 W3.2.2.2.1 ho) c_RD_106 rfl rfl d_RD_report_14 ⟨by decide, Nat.le_of_ble_eq_true rfl⟩ ⟨by decide, by decide⟩ rfl rfl (fun rr h4 hp => ?_)
  obtain ⟨rfl, rfl⟩ := hp
  show am_Z X 17 [.ref d, .ref k, am_u, am_u, am_u] [] h3 3 18
  obtain ⟨g, x1, x2, hg, x3, -⟩ := W3.2.2.2.1.all ho
  refine am_aload_n hB d_RD_report_17 rfl rfl rfl ?_
  refine am_getf hB d_RD_report_18 F_RD_51_10 A.1 rfl ?_
  refine am_callS hB hR (as := [.ref ks]) (m_CB_keyOf x1 x2 hg (by omega) (by omega) (by omega)) c_RD_122 rfl rfl d_RD_report_21 ⟨by decide, Nat.le_of_ble_eq_true rfl⟩ ⟨by decide, by decide⟩ rfl rfl (fun rr hh hp => ?_)
  obtain ⟨rfl, rfl⟩ := hp
  rw [dv_key_of x3]
  show am_Z X 24 [.ref d, .ref k, am_u, am_u, am_u] [.long (dv_key (r_all V.S T T.1.length))] h3 3 18
  have cb := A.2.1.2.2.1
  refine am_lstore_n hB d_RD_report_24 rfl (by rw [hR.nL]; decide) rfl ?_
  refine am_aload_n hB d_RD_report_25 rfl rfl rfl ?_
  refine am_getf hB d_RD_report_26 F_RD_34_10 A.1 rfl ?_
  refine am_lload_n hB d_RD_report_29 rfl rfl ?_
  refine am_callV hB hR (as := [.long (dv_key (r_all V.S T T.1.length))]) cb.1 (m_CB_placeOf cb hn) c_RD_126 rfl rfl d_RD_report_30 ⟨by decide, Nat.le_of_ble_eq_true rfl⟩ ⟨by decide, by decide⟩ rfl rfl (fun rr hh hp => ?_)
  obtain ⟨rfl, rfl⟩ := hp
  show am_Z X 33 [.ref d, .ref k, .long (dv_key (r_all V.S T T.1.length)), am_u, am_u] [am_n (dv_at V (r_all V.S T T.1.length))] h3 3 18
  refine am_istore hB d_RD_report_33 (by rw [hR.nL]; decide) rfl ?_
  refine am_iload hB d_RD_report_35 rfl ?_
  refine ai_bipush hB d_RD_report_37 (by decide) ?_
  refine ai_jne (tgt := 50) hB d_RD_report_39 (by decide) (fun c1 => ?_) (fun c1 => ?_)
  rotate_left
  · exact absurd c1 hp16
  refine am_aload_n hB d_RD_report_50 rfl rfl rfl ?_
  refine am_getf hB d_RD_report_51 F_RD_34_10 A.1 rfl ?_
  refine am_iload hB d_RD_report_54 rfl ?_
  refine am_lload_n hB d_RD_report_56 rfl rfl ?_
  refine am_callV hB hR (as := [am_n (dv_at V (r_all V.S T T.1.length)), .long (dv_key (r_all V.S T T.1.length))]) cb.1 (m_CB_enter cb hn ⟨hin.1, hin.2, by omega⟩) c_RD_133 rfl rfl d_RD_report_57 ⟨by decide, Nat.le_of_ble_eq_true rfl⟩ ⟨by decide, by decide⟩ rfl rfl (fun rr h5 hp => ?_)
  obtain ⟨rfl, f5, cb5⟩ := hp
  have f5 : ko (d + 99) 5 h3 h5 := f5.ko
  have A1 := f5 _ _ (by omega) A.1
  show am_Z X 60 [.ref d, .ref k, .long (dv_key (r_all V.S T T.1.length)), am_u, am_n (dv_at V (r_all V.S T T.1.length))] [] h5 3 18
  refine am_aload_n hB d_RD_report_60 rfl rfl rfl ?_
  refine am_aload_n hB d_RD_report_61 rfl rfl rfl ?_
  refine am_callV hB hR (as := [.ref k]) A1 (m_RD_keepRetraced A1 (f5 _ _ (by omega) W3.1)) c_RD_109 rfl rfl d_RD_report_62 ⟨by decide, Nat.le_of_ble_eq_true rfl⟩ ⟨by decide, by decide⟩ rfl rfl (fun rr h6 hp => ?_)
  obtain ⟨rfl, G1, f6⟩ := hp
  show am_Z X 65 [.ref d, .ref k, .long (dv_key (r_all V.S T T.1.length)), am_u, am_n (dv_at V (r_all V.S T T.1.length))] [] h6 3 18
  refine am_iload hB d_RD_report_65 rfl ?_
  refine am_iret hB hR d_RD_report_67 rfl rfl ?_ (by decide) (by decide)
  obtain ⟨E1, E2, E3, E4, E5, E6, o7, E7⟩ := A.2.1
  refine ⟨rfl, ⟨dv_ent_ok ⟨Nat.zero_le _, ho, ok.2.2⟩ (show dv_at V _ < 16 by omega), bM, bS, ks, kp, ⟨r1, by omega⟩, G1, ?_⟩, ?_⟩
  · exact ⟨(E1.ag rfl (f5.ag (by omega))).ag rfl (f6.ag (by omega)), (E2.ag (f5.ag (by omega))).ag (f6.ag (by omega)), cb5.ag (f6.ag (by omega)), (E4.ag (f5.ag (by omega))).ag (f6.ag (by omega)), (E5.ag (f5.ag (by omega))).ag (f6.ag (by omega)), (W3.2.2.2.1.ag rfl (f5.ag (by omega))).ag rfl (f6.ag (by omega)), _, (E6.ag rfl (f5.ag (by omega))).ag rfl (f6.ag (by omega))⟩
  intro q x u r
  have r1 := f1 q x u r
  have r2 := f2 q x u r1
  have := am_lt r1
  exact f6 q x (by omega) (f5 q x (by omega) ((f3.2 q (by simp only [List.mem_cons, List.not_mem_nil, or_false]; omega)).trans r2))
theorem t_RD_report_F {l : Launch} {G : am_G} {h : am_H} {d : Nat} {V : dv} {T : pt_S} (htr : l.stackTraces = false) (D : am_dk h d V) (e : pt_parse (cut V.dr) = .inr T) (hld : V.ld = true) (ho : (r_all V.S T T.1.length).length ≤ 1000) (hp16 : dv_at V (r_all V.S T T.1.length) = 16) : am_T l G M_RD_report [.ref d] h eS (fun h' => am_dk h' d (dv.s_dr V ([])) ∧ ko d 422 h h') := by
  obtain ⟨ok, bM, bS, kp, ks, rl, D1, D2⟩ := D
  have rl' := rl
  obtain ⟨r1, r2⟩ := rl'
  have hn := ok.2.2.1
  have hin := dv_at_in (o := r_all V.S T T.1.length) hn.1
  refine am_T.of (by decide) (Nat.le_of_ble_eq_true rfl) (fun X hB hR => ?_)
  show am_Z X 0 [.ref d, am_u, am_u, am_u, am_u] [] h 0 0
  refine am_aload_n hB d_RD_report_0 rfl rfl rfl ?_
  refine am_callV0 hB hR.r0 (as := []) D1 (m_RD_readTrace ok rl D1 D2 e) c_RD_94 rfl rfl d_RD_report_1 ⟨by decide, Nat.le_of_ble_eq_true rfl⟩ ⟨by decide, by decide⟩ rfl rfl (fun rr h1 hp => ?_)
  obtain ⟨rfl, ⟨C1, C2, C3⟩, f1⟩ := hp
  show am_Z X 4 [.ref d, am_u, am_u, am_u, am_u] [] h1 1 6
  refine am_aload_n hB d_RD_report_4 rfl rfl rfl ?_
  refine am_callV0 hB hR.r0 (as := []) C1 (m_RD_newRewriter rl C1 C2 hld C3) c_RD_97 rfl rfl d_RD_report_5 ⟨by decide, Nat.le_of_ble_eq_true rfl⟩ ⟨by decide, by decide⟩ rfl rfl (fun rr h2 hp => ?_)
  obtain ⟨k, rfl, ⟨k1, k2⟩, B1, B2, W, f2⟩ := hp
  show am_Z X 8 [.ref d, am_u, am_u, am_u, am_u] [.ref k] h2 2 12
  refine am_astore_n hB d_RD_report_8 rfl (by rw [hR.r0.nL]; decide) rfl rfl ?_
  refine am_aload_n hB d_RD_report_9 rfl rfl rfl ?_
  refine am_callV0 hB hR.r0 (as := []) W.1 (m_RW_retraceTrace W (ok.2.2.2.1 hld)) c_RD_101 rfl rfl d_RD_report_10 ⟨by decide, Nat.le_of_ble_eq_true rfl⟩ ⟨by decide, by decide⟩ rfl rfl (fun rr h3 hp => ?_)
  obtain ⟨rfl, W3, f3⟩ := hp
  have W3 : rw_W h3 k (d + 3) (d + 2) bM ks (ks + 1) T V.S (r_all V.S T T.1.length) (t_sum (r_fc V.S) T T.1.length) (t_sum (r_dc V.S) T T.1.length) := W3
  have A := dk_after rl k1 B1 B2 W3 f3
  show am_Z X 13 [.ref d, .ref k, am_u, am_u, am_u] [] h3 2 12
  refine am_aload_n hB d_RD_report_13 rfl rfl rfl ?_
  refine am_callV0 hB hR.r0 (as := []) A.1 (m_RD_refuseLongPrint A.1 W3.2.2.2.1 ho) c_RD_106 rfl rfl d_RD_report_14 ⟨by decide, Nat.le_of_ble_eq_true rfl⟩ ⟨by decide, by decide⟩ rfl rfl (fun rr h4 hp => ?_)
  obtain ⟨rfl, rfl⟩ := hp
  show am_Z X 17 [.ref d, .ref k, am_u, am_u, am_u] [] h3 3 18
  obtain ⟨g, x1, x2, hg, x3, -⟩ := W3.2.2.2.1.all ho
  refine am_aload_n hB d_RD_report_17 rfl rfl rfl ?_
  refine am_getf hB d_RD_report_18 F_RD_51_10 A.1 rfl ?_
  refine am_callS0 hB hR.r0 (as := [.ref ks]) (m_CB_keyOf x1 x2 hg (by omega) (by omega) (by omega)) c_RD_122 rfl rfl d_RD_report_21 ⟨by decide, Nat.le_of_ble_eq_true rfl⟩ ⟨by decide, by decide⟩ rfl rfl (fun rr hh hp => ?_)
  obtain ⟨rfl, rfl⟩ := hp
  rw [dv_key_of x3]
  show am_Z X 24 [.ref d, .ref k, am_u, am_u, am_u] [.long (dv_key (r_all V.S T T.1.length))] h3 3 18
  have cb := A.2.1.2.2.1
  refine am_lstore_n hB d_RD_report_24 rfl (by rw [hR.r0.nL]; decide) rfl ?_
  refine am_aload_n hB d_RD_report_25 rfl rfl rfl ?_
  refine am_getf hB d_RD_report_26 F_RD_34_10 A.1 rfl ?_
  refine am_lload_n hB d_RD_report_29 rfl rfl ?_
  refine am_callV0 hB hR.r0 (as := [.long (dv_key (r_all V.S T T.1.length))]) cb.1 (m_CB_placeOf cb hn) c_RD_126 rfl rfl d_RD_report_30 ⟨by decide, Nat.le_of_ble_eq_true rfl⟩ ⟨by decide, by decide⟩ rfl rfl (fun rr hh hp => ?_)
  obtain ⟨rfl, rfl⟩ := hp
  show am_Z X 33 [.ref d, .ref k, .long (dv_key (r_all V.S T T.1.length)), am_u, am_u] [am_n (dv_at V (r_all V.S T T.1.length))] h3 3 18
  refine am_istore hB d_RD_report_33 (by rw [hR.r0.nL]; decide) rfl ?_
  refine am_iload hB d_RD_report_35 rfl ?_
  refine ai_bipush hB d_RD_report_37 (by decide) ?_
  refine ai_jne (tgt := 50) hB d_RD_report_39 (by decide) (fun c1 => ?_) (fun c1 => ?_)
  · exact absurd hp16 c1
  refine am_throw hB hR htr d_RD_report_42 d_RD_report_45 d_RD_report_46 d_RD_report_49 ⟨Or.inr (Or.inl rfl), by decide⟩ cl_S in_S ow_S ⟨by decide, by decide⟩ ⟨by decide, by decide⟩ ?_
  refine ⟨⟨⟨Nat.zero_le _, ok.2⟩, bM, bS, kp, ks, rl, A.1, A.2.1⟩, ?_⟩
  intro q x u r
  have r1 := f1 q x u r
  have r2 := f2 q x u r1
  have := am_lt r1
  exact (f3.2 q (by simp only [List.mem_cons, List.not_mem_nil, or_false]; omega)).trans r2
