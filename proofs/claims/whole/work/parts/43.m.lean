/-! a key; the book of crashes -/
def kx_has (g : Int → Int) (N st : Int) (w : Nat) : Bool := decide ((am_len.getD w 0 : Nat) ≤ N - st) && sp_same g (sp_ch w) st 0 (am_len.getD w 0)
def kx_ln {α : Type} (mx : α → Int → α) (g : Int → Int) (N i : Int) (s : α × Int × Int × Int) : α × Int × Int × Int :=
  if kx_has g N s.2.1 5 = true then (if s.2.2.2 = -1 ∨ kx_same g (N - (s.2.1 + 4)).toNat s.2.2.2 (s.2.1 + 4) = false then ((if s.2.2.1 < 6 then kx_call mx g N s.1 (s.2.1 + 4) else s.1), i + 1, s.2.2.1 + 1, s.2.1 + 4) else (s.1, i + 1, s.2.2))
  else if kx_has g N s.2.1 6 = true then (s.1, i + 1, s.2.2) else (kx_head mx g s.1 (if s.2.1 = 0 then 0 else s.2.1 + 11) i, i + 1, 0, -1)
def kx_go {α : Type} (mx : α → Int → α) (g : Int → Int) (N : Int) : Nat → Int → α × Int × Int × Int → α
  | 0, _, s => s.1
  | n + 1, i, s => kx_go mx g N n (i + 1) (if g i = 10 then kx_ln mx g N i s else s)
theorem lk_CB_47 : Cond.methodLink "RetraceDesk$CrashBook" 47 M_S_length.1 ∈ am_tbl := tb_945
theorem m_CB_keyOf {l : Launch} {G : am_G} {h : am_H} {z c N : Nat} {g : Int → Int} {s o : Int} (r : h[z]? = some (ce_TX c s o)) (q : h[c]? = some (am_ia 0 N g)) (hg : am_cok g) (h1 : 0 ≤ s) (h2 : s ≤ N) (hN : N < 900000) : am_M l G M_CB_keyOf [.ref z] h (am_is (.long (kx_go kx_mix g s s.toNat 0 (-3750763034362895579, 0, 0, -1))) h) := by
  refine am_M.of (by decide) (Nat.le_of_ble_eq_true rfl) (fun X hB hR => ?_)
  show am_Z X 0 [.ref z, am_u, am_u, am_u, am_u, am_u, am_u, am_u] [] h 0 0
  have loop : ∀ (d : Nat) (i : Int) (k : Int64) (st tk lt : Int) (v7 : Value), i + d = s → 0 ≤ st → st ≤ i → 0 ≤ tk → tk ≤ i → -1 ≤ lt → lt ≤ st + 4 → kx_go kx_mix g s s.toNat 0 (-3750763034362895579, 0, 0, -1) = kx_go kx_mix g s d i (k, st, tk, lt) → am_Z X 15 [.ref z, .long k, am_u, am_n st, am_n tk, am_n lt, am_n i, v7] [] h 0 0 := by
    intro d
    induction d with
    | zero =>
      intro i k st tk lt v7 hi s0 s1 t0 t1 l0 l1 hs
      refine am_iload hB d_CB_keyOf_15 rfl ?_
      refine am_aload_n hB d_CB_keyOf_17 rfl rfl rfl ?_
      refine am_getf hB d_CB_keyOf_18 F_CB_34_8 r rfl ?_
      refine ai_jge (tgt := 158) hB d_CB_keyOf_21 (by decide) (fun c1 => ?_) (fun c1 => ?_)
      · refine am_lload_n hB d_CB_keyOf_158 rfl rfl ?_
        refine am_lret hB hR d_CB_keyOf_159 rfl ?_ (Nat.zero_le _) (Nat.zero_le _)
        rw [hs]
        exact ⟨rfl, rfl⟩
      · omega
    | succ d ih =>
      intro i k st tk lt v7 hi s0 s1 t0 t1 l0 l1 hs
      have zi := hg i
      rw [kx_go] at hs
      refine am_iload hB d_CB_keyOf_15 rfl ?_
      refine am_aload_n hB d_CB_keyOf_17 rfl rfl rfl ?_
      refine am_getf hB d_CB_keyOf_18 F_CB_34_8 r rfl ?_
      refine ai_jge (tgt := 158) hB d_CB_keyOf_21 (by decide) (fun c1 => ?_) (fun c1 => ?_)
      · omega
      refine am_aload_n hB d_CB_keyOf_24 rfl rfl rfl ?_
      refine am_getf hB d_CB_keyOf_25 F_CB_37_8 r rfl ?_
      refine am_iload hB d_CB_keyOf_28 rfl ?_
      refine ai_cald hB d_CB_keyOf_30 ty_0 q ?_
      refine ai_bipush hB d_CB_keyOf_31 (by decide) ?_
      refine ai_jeq (tgt := 39) hB d_CB_keyOf_33 (by decide) (fun c2 => ?_) (fun c2 => ?_)
      · rw [if_pos c2] at hs
        -- behind a line
        have tl : ∀ (k' : Int64) (tk' lt' : Int) (v7 : Value), 0 ≤ tk' → tk' ≤ i + 1 → -1 ≤ lt' → lt' ≤ st + 4 → kx_ln kx_mix g s i (k, st, tk, lt) = (k', i + 1, tk', lt') → am_Z X 147 [.ref z, .long k', am_u, am_n st, am_n tk', am_n lt', am_n i, v7] [] h 0 0 := by
          intro k' tk' lt' v7 a1 a2 a3 a4 hl
          rw [hl] at hs
          refine am_iload hB d_CB_keyOf_147 rfl ?_
          refine ai_const hB d_CB_keyOf_149 ?_
          refine ai_add hB d_CB_keyOf_150 ?_
          refine am_istore_n hB d_CB_keyOf_151 rfl (by rw [hR.nL]; decide) rfl ?_
          refine ai_inc hB d_CB_keyOf_152 rfl (by rw [hR.nL]; decide) rfl ?_
          exact am_goto (tgt := 15) hB d_CB_keyOf_155 (by decide) (ih (i + 1) k' (i + 1) tk' lt' _ (by omega) (by omega) (by omega) a1 a2 a3 (by omega) hs)
        refine am_aload_n hB d_CB_keyOf_39 rfl rfl rfl ?_
        refine am_iload_n hB d_CB_keyOf_40 rfl rfl ?_
        refine am_ldcS hB d_CB_keyOf_41 (List.mem_of_getElem? (i := 21) rfl) ?_
        refine am_callV hB hR (as := [am_n st, .retAddr 5]) r (m_TX_hasWordAt r q hg s0 h1 h2 (by omega) (by omega) (by decide)) c_CB_43 rfl rfl d_CB_keyOf_43 ⟨by decide, Nat.le_of_ble_eq_true rfl⟩ ⟨by decide, by decide⟩ rfl rfl (fun rr hh hp => ?_)
        obtain ⟨rfl, rfl⟩ := hp
        show am_Z X 46 [.ref z, .long k, am_u, am_n st, am_n tk, am_n lt, am_n i, v7] [am_n (sp_i (kx_has g s st 5))] h 0 0
        cases w5 : kx_has g s st 5 with
        | true =>
          have hs4 : st + 4 ≤ s := by
            unfold kx_has at w5
            rw [Bool.and_eq_true, decide_eq_true_eq] at w5
            have := w5.1
            have e9 : ((am_len.getD 5 0 : Nat) : Int) = 4 := rfl
            omega
          show am_Z X 46 [.ref z, .long k, am_u, am_n st, am_n tk, am_n lt, am_n i, v7] [am_n 1] h 0 0
          refine ai_zeq (tgt := 104) hB d_CB_keyOf_46 (by decide) (fun c3 => ?_) (fun c3 => ?_)
          · omega
          refine am_iload_n hB d_CB_keyOf_49 rfl rfl ?_
          refine am_ldcS hB d_CB_keyOf_50 (List.mem_of_getElem? (i := 21) rfl) ?_
          refine am_callX hB hR (as := []) (by decide) (m_S_length (by decide) h) (cX_length lk_CB_47) rfl rfl d_CB_keyOf_52 ⟨by decide, Nat.le_of_ble_eq_true rfl⟩ ⟨by decide, by decide⟩ rfl rfl (fun rr hh hp => ?_)
          obtain ⟨rfl, rfl⟩ := hp
          show am_Z X 55 [.ref z, .long k, am_u, am_n st, am_n tk, am_n lt, am_n i, v7] [am_n 4, am_n st] h 0 0
          refine ai_add hB d_CB_keyOf_55 ?_
          refine am_istore hB d_CB_keyOf_56 (by rw [hR.nL]; decide) rfl ?_
          refine am_iload hB d_CB_keyOf_58 rfl ?_
          refine ai_const hB d_CB_keyOf_60 ?_
          have new : (lt = -1 ∨ kx_same g (s - (st + 4)).toNat lt (st + 4) = false) → am_Z X 75 [.ref z, .long k, am_u, am_n st, am_n tk, am_n lt, am_n i, am_n (st + 4)] [] h 0 0 := by
            intro hz
            have fin : ∀ (k' : Int64), k' = (if tk < 6 then kx_call kx_mix g s k (st + 4) else k) → am_Z X 93 [.ref z, .long k, am_u, am_n st, am_n tk, am_n lt, am_n i, am_n (st + 4)] [.long k'] h 0 0 := by
              intro k' hk
              refine am_lstore_n hB d_CB_keyOf_93 rfl (by rw [hR.nL]; decide) rfl ?_
              refine ai_inc hB d_CB_keyOf_94 rfl (by rw [hR.nL]; decide) rfl ?_
              refine am_iload hB d_CB_keyOf_97 rfl ?_
              refine am_istore hB d_CB_keyOf_99 (by rw [hR.nL]; decide) rfl ?_
              refine am_goto (tgt := 147) hB d_CB_keyOf_101 (by decide) ?_
              refine tl k' (tk + 1) (st + 4) _ (by omega) (by omega) (by omega) (by omega) ?_
              unfold kx_ln
              simp only
              rw [if_pos w5, if_pos hz, hk]
            refine am_iload hB d_CB_keyOf_75 rfl ?_
            refine ai_bipush hB d_CB_keyOf_77 (by decide) ?_
            refine ai_jge (tgt := 92) hB d_CB_keyOf_79 (by decide) (fun c5 => ?_) (fun c5 => ?_)
            · refine am_lload_n hB d_CB_keyOf_92 rfl rfl ?_
              exact fin k (by rw [if_neg (by omega)])
            refine am_lload_n hB d_CB_keyOf_82 rfl rfl ?_
            refine am_aload_n hB d_CB_keyOf_83 rfl rfl rfl ?_
            refine am_iload hB d_CB_keyOf_84 rfl ?_
            refine am_callS hB hR (as := [.long k, .ref z, am_n (st + 4)]) (m_CB_mixCall r q hg (by omega) hs4 h2 (by omega)) c_CB_57 rfl rfl d_CB_keyOf_86 ⟨by decide, Nat.le_of_ble_eq_true rfl⟩ ⟨by decide, by decide⟩ rfl rfl (fun rr hh hp => ?_)
            obtain ⟨rfl, rfl⟩ := hp
            show am_Z X 89 [.ref z, .long k, am_u, am_n st, am_n tk, am_n lt, am_n i, am_n (st + 4)] [.long (kx_call kx_mix g s k (st + 4))] h 0 0
            refine am_goto (tgt := 93) hB d_CB_keyOf_89 (by decide) ?_
            exact fin _ (by rw [if_pos (by omega)])
          refine ai_jeq (tgt := 75) hB d_CB_keyOf_61 (by decide) (fun c4 => ?_) (fun c4 => ?_)
          · exact new (Or.inl c4)
          refine am_aload_n hB d_CB_keyOf_64 rfl rfl rfl ?_
          refine am_iload hB d_CB_keyOf_65 rfl ?_
          refine am_iload hB d_CB_keyOf_67 rfl ?_
          refine am_callS hB hR (as := [.ref z, am_n lt, am_n (st + 4)]) (m_CB_isSameCall r q hg (by omega) l1 hs4 h2 (by omega)) c_CB_53 rfl rfl d_CB_keyOf_69 ⟨by decide, Nat.le_of_ble_eq_true rfl⟩ ⟨by decide, by decide⟩ rfl rfl (fun rr hh hp => ?_)
          obtain ⟨rfl, rfl⟩ := hp
          cases w6 : kx_same g (s - (st + 4)).toNat lt (st + 4) with
          | false =>
            show am_Z X 72 [.ref z, .long k, am_u, am_n st, am_n tk, am_n lt, am_n i, am_n (st + 4)] [am_n 0] h 0 0
            refine ai_zne (tgt := 101) hB d_CB_keyOf_72 (by decide) (fun c5 => ?_) (fun c5 => ?_)
            · omega
            · exact new (Or.inr w6)
          | true =>
            show am_Z X 72 [.ref z, .long k, am_u, am_n st, am_n tk, am_n lt, am_n i, am_n (st + 4)] [am_n 1] h 0 0
            refine ai_zne (tgt := 101) hB d_CB_keyOf_72 (by decide) (fun c5 => ?_) (fun c5 => ?_)
            · refine am_goto (tgt := 147) hB d_CB_keyOf_101 (by decide) ?_
              refine tl k tk lt _ t0 (by omega) l0 l1 ?_
              unfold kx_ln
              simp only
              rw [if_pos w5, if_neg (by rintro (w | w); exact c4 w; rw [w6] at w; cases w)]
            · omega
        | false =>
          show am_Z X 46 [.ref z, .long k, am_u, am_n st, am_n tk, am_n lt, am_n i, v7] [am_n 0] h 0 0
          refine ai_zeq (tgt := 104) hB d_CB_keyOf_46 (by decide) (fun c3 => ?_) (fun c3 => ?_)
          · refine am_aload_n hB d_CB_keyOf_104 rfl rfl rfl ?_
            refine am_iload_n hB d_CB_keyOf_105 rfl rfl ?_
            refine am_ldcS hB d_CB_keyOf_106 (List.mem_of_getElem? (i := 22) rfl) ?_
            refine am_callV hB hR (as := [am_n st, .retAddr 6]) r (m_TX_hasWordAt r q hg s0 h1 h2 (by omega) (by omega) (by decide)) c_CB_43 rfl rfl d_CB_keyOf_108 ⟨by decide, Nat.le_of_ble_eq_true rfl⟩ ⟨by decide, by decide⟩ rfl rfl (fun rr hh hp => ?_)
            obtain ⟨rfl, rfl⟩ := hp
            show am_Z X 111 [.ref z, .long k, am_u, am_n st, am_n tk, am_n lt, am_n i, v7] [am_n (sp_i (kx_has g s st 6))] h 0 0
            cases w6 : kx_has g s st 6 with
            | true =>
              show am_Z X 111 [.ref z, .long k, am_u, am_n st, am_n tk, am_n lt, am_n i, v7] [am_n 1] h 0 0
              refine ai_zne (tgt := 147) hB d_CB_keyOf_111 (by decide) (fun c4 => ?_) (fun c4 => ?_)
              · refine tl k tk lt _ t0 (by omega) l0 l1 ?_
                unfold kx_ln
                simp only
                rw [if_neg (by rw [w5]; decide), if_pos w6]
              · omega
            | false =>
              show am_Z X 111 [.ref z, .long k, am_u, am_n st, am_n tk, am_n lt, am_n i, v7] [am_n 0] h 0 0
              refine ai_zne (tgt := 147) hB d_CB_keyOf_111 (by decide) (fun c4 => ?_) (fun c4 => ?_)
              · omega
              have fin : ∀ (a : Int), a = (if st = 0 then 0 else st + 11) → am_Z X 129 [.ref z, .long k, am_u, am_n st, am_n tk, am_n lt, am_n i, v7] [am_n a] h 0 0 := by
                intro a ha
                have ha0 : 0 ≤ a ∧ a < 999999 := by
                  split at ha <;> omega
                refine am_istore hB d_CB_keyOf_129 (by rw [hR.nL]; decide) rfl ?_
                refine am_lload_n hB d_CB_keyOf_131 rfl rfl ?_
                refine am_aload_n hB d_CB_keyOf_132 rfl rfl rfl ?_
                refine am_iload hB d_CB_keyOf_133 rfl ?_
                refine am_iload hB d_CB_keyOf_135 rfl ?_
                refine am_callS hB hR (as := [.long k, .ref z, am_n a, am_n i]) (m_CB_mixHeader r q hg ha0.1 (by omega) (by omega) (by omega) (by omega)) c_CB_65 rfl rfl d_CB_keyOf_137 ⟨by decide, Nat.le_of_ble_eq_true rfl⟩ ⟨by decide, by decide⟩ rfl rfl (fun rr hh hp => ?_)
                obtain ⟨rfl, rfl⟩ := hp
                show am_Z X 140 [.ref z, .long k, am_u, am_n st, am_n tk, am_n lt, am_n i, am_n a] [.long (kx_head kx_mix g k a i)] h 0 0
                refine am_lstore_n hB d_CB_keyOf_140 rfl (by rw [hR.nL]; decide) rfl ?_
                refine ai_const hB d_CB_keyOf_141 ?_
                refine am_istore hB d_CB_keyOf_142 (by rw [hR.nL]; decide) rfl ?_
                refine ai_const hB d_CB_keyOf_144 ?_
                refine am_istore hB d_CB_keyOf_145 (by rw [hR.nL]; decide) rfl ?_
                refine tl _ 0 (-1) _ (by omega) (by omega) (by omega) (by omega) ?_
                unfold kx_ln
                simp only
                rw [if_neg (by rw [w5]; decide), if_neg (by rw [w6]; decide), ← ha]
              refine am_iload_n hB d_CB_keyOf_114 rfl rfl ?_
              refine ai_zne (tgt := 122) hB d_CB_keyOf_115 (by decide) (fun c5 => ?_) (fun c5 => ?_)
              · refine am_iload_n hB d_CB_keyOf_122 rfl rfl ?_
                refine am_ldcS hB d_CB_keyOf_123 (List.mem_of_getElem? (i := 23) rfl) ?_
                refine am_callX hB hR (as := []) (by decide) (m_S_length (by decide) h) (cX_length lk_CB_47) rfl rfl d_CB_keyOf_125 ⟨by decide, Nat.le_of_ble_eq_true rfl⟩ ⟨by decide, by decide⟩ rfl rfl (fun rr hh hp => ?_)
                obtain ⟨rfl, rfl⟩ := hp
                show am_Z X 128 [.ref z, .long k, am_u, am_n st, am_n tk, am_n lt, am_n i, v7] [am_n 11, am_n st] h 0 0
                refine ai_add hB d_CB_keyOf_128 ?_
                exact fin _ (by rw [if_neg c5])
              · refine ai_const hB d_CB_keyOf_118 ?_
                refine am_goto (tgt := 129) hB d_CB_keyOf_119 (by decide) ?_
                exact fin 0 (by rw [if_pos (by omega)])
          · omega
      · rw [if_neg c2] at hs
        refine am_goto (tgt := 152) hB d_CB_keyOf_36 (by decide) ?_
        refine ai_inc hB d_CB_keyOf_152 rfl (by rw [hR.nL]; decide) rfl ?_
        exact am_goto (tgt := 15) hB d_CB_keyOf_155 (by decide) (ih (i + 1) k st tk lt _ (by omega) s0 (by omega) t0 (by omega) l0 l1 hs)
  refine am_ldc2 hB d_CB_keyOf_0 J_CB_32 ?_
  refine am_lstore_n hB d_CB_keyOf_3 rfl (by rw [hR.nL]; decide) rfl ?_
  refine ai_const hB d_CB_keyOf_4 ?_
  refine am_istore_n hB d_CB_keyOf_5 rfl (by rw [hR.nL]; decide) rfl ?_
  refine ai_const hB d_CB_keyOf_6 ?_
  refine am_istore hB d_CB_keyOf_7 (by rw [hR.nL]; decide) rfl ?_
  refine ai_const hB d_CB_keyOf_9 ?_
  refine am_istore hB d_CB_keyOf_10 (by rw [hR.nL]; decide) rfl ?_
  refine ai_const hB d_CB_keyOf_12 ?_
  refine am_istore hB d_CB_keyOf_13 (by rw [hR.nL]; decide) rfl ?_
  exact loop s.toNat 0 _ 0 0 (-1) _ (by omega) (by omega) (by omega) (by omega) (by omega) (by omega) (by omega) rfl
abbrev ce_CB (b : Nat) (n rc : Int) : va_E := .inr (1, [.ref (b + 1), .ref (b + 2), .ref (b + 3), .ref (b + 4), am_n n, am_n rc])
def am_cb (h : am_H) (b : Nat) (gk : Int → Int64) (gt gf gl : Int → Int) (n rc : Int) : Prop := h[b]? = some (ce_CB b n rc) ∧ h[b + 1]? = some (am_ja 2 16 gk) ∧ h[b + 2]? = some (am_ia 1 16 gt) ∧ h[b + 3]? = some (am_ia 1 16 gf) ∧ h[b + 4]? = some (am_ia 1 16 gl)
def kb_ix (g : Int → Int64) (x : Int64) : Nat → Int → Int
  | 0, a => a
  | n + 1, a => if g a = x then a else kb_ix g x n (a + 1)
theorem kb_ix_in (g : Int → Int64) (x : Int64) : ∀ (n : Nat) (a : Int), a ≤ kb_ix g x n a ∧ kb_ix g x n a ≤ a + n
  | 0, a => ⟨Int.le_refl a, by simp [kb_ix]⟩
  | n + 1, a => by
    have ih := kb_ix_in g x n (a + 1)
    unfold kb_ix
    split <;> omega
theorem m_CB_placeOf {l : Launch} {G : am_G} {h : am_H} {b : Nat} {gk : Int → Int64} {gt gf gl : Int → Int} {n rc : Int} {x : Int64} (m : am_cb h b gk gt gf gl n rc) (hn : 0 ≤ n ∧ n ≤ 16) : am_M l G M_CB_placeOf [.ref b, .long x] h (am_is (am_n (kb_ix gk x n.toNat 0)) h) := by
  refine am_M.of (by decide) (Nat.le_of_ble_eq_true rfl) (fun X hB hR => ?_)
  show am_Z X 0 [.ref b, .long x, am_u, am_u] [] h 0 0
  have loop : ∀ (d : Nat) (i : Int), 0 ≤ i → i + d = n → kb_ix gk x n.toNat 0 = kb_ix gk x d i → am_Z X 2 [.ref b, .long x, am_u, am_n i] [] h 0 0 := by
    intro d
    induction d with
    | zero =>
      intro i hi hd hs
      refine am_iload_n hB d_CB_placeOf_2 rfl rfl ?_
      refine am_aload_n hB d_CB_placeOf_3 rfl rfl rfl ?_
      refine am_getf hB d_CB_placeOf_4 F_CB_25_1 m.1 rfl ?_
      refine ai_jge (tgt := 29) hB d_CB_placeOf_7 (by decide) (fun c1 => ?_) (fun c1 => ?_)
      · refine am_aload_n hB d_CB_placeOf_29 rfl rfl rfl ?_
        refine am_getf hB d_CB_placeOf_30 F_CB_25_1 m.1 rfl ?_
        refine am_iret hB hR d_CB_placeOf_33 rfl rfl ?_ (Nat.zero_le _) (Nat.zero_le _)
        rw [hs, kb_ix, show i = n by omega]
        exact ⟨rfl, rfl⟩
      · omega
    | succ d ih =>
      intro i hi hd hs
      rw [kb_ix] at hs
      refine am_iload_n hB d_CB_placeOf_2 rfl rfl ?_
      refine am_aload_n hB d_CB_placeOf_3 rfl rfl rfl ?_
      refine am_getf hB d_CB_placeOf_4 F_CB_25_1 m.1 rfl ?_
      refine ai_jge (tgt := 29) hB d_CB_placeOf_7 (by decide) (fun c1 => ?_) (fun c1 => ?_)
      · omega
      refine am_aload_n hB d_CB_placeOf_10 rfl rfl rfl ?_
      refine am_getf hB d_CB_placeOf_11 F_CB_9_1 m.1 rfl ?_
      refine am_iload_n hB d_CB_placeOf_14 rfl rfl ?_
      refine ai_lald hB d_CB_placeOf_15 ty_2 m.2.1 ?_
      refine am_lload_n hB d_CB_placeOf_16 rfl rfl ?_
      refine am_lcmp hB d_CB_placeOf_17 ?_
      refine am_if_ne (tgt := 23) hB d_CB_placeOf_18 (by decide) (fun c2 => ?_) (fun c2 => ?_)
      · rw [if_neg (fun z => c2 ((lg_cmp_eq _ _).mpr z))] at hs
        refine ai_inc hB d_CB_placeOf_23 rfl (by rw [hR.nL]; decide) rfl ?_
        exact am_goto (tgt := 2) hB d_CB_placeOf_26 (by decide) (ih (i + 1) (by omega) (by omega) hs)
      · rw [if_pos ((lg_cmp_eq _ _).mp c2)] at hs
        refine am_iload_n hB d_CB_placeOf_21 rfl rfl ?_
        refine am_iret hB hR d_CB_placeOf_22 rfl rfl ?_ (Nat.zero_le _) (Nat.zero_le _)
        rw [hs]
        exact ⟨rfl, rfl⟩
  refine ai_const hB d_CB_placeOf_0 ?_
  refine am_istore_n hB d_CB_placeOf_1 rfl (by rw [hR.nL]; decide) rfl ?_
  exact loop n.toNat 0 (by omega) (by omega) rfl
theorem m_CB_enter {l : Launch} {G : am_G} {h : am_H} {b : Nat} {gk : Int → Int64} {gt gf gl : Int → Int} {n rc p : Int} {x : Int64} (m : am_cb h b gk gt gf gl n rc) (hn : 0 ≤ n ∧ n ≤ 16) (hp : 0 ≤ p ∧ p ≤ n ∧ p < 16) : am_M l G M_CB_enter [.ref b, am_n p, .long x] h (fun r h' => r = none ∧ am_rg b 5 h h' ∧ am_cb h' b (if p = n then am_upj gk p x else gk) (am_up gt p (gt p + 1)) (if p = n then am_up gf p (rc + 1) else gf) (am_up gl p (rc + 1)) (if p = n then n + 1 else n) (rc + 1)) := by
  obtain ⟨m0, m1, m2, m3, m4⟩ := m
  refine am_M.of (by decide) (Nat.le_of_ble_eq_true rfl) (fun X hB hR => ?_)
  show am_Z X 0 [.ref b, am_n p, .long x, am_u] [] h 0 0
  refine am_aload_n hB d_CB_enter_0 rfl rfl rfl ?_
  refine am_dup hB d_CB_enter_1 rfl ?_
  refine am_getf hB d_CB_enter_2 F_CB_29_1 m0 rfl ?_
  refine ai_const hB d_CB_enter_5 ?_
  refine ai_add hB d_CB_enter_6 ?_
  refine am_putf hB d_CB_enter_7 P_CB_29_1 m0 (by simp) am_fit.i rfl ?_
  have tl : ∀ (h1 : am_H) (gk' : Int → Int64) (gf' : Int → Int) (n' : Int), am_cb h1 b gk' gt gf' gl n' (rc + 1) → am_rg b 5 h h1 → gk' = (if p = n then am_upj gk p x else gk) → gf' = (if p = n then am_up gf p (rc + 1) else gf) → n' = (if p = n then n + 1 else n) → am_Z X 45 [.ref b, am_n p, .long x, am_u] [] h1 0 0 := by
    intro h1 gk' gf' n' ⟨a0, a1, a2, a3, a4⟩ f1 e1 e2 e3
    subst e1
    subst e2
    subst e3
    refine am_aload_n hB d_CB_enter_45 rfl rfl rfl ?_
    refine am_getf hB d_CB_enter_46 F_CB_15_1 a0 rfl ?_
    refine am_iload_n hB d_CB_enter_49 rfl rfl ?_
    refine am_dup2 hB d_CB_enter_50 rfl rfl ?_
    refine ai_iald hB d_CB_enter_51 ty_1 a2 ?_
    refine ai_const hB d_CB_enter_52 ?_
    refine ai_add hB d_CB_enter_53 ?_
    refine ai_iast hB d_CB_enter_54 ty_1 a2 rfl ?_
    refine am_aload_n hB d_CB_enter_55 rfl rfl rfl ?_
    refine am_getf hB d_CB_enter_56 F_CB_22_1 (am_rn (by omega) a0) rfl ?_
    refine am_iload_n hB d_CB_enter_59 rfl rfl ?_
    refine am_aload_n hB d_CB_enter_60 rfl rfl rfl ?_
    refine am_getf hB d_CB_enter_61 F_CB_29_1 (am_rn (by omega) a0) rfl ?_
    refine ai_iast hB d_CB_enter_64 ty_1 (am_rn (by omega) a4) rfl ?_
    refine am_vret hB hR d_CB_enter_65 rfl ?_ (Nat.zero_le _) (Nat.zero_le _)
    exact ⟨rfl, (f1.tr (am_rg.set _ _ (by omega) (by omega))).tr (am_rg.set _ _ (by omega) (by omega)), am_rn (by omega) (am_rn (by omega) a0), am_rn (by omega) (am_rn (by omega) a1), am_rn (by omega) (am_rs a2), am_rn (by omega) (am_rn (by omega) a3), am_rs (am_rn (by omega) a4)⟩
  refine am_iload_n hB d_CB_enter_10 rfl rfl ?_
  refine am_aload_n hB d_CB_enter_11 rfl rfl rfl ?_
  refine am_getf hB d_CB_enter_12 F_CB_25_1 (am_rs m0) rfl ?_
  refine ai_jne (tgt := 45) hB d_CB_enter_15 (by decide) (fun c1 => ?_) (fun c1 => ?_)
  · exact tl _ gk gf n ⟨am_rs m0, am_rn (by omega) m1, am_rn (by omega) m2, am_rn (by omega) m3, am_rn (by omega) m4⟩ (am_rg.set _ _ (by omega) (by omega)) (by rw [if_neg c1]) (by rw [if_neg c1]) (by rw [if_neg c1])
  refine am_aload_n hB d_CB_enter_18 rfl rfl rfl ?_
  refine am_getf hB d_CB_enter_19 F_CB_9_1 (am_rs m0) rfl ?_
  refine am_iload_n hB d_CB_enter_22 rfl rfl ?_
  refine am_lload_n hB d_CB_enter_23 rfl rfl ?_
  refine ai_last hB d_CB_enter_24 ty_2 (am_rn (by omega) m1) rfl ?_
  refine am_aload_n hB d_CB_enter_25 rfl rfl rfl ?_
  refine am_getf hB d_CB_enter_26 F_CB_19_1 (am_rn (by omega) (am_rs m0)) rfl ?_
  refine am_iload_n hB d_CB_enter_29 rfl rfl ?_
  refine am_aload_n hB d_CB_enter_30 rfl rfl rfl ?_
  refine am_getf hB d_CB_enter_31 F_CB_29_1 (am_rn (by omega) (am_rs m0)) rfl ?_
  refine ai_iast hB d_CB_enter_34 ty_1 (am_rn (by omega) (am_rn (by omega) m3)) rfl ?_
  refine am_aload_n hB d_CB_enter_35 rfl rfl rfl ?_
  refine am_dup hB d_CB_enter_36 rfl ?_
  refine am_getf hB d_CB_enter_37 F_CB_25_1 (am_rn (by omega) (am_rn (by omega) (am_rs m0))) rfl ?_
  refine ai_const hB d_CB_enter_40 ?_
  refine ai_add hB d_CB_enter_41 ?_
  refine am_putf hB d_CB_enter_42 P_CB_25_1 (am_rn (by omega) (am_rn (by omega) (am_rs m0))) (by simp) am_fit.i rfl ?_
  refine tl _ (am_upj gk p x) (am_up gf p (rc + 1)) (n + 1) ⟨am_rs (am_rn (by omega) (am_rn (by omega) (am_rs m0))), am_rn (by omega) (am_rn (by omega) (am_rs (am_rn (by omega) m1))), am_rn (by omega) (am_rn (by omega) (am_rn (by omega) (am_rn (by omega) m2))), am_rn (by omega) (am_rs (am_rn (by omega) (am_rn (by omega) m3))), am_rn (by omega) (am_rn (by omega) (am_rn (by omega) (am_rn (by omega) m4)))⟩ ((((am_rg.set _ _ (by omega) (by omega)).tr (am_rg.set _ _ (by omega) (by omega))).tr (am_rg.set _ _ (by omega) (by omega))).tr (am_rg.set _ _ (by omega) (by omega))) (by rw [if_pos (by omega)]) (by rw [if_pos (by omega)]) (by rw [if_pos (by omega)])
