/-! the model's key: a whole print -/
theorem la_get {g : Int → Int} : ∀ {X : List Int} {p : Int} (j : Nat), la g p X → j < X.length → g (p + j) = X.getD j 0
  | [], _, j, _, h => by
    simp only [List.length_nil] at h
    omega
  | c :: X, p, 0, h, _ => by
    rw [show p + ((0 : Nat) : Int) = p by omega]
    exact h.1
  | c :: X, p, j + 1, h, hj => by
    rw [show p + ((j + 1 : Nat) : Int) = p + 1 + (j : Nat) by omega]
    exact la_get (X := X) j h.2 (by simp only [List.length_cons] at hj; omega)
theorem la_eq {g : Int → Int} : ∀ {X Y : List Int} {a b : Int}, la g a X → la g b Y → X.length = Y.length → (∀ j : Nat, j < X.length → g (a + j) = g (b + j)) → X = Y
  | [], [], _, _, _, _, _, _ => rfl
  | [], y :: Y, _, _, _, _, h, _ => by simp at h
  | x :: X, [], _, _, _, _, h, _ => by simp at h
  | x :: X, y :: Y, a, b, hX, hY, hl, h => by
    have h0 := h 0 (by simp)
    rw [show a + ((0 : Nat) : Int) = a by omega, show b + ((0 : Nat) : Int) = b by omega, hX.1, hY.1] at h0
    rw [h0, la_eq (X := X) (Y := Y) hX.2 hY.2 (by simp only [List.length_cons] at hl; omega) (fun j hj => by
      have := h (j + 1) (by simp only [List.length_cons]; omega)
      rw [show a + ((j + 1 : Nat) : Int) = a + 1 + (j : Nat) by omega, show b + ((j + 1 : Nat) : Int) = b + 1 + (j : Nat) by omega] at this
      exact this)]
theorem m_MO_sameCalls {l : Launch} {G : am_G} {h : am_H} {m : Nat} {U : mv} {a b : Int} {A B : List Int} (M : am_mo h m U) (ho : am_cok U.out_) (hA : la U.out_ a (A ++ [40])) (hB' : la U.out_ b (B ++ [40])) (nA : ∀ c ∈ A, c ≠ 40) (nB : ∀ c ∈ B, c ≠ 40) (a0 : 0 ≤ a) (a1 : a + A.length < 1000) (b0 : 0 ≤ b) (b1 : b + B.length < 1000) : am_M l G M_MO_sameCalls [.ref m, am_n a, am_n b] h (am_is (am_n (sp_i (decide (A = B)))) h) := by
  have gA := la_app.mp hA
  have gB := la_app.mp hB'
  refine am_M.of (by decide) (Nat.le_of_ble_eq_true rfl) (fun X hB hR => ?_)
  show am_Z X 0 [.ref m, am_n a, am_n b, am_u, am_u, am_u] [] h 0 0
  refine am_aload_n hB d_MO_sameCalls_0 rfl rfl rfl ?_
  refine am_iload_n hB d_MO_sameCalls_1 rfl rfl ?_
  refine am_callV hB hR (as := [am_n a]) M.1 (m_MO_bracket (e := a + A.length) M ho a0 (by omega) a1 gA.2.1 (fun i i1 i2 => la_no (P := fun c => c ≠ 40) gA.1 nA i i1 i2)) c_MO_370 rfl rfl d_MO_sameCalls_2 ⟨by decide, Nat.le_of_ble_eq_true rfl⟩ ⟨by decide, by decide⟩ rfl rfl (fun rr h hp => ?_)
  obtain ⟨rfl, rfl⟩ := hp
  show am_Z X 5 [.ref m, am_n a, am_n b, am_u, am_u, am_u] [am_n (a + A.length)] h 0 0
  refine am_iload_n hB d_MO_sameCalls_5 rfl rfl ?_
  refine ai_sub hB d_MO_sameCalls_6 ?_
  refine am_istore_n hB d_MO_sameCalls_7 rfl (by rw [hR.nL]; decide) rfl ?_
  refine am_aload_n hB d_MO_sameCalls_8 rfl rfl rfl ?_
  refine am_iload_n hB d_MO_sameCalls_9 rfl rfl ?_
  refine am_callV hB hR (as := [am_n b]) M.1 (m_MO_bracket (e := b + B.length) M ho b0 (by omega) b1 gB.2.1 (fun i i1 i2 => la_no (P := fun c => c ≠ 40) gB.1 nB i i1 i2)) c_MO_370 rfl rfl d_MO_sameCalls_10 ⟨by decide, Nat.le_of_ble_eq_true rfl⟩ ⟨by decide, by decide⟩ rfl rfl (fun rr h hp => ?_)
  obtain ⟨rfl, rfl⟩ := hp
  show am_Z X 13 [.ref m, am_n a, am_n b, am_n (a + A.length - a), am_u, am_u] [am_n (b + B.length)] h 0 0
  rw [show a + (A.length : Int) - a = A.length by omega]
  have fin : ∀ (z : Bool) (k : Int), z = decide (A = B) → am_Z X 74 [.ref m, am_n a, am_n b, am_n A.length, am_n (sp_i z), am_n k] [] h 0 0 := by
    intro z k hz
    refine am_iload hB d_MO_sameCalls_74 rfl ?_
    refine am_iret hB hR d_MO_sameCalls_76 rfl (by cases z <;> decide) ?_ (Nat.zero_le _) (Nat.zero_le _)
    rw [hz]
    exact ⟨rfl, rfl⟩
  have no : ∀ k : Int, A ≠ B → am_Z X 29 [.ref m, am_n a, am_n b, am_n A.length, am_n 0, am_n k] [] h 0 0 := by
    intro k hk
    refine am_iload hB d_MO_sameCalls_29 rfl ?_
    refine ai_zeq (tgt := 74) hB d_MO_sameCalls_31 (by decide) (fun c1 => ?_) (fun c1 => ?_)
    rotate_left
    · omega
    exact fin false k (decide_eq_false hk).symm
  have loop : A.length = B.length → ∀ (d k : Nat), k + d = A.length → (∀ j : Nat, j < k → U.out_ (a + j) = U.out_ (b + j)) → am_Z X 29 [.ref m, am_n a, am_n b, am_n A.length, am_n 1, am_n k] [] h 0 0 := by
    intro hl d
    induction d with
    | zero =>
      intro k hk hs
      refine am_iload hB d_MO_sameCalls_29 rfl ?_
      refine ai_zeq (tgt := 74) hB d_MO_sameCalls_31 (by decide) (fun c1 => ?_) (fun c1 => ?_)
      · omega
      refine am_iload hB d_MO_sameCalls_34 rfl ?_
      refine am_iload_n hB d_MO_sameCalls_36 rfl rfl ?_
      refine ai_jge (tgt := 74) hB d_MO_sameCalls_37 (by decide) (fun c2 => ?_) (fun c2 => ?_)
      rotate_left
      · omega
      exact fin true k (decide_eq_true (la_eq gA.1 gB.1 hl (fun j hj => hs j (by omega)))).symm
    | succ d ih =>
      intro k hk hs
      have hga := ho (a + k)
      have hgb := ho (b + k)
      refine am_iload hB d_MO_sameCalls_29 rfl ?_
      refine ai_zeq (tgt := 74) hB d_MO_sameCalls_31 (by decide) (fun c1 => ?_) (fun c1 => ?_)
      · omega
      refine am_iload hB d_MO_sameCalls_34 rfl ?_
      refine am_iload_n hB d_MO_sameCalls_36 rfl rfl ?_
      refine ai_jge (tgt := 74) hB d_MO_sameCalls_37 (by decide) (fun c2 => ?_) (fun c2 => ?_)
      · omega
      refine am_aload_n hB d_MO_sameCalls_40 rfl rfl rfl ?_
      refine am_getf hB d_MO_sameCalls_41 F_MO_94_11 M.1 rfl ?_
      refine am_iload_n hB d_MO_sameCalls_44 rfl rfl ?_
      refine am_iload hB d_MO_sameCalls_45 rfl ?_
      refine ai_add hB d_MO_sameCalls_47 ?_
      refine ai_iald hB d_MO_sameCalls_48 ty_1 M.out ?_
      refine am_aload_n hB d_MO_sameCalls_49 rfl rfl rfl ?_
      refine am_getf hB d_MO_sameCalls_50 F_MO_94_11 M.1 rfl ?_
      refine am_iload_n hB d_MO_sameCalls_53 rfl rfl ?_
      refine am_iload hB d_MO_sameCalls_54 rfl ?_
      refine ai_add hB d_MO_sameCalls_56 ?_
      refine ai_iald hB d_MO_sameCalls_57 ty_1 M.out ?_
      show am_Z X 58 [.ref m, am_n a, am_n b, am_n A.length, am_n 1, am_n k] [am_n (U.out_ (b + k)), am_n (U.out_ (a + k))] h 0 0
      refine ai_jne (tgt := 65) hB d_MO_sameCalls_58 (by decide) (fun c3 => ?_) (fun c3 => ?_)
      · refine ai_const hB d_MO_sameCalls_65 ?_
        refine am_istore hB d_MO_sameCalls_66 (by rw [hR.nL]; decide) rfl ?_
        refine ai_inc hB d_MO_sameCalls_68 rfl (by rw [hR.nL]; decide) rfl ?_
        refine am_goto (tgt := 29) hB d_MO_sameCalls_71 (by decide) (no _ (fun e => c3 ?_))
        subst e
        rw [la_get k gA.1 (by omega), la_get k gB.1 (by omega)]
      · refine ai_const hB d_MO_sameCalls_61 ?_
        refine am_goto (tgt := 66) hB d_MO_sameCalls_62 (by decide) ?_
        refine am_istore hB d_MO_sameCalls_66 (by rw [hR.nL]; decide) rfl ?_
        refine ai_inc hB d_MO_sameCalls_68 rfl (by rw [hR.nL]; decide) rfl ?_
        refine am_goto (tgt := 29) hB d_MO_sameCalls_71 (by decide) (ih (k + 1) (by omega) (fun j hj => ?_))
        by_cases e : j = k
        · rw [e]
          exact c3
        · exact hs j (by omega)
  refine am_iload_n hB d_MO_sameCalls_13 rfl rfl ?_
  refine ai_sub hB d_MO_sameCalls_14 ?_
  refine am_iload_n hB d_MO_sameCalls_15 rfl rfl ?_
  refine ai_jne (tgt := 23) hB d_MO_sameCalls_16 (by decide) (fun c1 => ?_) (fun c1 => ?_)
  · refine ai_const hB d_MO_sameCalls_23 ?_
    refine am_istore hB d_MO_sameCalls_24 (by rw [hR.nL]; decide) rfl ?_
    refine ai_const hB d_MO_sameCalls_26 ?_
    refine am_istore hB d_MO_sameCalls_27 (by rw [hR.nL]; decide) rfl ?_
    exact no 0 (fun e => by subst e; omega)
  · refine ai_const hB d_MO_sameCalls_19 ?_
    refine am_goto (tgt := 24) hB d_MO_sameCalls_20 (by decide) ?_
    refine am_istore hB d_MO_sameCalls_24 (by rw [hR.nL]; decide) rfl ?_
    refine ai_const hB d_MO_sameCalls_26 ?_
    refine am_istore hB d_MO_sameCalls_27 (by rw [hR.nL]; decide) rfl ?_
    exact loop (by omega) A.length 0 (by omega) (fun j hj => by omega)
def kv_o2 : kv_L → Prop
  | .inl (_, X) => hd_ok X
  | .inr (.inl (A, B)) => nmo A ∧ no10 B
  | .inr (.inr X) => no10 X
theorem kv_ok.o2 {x : kv_L} (h : kv_ok x) : kv_o2 x := by
  rcases x with ⟨c, X⟩ | ⟨A, B⟩ | X
  · exact h.2
  · exact h
  · exact h
theorem kv_o2.no {x : kv_L} (h : kv_o2 x) : no10 (kv_t x) := by
  rcases x with ⟨c, X⟩ | x
  · cases c with
    | true => exact kv_no10 (x := .inl (true, X)) ⟨rfl, h⟩
    | false => exact h.1
  · rcases x with ⟨A, B⟩ | X
    · exact kv_no10 (x := .inr (.inl (A, B))) h
    · exact kv_no10 (x := .inr (.inr X)) h
theorem wd3_get : ∀ j : Nat, j < 8 → (sp_wd 3).getD j 0 = sp_ch 3 j := by decide
theorem wd3_58 : ∀ j : Nat, j < 7 → sp_ch 3 j ≠ 58 := by decide
theorem hd_cz {g : Int → Int} {a : Int} {c : Bool} {Y : List Int} (hY : hd_ok Y) (hg : la g a (kv_t (.inl (c, Y)))) : c = true ↔ (11 < a + (kv_t (.inl (c, Y))).length - a ∧ ∀ j : Nat, j < 8 → g (a + j) = sp_ch 3 j) := by
  obtain ⟨-, n, r, rfl, n1, n2, n3⟩ := hY
  have hn : n.length ≠ 0 := fun z => n1 (List.length_eq_zero_iff.mp z)
  cases c with
  | true =>
    refine ⟨fun _ => ⟨?_, fun j hj => ?_⟩, fun _ => rfl⟩
    · show 11 < a + ((sp_wd 3 ++ (n ++ r)).length : Nat) - a
      rw [List.length_append, List.length_append, show (sp_wd 3).length = 11 from rfl]
      omega
    · have g1 : la g a (sp_wd 3 ++ (n ++ r)) := hg
      rw [la_get j (la_app.mp g1).1 (by rw [show (sp_wd 3).length = 11 from rfl]; omega)]
      exact wd3_get j hj
  | false =>
    refine ⟨fun z => absurd z Bool.false_ne_true, fun z => ?_⟩
    exfalso
    obtain ⟨z1, z2⟩ := z
    have g1 : la g a (n ++ r) := hg
    have g2 := la_app.mp g1
    have z1 : 11 < a + ((n ++ r).length : Nat) - a := z1
    rw [List.length_append] at z1
    by_cases c7 : 7 ≤ n.length
    · have e := z2 6 (by omega)
      have := la_no (P := nch) g2.1 n2 (a + (6 : Nat)) (by omega) (by omega)
      rw [e] at this
      exact this.2.2.1 (by decide)
    · rcases n3 with rfl | ⟨q, rfl⟩
      · simp only [List.length_nil] at z1
        omega
      · have e := z2 n.length (by omega)
        rw [g2.2.1] at e
        exact wd3_58 n.length (by omega) e.symm
/-- where the model's last call stands -/
def mk_at (g : Int → Int) (lt : Int) : Option (List Int) → Prop
  | none => lt = -1
  | some A => (0 ≤ lt ∧ lt + (sp_wd 5 ++ A).length < 1000) ∧ la g lt ((sp_wd 5 ++ A) ++ [40]) ∧ nmo A
theorem wd5_40 : ∀ c ∈ sp_wd 5, c ≠ 40 := by decide
theorem nmo5 {A : List Int} (h : nmo A) : ∀ c ∈ sp_wd 5 ++ A, c ≠ 40 := fun c hc => by
  rcases List.mem_append.mp hc with hc | hc
  · exact wd5_40 c hc
  · exact (h c hc).2.2.2.1
theorem m_MO_keyOf {l : Launch} {G : am_G} {hA : am_H} {m : Nat} {U : mv} {xs : List Int} {zz : Int} (M : am_mo hA m U) (ho : am_cok U.out_) (hs : U.outSize_ = xs.length) (hx : xs.length ≤ 1000) (hr : rl U.out_ xs) (hw : kw0 xs zz) : am_M l G M_MO_keyOf [.ref m] hA (fun r h' => r = some (.long (dv_key xs)) ∧ (∃ k, am_mo h' m (mv.s_hash U (k))) ∧ ko m 35 hA h') := by
  have f : ko m 35 hA hA := ko.rf
  obtain ⟨K0, hK0, hxs, hkey⟩ : ∃ K0 : List kv_L, (∀ x ∈ K0, kv_o2 x) ∧ xs = kv_x K0 ∧ dv_key xs = kl kx_mix U.out_ K0 0 (-3750763034362895579, 0, none) := by
    rcases hw with ⟨rfl, -⟩ | ⟨Y, K, e, hY, hK, -⟩
    · exact ⟨[], fun x hx => absurd hx List.not_mem_nil, rfl, rfl⟩
    · refine ⟨.inl (false, Y) :: K, fun x hx => ?_, e, ?_⟩
      · rcases List.mem_cons.mp hx with rfl | hx
        · exact hY
        · exact (hK x hx).o2
      · have q := dv_key_of (g := U.out_) (o := xs) hr
        rw [← q, show ((xs.length : Int)).toNat = xs.length by omega]
        have g0 := la_rl hr
        rw [e] at g0 ⊢
        exact kx_all hY hK g0
  refine am_M.of (by decide) (Nat.le_of_ble_eq_true rfl) (fun X hB hR => ?_)
  show am_Z X 0 [.ref m, am_u, am_u, am_u, am_u, am_u, am_u] [] hA 0 0
  have loop : ∀ (K : List kv_L) (a cnt lt : Int) (L : Option (List Int)) (k : Int64) (v4 v5 v6 : Value) (h1 : am_H), 0 ≤ a → a + (kv_x K).length = xs.length → la U.out_ a (kv_x K) → (∀ x ∈ K, kv_o2 x) → (0 ≤ cnt ∧ cnt ≤ a) → mk_at U.out_ lt L → dv_key xs = kl kx_mix U.out_ K a (k, cnt, L) → am_mo h1 m (mv.s_hash U (k)) → ko m 35 hA h1 → am_Z X 13 [.ref m, am_n a, am_n cnt, am_n lt, v4, v5, v6] [] h1 0 0 := by
    intro K
    induction K with
    | nil =>
      intro a cnt lt L k v4 v5 v6 h1 a0 hN hg hK hc hL hk M f
      have hN : a + ((0 : Nat) : Int) = xs.length := hN
      refine am_iload_n hB d_MO_keyOf_13 rfl rfl ?_
      refine am_aload_n hB d_MO_keyOf_14 rfl rfl rfl ?_
      refine am_getf hB d_MO_keyOf_15 F_MO_245_11 M.1 rfl ?_
      show am_Z X 18 [.ref m, am_n a, am_n cnt, am_n lt, v4, v5, v6] [am_n U.outSize_, am_n a] h1 0 0
      rw [hs]
      refine ai_jge (tgt := 147) hB d_MO_keyOf_18 (by decide) (fun c1 => ?_) (fun c1 => ?_)
      rotate_left
      · omega
      refine am_aload_n hB d_MO_keyOf_147 rfl rfl rfl ?_
      refine am_getf hB d_MO_keyOf_148 F_MO_358_11 M.1 rfl ?_
      refine am_lret hB hR d_MO_keyOf_151 rfl ?_ (Nat.zero_le _) (Nat.zero_le _)
      refine ⟨?_, ⟨k, M⟩, f⟩
      rw [hk]
      rfl
    | cons x K ih =>
      intro a cnt lt L k v4 v5 v6 h1 a0 hN hg hK hc hL hk M f
      have hx := hK x List.mem_cons_self
      have hn := hx.no
      rw [kv_x_cons] at hN hg
      have g1 := la_app.mp hg
      have g2 := la_app.mp g1.2
      have g10 : U.out_ (a + (kv_t x).length) = 10 := g2.1.1
      have hg3 : la U.out_ (a + (kv_t x).length + 1) (kv_x K) := g2.2
      simp only [List.length_append, List.length_singleton] at hN
      rw [kl] at hk
      refine am_iload_n hB d_MO_keyOf_13 rfl rfl ?_
      refine am_aload_n hB d_MO_keyOf_14 rfl rfl rfl ?_
      refine am_getf hB d_MO_keyOf_15 F_MO_245_11 M.1 rfl ?_
      show am_Z X 18 [.ref m, am_n a, am_n cnt, am_n lt, v4, v5, v6] [am_n U.outSize_, am_n a] h1 0 0
      rw [hs]
      refine ai_jge (tgt := 147) hB d_MO_keyOf_18 (by decide) (fun c1 => ?_) (fun c1 => ?_)
      · omega
      refine am_aload_n hB d_MO_keyOf_21 rfl rfl rfl ?_
      refine am_iload_n hB d_MO_keyOf_22 rfl rfl ?_
      refine am_callV hB hR (as := [am_n a]) M.1 (m_MO_endOfLine (e := a + (kv_t x).length) M ho a0 (by omega) (by omega) g10 (fun i i1 i2 => la_no (P := fun c => c ≠ 10) g1.1 hn i i1 i2)) c_MO_375 rfl rfl d_MO_keyOf_23 ⟨by decide, Nat.le_of_ble_eq_true rfl⟩ ⟨by decide, by decide⟩ rfl rfl (fun rr h hp => ?_)
      obtain ⟨rfl, rfl⟩ := hp
      show am_Z X 26 [.ref m, am_n a, am_n cnt, am_n lt, v4, v5, v6] [am_n (a + (kv_t x).length)] h1 0 0
      refine am_istore hB d_MO_keyOf_26 (by rw [hR.nL]; decide) rfl ?_
      refine am_aload_n hB d_MO_keyOf_28 rfl rfl rfl ?_
      refine am_iload_n hB d_MO_keyOf_29 rfl rfl ?_
      have tail : ∀ (cnt' lt' : Int) (v5 v6 : Value) (k' : Int64) (L' : Option (List Int)) (h2 : am_H), (0 ≤ cnt' ∧ cnt' ≤ a + 1) → mk_at U.out_ lt' L' → kl_1 kx_mix U.out_ a x (k, cnt, L) = (k', cnt', L') → am_mo h2 m (mv.s_hash U (k')) → ko m 35 hA h2 → am_Z X 139 [.ref m, am_n a, am_n cnt', am_n lt', am_n (a + (kv_t x).length), v5, v6] [] h2 0 0 := by
        intro cnt' lt' v5 v6 k' L' h2 hc' hL' he M f
        rw [he] at hk
        refine am_iload hB d_MO_keyOf_139 rfl ?_
        refine ai_const hB d_MO_keyOf_141 ?_
        refine ai_add hB d_MO_keyOf_142 ?_
        refine am_istore_n hB d_MO_keyOf_143 rfl (by rw [hR.nL]; decide) rfl ?_
        exact am_goto (tgt := 13) hB d_MO_keyOf_144 (by decide) (ih _ cnt' lt' L' k' _ _ _ h2 (by omega) (by omega) hg3 (fun y hy => hK y (List.mem_cons_of_mem _ hy)) (by omega) hL' hk M f)
      refine am_callV hB hR (as := [am_n a]) M.1 (m_MO_isFrameAt M ho ⟨a0, by show a < U.outSize_; omega⟩ (by show U.outSize_ ≤ 1000; omega)) c_MO_341 rfl rfl d_MO_keyOf_30 ⟨by decide, Nat.le_of_ble_eq_true rfl⟩ ⟨by decide, by decide⟩ rfl rfl (fun rr h hp => ?_)
      obtain ⟨rfl, rfl⟩ := hp
      show am_Z X 33 [.ref m, am_n a, am_n cnt, am_n lt, am_n (a + (kv_t x).length), v5, v6] [am_n (sp_i (decide (U.out_ a = 9 ∧ a + 1 < U.outSize_ ∧ U.out_ (a + 1) = 97)))] h1 0 0
      rcases x with ⟨c, Y⟩ | ⟨A, B⟩ | Y
      · have g0 : U.out_ a ≠ 9 := by
          cases c with
          | true =>
            have : U.out_ a = 67 := g1.1.1
            omega
          | false =>
            obtain ⟨-, n, r, rfl, n1, n2, -⟩ := hx
            cases n with
            | nil => exact absurd rfl n1
            | cons c n =>
              have : U.out_ a = c := g1.1.1
              rw [this]
              exact (n2 c List.mem_cons_self).1
        have gb := ho a
        rw [decide_eq_false (fun z => g0 z.1)]
        show am_Z X 33 [.ref m, am_n a, am_n cnt, am_n lt, am_n (a + (kv_t (.inl (c, Y))).length), v5, v6] [am_n 0] h1 0 0
        refine ai_zeq (tgt := 117) hB d_MO_keyOf_33 (by decide) (fun c2 => ?_) (fun c2 => ?_)
        rotate_left
        · omega
        refine am_aload_n hB d_MO_keyOf_117 rfl rfl rfl ?_
        refine am_getf hB d_MO_keyOf_118 F_MO_94_11 M.1 rfl ?_
        refine am_iload_n hB d_MO_keyOf_121 rfl rfl ?_
        refine ai_iald hB d_MO_keyOf_122 ty_1 M.out ?_
        refine ai_bipush hB d_MO_keyOf_123 (by decide) ?_
        show am_Z X 125 [.ref m, am_n a, am_n cnt, am_n lt, am_n (a + (kv_t (.inl (c, Y))).length), v5, v6] [am_n 9, am_n (U.out_ a)] h1 0 0
        refine ai_jeq (tgt := 139) hB d_MO_keyOf_125 (by decide) (fun c3 => ?_) (fun c3 => ?_)
        · exact absurd c3 g0
        refine am_aload_n hB d_MO_keyOf_128 rfl rfl rfl ?_
        refine am_iload_n hB d_MO_keyOf_129 rfl rfl ?_
        refine am_iload hB d_MO_keyOf_130 rfl ?_
        refine am_callV hB hR (as := [am_n a, am_n (a + (kv_t (.inl (c, Y))).length)]) M.1 (m_MO_mixHeader M ho a0 (by omega) (by omega) (hd_cz hx g1.1)) c_MO_381 rfl rfl d_MO_keyOf_132 ⟨by decide, Nat.le_of_ble_eq_true rfl⟩ ⟨by decide, by decide⟩ rfl rfl (fun rr h hp => ?_)
        obtain ⟨rfl, M, f1⟩ := hp
        have f := f.tr f1
        show am_Z X 135 [.ref m, am_n a, am_n cnt, am_n lt, am_n (a + (kv_t (.inl (c, Y))).length), v5, v6] [] h 0 0
        refine ai_const hB d_MO_keyOf_135 ?_
        refine am_istore_n hB d_MO_keyOf_136 rfl (by rw [hR.nL]; decide) rfl ?_
        refine ai_const hB d_MO_keyOf_137 ?_
        refine am_istore_n hB d_MO_keyOf_138 rfl (by rw [hR.nL]; decide) rfl ?_
        exact tail 0 (-1) v5 v6 _ none h (by omega) rfl rfl M f
      · have hlen : (kv_t (.inr (.inl (A, B)))).length = 4 + (A.length + (1 + B.length)) := by
          simp only [kv_t, List.length_append, List.length_singleton]
          rfl
        have l5 : (sp_wd 5 ++ A).length = 4 + A.length := by
          rw [List.length_append]
          rfl
        have gA : la U.out_ a ((sp_wd 5 ++ A) ++ [40]) := by
          have : la U.out_ a (((sp_wd 5 ++ A) ++ [40]) ++ B) := by
            rw [List.append_assoc, List.append_assoc]
            exact g1.1
          exact (la_app.mp this).1
        have g5 : la U.out_ a (9 :: 97 :: 116 :: 32 :: A) := (la_app.mp gA).1
        have gA2 : la U.out_ (a + 4) A := by
          have := (la_app.mp (la_app.mp gA).1).2
          exact this
        have g40 := la_app.mp gA
        rw [decide_eq_true ⟨g5.1, by omega, g5.2.1⟩]
        show am_Z X 33 [.ref m, am_n a, am_n cnt, am_n lt, am_n (a + (kv_t (.inr (.inl (A, B)))).length), v5, v6] [am_n 1] h1 0 0
        generalize hE : a + ((kv_t (.inr (.inl (A, B)))).length : Int) = E at *
        have fin : ∀ (cnt' : Int) (v5 v6 : Value) (k' : Int64) (h2 : am_H), (0 ≤ cnt' ∧ cnt' ≤ a + 1) → kl_1 kx_mix U.out_ a (.inr (.inl (A, B))) (k, cnt, L) = (k', cnt', some A) → am_mo h2 m (mv.s_hash U (k')) → ko m 35 hA h2 → am_Z X 112 [.ref m, am_n a, am_n cnt', am_n lt, am_n E, v5, v6] [] h2 0 0 := by
          intro cnt' v5 v6 k' h2 hc' he M f
          refine am_iload_n hB d_MO_keyOf_112 rfl rfl ?_
          refine am_istore_n hB d_MO_keyOf_113 rfl (by rw [hR.nL]; decide) rfl ?_
          exact am_goto (tgt := 139) hB d_MO_keyOf_114 (by decide) (tail cnt' a v5 v6 k' (some A) h2 hc' ⟨⟨a0, by omega⟩, gA, hx.1⟩ he M f)
        have new : L ≠ some A → am_Z X 49 [.ref m, am_n a, am_n cnt, am_n lt, am_n E, v5, v6] [] h1 0 0 := by
          intro hne
          have e1 : kl_1 kx_mix U.out_ a (.inr (.inl (A, B))) (k, cnt, L) = ((if cnt < 6 then kx_mix (A.foldl kx_mix k) 10 else k), cnt + 1, some A) := if_neg hne
          have after : ∀ (k' : Int64) (sp i : Int) (h2 : am_H), k' = (if cnt < 6 then A.foldl kx_mix k else k) → am_mo h2 m (mv.s_hash U (k')) → ko m 35 hA h2 → am_Z X 100 [.ref m, am_n a, am_n (cnt + 1), am_n lt, am_n E, am_n sp, am_n i] [] h2 0 0 := by
            intro k' sp i h2 hk' M f
            refine am_iload_n hB d_MO_keyOf_100 rfl rfl ?_
            refine ai_bipush hB d_MO_keyOf_101 (by decide) ?_
            by_cases c6 : cnt < 6
            · rw [if_pos c6] at hk' e1
              subst hk'
              refine ai_jgt (tgt := 112) hB d_MO_keyOf_103 (by decide) (fun c7 => ?_) (fun c7 => ?_)
              · omega
              refine am_aload_n hB d_MO_keyOf_106 rfl rfl rfl ?_
              refine ai_bipush hB d_MO_keyOf_107 (by decide) ?_
              refine am_callV hB hR (as := [am_n 10]) M.1 (q_MO_mix M) c_MO_364 rfl rfl d_MO_keyOf_109 ⟨by decide, Nat.le_of_ble_eq_true rfl⟩ ⟨by decide, by decide⟩ rfl rfl (fun rr h hp => ?_)
              obtain ⟨rfl, M, f1⟩ := hp
              have f := f.tr f1
              exact fin (cnt + 1) _ _ _ h (by omega) e1 M f
            · rw [if_neg c6] at hk' e1
              rw [hk'] at M
              refine ai_jgt (tgt := 112) hB d_MO_keyOf_103 (by decide) (fun c7 => ?_) (fun c7 => ?_)
              rotate_left
              · omega
              exact fin (cnt + 1) _ _ _ h2 (by omega) e1 M f
          have mixl : ∀ (Z : List Int) (i sp : Int) (k' : Int64) (h2 : am_H), 0 ≤ i → i + Z.length = sp → sp < 1000 → la U.out_ i Z → Z.foldl kx_mix k' = (if cnt < 6 then A.foldl kx_mix k else k) → am_mo h2 m (mv.s_hash U (k')) → ko m 35 hA h2 → am_Z X 76 [.ref m, am_n a, am_n (cnt + 1), am_n lt, am_n E, am_n sp, am_n i] [] h2 0 0 := by
            intro Z
            induction Z with
            | nil =>
              intro i sp k' h2 i0 hi hsp hz hk' M f
              have hi : i + ((0 : Nat) : Int) = sp := hi
              refine am_iload hB d_MO_keyOf_76 rfl ?_
              refine am_iload hB d_MO_keyOf_78 rfl ?_
              refine ai_jge (tgt := 100) hB d_MO_keyOf_80 (by decide) (fun c8 => ?_) (fun c8 => ?_)
              rotate_left
              · omega
              exact after k' sp i h2 hk' M f
            | cons z Z ihZ =>
              intro i sp k' h2 i0 hi hsp hz hk' M f
              have hi : i + ((Z.length + 1 : Nat) : Int) = sp := hi
              refine am_iload hB d_MO_keyOf_76 rfl ?_
              refine am_iload hB d_MO_keyOf_78 rfl ?_
              refine ai_jge (tgt := 100) hB d_MO_keyOf_80 (by decide) (fun c8 => ?_) (fun c8 => ?_)
              · omega
              refine am_aload_n hB d_MO_keyOf_83 rfl rfl rfl ?_
              refine am_aload_n hB d_MO_keyOf_84 rfl rfl rfl ?_
              refine am_getf hB d_MO_keyOf_85 F_MO_94_11 M.1 rfl ?_
              refine am_iload hB d_MO_keyOf_88 rfl ?_
              refine ai_iald hB d_MO_keyOf_90 ty_1 M.out ?_
              show am_Z X 91 [.ref m, am_n a, am_n (cnt + 1), am_n lt, am_n E, am_n sp, am_n i] [am_n (U.out_ i), .ref m] h2 0 0
              rw [hz.1]
              refine am_callV hB hR (as := [am_n z]) M.1 (q_MO_mix M) c_MO_364 rfl rfl d_MO_keyOf_91 ⟨by decide, Nat.le_of_ble_eq_true rfl⟩ ⟨by decide, by decide⟩ rfl rfl (fun rr h hp => ?_)
              obtain ⟨rfl, M, f1⟩ := hp
              have f := f.tr f1
              show am_Z X 94 [.ref m, am_n a, am_n (cnt + 1), am_n lt, am_n E, am_n sp, am_n i] [] h 0 0
              refine ai_inc hB d_MO_keyOf_94 rfl (by rw [hR.nL]; decide) rfl ?_
              exact am_goto (tgt := 76) hB d_MO_keyOf_97 (by decide) (ihZ (i + 1) sp _ h (by omega) (by omega) hsp hz.2 hk' M f)
          refine ai_inc hB d_MO_keyOf_49 rfl (by rw [hR.nL]; decide) rfl ?_
          refine am_iload_n hB d_MO_keyOf_52 rfl rfl ?_
          refine ai_bipush hB d_MO_keyOf_53 (by decide) ?_
          by_cases c6 : cnt < 6
          · refine ai_jgt (tgt := 66) hB d_MO_keyOf_55 (by decide) (fun c7 => ?_) (fun c7 => ?_)
            · omega
            refine am_aload_n hB d_MO_keyOf_58 rfl rfl rfl ?_
            refine am_iload_n hB d_MO_keyOf_59 rfl rfl ?_
            refine am_callV hB hR (as := [am_n a]) M.1 (m_MO_bracket (e := a + (sp_wd 5 ++ A).length) M ho a0 (by omega) (by omega) g40.2.1 (fun i i1 i2 => la_no (P := fun c => c ≠ 40) g40.1 (nmo5 hx.1) i i1 i2)) c_MO_370 rfl rfl d_MO_keyOf_60 ⟨by decide, Nat.le_of_ble_eq_true rfl⟩ ⟨by decide, by decide⟩ rfl rfl (fun rr h hp => ?_)
            obtain ⟨rfl, rfl⟩ := hp
            refine am_goto (tgt := 69) hB d_MO_keyOf_63 (by decide) ?_
            show am_Z X 69 [.ref m, am_n a, am_n (cnt + 1), am_n lt, am_n E, v5, v6] [am_n (a + (sp_wd 5 ++ A).length)] h1 0 0
            refine am_istore hB d_MO_keyOf_69 (by rw [hR.nL]; decide) rfl ?_
            refine am_iload_n hB d_MO_keyOf_71 rfl rfl ?_
            refine ai_const hB d_MO_keyOf_72 ?_
            refine ai_add hB d_MO_keyOf_73 ?_
            refine am_istore hB d_MO_keyOf_74 (by rw [hR.nL]; decide) rfl ?_
            exact mixl A (a + 4) _ k h1 (by omega) (by omega) (by omega) gA2 (if_pos c6).symm M f
          · refine ai_jgt (tgt := 66) hB d_MO_keyOf_55 (by decide) (fun c7 => ?_) (fun c7 => ?_)
            rotate_left
            · omega
            refine am_iload_n hB d_MO_keyOf_66 rfl rfl ?_
            refine ai_const hB d_MO_keyOf_67 ?_
            refine ai_add hB d_MO_keyOf_68 ?_
            refine am_istore hB d_MO_keyOf_69 (by rw [hR.nL]; decide) rfl ?_
            refine am_iload_n hB d_MO_keyOf_71 rfl rfl ?_
            refine ai_const hB d_MO_keyOf_72 ?_
            refine ai_add hB d_MO_keyOf_73 ?_
            refine am_istore hB d_MO_keyOf_74 (by rw [hR.nL]; decide) rfl ?_
            exact mixl [] (a + 4) (a + 4) k h1 (by omega) (by simp) (by omega) trivial (if_neg c6).symm M f
        refine ai_zeq (tgt := 117) hB d_MO_keyOf_33 (by decide) (fun c2 => ?_) (fun c2 => ?_)
        · omega
        refine am_iload_n hB d_MO_keyOf_36 rfl rfl ?_
        cases L with
        | none =>
          have hl : lt = -1 := hL
          refine ai_zlt (tgt := 49) hB d_MO_keyOf_37 (by decide) (fun c3 => ?_) (fun c3 => ?_)
          rotate_left
          · omega
          exact new (fun z => by cases z)
        | some A0 =>
          obtain ⟨⟨l0, l1⟩, l2, l3⟩ := hL
          refine ai_zlt (tgt := 49) hB d_MO_keyOf_37 (by decide) (fun c3 => ?_) (fun c3 => ?_)
          · omega
          refine am_aload_n hB d_MO_keyOf_40 rfl rfl rfl ?_
          refine am_iload_n hB d_MO_keyOf_41 rfl rfl ?_
          refine am_iload_n hB d_MO_keyOf_42 rfl rfl ?_
          refine am_callV hB hR (as := [am_n lt, am_n a]) M.1 (m_MO_sameCalls M ho l2 gA (nmo5 l3) (nmo5 hx.1) l0 l1 a0 (by omega)) c_MO_378 rfl rfl d_MO_keyOf_43 ⟨by decide, Nat.le_of_ble_eq_true rfl⟩ ⟨by decide, by decide⟩ rfl rfl (fun rr h hp => ?_)
          obtain ⟨rfl, rfl⟩ := hp
          show am_Z X 46 [.ref m, am_n a, am_n cnt, am_n lt, am_n E, v5, v6] [am_n (sp_i (decide (sp_wd 5 ++ A0 = sp_wd 5 ++ A)))] h1 0 0
          by_cases e0 : A0 = A
          · subst e0
            rw [decide_eq_true rfl]
            show am_Z X 46 [.ref m, am_n a, am_n cnt, am_n lt, am_n E, v5, v6] [am_n 1] h1 0 0
            refine ai_zne (tgt := 112) hB d_MO_keyOf_46 (by decide) (fun c4 => ?_) (fun c4 => ?_)
            rotate_left
            · omega
            exact fin cnt v5 v6 k h1 (by omega) (if_pos rfl) M f
          · rw [decide_eq_false (fun z => e0 (List.append_cancel_left z))]
            show am_Z X 46 [.ref m, am_n a, am_n cnt, am_n lt, am_n E, v5, v6] [am_n 0] h1 0 0
            refine ai_zne (tgt := 112) hB d_MO_keyOf_46 (by decide) (fun c4 => ?_) (fun c4 => ?_)
            · omega
            exact new (fun z => e0 (Option.some.inj z))
      · have g6 : la U.out_ a (9 :: 46 :: 46 :: 46 :: 32 :: Y) := g1.1
        rw [decide_eq_false (fun z => by have := g6.2.1; omega)]
        show am_Z X 33 [.ref m, am_n a, am_n cnt, am_n lt, am_n (a + (kv_t (.inr (.inr Y))).length), v5, v6] [am_n 0] h1 0 0
        refine ai_zeq (tgt := 117) hB d_MO_keyOf_33 (by decide) (fun c2 => ?_) (fun c2 => ?_)
        rotate_left
        · omega
        refine am_aload_n hB d_MO_keyOf_117 rfl rfl rfl ?_
        refine am_getf hB d_MO_keyOf_118 F_MO_94_11 M.1 rfl ?_
        refine am_iload_n hB d_MO_keyOf_121 rfl rfl ?_
        refine ai_iald hB d_MO_keyOf_122 ty_1 M.out ?_
        refine ai_bipush hB d_MO_keyOf_123 (by decide) ?_
        show am_Z X 125 [.ref m, am_n a, am_n cnt, am_n lt, am_n (a + (kv_t (.inr (.inr Y))).length), v5, v6] [am_n 9, am_n (U.out_ a)] h1 0 0
        rw [g6.1]
        refine ai_jeq (tgt := 139) hB d_MO_keyOf_125 (by decide) (fun c3 => ?_) (fun c3 => ?_)
        rotate_left
        · omega
        exact tail cnt lt v5 v6 k L h1 (by omega) hL rfl M f
  refine am_aload_n hB d_MO_keyOf_0 rfl rfl rfl ?_
  refine am_ldc2 hB d_MO_keyOf_1 J_MO_373 ?_
  refine mo_p_hash hB d_MO_keyOf_4 P_MO_358_11 M f (fun h M f => ?_)
  refine ai_const hB d_MO_keyOf_7 ?_
  refine am_istore_n hB d_MO_keyOf_8 rfl (by rw [hR.nL]; decide) rfl ?_
  refine ai_const hB d_MO_keyOf_9 ?_
  refine am_istore_n hB d_MO_keyOf_10 rfl (by rw [hR.nL]; decide) rfl ?_
  refine ai_const hB d_MO_keyOf_11 ?_
  refine am_istore_n hB d_MO_keyOf_12 rfl (by rw [hR.nL]; decide) rfl ?_
  exact loop K0 0 0 (-1) none _ _ _ _ h (by omega) (by rw [← hxs]; omega) (by rw [← hxs]; exact la_rl hr) hK0 (by omega) rfl hkey M f
