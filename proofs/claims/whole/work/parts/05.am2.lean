def am_Vo (G : am_G) (ad : List Nat) (r w : Option Value) : Prop := match r with
  | none => w = none
  | some v => ∃ x, w = some x ∧ am_V G ad v x
/-- a method: its name, code, locals, answer, room -/
abbrev am_D : Type := MethodName × ByteArray × Nat × Option FieldType × Room
abbrev am_ws (M : am_D) : List Cond := Cond.code M.1 M.2.1 M.2.2.1 M.2.2.2.1 :: am_tbl
def am_Pc (G : am_G) (ad : List Nat) (h : am_H) (av : List Value) : Array Value → State → Prop := va_Pc av (fun U => am_W G ad h U.heap ∧ va_K G.1 vwCl (am_tys G) U ∧ G.2.2.2.2 ≤ U.heap.size ∧ am_K G U)
abbrev am_Y : Type := Option Value → am_H → Prop
def am_Qc (G : am_G) (ad0 : List Nat) (P : am_Y) : Array Value → State → Outcome → State → Prop := fun _ st o t => (∃ ad w r h', P r h' ∧ am_X ad0 ad ∧ am_W G ad h' t.heap ∧ o = .returned w ∧ am_Vo G ad r w) ∧ va_F (am_A G) st t
/-- the contract of M at these arguments and this heap: it returns, and P holds of its answer and of the heap -/
def am_M (l : Launch) (G : am_G) (M : am_D) (as : List Value) (h : am_H) (P : am_Y) : Prop := ∀ (ad : List Nat) (av : List Value), am_S G ad as av → Met l M.1 (am_ws M) M.2.2.2.2 (am_Pc G ad h av) (am_Qc G ad P) M.2.2.2.2.cells M.2.2.2.2.slots (am_A G)
/-- a walk is one of M, to end with P -/
def am_R (X : am_C) (l : Launch) (G : am_G) (M : am_D) (P : am_Y) : Prop := match X with
  | (_, l', _, R, s, _, args, below, meth, _, Q, G', ad0, nL) => l' = l ∧ G' = G ∧ R = M.2.2.2.2 ∧ nL = M.2.2.1 ∧ meth.sig.returnType = M.2.2.2.1 ∧ meth.locks = false ∧ meth.name = M.1.name ∧ Q = MQ below (am_Qc G ad0 P) args s M.2.2.2.2.cells M.2.2.2.2.slots (am_A G)
def am_fl (as : List Value) : List Value := as.flatMap (fun v => if am_long v then [v, am_u] else [v])
def am_ent (as : List Value) (n : Nat) : List Value := am_fl as ++ List.replicate (n - (am_fl as).length) am_u
theorem am_V.cats {G : am_G} {ad : List Nat} {v w : Value} (h : am_V G ad v w) : w.category = 2 ↔ am_long v = true := by
  cases hl : am_long v with
  | true => exact ⟨fun _ => rfl, fun _ => h.cat2 hl⟩
  | false => exact ⟨fun q => by have := h.cat hl; omega, fun q => by cases q⟩
theorem am_fl_cons (v : Value) (as : List Value) : am_fl (v :: as) = (if am_long v then [v, am_u] else [v]) ++ am_fl as := by
  simp [am_fl]
theorem am_fl_len {G : am_G} {ad : List Nat} : ∀ {as av : List Value}, am_S G ad as av → (lg_sl av).length = (am_fl as).length
  | [], _, hs => by rw [show _ = [] from hs]; rfl
  | v :: as, _, ⟨x, xs, e, hv, hs⟩ => by
    have ih := am_fl_len hs
    subst e
    rw [am_fl_cons, List.length_append, ← ih]
    by_cases hl : am_long v = true
    · simp [lg_sl, hv.cats.mpr hl, hl]
      omega
    · have : ¬ x.category = 2 := fun q => hl (hv.cats.mp q)
      simp [lg_sl, this, hl]
      omega
theorem am_fl_get {G : am_G} {ad : List Nat} : ∀ {as av : List Value} (k : Nat) {i : Nat} {v : Value}, am_S G ad as av → (am_fl as)[i]? = some v → v ≠ am_u → ∃ w, (k + i, w) ∈ lv_args k av ∧ am_V G ad v w
  | [], _, _, _, _, _, h, _ => by simp [am_fl] at h
  | u :: as, _, k, i, v, ⟨x, xs, e, hv, hs⟩, h, hu => by
    subst e
    rw [am_fl_cons] at h
    by_cases hl : am_long u = true
    · rw [if_pos hl] at h
      unfold lv_args
      rw [if_pos (hv.cats.mpr hl)]
      match i, h with
      | 0, h => cases h; exact ⟨x, List.mem_cons_self, hv⟩
      | 1, h => cases h; exact absurd rfl hu
      | i + 2, h =>
        obtain ⟨w, h1, h2⟩ := am_fl_get (k + 2) (i := i) hs (by simpa using h) hu
        exact ⟨w, List.mem_cons_of_mem _ (by rw [show k + (i + 2) = k + 2 + i by omega]; exact h1), h2⟩
    · rw [if_neg hl] at h
      unfold lv_args
      rw [if_neg (fun q => hl (hv.cats.mp q))]
      match i, h with
      | 0, h => cases h; exact ⟨x, List.mem_cons_self, hv⟩
      | i + 1, h =>
        obtain ⟨w, h1, h2⟩ := am_fl_get (k + 1) (i := i) hs (by simpa using h) hu
        exact ⟨w, List.mem_cons_of_mem _ (by rw [show k + (i + 1) = k + 1 + i by omega]; exact h1), h2⟩
theorem am_ent_L {G : am_G} {ad : List Nat} {as av : List Value} {n : Nat} (hS : am_S G ad as av) (hn : (am_fl as).length ≤ n) : am_L G ad (am_ent as n) ((lg_sl av ++ List.replicate (n - (lg_sl av).length) Slot.unset).toArray) n := by
  have hlen := am_fl_len hS
  obtain ⟨h1, h2, h3⟩ := lv_entry av (n := n) (by omega)
  refine ⟨h1, h2, fun i v hi hu => ?_⟩
  unfold am_ent at hi
  by_cases hl : i < (am_fl as).length
  · rw [List.getElem?_append_left hl] at hi
    obtain ⟨w, k1, k2⟩ := am_fl_get 0 hS hi hu
    rw [Nat.zero_add] at k1
    exact ⟨w, k2, h3 (i, w) k1⟩
  · rw [List.getElem?_append_right (by omega)] at hi
    have := List.mem_of_getElem? hi
    rw [List.mem_replicate] at this
    exact absurd this.2 hu
theorem am_M.of {l : Launch} {G : am_G} {M : am_D} {as : List Value} {h : am_H} {P : am_Y} (hy : plainName M.1.cls = true) (hn : (am_fl as).length ≤ M.2.2.1) (body : ∀ X : am_C, am_B X M.1.cls M.2.1 → am_R X l G M P → am_Z X 0 (am_ent as M.2.2.1) [] h 0 0) : am_M l G M as h P := by
  intro ad av hS
  refine Met.ofW (cc := M.2.1) (maxL := M.2.2.1) (ret := M.2.2.2.1) (ws' := am_tbl) hy rfl ?_
  intro p e s m args below meth c s₁ B hml hv
  obtain ⟨rfl, hW, hK, hfl, hG⟩ := hv
  have hts := atoms_spec (ws := am_ws M) B.pre
  have hown := findClass_of_methodNamed B.named
  have hnm := (name_of_methodNamed B.named B.method).1
  have Z := body (p, l, e, (headSpec (am_ws M) M.2.2.2.2).room, s, m, av.toArray, below, meth, c, MQ below (am_Qc G ad P) av.toArray s M.2.2.2.2.cells M.2.2.2.2.slots (am_A G), G, ad, M.2.2.1) ⟨B.exec, B.bytes, hml, hown, fun w hw => hts w (List.mem_cons_of_mem _ hw), hK, hfl, hG⟩ ⟨rfl, rfl, rfl, rfl, B.returns, B.notSynchronized, hnm, rfl⟩
  rw [lg_entry_eq]
  exact Z s.heap [] ad _ [] am_X.rf hW va_S.rf (am_ent_L hS hn) rfl
section AmEnds
variable {X : am_C} {own : String} {cc : ByteArray} {pc : Nat} {L st : List Value} {h : am_H} {cs sl : Nat} {l : Launch} {G : am_G} {M : am_D} {P : am_Y}
theorem am_R.nL (hR : am_R X l G M P) : X.2.2.2.2.2.2.2.2.2.2.2.2.2 = M.2.2.1 := by
  obtain ⟨p, l, e, R, s, m, args, below, meth, c, Q, G, ad0, nL⟩ := X
  exact hR.2.2.2.1
theorem am_R.room (hR : am_R X l G M P) : X.2.2.2.1 = M.2.2.2.2 := by
  obtain ⟨p, l, e, R, s, m, args, below, meth, c, Q, G, ad0, nL⟩ := X
  exact hR.2.2.1
theorem am_R.name (hR : am_R X l G M P) : X.2.2.2.2.2.2.2.2.1.name = M.1.name := by
  obtain ⟨p, l, e, R, s, m, args, below, meth, c, Q, G, ad0, nL⟩ := X
  exact hR.2.2.2.2.2.2.1
theorem am_vret (hB : am_B X own cc) (hR : am_R X l G M P) (hdg : decode cc pc = .ok (.return_, 1)) (hty : M.2.2.2.1 = none) (hp : P (none) h) (hc : cs ≤ M.2.2.2.2.cells) (hs : sl ≤ M.2.2.2.2.slots) : am_Z X pc L [] h cs sl := by
  obtain ⟨p, l, e, R, s, m, args, below, meth, c, Q, G, ad0, nL⟩ := X
  obtain ⟨hx, hb, -⟩ := hB
  obtain ⟨rfl, rfl, rfl, rfl, h5, h6, h7, rfl⟩ := hR
  intro H locs ad ls st' a1 a2 a3 a4 a5
  rw [show st' = [] from a5]
  exact W.widen hc hs (W.vret hx hb (h5.trans hty) (fun t ht hW => ⟨⟨ad, _, _, _, hp, a1, by rw [ht]; exact a2, rfl, rfl⟩, a3.F ht⟩) a3.2.2 hdg h6)
theorem am_iret (hB : am_B X own cc) {x : Int32} {ty : FieldType} (hR : am_R X l G M P) (hdg : decode cc pc = .ok (.ireturn, 1)) (hty : M.2.2.2.1 = some ty) (hn : narrow ty (.int x) = .int x) (hp : P (some (.int x)) h) (hc : cs ≤ M.2.2.2.2.cells) (hs : sl ≤ M.2.2.2.2.slots) : am_Z X pc L [.int x] h cs sl := by
  obtain ⟨p, l, e, R, s, m, args, below, meth, c, Q, G, ad0, nL⟩ := X
  obtain ⟨hx, hb, -⟩ := hB
  obtain ⟨rfl, rfl, rfl, rfl, h5, h6, h7, rfl⟩ := hR
  intro H locs ad ls st' a1 a2 a3 a4 a5
  obtain ⟨_, _, rfl, rfl, a5⟩ := a5
  rw [show _ = [] from a5]
  exact W.widen hc hs (W.zret hx hb (h5.trans hty) hn (fun t ht hW => ⟨⟨ad, _, _, _, hp, a1, by rw [ht]; exact a2, rfl, _, rfl, rfl⟩, a3.F ht⟩) a3.2.2 hdg h6)
theorem am_lret (hB : am_B X own cc) {x : Int64} (hR : am_R X l G M P) (hdg : decode cc pc = .ok (.lreturn, 1)) (hty : M.2.2.2.1 = some .long) (hp : P (some (.long x)) h) (hc : cs ≤ M.2.2.2.2.cells) (hs : sl ≤ M.2.2.2.2.slots) : am_Z X pc L [.long x] h cs sl := by
  obtain ⟨p, l, e, R, s, m, args, below, meth, c, Q, G, ad0, nL⟩ := X
  obtain ⟨hx, hb, -⟩ := hB
  obtain ⟨rfl, rfl, rfl, rfl, h5, h6, h7, rfl⟩ := hR
  intro H locs ad ls st' a1 a2 a3 a4 a5
  obtain ⟨_, _, rfl, rfl, a5⟩ := a5
  rw [show _ = [] from a5]
  exact W.widen hc hs (W.lret hx hb (h5.trans hty) (fun t ht hW => ⟨⟨ad, _, _, _, hp, a1, by rw [ht]; exact a2, rfl, _, rfl, rfl⟩, a3.F ht⟩) a3.2.2 hdg h6)
theorem am_aret (hB : am_B X own cc) {v : Value} {rt : FieldType} (hR : am_R X l G M P) (hdg : decode cc pc = .ok (.areturn, 1)) (hty : M.2.2.2.1 = some rt) (hrt : (∃ n, rt = .object n) ∨ ∃ t, rt = .array t) (hv : am_ref v = true) (hp : P (some (v)) h) (hc : cs ≤ M.2.2.2.2.cells) (hs : sl ≤ M.2.2.2.2.slots) : am_Z X pc L [v] h cs sl := by
  obtain ⟨p, l, e, R, s, m, args, below, meth, c, Q, G, ad0, nL⟩ := X
  obtain ⟨hx, hb, -⟩ := hB
  obtain ⟨rfl, rfl, rfl, rfl, h5, h6, h7, rfl⟩ := hR
  intro H locs ad ls st' a1 a2 a3 a4 a5
  obtain ⟨w0, _, rfl, hw0, a5⟩ := a5
  rw [show _ = [] from a5]
  exact W.widen hc hs (W.aret hx hb (h5.trans hty) hrt (hw0.isr hv) (fun t ht hW => ⟨⟨ad, _, _, _, hp, a1, by rw [ht]; exact a2, rfl, _, rfl, hw0⟩, a3.F ht⟩) a3.2.2 hdg h6)
end AmEnds
theorem am_blind {G : am_G} {ad : List Nat} {h : am_H} {av : List Value} : FrameBlind (am_Pc G ad h av) := fun a U g mk q => by
  obtain ⟨q0, qW, qK, qf, qG⟩ := q
  exact ⟨q0, qW, va_K.moved (u := U) (U := U.calling g mk a) (Vm.Alike.refl U.vm) qK, qf, am_K.calling qG⟩
theorem am_pre {G : am_G} {ad : List Nat} {h : am_H} {av : List Value} {s : State} {H : Heap} {locs : List Loc} (hW : am_W G ad h H) (hK : va_K G.1 vwCl (am_tys G) s) (hfl : G.2.2.2.2 ≤ s.heap.size) (hG : am_K G s) (hS : va_S (am_A G) s.heap H locs) : PreS s H (am_Pc G ad h av) av :=
  ⟨am_blind, fun U hU hw => ⟨rfl, by rw [hU]; exact hW, va_K.moved hw.alike hK, by rw [hU]; exact Nat.le_trans hfl hS.1, am_K.warm hw (by rw [hU]; exact hS) hG⟩⟩
section AmCalls
variable {p : Program} {l : Launch} {e : Env} {R : Room} {s : State} {m : MethodId} {args : Array Value} {below : List Frame} {meth : Method} {c : Code} {H : Heap} {locs : List Loc} {Q : State → Prop} {G : am_G} {ad0 ad : List Nat} {nL pc cs sl mc ms : Nat} {ls : Array Slot} {L st rest st0 : List Value} {P : am_Y}
/-- behind a call -/
theorem am_go {a : Array Value} (hr : va_Run p l e R s m args below meth c H locs cs sl mc ms (F0 m pc ls st0) rest (am_Qc G ad P a) (am_A G)) (a1 : am_X ad0 ad) (a3 : va_S (am_A G) s.heap H locs) (a4 : am_L G ad L ls nL) (a5 : am_S G ad st rest)
    (kk : ∀ r h', P r h' → am_Z (p, l, e, R, s, m, args, below, meth, c, Q, G, ad0, nL) (pc + 3) L (r.toList ++ st) h' (cs + mc) (sl + ms)) : W p l e R s m args below meth c H locs cs sl Q (F0 m pc ls st0) := by
  intro T hT Y
  obtain ⟨v, st₀, t, T', Lc, h0, Y', hL, e1, e2, ⟨⟨ad', w, r, h', hP, x1, x2, x3, x4⟩, hz, hk⟩, stp⟩ := hr T hT Y
  cases x3
  rw [h0] at hz hk
  have hS : va_S (am_A G) s.heap T'.heap (locs ++ Lc) := ⟨Nat.le_trans a3.1 (by rw [e1]; exact hz), fun q h1 h2 => by rw [e1, hk q (Nat.lt_of_lt_of_le h1 a3.1) h2]; exact a3.2.1 q h1 h2, fun q hq => by
      rcases List.mem_append.mp hq with h | h
      · exact a3.2.2 q h
      · exact hL q h⟩
  have hst : am_S G ad' (r.toList ++ st) (v.toList ++ rest) := by
    cases r with
    | none => rw [show v = none from x4]; exact a5.mono x1
    | some y =>
      obtain ⟨x, rfl, hx⟩ := x4
      exact ⟨x, _, rfl, hx, a5.mono x1⟩
  obtain ⟨t2, b1, b2⟩ := kk r h' hP T'.heap (locs ++ Lc) ad' ls _ (a1.tr x1) (by rw [e1]; exact x2) hS (a4.mono x1) hst T' rfl Y'
  exact ⟨t2, stp t2 b1, b2⟩
end AmCalls
/-- what a call's words are: static, a constructor, of an instance, of an instance by an inherited or abstract name -/
def am_cB (own : String) (index : Nat) (M : am_D) (n : Nat) : Prop := Cond.methodLink own index M.1 ∈ am_tbl ∧ Cond.initialized M.1.cls ∈ am_tbl ∧ Cond.code M.1 M.2.1 M.2.2.1 M.2.2.2.1 ∈ am_tbl ∧ M.1.cls ≠ "java/lang/invoke/MethodHandle" ∧ M.1.cls ≠ "java/lang/invoke/VarHandle" ∧ (parseMethodDescriptor M.1.desc).map (fun d => d.parameters.length) = some n
def am_cS (own : String) (index : Nat) (M : am_D) (n : Nat) : Prop := am_cB own index M n ∧ Cond.static M.1 ∈ am_tbl
def am_cI (own : String) (index : Nat) (M : am_D) (n : Nat) : Prop := am_cB own index M n ∧ M.1.name = "<init>" ∧ Cond.instanceMethod M.1 ∈ am_tbl
def am_cV (own : String) (index ci : Nat) (M : am_D) (n : Nat) : Prop := am_cB own index M n ∧ Cond.instanceMethod M.1 ∈ am_tbl ∧ ∃ (C : String) (T : u_T) (N : Nat), vwCl[ci]? = some (C, T, N) ∧ Cond.selects C M.1 M.1 ∈ am_tbl
theorem am_gin {M : am_D} (h : Cond.code M.1 M.2.1 M.2.2.1 M.2.2.2.1 ∈ am_tbl) : GoodIn am_tbl (am_ws M) := fun w hw => by
  rcases List.mem_cons.mp hw with rfl | hw
  · exact am_good _ h
  · exact am_good _ hw
section AmCallRows
variable {X : am_C} {own : String} {cc : ByteArray} {pc : Nat} {L st st0 : List Value} {h : am_H} {cs sl cs' sl' : Nat} {l : Launch} {G : am_G} {M M0 : am_D} {P0 P : am_Y} {as : List Value}
/-- the words of the caller's stack below a call -/
def am_wd (st : List Value) : Nat := (st.map fun v => if am_long v then 2 else 1).sum
theorem am_wd_eq {G : am_G} {ad : List Nat} : ∀ {vs ws : List Value}, am_S G ad vs ws → (ws.map fun v => v.category).sum = am_wd vs
  | [], _, hs => by rw [show _ = [] from hs]; rfl
  | v :: vs, _, ⟨x, xs, e, hv, hs⟩ => by
    have ih := am_wd_eq hs
    subst e
    rw [List.map_cons, List.sum_cons, ih]
    unfold am_wd
    rw [List.map_cons, List.sum_cons]
    cases hl : am_long v with
    | true => rw [hv.cat2 hl]; simp
    | false => rw [hv.cat hl]; simp
theorem am_rm {l : Launch} {m : MethodId} {pc : Nat} {ls : Array Slot} {q : List Value} {G : am_G} {ad : List Nat} {vs ws : List Value} (hs : am_S G ad vs ws) (h : am_wd vs ≤ 8) : 2 * (F0 m pc ls q).monitorRoom + (ws.map fun v => v.category).sum ≤ 8 := lv_room (by rw [am_wd_eq hs]; exact h)
theorem am_callS (hB : am_B X own cc) (hR : am_R X l G M0 P0) {index n : Nat} (hM : am_M l G M (as) h P) (hc : am_cS own index M n) (hn : as.length = n) (hst : st0 = as.reverse ++ st) (hdg : decode cc pc = .ok (.invokestatic index, 3)) (hrm : (M.2.2.2.2.frames + 1 ≤ M0.2.2.2.2.frames ∧ 8 + (M.2.2.1 + 11) + M.2.2.2.2.locals ≤ M0.2.2.2.2.locals) ∧ am_wd st ≤ 8) (hcl : cs + M.2.2.2.2.cells ≤ M0.2.2.2.2.cells ∧ sl + M.2.2.2.2.slots ≤ M0.2.2.2.2.slots) (hcs : cs + M.2.2.2.2.cells = cs') (hsl : sl + M.2.2.2.2.slots = sl') (kk : ∀ r h', P r h' → am_Z X (pc + 3) L (r.toList ++ st) h' cs' sl') : am_Z X pc L st0 h cs sl := by
  subst hst
  subst hcs
  subst hsl
  obtain ⟨p, l, e, R, s, m, args, below, meth, c, Q, G, ad0, nL⟩ := X
  obtain ⟨hx, hb, hml, ho, hts, hK, hfl, hG⟩ := hB
  obtain ⟨rfl, rfl, rfl, rfl, -⟩ := hR
  obtain ⟨⟨c1, c2, c3, c4, c5, c6⟩, c7⟩ := hc
  intro H locs ad ls st' a1 a2 a3 a4 a5
  obtain ⟨av, rv, rfl, hav, hrv⟩ := a5.split
  have hS : am_S G ad as av.reverse := by have := hav.rev; rwa [List.reverse_reverse] at this
  have hl : av.reverse.length = n := by rw [List.length_reverse, hav.len, List.length_reverse]; exact hn
  have hB := callB_of (R := M0.2.2.2.2) (s := s) (args := args) (own := own) (index := index) n hts (am_gin c3) rfl rfl rfl (hts _ c2) (hts _ c1) ⟨c4, c5, c6⟩ hrm.1
  have hp := am_pre (av := av.reverse) a2 hK hfl hG a3
  exact am_go (va_runS (As := av.reverse) (rest := rv) ⟨hx, hb, hml, ho, hts⟩ (hM ad _ hS) ⟨hB, hts _ c7⟩ hp rfl hl a4.1 (by simp) (am_rm (l := l) hrv hrm.2) hdg hcl) a1 a3 a4 hrv kk
theorem am_callI (hB : am_B X own cc) (hR : am_R X l G M0 P0) {index n : Nat} {k : Nat} (hM : am_M l G M (.ref k :: as) h P) (hc : am_cI own index M n ∧ M.2.2.2.1 = none) (hn : as.length = n) (hst : st0 = as.reverse ++ .ref k :: st) (hdg : decode cc pc = .ok (.invokespecial index, 3)) (hrm : (M.2.2.2.2.frames + 1 ≤ M0.2.2.2.2.frames ∧ 8 + (M.2.2.1 + 11) + M.2.2.2.2.locals ≤ M0.2.2.2.2.locals) ∧ am_wd st ≤ 8) (hcl : cs + M.2.2.2.2.cells ≤ M0.2.2.2.2.cells ∧ sl + M.2.2.2.2.slots ≤ M0.2.2.2.2.slots) (hcs : cs + M.2.2.2.2.cells = cs') (hsl : sl + M.2.2.2.2.slots = sl') (kk : ∀ r h', P r h' → am_Z X (pc + 3) L (r.toList ++ st) h' cs' sl') : am_Z X pc L st0 h cs sl := by
  subst hst
  subst hcs
  subst hsl
  obtain ⟨p, l, e, R, s, m, args, below, meth, c, Q, G, ad0, nL⟩ := X
  obtain ⟨hx, hb, hml, ho, hts, hK, hfl, hG⟩ := hB
  obtain ⟨rfl, rfl, rfl, rfl, -⟩ := hR
  obtain ⟨⟨⟨c1, c2, c3, c4, c5, c6⟩, c7, c8⟩, c9⟩ := hc
  obtain ⟨y, bt, mL, rt, rm⟩ := M
  obtain rfl : rt = none := c9
  intro H locs ad ls st' a1 a2 a3 a4 a5
  obtain ⟨av, rv, rfl, hav, hrv⟩ := a5.split
  obtain ⟨_, rs, rfl, ⟨a, ha, rfl⟩, hrs⟩ := hrv
  have hS : am_S G ad (.ref k :: as) (.ref a :: av.reverse) := ⟨_, _, rfl, ⟨a, ha, rfl⟩, by have := hav.rev; rwa [List.reverse_reverse] at this⟩
  have hl : av.reverse.length = n := by rw [List.length_reverse, hav.len, List.length_reverse]; exact hn
  have hB := callB_of (R := M0.2.2.2.2) (s := s) (args := args) (own := own) (index := index) n hts (am_gin c3) rfl rfl rfl (hts _ c2) (hts _ c1) ⟨c4, c5, c6⟩ hrm.1
  have hp := am_pre (av := .ref a :: av.reverse) a2 hK hfl hG a3
  exact am_go (va_runI (As := av.reverse) (rest := rs) (b := a) ⟨hx, hb, hml, ho, hts⟩ (hM ad _ hS) ⟨hB, c7, hts _ c8⟩ hp rfl hl a4.1 (by simp) (am_rm (l := l) hrs hrm.2) hdg hcl) a1 a3 a4 hrs kk
theorem am_callV (hB : am_B X own cc) (hR : am_R X l G M0 P0) {index n : Nat} {k ci : Nat} {fs : List Value} (hk : h[k]? = some (.inr (ci, fs))) (hM : am_M l G M (.ref k :: as) h P) (hc : am_cV own index ci M n) (hn : as.length = n) (hst : st0 = as.reverse ++ .ref k :: st) (hdg : decode cc pc = .ok (.invokevirtual index, 3)) (hrm : (M.2.2.2.2.frames + 1 ≤ M0.2.2.2.2.frames ∧ 8 + (M.2.2.1 + 11) + M.2.2.2.2.locals ≤ M0.2.2.2.2.locals) ∧ am_wd st ≤ 8) (hcl : cs + M.2.2.2.2.cells ≤ M0.2.2.2.2.cells ∧ sl + M.2.2.2.2.slots ≤ M0.2.2.2.2.slots) (hcs : cs + M.2.2.2.2.cells = cs') (hsl : sl + M.2.2.2.2.slots = sl') (kk : ∀ r h', P r h' → am_Z X (pc + 3) L (r.toList ++ st) h' cs' sl') : am_Z X pc L st0 h cs sl := by
  subst hst
  subst hcs
  subst hsl
  obtain ⟨p, l, e, R, s, m, args, below, meth, c, Q, G, ad0, nL⟩ := X
  obtain ⟨hx, hb, hml, ho, hts, hK, hfl, hG⟩ := hB
  obtain ⟨rfl, rfl, rfl, rfl, -⟩ := hR
  obtain ⟨⟨c1, c2, c3, c4, c5, c6⟩, c7, C, T, N, c8, c9⟩ := hc
  intro H locs ad ls st' a1 a2 a3 a4 a5
  obtain ⟨av, rv, rfl, hav, hrv⟩ := a5.split
  obtain ⟨_, rs, rfl, ⟨a, ha, rfl⟩, hrs⟩ := hrv
  have hS : am_S G ad (.ref k :: as) (.ref a :: av.reverse) := ⟨_, _, rfl, ⟨a, ha, rfl⟩, by have := hav.rev; rwa [List.reverse_reverse] at this⟩
  have hl : av.reverse.length = n := by rw [List.length_reverse, hav.len, List.length_reverse]; exact hn
  have hB := callB_of (R := M0.2.2.2.2) (s := s) (args := args) (own := own) (index := index) n hts (am_gin c3) rfl rfl rfl (hts _ c2) (hts _ c1) ⟨c4, c5, c6⟩ hrm.1
  obtain ⟨ws, w1, w2, w3, hP, hD⟩ := id a2
  obtain ⟨a', e', g1, g2, fs', rfl, g3⟩ := w3 k _ hk
  have haa : a' = a := Option.some.inj (g1.symm.trans ha)
  subst haa
  have hp := am_pre (av := .ref a' :: av.reverse) a2 hK hfl hG a3
  exact am_go (va_runV (As := av.reverse) (rest := rs) (b := a') (C := C) ⟨hx, hb, hml, ho, hts⟩ (hM ad _ hS) ⟨hB, hts _ c7, hts _ c9⟩ ⟨hp.1, va_recv hK hP c8 g2, hp.2⟩ rfl hl a4.1 (by simp) (am_rm (l := l) hrs hrm.2) hdg hcl) a1 a3 a4 hrs kk
end AmCallRows