/-! a callee that throws: out of the caller, or into its handler -/
section AmThrow3
variable {p : Program} {l : Launch} {e : Env} {R : Room} {s : State} {m : MethodId} {args : Array Value} {below : List Frame} {meth : Method} {c : Code} {H : Heap} {locs : List Loc} {G : am_G} {ad : List Nat} {pc cs sl : Nat} {ls : Array Slot} {cc : ByteArray} {own : String} {M : am_D} {as rest : List Value} {h : am_H} {E : String} {P : am_H → Prop}
theorem am_back {ad : List Nat} {av : List Value} (hM : am_T l G M as h E P) (hS : am_S G ad as av) (hcode : Cond.code M.1 M.2.1 M.2.2.1 M.2.2.2.1 ∈ am_tbl) (hini : Cond.initialized M.1.cls ∈ am_tbl) (hts : ∀ w ∈ am_tbl, w.before args s = true) (hfr : M.2.2.2.2.frames + 1 ≤ R.frames) (hlo : 8 + (M.2.2.1 + 11) + M.2.2.2.2.locals ≤ R.locals) :
    Jvm.Free.BackT l R p e below s args M.1 3 8 (PreOf R M.2.2.2.2.cells M.2.2.2.2.slots (am_Pc G ad h av)) (fun A a x B => ∃ (g : JFrame) (mk : MethodId) (t : State) (L : List Loc), B.U.heap = t.heap ∧ am_QT G ad E P a (A.U.calling g mk a) (.threw x) t ∧ B.locs = A.locs ++ L ∧ (∀ q ∈ L, am_A G q.base) ∧ B.cells = A.cells + M.2.2.2.2.cells ∧ B.slots = A.slots + M.2.2.2.2.slots) := by
  refine Jvm.Free.BackT.of_free (S := headSpec (am_ws M) M.2.2.2.2) (P := am_Pc G ad h av) (K := fun _ _ _ _ _ => True) (Q := fun a st o t => am_QT G ad E P a st o t ∧ ∃ L, Jvm.Free.FrameEndT st o t L M.2.2.2.2.cells M.2.2.2.2.slots ∧ ∀ q ∈ L, am_A G q.base) (bytes := M.2.1) (maxL := M.2.2.1) (ret := M.2.2.2.1)
    (E := fun a st o t L k n => k = M.2.2.2.2.cells ∧ n = M.2.2.2.2.slots ∧ ∀ q ∈ L, am_A G q.base) (hM ad av hS) hfr hlo ?_ ?_ (fun _ _ _ _ _ _ _ _ _ => trivial) ?_ ?_
  · intro m meth c A a X hp
    have hpay := pay_in hts (am_gin hcode)
    exact ⟨atoms_intro fun w hw => hpay w hw _ _ X.warmed, hpay _ List.mem_cons_self _ _ X.warmed, word_at X.warmed (am_good _ hini).2 (hts _ hini), hp.1, hp.2.1⟩
  · intro m meth c A a g mk X hp
    exact am_blind _ _ _ _ hp.2.2
  · intro a st o t ⟨hq, L, hF, hL⟩
    exact ⟨L, _, _, hF, rfl, rfl, hL⟩
  · intro m meth c A a g mk v t L k n X hp hq hF ⟨e1, e2, hL⟩
    subst e1; subst e2
    exact ⟨g, mk, t, L, rfl, hq.1, rfl, hL, rfl, rfl⟩
/-- what stands behind a call that threw -/
def am_after (p : Program) (l : Launch) (e : Env) (R : Room) (s : State) (m : MethodId) (args : Array Value) (below : List Frame) (meth : Method) (c : Code) (locs : List Loc) (cs sl : Nat) (G : am_G) (ad : List Nat) (E : String) (P : am_H → Prop) (S0 : State) (g : JFrame) : Prop :=
  ∃ (v : Addr) (T' : State) (Lc : List Loc) (ad' : List Nat) (h' : am_H) (cell : Cell), Stand p l e R s m args below meth c T' (locs ++ Lc) cs sl ∧ va_S (am_A G) s.heap T'.heap (locs ++ Lc) ∧ P h' ∧ am_X ad ad' ∧ am_W G ad' h' T'.heap ∧ T'.heap[v]? = some cell ∧ cell.vm = .none ∧ s.vm.findClass E = some cell.cls ∧ Steps p.tables e below S0 ((T'.setTop g).pushFrame (.throwing v))
theorem am_thrV {index n k ci a : Nat} {fs : List Value} {av : List Value} (hx : p.tables.exec = Jvm.exec) (hb : c.code = cc) (hml : ls.size = c.maxLocals) (ho : s.vm.findClass own = some m.cls) (hts : ∀ w ∈ am_tbl, w.before args s = true) (hK : va_K G.1 vwCl (am_tys G) s) (hfl : G.2.2.2.2 ≤ s.heap.size) (hG : am_K G s) (a2 : am_W G ad h H) (a3 : va_S (am_A G) s.heap H locs)
    (hk : h[k]? = some (.inr (ci, fs))) (hM : am_T l G M (.ref k :: as) h E P) (hc : am_cV own index ci M n) (hS : am_S G ad (.ref k :: as) (.ref a :: av)) (hl : av.length = n) (hdg : decode cc pc = .ok (.invokevirtual index, 3)) (hfr : M.2.2.2.2.frames + 1 ≤ R.frames) (hlo : 8 + (M.2.2.1 + 11) + M.2.2.2.2.locals ≤ R.locals) (hrm : 2 * (F0 m pc ls rest).monitorRoom + (rest.map fun v => v.category).sum ≤ 8) (hcl : cs + M.2.2.2.2.cells ≤ R.cells ∧ sl + M.2.2.2.2.slots ≤ R.slots) :
    ∀ T : State, T.heap = H → Stand p l e R s m args below meth c T locs cs sl → am_after p l e R s m args below meth c locs (cs + M.2.2.2.2.cells) (sl + M.2.2.2.2.slots) G ad E P (T.setTop (F0 m pc ls (av.reverse ++ .ref a :: rest))) (F0 m pc ls rest) := by
  intro T hT Y
  obtain ⟨⟨c1, c2, c3, c4, c5, c6⟩, c7, C, TT, N, c8, c9⟩ := hc
  have hback := am_back (p := p) (e := e) (R := R) (s := s) (args := args) (below := below) hM hS c3 c2 hts hfr hlo
  obtain ⟨ws, w1, w2, w3, hP, hD⟩ := id a2
  obtain ⟨a', e', g1, g2, fs', rfl, g3⟩ := w3 k _ hk
  have haa : a' = a := by
    obtain ⟨_, _, e1, ⟨b, hb1, hb2⟩, -⟩ := hS
    cases e1
    cases hb2
    exact Option.some.inj (g1.symm.trans hb1)
  subst haa
  obtain ⟨cellB, hcell, hobj, hcls⟩ := va_recv hK hP c8 g2
  obtain ⟨cc2, r2, m2, q1, q2, q3, q4, kP, hkP, hkPi⟩ := Cond.selects_spec (hts _ c9)
  have hnf : NotFace s M.1 := fun r0 hr0 => by
    cases hr0.symm.trans q3
    exact ⟨kP, hkP, hkPi⟩
  have hpp := am_pre (av := .ref a' :: av) a2 hK hfl hG a3
  obtain ⟨v, vm₁, ⟨U', L', cB, sB⟩, hW1, X', ⟨g', mk, t, Lc, b1, ⟨⟨ad', h', x, cell, q, x1, x2, x3, x4, x5, x6⟩, hz⟩, b3, b4, b5, b6⟩, stp⟩ := Y.virtualThrows hx (own := own) (C := C) (index := index) (y := M.1) (z := M.1) ho (hts _ c1) (am_decl (hts _ c7) (hts _ c3)) hnf (hts _ c9) (hts _ c7) ⟨c4, c5⟩ hback (b := a') (cB := cellB.cls) hcls ⟨cellB, by rw [hT]; exact hcell, rfl, hobj⟩ (g := F0 m pc ls (av.reverse ++ .ref a' :: rest)) rfl hml (Steps.refl _) (argsL := av) (rest := rest) (fun sig hh => by rw [hh] at c6; rw [hl]; exact (Option.some.inj c6).symm) rfl hrm (by rw [hb]; exact hdg) (fun vm₁ hW₁ => ⟨hcl.1, hcl.2, hpp.2 _ hT hW₁⟩)
  dsimp only [Jvm.Free.Pt.U, Jvm.Free.Pt.locs, Jvm.Free.Pt.cells, Jvm.Free.Pt.slots] at X' b1 b3 b5 b6 stp hz
  cases x3
  subst b3
  subst b5
  subst b6
  have hz1 : H.size ≤ t.heap.size := by
    have := hz.1
    rw [← hT]
    exact this
  have hz2 : ∀ q : Nat, q < H.size → ¬ am_A G q → t.heap[q]? = H[q]? := by
    have := hz.2
    rw [← hT]
    exact this
  refine ⟨v, U', Lc, ad', h', cell, X', ⟨Nat.le_trans a3.1 (by rw [b1]; exact hz1), fun q h1 h2 => by rw [b1, hz2 q (Nat.lt_of_lt_of_le h1 a3.1) h2]; exact a3.2.1 q h1 h2, fun q hq => ?_⟩, q, x1, by rw [b1]; exact x2, by rw [b1]; exact x4, x5, ?_, stp⟩
  · rcases List.mem_append.mp hq with h | h
    · exact a3.2.2 q h
    · exact b4 q h
  · have e9 : ((T.setVm vm₁).calling g' mk (Value.ref a' :: av).toArray).vm.findClass E = s.vm.findClass E := hW1.alike.findClass E none
    rw [← e9]
    exact x6
end AmThrow3
section AmThrow4
variable {X : am_C} {own : String} {cc : ByteArray} {pc : Nat} {L st st0 : List Value} {h : am_H} {cs sl cs' sl' : Nat} {l : Launch} {G : am_G} {M M0 : am_D} {as : List Value} {E : String} {P P0 : am_H → Prop}
/-- out of the caller -/
theorem am_outV (hB : am_B X own cc) (hR : am_RT X l G M0 E P0) {index n k ci : Nat} {fs : List Value} (hk : h[k]? = some (.inr (ci, fs))) (hM : am_T l G M (.ref k :: as) h E P) (hc : am_cV own index ci M n) (hn : as.length = n) (hst : st0 = as.reverse ++ .ref k :: st) (hdg : decode cc pc = .ok (.invokevirtual index, 3)) (hrm : (M.2.2.2.2.frames + 1 ≤ M0.2.2.2.2.frames ∧ 8 + (M.2.2.1 + 11) + M.2.2.2.2.locals ≤ M0.2.2.2.2.locals) ∧ am_wd st ≤ 8) (hcl : cs + M.2.2.2.2.cells ≤ M0.2.2.2.2.cells ∧ sl + M.2.2.2.2.slots ≤ M0.2.2.2.2.slots) (hp : ∀ h', P h' → P0 h') : am_Z X pc L st0 h cs sl := by
  subst hst
  obtain ⟨p, l, e, R, s, m, args, below, meth, c, Q, G, ad0, nL⟩ := X
  obtain ⟨hx, hb, hml, ho, hts, hK, hfl, hG⟩ := hB
  obtain ⟨⟨rfl, rfl, rfl, rfl, h5, h6, h7⟩, hno, rfl⟩ := hR
  intro H locs ad ls st' a1 a2 a3 a4 a5
  obtain ⟨av, rv, rfl, hav, hrv⟩ := a5.split
  obtain ⟨_, rs, rfl, ⟨a, ha, rfl⟩, hrs⟩ := hrv
  have hS : am_S G ad (.ref k :: as) (.ref a :: av.reverse) := ⟨_, _, rfl, ⟨a, ha, rfl⟩, by have := hav.rev; rwa [List.reverse_reverse] at this⟩
  have hl : av.reverse.length = n := by rw [List.length_reverse, hav.len, List.length_reverse]; exact hn
  intro T hT Y
  obtain ⟨v, T', Lc, ad', h', cell, X', hS', q, x1, x2, x4, x5, x6, stp⟩ := am_thrV hx hb (by rw [hml]; exact a4.1) ho hts hK hfl hG a2 a3 hk hM hc hS hl hdg hrm.1.1 hrm.1.2 (am_rm (l := l) hrs hrm.2) hcl T hT Y
  rw [List.reverse_reverse] at stp
  have hexc : ∀ x ∈ c.exceptionTable.toList, covers x pc = false := fun x hx => by
    have : c.exceptionTable.toList = [] := by simpa using hno
    rw [this] at hx
    cases hx
  obtain ⟨l1, l2, l3, l4, l5⟩ := X'.leaveThrown v (g := F0 m pc ls rs) rfl rfl rfl hexc h6
  exact ⟨_, stp.trans l1, .threw v, l2, l3, ⟨⟨ad', h', v, cell, hp h' q, a1.tr x1, x2, rfl, x4, x5, x6⟩, hS'.1, hS'.2.1⟩, _, ⟨⟨v, rfl⟩, l4, l5.mono hcl.1 hcl.2⟩, hS'.2.2⟩
end AmThrow4
