/-! throwing: a new exception, a callee that throws, a handler -/
section AmThrow
variable {p : Program} {l : Launch} {e : Env} {R : Room} {s : State} {m : MethodId} {args : Array Value} {below : List Frame} {meth : Method} {c : Code} {T : State} {locs : List Loc} {cells slots : Nat}
/-- the walk so far is forgotten: it begins where it stands -/
theorem am_rebase (Y : Stand p l e R s m args below meth c T locs cells slots) {k n : Nat} (h1 : cells + k ≤ R.cells) (h2 : slots + n ≤ R.slots) : Stand p l e { frames := R.frames, cells := k, slots := n, locals := R.locals } (T.setFrames (.invoking m args :: below)) m args below meth c T [] 0 0 := by
  obtain ⟨g₀, hfr⟩ := Y.frames_eq
  have hcur : T.cur < T.threads.size := State.cur_lt_of_frames hfr
  have hF : (T.setFrames (.invoking m args :: below)).frames = .invoking m args :: below := State.frames_setFrames _ hcur
  have hm : (T.setFrames (.invoking m args :: below)).vm.method? m = some meth := Y.method'
  obtain ⟨t0, ht0, -⟩ := State.frames_cons hF
  refine ⟨Y.admits, Y.cas, Y.clock, hF, ?_, ?_, hm, Y.code, Y.here, Y.tail, State.WarmedH.refl _, ?_, ?_, ?_⟩
  · have h := Y.room
    have hb := Y.book
    have hh := Y.heapSize
    have hu := Y.used
    have e1 := State.localsInUse_invoking Y.frames Y.method Y.code
    have e2 := State.localsInUse_invoking hF hm Y.code
    simp only [State.hasRoom, Bool.and_eq_true, decide_eq_true_eq] at h ⊢
    rw [hF, State.stackLimits_setFrames, State.stackBytes_setFrames, e2]
    rw [Y.frames, e1] at h
    rw [Y.limits, Y.bytes]
    obtain ⟨⟨⟨⟨a1, a2, a3, a4, a5, a6⟩, a7⟩, a8⟩, a9⟩ := h
    refine ⟨⟨⟨⟨a1, a2, a3, a4, a5, a6⟩, ?_⟩, ?_⟩, hb⟩
    · show T.heap.size + k ≤ _
      omega
    · show T.slotsUsed + n ≤ _
      omega
  · have h := Y.hears
    cases below with
    | nil =>
      simp only [State.hears] at h ⊢
      rw [Y.method] at h
      rw [hm]
      exact h
    | cons y r =>
      cases y with
      | java g =>
        simp only [State.hears, State.code?_eq] at h ⊢
        have e1 : (T.setFrames (.invoking m args :: .java g :: r)).vm.method? g.method = s.vm.method? g.method := Y.warmed.alike.method? g.method
        rw [e1]
        exact h
      | _ =>
        first
          | rfl
          | (simp only [State.hears] at h ⊢; rw [Y.method] at h; rw [hm]; exact h)
  · rw [State.stackLimits_setFrames]
  · rw [State.stackBytes_setFrames]
  · have h := (State.sameButNew.refl (T.setFrames (.invoking m args :: below)) ht0).setFrames T.frames (State.cur_lt_of_frames hF)
    obtain ⟨t1, ht1, -⟩ := State.frames_cons hfr
    rw [State.setFrames_setFrames, State.setFrames_self ht1] at h
    exact h
end AmThrow
theorem am_decl {args : Array Value} {s : State} {x : MethodName} {b : ByteArray} {mL : Nat} {ret : Option FieldType} (hi : (Cond.instanceMethod x).before args s = true) (hc : (Cond.code x b mL ret).before args s = true) : (Cond.declares x).before args s = true := by
  obtain ⟨r0, r, hn, hrm, hst, -⟩ := Cond.instanceMethod_spec hi
  obtain ⟨r', c0, hrm', -, -, -, -, -, -, hsig⟩ := Cond.code_spec hn hc
  cases hrm.symm.trans hrm'
  simp [Cond.before, Cond.holds, Cond.value, hn, hrm, hst, hsig]
theorem am_lsA {args : Array Value} {U : State} {C n d : String} (h : va_Nw (.laysStatic C n d) U) : (Cond.laysStatic C n d).before args U = true := by
  obtain ⟨c, k, i, f, a, cell, hc, hi, hst, ha, hcell, hs, hcls, hlt, hty⟩ := Cond.laysStatic_spec h
  exact Cond.laysStatic_of (s := U) hc hi hst ha hcell hs hcls hlt hty
theorem am_isref {args : Array Value} {U : State} {C n d : String} {A : Nat → Prop} (h : va_Zq C n d A U U.heap) : (Cond.isRef (.static C n d)).before args U = true := by
  rcases h with ⟨cf, kf, fi, f, a, cell, q1, q2, q3, q4, q5, q6, q7, q8⟩ | ⟨t, cf, kf, fi, f, a, cell, q1, q2, q3, q4, q5, q6, q7, q8⟩
  · simp [Cond.before, Cond.holds, Cond.value, Term.eval, State.fieldNamed?, q1, q2, q4, q5, q6, q7]
  · simp [Cond.before, Cond.holds, Cond.value, Term.eval, State.fieldNamed?, q1, q2, q4, q5, q6, q7]
/-- a walk is one of M -/
def am_R0 (X : am_C) (l : Launch) (G : am_G) (M : am_D) : Prop := match X with
  | (_, l', _, R, _, _, _, _, meth, _, _, G', _, nL) => l' = l ∧ G' = G ∧ R = M.2.2.2.2 ∧ nL = M.2.2.1 ∧ meth.sig.returnType = M.2.2.2.1 ∧ meth.locks = false ∧ meth.name = M.1.name
def am_QT (G : am_G) (ad0 : List Nat) (E : String) (P : am_H → Prop) : Array Value → State → Outcome → State → Prop := fun _ st o t => (∃ (ad : List Nat) (h' : am_H) (x : Addr) (cell : Cell), P h' ∧ am_X ad0 ad ∧ am_W G ad h' t.heap ∧ o = .threw x ∧ t.heap[x]? = some cell ∧ cell.vm = .none ∧ st.vm.findClass E = some cell.cls) ∧ va_F (am_A G) st t
def am_MQT (below : List Frame) (Qc : Array Value → State → Outcome → State → Prop) (a : Array Value) (s : State) (mc ms : Nat) (free : Addr → Prop) : State → Prop := fun t => ∃ o, t.status = .running ∧ Ended t below o ∧ Qc a s o t ∧ ∃ L, Jvm.Free.FrameEndT s o t L mc ms ∧ ∀ q ∈ L, free q.base
/-- a walk is one of M, to end with an exception of E, and P of the heap -/
def am_RT (X : am_C) (l : Launch) (G : am_G) (M : am_D) (E : String) (P : am_H → Prop) : Prop := am_R0 X l G M ∧ match X with
  | (_, _, _, _, s, _, args, below, _, c, Q, G', ad0, _) => c.exceptionTable.isEmpty = true ∧ Q = am_MQT below (am_QT G' ad0 E P) args s M.2.2.2.2.cells M.2.2.2.2.slots (am_A G')
/-- the contract of M that throws: an exception of class E, and P holds of the heap -/
def am_T (l : Launch) (G : am_G) (M : am_D) (as : List Value) (h : am_H) (E : String) (P : am_H → Prop) : Prop := ∀ (ad : List Nat) (av : List Value), am_S G ad as av → MetFree l M.1 (headSpec (am_ws M) M.2.2.2.2) (am_Pc G ad h av) (fun _ _ _ _ _ => True) (fun a st o t => am_QT G ad E P a st o t ∧ ∃ L, Jvm.Free.FrameEndT st o t L M.2.2.2.2.cells M.2.2.2.2.slots ∧ ∀ q ∈ L, am_A G q.base)
theorem am_T.of {l : Launch} {G : am_G} {M : am_D} {as : List Value} {h : am_H} {E : String} {P : am_H → Prop} (hy : plainName M.1.cls = true) (hn : (am_fl as).length ≤ M.2.2.1) (body : ∀ X : am_C, am_B X M.1.cls M.2.1 → am_RT X l G M E P → am_Z X 0 (am_ent as M.2.2.1) [] h 0 0) : am_T l G M as h E P := by
  intro ad av hS
  refine MetFree.of_bodyS (code := M.2.1) (maxLocals := M.2.2.1) (ret := M.2.2.2.1) hy ?_ ?_
  · intro args s m h hn
    obtain ⟨meth, c, h1, h2, h3, h4, h5, h6, -, -⟩ := Cond.code_spec hn (atoms_spec (ws := am_ws M) h _ List.mem_cons_self)
    exact ⟨meth, c, h1, h2, h3, h4, h5, h6⟩
  · intro p e s m args below meth c s₁ B hml hv _
    obtain ⟨rfl, hW, hK, hfl, hG⟩ := hv
    have hts := atoms_spec (ws := am_ws M) B.pre
    have hown := findClass_of_methodNamed B.named
    have hnm := (name_of_methodNamed B.named B.method).1
    have hno := B.noHandlers (hts _ List.mem_cons_self)
    have Z := body (p, l, e, (headSpec (am_ws M) M.2.2.2.2).room, s, m, av.toArray, below, meth, c, am_MQT below (am_QT G ad E P) av.toArray s M.2.2.2.2.cells M.2.2.2.2.slots (am_A G), G, ad, M.2.2.1) ⟨B.exec, B.bytes, hml, hown, fun w hw => hts w (List.mem_cons_of_mem _ hw), hK, hfl, hG⟩ ⟨⟨rfl, rfl, rfl, rfl, B.returns, B.notSynchronized, hnm⟩, hno, rfl⟩
    have hh0 : s₁.heap = s.heap := by rw [B.state]; rfl
    have Z2 := Z s.heap [] ad _ [] am_X.rf hW va_S.rf (am_ent_L hS hn) rfl s₁ hh0 (Stand.of_body B)
    rw [← lg_entry_eq] at Z2
    obtain ⟨t, a1, o, b1, b2, b3⟩ := Z2
    exact ⟨t, o, a1, b1, b2, b3⟩
/-- all that a throw of E by the constructor at ic asks, beside what is known all along -/
def am_sp (E : String) : List Cond := [.declares (Bundle.init0 "java/lang/RuntimeException"), .declares (Bundle.init0 "java/lang/Exception"), .declares (Bundle.init0 Bundle.tN), .castable E E, .laysStatic Bundle.tN "UNASSIGNED_STACK" Bundle.steD, .laysStatic Bundle.tN "SUPPRESSED_SENTINEL" Bundle.listD, .isRef (.static Bundle.tN "UNASSIGNED_STACK" Bundle.steD), .isRef (.static Bundle.tN "SUPPRESSED_SENTINEL" Bundle.listD)]
def am_nm : List String := ["java/lang/RuntimeException", "java/lang/Exception"]
def am_ow (ic : Nat) (E : String) : Prop := ∀ w ∈ Bundle.ownAtoms0 "RetraceDesk" ic E am_nm, w ∈ am_tbl ∨ w ∈ am_sp E
theorem am_ow.of {ic : Nat} {E : String} (h : (Bundle.ownAtoms0 "RetraceDesk" ic E am_nm).all (fun w => (decide (w ∈ lw_tbl) && goodWord w) || decide (w ∈ am_sp E)) = true) : am_ow ic E := fun w hw => by
  have := List.all_eq_true.mp h w hw
  rw [Bool.or_eq_true, Bool.and_eq_true, decide_eq_true_eq, decide_eq_true_eq] at this
  rcases this with ⟨q1, q2⟩ | q
  · exact Or.inl (am_in q1 q2)
  · exact Or.inr q
