/-! throwing: a new exception, a callee that throws, a handler -/
section AmThrow
variable {p : Program} {l : Launch} {e : Env} {R : Room} {s : State} {m : MethodId} {args : Array Value} {below : List Frame} {meth : Method} {c : Code} {T : State} {locs : List Loc} {cells slots : Nat}
/-- the walk so far is forgotten: it begins where it stands -/
theorem am_rebase (Y : Stand p l e R s m args below meth c T locs cells slots) {k n : Nat} (h1 : cells + k ≤ R.cells) (h2 : slots + n ≤ R.slots) : Stand p l e { frames := R.frames, cells := k, slots := n, locals := R.locals } (T.setFrames (.invoking m args :: below)) m args below meth c T [] 0 0 := by
  obtain ⟨g₀, hfr⟩ := Y.frames_eq
  have hcur : T.cur < T.threads.size := State.cur_lt_of_frames hfr
  have hF : (T.setFrames (.invoking m args :: below)).frames = .invoking m args :: below := State.frames_setFrames _ hcur
  have hm : (T.setFrames (.invoking m args :: below)).vm.method? m = some meth := Y.method'
  obtain ⟨t0, ht0, -⟩ := State.frames_cons hF
  refine ⟨Y.admits, Y.cas, Y.clock, hF, ?_, ?_, hm, Y.code, Y.here, Y.tail, State.WarmedH.refl _, ?_, ?_, ?_⟩
  · have h := Y.room
    have hb := Y.book
    have hh := Y.heapSize
    have hu := Y.used
    have e1 := State.localsInUse_invoking Y.frames Y.method Y.code
    have e2 := State.localsInUse_invoking hF hm Y.code
    simp only [State.hasRoom, Bool.and_eq_true, decide_eq_true_eq] at h ⊢
    rw [hF, State.stackLimits_setFrames, State.stackBytes_setFrames, e2]
    rw [Y.frames, e1] at h
    rw [Y.limits, Y.bytes]
    obtain ⟨⟨⟨⟨a1, a2, a3, a4, a5, a6⟩, a7⟩, a8⟩, a9⟩ := h
    refine ⟨⟨⟨⟨a1, a2, a3, a4, a5, a6⟩, ?_⟩, ?_⟩, hb⟩
    · show T.heap.size + k ≤ _
      omega
    · show T.slotsUsed + n ≤ _
      omega
  · have h := Y.hears
    cases below with
    | nil =>
      simp only [State.hears] at h ⊢
      rw [Y.method] at h
      rw [hm]
      exact h
    | cons y r =>
      cases y with
      | java g =>
        simp only [State.hears, State.code?_eq] at h ⊢
        have e1 : (T.setFrames (.invoking m args :: .java g :: r)).vm.method? g.method = s.vm.method? g.method := Y.warmed.alike.method? g.method
        rw [e1]
        exact h
      | _ =>
        simp only [State.hears] at h ⊢
        first
          | rfl
          | (rw [Y.method] at h; rw [hm]; exact h)
  · rw [State.stackLimits_setFrames]
  · rw [State.stackBytes_setFrames]
  · have h := (State.sameButNew.refl (T.setFrames (.invoking m args :: below)) ht0).setFrames T.frames (State.cur_lt_of_frames hF)
    obtain ⟨t1, ht1, -⟩ := State.frames_cons hfr
    rw [State.setFrames_setFrames, State.setFrames_self ht1] at h
    exact h
end AmThrow
theorem am_decl {args : Array Value} {s : State} {x : MethodName} {b : ByteArray} {mL : Nat} {ret : Option FieldType} (hi : (Cond.instanceMethod x).before args s = true) (hc : (Cond.code x b mL ret).before args s = true) : (Cond.declares x).before args s = true := by
  obtain ⟨r0, r, hn, hrm, hst, -⟩ := Cond.instanceMethod_spec hi
  obtain ⟨r', c0, hrm', -, -, -, -, -, -, hsig⟩ := Cond.code_spec hn hc
  cases hrm.symm.trans hrm'
  simp [Cond.before, Cond.holds, Cond.value, hn, hrm, hst, hsig]
theorem am_lsA {args : Array Value} {U : State} {C n d : String} (h : va_Nw (.laysStatic C n d) U) : (Cond.laysStatic C n d).before args U = true := by
  obtain ⟨c, k, i, f, a, cell, hc, hi, hst, ha, hcell, hs, hcls, hlt, hty⟩ := Cond.laysStatic_spec h
  exact Cond.laysStatic_of (s := U) hc hi hst ha hcell hs hcls hlt hty
theorem am_isref {args : Array Value} {U : State} {C n d : String} {A : Nat → Prop} (h : va_Zq C n d A U U.heap) : (Cond.isRef (.static C n d)).before args U = true := by
  rcases h with ⟨cf, kf, fi, f, a, cell, q1, q2, q3, q4, q5, q6, q7, q8⟩ | ⟨t, cf, kf, fi, f, a, cell, q1, q2, q3, q4, q5, q6, q7, q8⟩
  · simp [Cond.before, Cond.holds, Cond.value, Term.eval, State.fieldNamed?, q1, q2, q4, q5, q6, q7]
  · simp [Cond.before, Cond.holds, Cond.value, Term.eval, State.fieldNamed?, q1, q2, q4, q5, q6, q7]
