/-! what a run knows all along: the array classes, the strings, a static of String, words that are no table words -/
abbrev am_H : Type := List va_E
/-- where classes and slots lie, the array classes by kind, the strings' cells, the script's cell, the floor: nothing below it is written -/
abbrev am_G : Type := va_G × (Nat → ClassId) × (Nat → Nat) × Nat × Nat
def am_tys (G : am_G) : List (ClassId × FieldType) := [(G.2.1 0, .char), (G.2.1 1, .int), (G.2.1 2, .long), (G.2.1 3, .object "RetraceDesk$ClassLine"), (G.2.1 4, .object "RetraceDesk$MethodLine"), (G.2.1 5, .object "RetraceDesk$Header"), (G.2.1 6, .object "RetraceDesk$Frame")]
def am_A (G : am_G) : Nat → Prop := fun q => G.2.2.2.2 ≤ q
def am_len : List Nat := [4, 1, 4, 11, 2, 4, 5, 5, 1, 14, 13, 1, 2, 5, 10]
def am_byt : List (List Int32) := [[32, 32, 32, 32], [58], [32, 45, 62, 32], [67, 97, 117, 115, 101, 100, 32, 98, 121, 58, 32], [58, 32], [9, 97, 116, 32], [9, 46, 46, 46, 32], [32, 109, 111, 114, 101], [40], [85, 110, 107, 110, 111, 119, 110, 32, 83, 111, 117, 114, 99, 101], [78, 97, 116, 105, 118, 101, 32, 77, 101, 116, 104, 111, 100], [41], [41, 10], [46, 106, 97, 118, 97], [83, 111, 117, 114, 99, 101, 70, 105, 108, 101]]
def am_strs : List (String × Nat × String × Nat) := [("RetraceDesk$Mapping", 68, "    ", 0), ("RetraceDesk$Mapping", 92, ":", 1), ("RetraceDesk$Mapping", 87, " -> ", 2), ("RetraceDesk$Trace", 39, "Caused by: ", 3), ("RetraceDesk$Trace", 78, ": ", 4), ("RetraceDesk$Trace", 52, "\tat ", 5), ("RetraceDesk$Trace", 140, "\t... ", 6), ("RetraceDesk$Trace", 142, " more", 7), ("RetraceDesk$Trace", 120, "(", 8), ("RetraceDesk$Trace", 122, "Unknown Source", 9), ("RetraceDesk$Trace", 131, "Native Method", 10), ("RetraceDesk$Trace", 133, ")", 11), ("RetraceDesk$Trace", 135, ":", 1), ("RetraceDesk$Rewriter", 196, "Caused by: ", 3), ("RetraceDesk$Rewriter", 205, ": ", 4), ("RetraceDesk$Rewriter", 230, "\tat ", 5), ("RetraceDesk$Rewriter", 235, ")\n", 12), ("RetraceDesk$Text", 59, ".java", 13), ("RetraceDesk$Rewriter", 217, "\t... ", 6), ("RetraceDesk$Rewriter", 222, " more", 7), ("RetraceDesk$Rewriter", 173, "SourceFile", 14), ("RetraceDesk$CrashBook", 41, "\tat ", 5), ("RetraceDesk$CrashBook", 61, "\t... ", 6), ("RetraceDesk$CrashBook", 63, "Caused by: ", 3)]
/-- a static of Throwable: it is laid, and holds null or a reference; nothing writes it -/
def am_Ls (n d : String) (A : Nat → Prop) (U : State) : Prop := va_Zq "java/lang/Throwable" n d A U U.heap ∧ va_Nw (.laysStatic "java/lang/Throwable" n d) U
theorem am_Ls.to {n d : String} {A : Nat → Prop} {s U : State} (hal : s.vm.Alike U.vm) (hk : ∀ q : Nat, q < s.heap.size → ¬ A q → U.heap[q]? = s.heap[q]?) (h : am_Ls n d A s) : am_Ls n d A U := by
  have h1 := (h.1.moved hal).kept hk
  refine ⟨h1, ?_⟩
  have h2 := Cond.laysStatic_setVm hal h.2
  obtain ⟨c, k, i, f, a, cell, hc, hi, hst, ha, hcell, hs, hcls, hlt, hty⟩ := Cond.laysStatic_spec h2
  have hi' : U.fieldFound? "java/lang/Throwable" n d = some (c, k, i, f) := hi
  have hA : ¬ A a := by
    rcases h1 with ⟨cf, kf, fi, f', a', cell', q1, q2, q3, q4, q5, q6, q7, q8⟩ | ⟨t, cf, kf, fi, f', a', cell', q1, q2, q3, q4, q5, q6, q7, q8⟩
    · cases hi'.symm.trans q1
      cases ha.symm.trans q4
      exact q8
    · cases hi'.symm.trans q1
      cases ha.symm.trans q4
      exact q8
  have hcell' : s.heap[a]? = some cell := hcell
  have hlt' : a < s.heap.size := (Array.getElem?_eq_some_iff.mp hcell').1
  exact Cond.laysStatic_of (s := U) hc hi' hst ha ((hk a hlt' hA).trans hcell') hs hcls hlt hty
/-- an object of C is none of T -/
def am_nc (C T : String) (U : State) : Prop := ∃ c d : ClassId, U.vm.findClass C = some c ∧ U.vm.findClass T = some d ∧ U.vm.assignable c d = false
theorem am_nc.of {C T : String} {args : Array Value} {U : State} (h : (Cond.not (.castable C T)).before args U = true) : am_nc C T U := by
  have hv := Cond.holds_not_iff.mp h
  simp only [Cond.value] at hv
  cases h1 : U.vm.findClass C with
  | none => simp [h1] at hv
  | some c =>
    cases h2 : U.vm.findClass T with
    | none => simp [h1, h2] at hv
    | some d =>
      simp only [h1, h2] at hv
      exact ⟨c, d, h1, h2, Option.some.inj hv⟩
theorem am_nc.use {C T : String} {args : Array Value} {U : State} (h : am_nc C T U) : (Cond.not (.castable C T)).before args U = true := by
  obtain ⟨c, d, h1, h2, h3⟩ := h
  simp [Cond.before, Cond.holds, Cond.value, h1, h2, h3]
theorem am_nc.moved {C T : String} {u U : State} (ha : u.vm.Alike U.vm) (h : am_nc C T u) : am_nc C T U := by
  obtain ⟨c, d, h1, h2, h3⟩ := h
  exact ⟨c, d, (ha.findClass C none).trans h1, (ha.findClass T none).trans h2, (ha.assignable c d).trans h3⟩
/-- what a throw asks beside the words -/
def am_Tw (A : Nat → Prop) (U : State) : Prop := am_Ls "UNASSIGNED_STACK" "[Ljava/lang/StackTraceElement;" A U ∧ am_Ls "SUPPRESSED_SENTINEL" "Ljava/util/List;" A U ∧ (am_nc "java/lang/IllegalStateException" "java/lang/IllegalArgumentException" U ∧ am_nc "java/lang/IllegalArgumentException" "java/util/NoSuchElementException" U) ∧ va_Nw (.castable "java/lang/IllegalArgumentException" "java/lang/IllegalArgumentException") U ∧ va_Nw (.castable "java/lang/IllegalStateException" "java/lang/IllegalStateException") U ∧ va_Nw (.castable "java/lang/IndexOutOfBoundsException" "java/lang/IndexOutOfBoundsException") U ∧ va_Nw (.castable "java/util/NoSuchElementException" "java/util/NoSuchElementException") U
theorem am_Tw.same {A : Nat → Prop} {u U : State} (hv : U.vm = u.vm) (hh : U.heap = u.heap) (h : am_Tw A u) : am_Tw A U := by
  obtain ⟨h1, h2, ⟨h3, h4⟩, h5, h6, h7, h8⟩ := h
  have ha : u.vm.Alike U.vm := by rw [hv]; exact Vm.Alike.refl u.vm
  exact ⟨h1.to ha (fun q _ _ => by rw [hh]), h2.to ha (fun q _ _ => by rw [hh]), ⟨h3.moved ha, h4.moved ha⟩, va_Nw.same rfl hv.symm h5, va_Nw.same rfl hv.symm h6, va_Nw.same rfl hv.symm h7, va_Nw.same rfl hv.symm h8⟩
theorem am_Tw.warm {A : Nat → Prop} {s U : State} (hW : s.WarmedH U.vm) (hk : ∀ q : Nat, q < s.heap.size → ¬ A q → U.heap[q]? = s.heap[q]?) (h : am_Tw A s) : am_Tw A U := by
  obtain ⟨h1, h2, ⟨h3, h4⟩, h5, h6, h7, h8⟩ := h
  exact ⟨h1.to hW.alike hk, h2.to hW.alike hk, ⟨h3.moved hW.alike, h4.moved hW.alike⟩, va_Nw.warmC hW h5, va_Nw.warmC hW h6, va_Nw.warmC hW h7, va_Nw.warmC hW h8⟩
def am_K (G : am_G) (U : State) : Prop :=
  (∀ q ∈ am_strs, vk_R q.1 q.2.1 q.2.2.1 (G.2.2.1 q.2.2.2) U) ∧ vk_S 15 am_len am_byt G.2.2.1 (fun k => G.2.2.1 (15 + k)) (am_A G) U U.heap ∧ va_Z "java/lang/String" "COMPACT_STRINGS" "Z" (.int 1) (am_A G) U U.heap ∧ va_Zq "jdk/internal/util/Preconditions" "SIOOBE_FORMATTER" "Ljava/util/function/BiFunction;" (am_A G) U U.heap ∧
  (va_Nw (Jvm.Cond.methodLinkNest "RetraceDesk$Form" (26 : Nat) ({ cls := "RetraceDesk", name := "isFigure", desc := "(C)Z" } : Jvm.MethodName) "RetraceDesk") U ∧ va_Nw (Jvm.Cond.methodLinkNest "RetraceDesk$Form" (56 : Nat) ({ cls := "RetraceDesk", name := "isLetter", desc := "(C)Z" } : Jvm.MethodName) "RetraceDesk") U ∧ va_Nw (Jvm.Cond.methodLinkNest "RetraceDesk$CrashBook" (86 : Nat) ({ cls := "RetraceDesk", name := "isFigure", desc := "(C)Z" } : Jvm.MethodName) "RetraceDesk") U) ∧
  va_Nw (.declares ⟨"RetraceDesk$Form", "takesLine", "()Z"⟩) U ∧ (va_AO "RetraceDesk$ClassLine" U ∧ va_AO "RetraceDesk$MethodLine" U ∧ va_AO "RetraceDesk$Header" U ∧ va_AO "RetraceDesk$Frame" U) ∧ am_Tw (am_A G) U
theorem am_K.same {G : am_G} {u U : State} (hv : U.vm = u.vm) (hh : U.heap = u.heap) (h : am_K G u) : am_K G U := by
  obtain ⟨h1, h2, h3, h4, ⟨n1, n2, n3⟩, h5, ⟨a1, a2, a3, a4⟩, hT⟩ := h
  have ha : u.vm.Alike U.vm := by rw [hv]; exact Vm.Alike.refl u.vm
  refine ⟨fun q hq => vk_R.same hv (h1 q hq), ?_, ?_, ?_, ⟨va_Nw.same rfl hv.symm n1, va_Nw.same rfl hv.symm n2, va_Nw.same rfl hv.symm n3⟩, va_Nw.same rfl hv.symm h5, ⟨a1.moved ha, a2.moved ha, a3.moved ha, a4.moved ha⟩, hT.same hv hh⟩
  · rw [hh]; exact h2.moved ha
  · rw [hh]; exact h3.moved ha
  · rw [hh]; exact h4.moved ha
theorem am_K.calling {G : am_G} {U : State} {g : JFrame} {mk : MethodId} {a : Array Value} (h : am_K G U) : am_K G (U.calling g mk a) := am_K.same rfl rfl h
theorem am_K.warm {G : am_G} {s U : State} {locs : List Loc} (hW : s.WarmedH U.vm) (hS : va_S (am_A G) s.heap U.heap locs) (h : am_K G s) : am_K G U := by
  obtain ⟨h1, h2, h3, h4, ⟨n1, n2, n3⟩, h5, ⟨a1, a2, a3, a4⟩, hT⟩ := h
  have ha := hW.alike
  exact ⟨fun q hq => vk_R.warm hW (h1 q hq), (h2.moved ha).kept hS.2.1, (h3.moved ha).kept hS.2.1, (h4.moved ha).kept hS.2.1, ⟨va_Nw.warmM hW n1, va_Nw.warmM hW n2, va_Nw.warmM hW n3⟩, va_Nw.warmD hW h5, ⟨a1.moved ha, a2.moved ha, a3.moved ha, a4.moved ha⟩, hT.warm hW hS.2.1⟩
theorem am_aoCL (G : am_G) (U : State) (h : am_K G U) : va_AO "RetraceDesk$ClassLine" U := h.2.2.2.2.2.2.1.1
theorem am_aoML (G : am_G) (U : State) (h : am_K G U) : va_AO "RetraceDesk$MethodLine" U := h.2.2.2.2.2.2.1.2.1
theorem am_aoHE (G : am_G) (U : State) (h : am_K G U) : va_AO "RetraceDesk$Header" U := h.2.2.2.2.2.2.1.2.2.1
theorem am_aoFR (G : am_G) (U : State) (h : am_K G U) : va_AO "RetraceDesk$Frame" U := h.2.2.2.2.2.2.1.2.2.2
theorem am_K.tw {G : am_G} {U : State} (h : am_K G U) : am_Tw (am_A G) U := h.2.2.2.2.2.2.2
