/-! what a run knows all along: the array classes, the strings, a static of String, words that are no table words -/
abbrev am_H : Type := List va_E
/-- where classes and slots lie, the array classes by kind, the strings' cells, the script's cell, the floor: nothing below it is written -/
abbrev am_G : Type := va_G × (Nat → ClassId) × (Nat → Nat) × Nat × Nat
def am_tys (G : am_G) : List (ClassId × FieldType) := [(G.2.1 0, .char), (G.2.1 1, .int), (G.2.1 2, .long), (G.2.1 3, .object "RetraceDesk$ClassLine"), (G.2.1 4, .object "RetraceDesk$MethodLine"), (G.2.1 5, .object "RetraceDesk$Header"), (G.2.1 6, .object "RetraceDesk$Frame")]
def am_A (G : am_G) : Nat → Prop := fun q => G.2.2.2.2 ≤ q
def am_len : List Nat := [4, 1, 4, 11, 2, 4, 5, 5, 1, 14, 13, 1, 2, 5, 10]
def am_byt : List (List Int32) := [[32, 32, 32, 32], [58], [32, 45, 62, 32], [67, 97, 117, 115, 101, 100, 32, 98, 121, 58, 32], [58, 32], [9, 97, 116, 32], [9, 46, 46, 46, 32], [32, 109, 111, 114, 101], [40], [85, 110, 107, 110, 111, 119, 110, 32, 83, 111, 117, 114, 99, 101], [78, 97, 116, 105, 118, 101, 32, 77, 101, 116, 104, 111, 100], [41], [41, 10], [46, 106, 97, 118, 97], [83, 111, 117, 114, 99, 101, 70, 105, 108, 101]]
def am_strs : List (String × Nat × String × Nat) := [("RetraceDesk$Mapping", 68, "    ", 0), ("RetraceDesk$Mapping", 92, ":", 1), ("RetraceDesk$Mapping", 87, " -> ", 2), ("RetraceDesk$Trace", 39, "Caused by: ", 3), ("RetraceDesk$Trace", 78, ": ", 4), ("RetraceDesk$Trace", 52, "\tat ", 5), ("RetraceDesk$Trace", 140, "\t... ", 6), ("RetraceDesk$Trace", 142, " more", 7), ("RetraceDesk$Trace", 120, "(", 8), ("RetraceDesk$Trace", 122, "Unknown Source", 9), ("RetraceDesk$Trace", 131, "Native Method", 10), ("RetraceDesk$Trace", 133, ")", 11), ("RetraceDesk$Trace", 135, ":", 1), ("RetraceDesk$Rewriter", 196, "Caused by: ", 3), ("RetraceDesk$Rewriter", 205, ": ", 4), ("RetraceDesk$Rewriter", 230, "\tat ", 5), ("RetraceDesk$Rewriter", 235, ")\n", 12), ("RetraceDesk$Text", 59, ".java", 13), ("RetraceDesk$Rewriter", 217, "\t... ", 6), ("RetraceDesk$Rewriter", 222, " more", 7), ("RetraceDesk$Rewriter", 173, "SourceFile", 14), ("RetraceDesk$CrashBook", 41, "\tat ", 5), ("RetraceDesk$CrashBook", 61, "\t... ", 6), ("RetraceDesk$CrashBook", 63, "Caused by: ", 3)]
def am_K (G : am_G) (U : State) : Prop :=
  (∀ q ∈ am_strs, vk_R q.1 q.2.1 q.2.2.1 (G.2.2.1 q.2.2.2) U) ∧ vk_S 15 am_len am_byt G.2.2.1 (fun k => G.2.2.1 (15 + k)) (am_A G) U U.heap ∧ va_Z "java/lang/String" "COMPACT_STRINGS" "Z" (.int 1) (am_A G) U U.heap ∧ va_Zq "jdk/internal/util/Preconditions" "SIOOBE_FORMATTER" "Ljava/util/function/BiFunction;" (am_A G) U U.heap ∧
  (va_Nw (Jvm.Cond.methodLinkNest "RetraceDesk$Form" (26 : Nat) ({ cls := "RetraceDesk", name := "isFigure", desc := "(C)Z" } : Jvm.MethodName) "RetraceDesk") U ∧ va_Nw (Jvm.Cond.methodLinkNest "RetraceDesk$Form" (56 : Nat) ({ cls := "RetraceDesk", name := "isLetter", desc := "(C)Z" } : Jvm.MethodName) "RetraceDesk") U ∧ va_Nw (Jvm.Cond.methodLinkNest "RetraceDesk$CrashBook" (86 : Nat) ({ cls := "RetraceDesk", name := "isFigure", desc := "(C)Z" } : Jvm.MethodName) "RetraceDesk") U) ∧
  va_Nw (.declares ⟨"RetraceDesk$Form", "takesLine", "()Z"⟩) U ∧ (va_AO "RetraceDesk$ClassLine" U ∧ va_AO "RetraceDesk$MethodLine" U ∧ va_AO "RetraceDesk$Header" U ∧ va_AO "RetraceDesk$Frame" U)
theorem am_K.same {G : am_G} {u U : State} (hv : U.vm = u.vm) (hh : U.heap = u.heap) (h : am_K G u) : am_K G U := by
  obtain ⟨h1, h2, h3, h4, ⟨n1, n2, n3⟩, h5, a1, a2, a3, a4⟩ := h
  have ha : u.vm.Alike U.vm := by rw [hv]; exact Vm.Alike.refl u.vm
  refine ⟨fun q hq => vk_R.same hv (h1 q hq), ?_, ?_, ?_, ⟨va_Nw.same rfl hv.symm n1, va_Nw.same rfl hv.symm n2, va_Nw.same rfl hv.symm n3⟩, va_Nw.same rfl hv.symm h5, a1.moved ha, a2.moved ha, a3.moved ha, a4.moved ha⟩
  · rw [hh]; exact h2.moved ha
  · rw [hh]; exact h3.moved ha
  · rw [hh]; exact h4.moved ha
theorem am_K.calling {G : am_G} {U : State} {g : JFrame} {mk : MethodId} {a : Array Value} (h : am_K G U) : am_K G (U.calling g mk a) := am_K.same rfl rfl h
theorem am_K.warm {G : am_G} {s U : State} {locs : List Loc} (hW : s.WarmedH U.vm) (hS : va_S (am_A G) s.heap U.heap locs) (h : am_K G s) : am_K G U := by
  obtain ⟨h1, h2, h3, h4, ⟨n1, n2, n3⟩, h5, a1, a2, a3, a4⟩ := h
  have ha := hW.alike
  exact ⟨fun q hq => vk_R.warm hW (h1 q hq), (h2.moved ha).kept hS.2.1, (h3.moved ha).kept hS.2.1, (h4.moved ha).kept hS.2.1, ⟨va_Nw.warmM hW n1, va_Nw.warmM hW n2, va_Nw.warmM hW n3⟩, va_Nw.warmD hW h5, a1.moved ha, a2.moved ha, a3.moved ha, a4.moved ha⟩
theorem am_aoCL (G : am_G) (U : State) (h : am_K G U) : va_AO "RetraceDesk$ClassLine" U := h.2.2.2.2.2.2.1
theorem am_aoML (G : am_G) (U : State) (h : am_K G U) : va_AO "RetraceDesk$MethodLine" U := h.2.2.2.2.2.2.2.1
theorem am_aoHE (G : am_G) (U : State) (h : am_K G U) : va_AO "RetraceDesk$Header" U := h.2.2.2.2.2.2.2.2.1
theorem am_aoFR (G : am_G) (U : State) (h : am_K G U) : va_AO "RetraceDesk$Frame" U := h.2.2.2.2.2.2.2.2.2
