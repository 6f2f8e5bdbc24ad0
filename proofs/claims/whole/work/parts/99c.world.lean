/-! the world at the law's entry -/
def lw_tm : Nat → Term := fun i => ([.string "RetraceDesk$Mapping" 68, .string "RetraceDesk$Mapping" 92, .string "RetraceDesk$Mapping" 87, .string "RetraceDesk$Trace" 39, .string "RetraceDesk$Trace" 78, .string "RetraceDesk$Trace" 52, .string "RetraceDesk$Trace" 140, .string "RetraceDesk$Trace" 142, .string "RetraceDesk$Trace" 120, .string "RetraceDesk$Trace" 122, .string "RetraceDesk$Trace" 131, .string "RetraceDesk$Trace" 133, .string "RetraceDesk$Rewriter" 235, .string "RetraceDesk$Text" 59, .string "RetraceDesk$Rewriter" 173] : List Term).getD i (.arg 0)
theorem lw_k1 : ∀ i : Nat, i < 15 → Jvm.Cond.exactly (lw_tm i) "java/lang/String" ∈ flatC (Jvm.Cond.and given_1 narrow_1) := by decide +kernel
theorem lw_k2 : ∀ i : Nat, i < 15 → Jvm.Cond.eq (.field (lw_tm i) "java/lang/String" "coder" "B") (.int 0) ∈ flatC (Jvm.Cond.and given_1 narrow_1) := by decide +kernel
theorem lw_k3 : ∀ i : Nat, i < 15 → Jvm.Cond.arrayOf (.field (lw_tm i) "java/lang/String" "value" "[B") .byte ∈ flatC (Jvm.Cond.and given_1 narrow_1) := by decide +kernel
theorem lw_k4 : ∀ i : Nat, i < 15 → Jvm.Cond.eq (.length (.field (lw_tm i) "java/lang/String" "value" "[B")) (.int (Int32.ofNat (am_len.getD i 0))) ∈ flatC (Jvm.Cond.and given_1 narrow_1) := by decide +kernel
theorem lw_k5 : ∀ i : Nat, i < 15 → ∀ j : Nat, j < am_len.getD i 0 → Jvm.Cond.eq (.elem (.field (lw_tm i) "java/lang/String" "value" "[B") (.int (Int32.ofNat j))) (.int ((am_byt.getD i []).getD j 0)) ∈ flatC (Jvm.Cond.and given_1 narrow_1) := by decide +kernel
def lw_pos : List (List Nat) := [[0, 84, 93, 110, 119, 131, 145, 160, 172, 198, 224, 239, 344, 369, 455], [84, 0, 94, 111, 120, 132, 146, 161, 173, 199, 225, 240, 345, 370, 456], [93, 94, 0, 112, 121, 133, 147, 162, 174, 200, 226, 241, 346, 371, 457], [110, 111, 112, 0, 122, 134, 148, 163, 175, 201, 227, 242, 347, 372, 458], [119, 120, 121, 122, 0, 135, 149, 164, 176, 202, 228, 243, 348, 373, 459], [131, 132, 133, 134, 135, 0, 150, 165, 177, 203, 229, 244, 349, 374, 460], [145, 146, 147, 148, 149, 150, 0, 166, 178, 204, 230, 245, 350, 375, 461], [160, 161, 162, 163, 164, 165, 166, 0, 179, 205, 231, 246, 351, 376, 462], [172, 173, 174, 175, 176, 177, 178, 179, 0, 206, 232, 247, 352, 377, 463], [198, 199, 200, 201, 202, 203, 204, 205, 206, 0, 233, 248, 353, 378, 464], [224, 225, 226, 227, 228, 229, 230, 231, 232, 233, 0, 249, 354, 379, 465], [239, 240, 241, 242, 243, 244, 245, 246, 247, 248, 249, 0, 355, 380, 466], [344, 345, 346, 347, 348, 349, 350, 351, 352, 353, 354, 355, 0, 385, 471], [369, 370, 371, 372, 373, 374, 375, 376, 377, 378, 379, 380, 385, 0, 472], [455, 456, 457, 458, 459, 460, 461, 462, 463, 464, 465, 466, 471, 472, 0]]
theorem lw_k7 : ∀ i : Nat, i < 15 → ∀ j : Nat, j < 15 → i ≠ j → ((flatC (Jvm.Cond.and given_1 narrow_1))[(lw_pos.getD i []).getD j 0]? = some (Jvm.Cond.not (.eq (lw_tm i) (lw_tm j))) ∨ (flatC (Jvm.Cond.and given_1 narrow_1))[(lw_pos.getD i []).getD j 0]? = some (Jvm.Cond.not (.eq (lw_tm j) (lw_tm i)))) := by decide +kernel
theorem lw_k6 : ∀ i : Nat, i < 15 → ∀ j : Nat, j < 15 → i ≠ j → (Jvm.Cond.not (.eq (lw_tm i) (lw_tm j)) ∈ flatC (Jvm.Cond.and given_1 narrow_1) ∨ Jvm.Cond.not (.eq (lw_tm j) (lw_tm i)) ∈ flatC (Jvm.Cond.and given_1 narrow_1)) := fun i hi j hj hij => (lw_k7 i hi j hj hij).imp List.mem_of_getElem? List.mem_of_getElem?
theorem am_lsB {args : Array Value} {U : State} {C n d : String} (h : (Cond.laysStatic C n d).before args U = true) : va_Nw (.laysStatic C n d) U := by
  obtain ⟨c, k, i, f, a, cell, hc, hi, hst, ha, hcell, hs, hcls, hlt, hty⟩ := Cond.laysStatic_spec h
  exact Cond.laysStatic_of (s := U) hc hi hst ha hcell hs hcls hlt hty
theorem lw_lt : ∀ q ∈ am_strs, q.2.2.2 < 15 := by decide
theorem lw_strs {args : Array Value} {s : State} (hts : ∀ w ∈ lw_tbl, w.before args s = true) (h : (Jvm.Cond.and given_1 narrow_1).before args s = true) : ∃ adK adV : Nat → Nat, vk_S 15 am_len am_byt adK adV (fun q : Nat => s.heap.size ≤ q) s s.heap ∧ ∀ q ∈ am_strs, vk_R q.1 q.2.1 q.2.2.1 (adK q.2.2.2) s := by
  have hs := flat_of_before _ h
  obtain ⟨adK, adV, hZ, hE⟩ := vk_Sof (A := (fun q : Nat => s.heap.size ≤ q)) (tm := lw_tm) (len := am_len) (byt := am_byt) (N := 15) (by decide) (fun i hi => hs _ (lw_k1 i hi)) (fun i hi => hs _ (lw_k2 i hi)) (fun i hi => hs _ (lw_k3 i hi)) (fun i hi => hs _ (lw_k4 i hi)) (fun i hi j hj => hs _ (lw_k5 i hi j hj)) (fun i j hi hj hij => (lw_k6 i hi j hj hij).imp (hs _) (hs _)) (fun a h9 => Nat.not_le.mpr h9)
  refine ⟨adK, adV, hZ, ?_⟩
  refine List.forall_mem_cons.mpr ⟨vk_R.of (hts (.stringRef "RetraceDesk$Mapping" 68 "    ") (by decide +kernel)) (hE 0 (by decide)), ?_⟩
  refine List.forall_mem_cons.mpr ⟨vk_R.of (hts (.stringRef "RetraceDesk$Mapping" 92 ":") (by decide +kernel)) (hE 1 (by decide)), ?_⟩
  refine List.forall_mem_cons.mpr ⟨vk_R.of (hts (.stringRef "RetraceDesk$Mapping" 87 " -> ") (by decide +kernel)) (hE 2 (by decide)), ?_⟩
  refine List.forall_mem_cons.mpr ⟨vk_R.of (hts (.stringRef "RetraceDesk$Trace" 39 "Caused by: ") (by decide +kernel)) (hE 3 (by decide)), ?_⟩
  refine List.forall_mem_cons.mpr ⟨vk_R.of (hts (.stringRef "RetraceDesk$Trace" 78 ": ") (by decide +kernel)) (hE 4 (by decide)), ?_⟩
  refine List.forall_mem_cons.mpr ⟨vk_R.of (hts (.stringRef "RetraceDesk$Trace" 52 "\tat ") (by decide +kernel)) (hE 5 (by decide)), ?_⟩
  refine List.forall_mem_cons.mpr ⟨vk_R.of (hts (.stringRef "RetraceDesk$Trace" 140 "\t... ") (by decide +kernel)) (hE 6 (by decide)), ?_⟩
  refine List.forall_mem_cons.mpr ⟨vk_R.of (hts (.stringRef "RetraceDesk$Trace" 142 " more") (by decide +kernel)) (hE 7 (by decide)), ?_⟩
  refine List.forall_mem_cons.mpr ⟨vk_R.of (hts (.stringRef "RetraceDesk$Trace" 120 "(") (by decide +kernel)) (hE 8 (by decide)), ?_⟩
  refine List.forall_mem_cons.mpr ⟨vk_R.of (hts (.stringRef "RetraceDesk$Trace" 122 "Unknown Source") (by decide +kernel)) (hE 9 (by decide)), ?_⟩
  refine List.forall_mem_cons.mpr ⟨vk_R.of (hts (.stringRef "RetraceDesk$Trace" 131 "Native Method") (by decide +kernel)) (hE 10 (by decide)), ?_⟩
  refine List.forall_mem_cons.mpr ⟨vk_R.of (hts (.stringRef "RetraceDesk$Trace" 133 ")") (by decide +kernel)) (hE 11 (by decide)), ?_⟩
  refine List.forall_mem_cons.mpr ⟨vk_R.of (hts (.stringRef "RetraceDesk$Trace" 135 ":") (by decide +kernel)) (va_eqR (t := .string "RetraceDesk$Mapping" 92) (hs (.eq (.string "RetraceDesk$Mapping" 92) (.string "RetraceDesk$Trace" 135)) (by decide +kernel)) (hE 1 (by decide))), ?_⟩
  refine List.forall_mem_cons.mpr ⟨vk_R.of (hts (.stringRef "RetraceDesk$Rewriter" 196 "Caused by: ") (by decide +kernel)) (va_eqR (t := .string "RetraceDesk$Trace" 39) (hs (.eq (.string "RetraceDesk$Trace" 39) (.string "RetraceDesk$Rewriter" 196)) (by decide +kernel)) (hE 3 (by decide))), ?_⟩
  refine List.forall_mem_cons.mpr ⟨vk_R.of (hts (.stringRef "RetraceDesk$Rewriter" 205 ": ") (by decide +kernel)) (va_eqR (t := .string "RetraceDesk$Trace" 78) (hs (.eq (.string "RetraceDesk$Trace" 78) (.string "RetraceDesk$Rewriter" 205)) (by decide +kernel)) (hE 4 (by decide))), ?_⟩
  refine List.forall_mem_cons.mpr ⟨vk_R.of (hts (.stringRef "RetraceDesk$Rewriter" 230 "\tat ") (by decide +kernel)) (va_eqR (t := .string "RetraceDesk$Trace" 52) (hs (.eq (.string "RetraceDesk$Trace" 52) (.string "RetraceDesk$Rewriter" 230)) (by decide +kernel)) (hE 5 (by decide))), ?_⟩
  refine List.forall_mem_cons.mpr ⟨vk_R.of (hts (.stringRef "RetraceDesk$Rewriter" 235 ")\n") (by decide +kernel)) (hE 12 (by decide)), ?_⟩
  refine List.forall_mem_cons.mpr ⟨vk_R.of (hts (.stringRef "RetraceDesk$Text" 59 ".java") (by decide +kernel)) (hE 13 (by decide)), ?_⟩
  refine List.forall_mem_cons.mpr ⟨vk_R.of (hts (.stringRef "RetraceDesk$Rewriter" 217 "\t... ") (by decide +kernel)) (va_eqR (t := .string "RetraceDesk$Trace" 140) (hs (.eq (.string "RetraceDesk$Trace" 140) (.string "RetraceDesk$Rewriter" 217)) (by decide +kernel)) (hE 6 (by decide))), ?_⟩
  refine List.forall_mem_cons.mpr ⟨vk_R.of (hts (.stringRef "RetraceDesk$Rewriter" 222 " more") (by decide +kernel)) (va_eqR (t := .string "RetraceDesk$Trace" 142) (hs (.eq (.string "RetraceDesk$Trace" 142) (.string "RetraceDesk$Rewriter" 222)) (by decide +kernel)) (hE 7 (by decide))), ?_⟩
  refine List.forall_mem_cons.mpr ⟨vk_R.of (hts (.stringRef "RetraceDesk$Rewriter" 173 "SourceFile") (by decide +kernel)) (hE 14 (by decide)), ?_⟩
  refine List.forall_mem_cons.mpr ⟨vk_R.of (hts (.stringRef "RetraceDesk$CrashBook" 41 "\tat ") (by decide +kernel)) (va_eqR (t := .string "RetraceDesk$Trace" 52) (hs (.eq (.string "RetraceDesk$Trace" 52) (.string "RetraceDesk$CrashBook" 41)) (by decide +kernel)) (hE 5 (by decide))), ?_⟩
  refine List.forall_mem_cons.mpr ⟨vk_R.of (hts (.stringRef "RetraceDesk$CrashBook" 61 "\t... ") (by decide +kernel)) (va_eqR (t := .string "RetraceDesk$Trace" 140) (hs (.eq (.string "RetraceDesk$Trace" 140) (.string "RetraceDesk$CrashBook" 61)) (by decide +kernel)) (hE 6 (by decide))), ?_⟩
  refine List.forall_mem_cons.mpr ⟨vk_R.of (hts (.stringRef "RetraceDesk$CrashBook" 63 "Caused by: ") (by decide +kernel)) (va_eqR (t := .string "RetraceDesk$Trace" 39) (hs (.eq (.string "RetraceDesk$Trace" 39) (.string "RetraceDesk$CrashBook" 63)) (by decide +kernel)) (hE 3 (by decide))), ?_⟩
  exact fun _ h => absurd h List.not_mem_nil
theorem lw_Sc {len : List Nat} {byt : List (List Int32)} {adK adV : Nat → Nat} {A : Nat → Prop} {U : State} {H : Heap} (h : vk_S 15 len byt adK adV A U H) : vk_S 15 len byt (fun k => if k < 15 then adK k else adV (k - 15)) (fun k => if 15 + k < 15 then adK (15 + k) else adV (15 + k - 15)) A U H := by
  have e2 : (fun k => if 15 + k < 15 then adK (15 + k) else adV (15 + k - 15)) = adV := funext fun k => by
    rw [if_neg (by omega), show 15 + k - 15 = k by omega]
  rw [e2]
  refine ⟨fun i hi => ?_, fun i j hi hj e => ?_⟩
  · show va_O "java/lang/String" (if i < 15 then adK i else adV (i - 15)) A U H ∧ va_OF "java/lang/String" "coder" "B" (.int 0) (if i < 15 then adK i else adV (i - 15)) A U H ∧ va_OF "java/lang/String" "value" "[B" (.ref (adV i)) (if i < 15 then adK i else adV (i - 15)) A U H ∧ va_T .byte (adV i) (len.getD i 0) (fun j => .int ((byt.getD i []).getD j 0)) A U H
    rw [if_pos hi]
    exact h.1 i hi
  · have e : (if i < 15 then adK i else adV (i - 15)) = (if j < 15 then adK j else adV (j - 15)) := e
    rw [if_pos hi, if_pos hj] at e
    exact h.2 i j hi hj e
theorem lw_ar {args : Array Value} {s : State} {ty : FieldType} (h : (Cond.arrayClass ty).before args s = true) (hty : ∀ C, ty ≠ .object C) : ∃ cA : ClassId, ArrOfT s cA ty ∧ va_RA s cA ty := by
  obtain ⟨cA, kA, comp, h1, h2, h3⟩ := Cond.arrayClass_spec h
  refine ⟨cA, fun n z => ⟨fun k h => (by cases h), kA, h2, comp, h3⟩, ?_⟩
  cases ty with
  | object C => exact absurd rfl (hty C)
  | _ => exact h1
theorem lw_ao {args : Array Value} {s : State} {C : String} (h : (Cond.arrayOver (.object C)).before args s = true) : ∃ cA : ClassId, ArrOfT s cA (.object C) ∧ va_RA s cA (.object C) := by
  obtain ⟨comp, c, k, h1, h2, h3, h4, h5⟩ := Cond.arrayOver_spec h
  exact ⟨c, fun n z => ⟨fun k h => (by cases h), k, h3, comp, h4⟩, k, comp, h3, h4, h1, h5⟩
theorem lw_world {s : State} {b : Nat} (hts : ∀ w ∈ lw_tbl, w.before #[Value.ref b] s = true) (h : (Jvm.Cond.and given_1 narrow_1).before #[Value.ref b] s = true) : ∃ G : am_G, G.2.2.2.1 = b ∧ G.2.2.2.2 = s.heap.size ∧ va_K G.1 vwCl (am_tys G) s ∧ am_K G s := by
  have hs := flat_of_before _ h
  have hta : ∀ w ∈ am_tbl, w.before #[Value.ref b] s = true := fun w hw => hts w (List.mem_filter.mp hw).1
  obtain ⟨c0, i0, k0⟩ := u_known (C := R_CL) (T := T_CL) (N := 5) (n := 5) hta us_CL (hta _ tb_232)
  obtain ⟨c1, i1, k1⟩ := u_known (C := R_CB) (T := T_CB) (N := 6) (n := 6) hta us_CB (hta _ tb_191)
  obtain ⟨c2, i2, k2⟩ := u_known (C := R_FR) (T := T_FR) (N := 5) (n := 5) hta us_FR (hta _ tb_129)
  obtain ⟨c3, i3, k3⟩ := u_known (C := R_HE) (T := T_HE) (N := 6) (n := 6) hta us_HE (hta _ tb_93)
  obtain ⟨c4, i4, k4⟩ := u_known (C := R_MA) (T := T_MA) (N := 10) (n := 10) hta us_MA (hta _ tb_223)
  obtain ⟨c5, i5, k5⟩ := u_known (C := R_ML) (T := T_ML) (N := 9) (n := 9) hta us_ML (hta _ tb_262)
  obtain ⟨c6, i6, k6⟩ := u_known (C := R_RW) (T := T_RW) (N := 5) (n := 5) hta us_RW (hta _ tb_758)
  obtain ⟨c7, i7, k7⟩ := u_known (C := R_SL) (T := T_SL) (N := 3) (n := 3) hta us_SL (hta _ tb_69)
  obtain ⟨c8, i8, k8⟩ := u_known (C := R_TX) (T := T_TX) (N := 3) (n := 3) hta us_TX (hta _ tb_36)
  obtain ⟨c9, i9, k9⟩ := u_known (C := R_TR) (T := T_TR) (N := 8) (n := 8) hta us_TR (hta _ tb_60)
  obtain ⟨c10, i10, k10⟩ := u_known (C := R_RD) (T := T_RD) (N := 10) (n := 10) hta us_RD (hta _ tb_28)
  obtain ⟨c11, i11, k11⟩ := u_known (C := R_MO) (T := T_MO) (N := 54) (n := 54) hta us_MO (hta _ tb_1045)
  obtain ⟨a0, x0, y0⟩ := lw_ar (ty := .char) (hts (.arrayClass .char) (by decide +kernel)) (fun _ z => by cases z)
  obtain ⟨a1, x1, y1⟩ := lw_ar (ty := .int) (hts (.arrayClass .int) (by decide +kernel)) (fun _ z => by cases z)
  obtain ⟨a2, x2, y2⟩ := lw_ar (ty := .long) (hts (.arrayClass .long) (by decide +kernel)) (fun _ z => by cases z)
  have o3 := hts (.arrayOver (.object "RetraceDesk$ClassLine")) (by decide +kernel)
  obtain ⟨a3, x3, y3⟩ := lw_ao o3
  have o4 := hts (.arrayOver (.object "RetraceDesk$MethodLine")) (by decide +kernel)
  obtain ⟨a4, x4, y4⟩ := lw_ao o4
  have o5 := hts (.arrayOver (.object "RetraceDesk$Header")) (by decide +kernel)
  obtain ⟨a5, x5, y5⟩ := lw_ao o5
  have o6 := hts (.arrayOver (.object "RetraceDesk$Frame")) (by decide +kernel)
  obtain ⟨a6, x6, y6⟩ := lw_ao o6
  obtain ⟨adK, adV, hZ, hV⟩ := lw_strs hts h
  have nA : ∀ a : Nat, a < s.heap.size → ¬ (fun q : Nat => s.heap.size ≤ q) a := fun a h9 => Nat.not_le.mpr h9
  refine ⟨((fun k => [c0, c1, c2, c3, c4, c5, c6, c7, c8, c9, c10, c11].getD k 0, fun k => [i0, i1, i2, i3, i4, i5, i6, i7, i8, i9, i10, i11].getD k id), fun k => [a0, a1, a2, a3, a4, a5, a6].getD k 0, fun k => if k < 15 then adK k else adV (k - 15), b, s.heap.size), rfl, rfl, ⟨fun c q hq => ?_, fun k q hq => ?_⟩, ?_⟩
  · match c, hq with
    | 0, hq => cases hq; exact k0
    | 1, hq => cases hq; exact k1
    | 2, hq => cases hq; exact k2
    | 3, hq => cases hq; exact k3
    | 4, hq => cases hq; exact k4
    | 5, hq => cases hq; exact k5
    | 6, hq => cases hq; exact k6
    | 7, hq => cases hq; exact k7
    | 8, hq => cases hq; exact k8
    | 9, hq => cases hq; exact k9
    | 10, hq => cases hq; exact k10
    | 11, hq => cases hq; exact k11
    | c + 12, hq => cases hq
  · match k, hq with
    | 0, hq => cases hq; exact ⟨x0, y0⟩
    | 1, hq => cases hq; exact ⟨x1, y1⟩
    | 2, hq => cases hq; exact ⟨x2, y2⟩
    | 3, hq => cases hq; exact ⟨x3, y3⟩
    | 4, hq => cases hq; exact ⟨x4, y4⟩
    | 5, hq => cases hq; exact ⟨x5, y5⟩
    | 6, hq => cases hq; exact ⟨x6, y6⟩
    | k + 7, hq => cases hq
  refine ⟨fun q hq => ?_, lw_Sc hZ, va_Zof (hts (.laysStatic "java/lang/String" "COMPACT_STRINGS" "Z") (by decide +kernel)) (hts (.initialized "java/lang/String") (by decide +kernel)) (va_eqi (hs (.eq (.static "java/lang/String" "COMPACT_STRINGS" "Z") (.int 1)) (by decide +kernel))) nA, va_Zqof (hts (.laysStatic "jdk/internal/util/Preconditions" "SIOOBE_FORMATTER" "Ljava/util/function/BiFunction;") (by decide +kernel)) (hts (.initialized "jdk/internal/util/Preconditions") (by decide +kernel)) (hs (.isRef (.static "jdk/internal/util/Preconditions" "SIOOBE_FORMATTER" "Ljava/util/function/BiFunction;")) (by decide +kernel)) nA, ⟨?_, ?_, ?_⟩, va_Nw.of rfl (hts (.declares ⟨"RetraceDesk$Form", "takesLine", "()Z"⟩) (by decide +kernel)), ⟨va_AO.of o3, va_AO.of o4, va_AO.of o5, va_AO.of o6⟩, ?_⟩
  · show vk_R q.1 q.2.1 q.2.2.1 (if q.2.2.2 < 15 then adK q.2.2.2 else adV (q.2.2.2 - 15)) s
    rw [if_pos (lw_lt q hq)]
    exact hV q hq
  · exact va_Nw.of rfl (hts (Jvm.Cond.methodLinkNest "RetraceDesk$Form" (26 : Nat) ({ cls := "RetraceDesk", name := "isFigure", desc := "(C)Z" } : Jvm.MethodName) "RetraceDesk") (by decide +kernel))
  · exact va_Nw.of rfl (hts (Jvm.Cond.methodLinkNest "RetraceDesk$Form" (56 : Nat) ({ cls := "RetraceDesk", name := "isLetter", desc := "(C)Z" } : Jvm.MethodName) "RetraceDesk") (by decide +kernel))
  · exact va_Nw.of rfl (hts (Jvm.Cond.methodLinkNest "RetraceDesk$CrashBook" (86 : Nat) ({ cls := "RetraceDesk", name := "isFigure", desc := "(C)Z" } : Jvm.MethodName) "RetraceDesk") (by decide +kernel))
  · exact ⟨⟨va_Zqof (hts (.laysStatic "java/lang/Throwable" "UNASSIGNED_STACK" "[Ljava/lang/StackTraceElement;") (by decide +kernel)) (hts (.initialized "java/lang/Throwable") (by decide +kernel)) (hs (.isRef (.static "java/lang/Throwable" "UNASSIGNED_STACK" "[Ljava/lang/StackTraceElement;")) (by decide +kernel)) nA, am_lsB (hts (.laysStatic "java/lang/Throwable" "UNASSIGNED_STACK" "[Ljava/lang/StackTraceElement;") (by decide +kernel))⟩, ⟨va_Zqof (hts (.laysStatic "java/lang/Throwable" "SUPPRESSED_SENTINEL" "Ljava/util/List;") (by decide +kernel)) (hts (.initialized "java/lang/Throwable") (by decide +kernel)) (hs (.isRef (.static "java/lang/Throwable" "SUPPRESSED_SENTINEL" "Ljava/util/List;")) (by decide +kernel)) nA, am_lsB (hts (.laysStatic "java/lang/Throwable" "SUPPRESSED_SENTINEL" "Ljava/util/List;") (by decide +kernel))⟩, ⟨am_nc.of (hs (.not (.castable "java/lang/IllegalStateException" "java/lang/IllegalArgumentException")) (by decide +kernel)), am_nc.of (hs (.not (.castable "java/lang/IllegalArgumentException" "java/util/NoSuchElementException")) (by decide +kernel))⟩, va_Nw.of rfl (hts (.castable "java/lang/IllegalArgumentException" "java/lang/IllegalArgumentException") (by decide +kernel)), va_Nw.of rfl (hts (.castable "java/lang/IllegalStateException" "java/lang/IllegalStateException") (by decide +kernel)), va_Nw.of rfl (hts (.castable "java/lang/IndexOutOfBoundsException" "java/lang/IndexOutOfBoundsException") (by decide +kernel)), va_Nw.of rfl (hts (.castable "java/util/NoSuchElementException" "java/util/NoSuchElementException") (by decide +kernel))⟩
