section
-- ===== PART A: goes FIRST, ahead of the names: the tables' words, and 'selects' of the private methods out of them =====
/-- a private method of a class that the tables say can be made, by its rows of tables_1 -/
def lw_okq (q : MethodName × Nat) : Prop := (q.1.cls ≠ "java/lang/invoke/MethodHandle" ∧ q.1.cls ≠ "java/lang/invoke/VarHandle") ∧ Cond.instantiable q.1.cls q.2 ∈ tables_1 ∧ Cond.privateMethod q.1 ∈ tables_1 ∧ Cond.instanceMethod q.1 ∈ tables_1
theorem lw_p0 : lw_okq (⟨"RetraceDesk$Mapping", "takesMethodLine", "()Z"⟩, 10) := ⟨⟨by decide +kernel, by decide +kernel⟩, List.mem_of_getElem? (i := 223) (by decide +kernel), List.mem_of_getElem? (i := 507) (by decide +kernel), List.mem_of_getElem? (i := 508) (by decide +kernel)⟩
theorem lw_p1 : lw_okq (⟨"RetraceDesk$Mapping", "takesRange", "(LRetraceDesk$MethodLine;)Z"⟩, 10) := ⟨⟨by decide +kernel, by decide +kernel⟩, List.mem_of_getElem? (i := 223) (by decide +kernel), List.mem_of_getElem? (i := 511) (by decide +kernel), List.mem_of_getElem? (i := 512) (by decide +kernel)⟩
theorem lw_p2 : lw_okq (⟨"RetraceDesk$Mapping", "takesRealCall", "(LRetraceDesk$MethodLine;)Z"⟩, 10) := ⟨⟨by decide +kernel, by decide +kernel⟩, List.mem_of_getElem? (i := 223) (by decide +kernel), List.mem_of_getElem? (i := 531) (by decide +kernel), List.mem_of_getElem? (i := 532) (by decide +kernel)⟩
theorem lw_p3 : lw_okq (⟨"RetraceDesk$Mapping", "takesRealRange", "(LRetraceDesk$MethodLine;)Z"⟩, 10) := ⟨⟨by decide +kernel, by decide +kernel⟩, List.mem_of_getElem? (i := 223) (by decide +kernel), List.mem_of_getElem? (i := 553) (by decide +kernel), List.mem_of_getElem? (i := 554) (by decide +kernel)⟩
theorem lw_p4 : lw_okq (⟨"RetraceDesk$Mapping", "enterMethodLine", "(LRetraceDesk$MethodLine;LRetraceDesk$ClassLine;)V"⟩, 10) := ⟨⟨by decide +kernel, by decide +kernel⟩, List.mem_of_getElem? (i := 223) (by decide +kernel), List.mem_of_getElem? (i := 566) (by decide +kernel), List.mem_of_getElem? (i := 567) (by decide +kernel)⟩
theorem lw_p5 : lw_okq (⟨"RetraceDesk$Mapping", "takesClassLine", "()Z"⟩, 10) := ⟨⟨by decide +kernel, by decide +kernel⟩, List.mem_of_getElem? (i := 223) (by decide +kernel), List.mem_of_getElem? (i := 579) (by decide +kernel), List.mem_of_getElem? (i := 580) (by decide +kernel)⟩
theorem lw_p6 : lw_okq (⟨"RetraceDesk$Trace", "takesHeader", "()Z"⟩, 8) := ⟨⟨by decide +kernel, by decide +kernel⟩, List.mem_of_getElem? (i := 60) (by decide +kernel), List.mem_of_getElem? (i := 599) (by decide +kernel), List.mem_of_getElem? (i := 600) (by decide +kernel)⟩
theorem lw_p7 : lw_okq (⟨"RetraceDesk$Trace", "takesMore", "(LRetraceDesk$Header;)Z"⟩, 8) := ⟨⟨by decide +kernel, by decide +kernel⟩, List.mem_of_getElem? (i := 60) (by decide +kernel), List.mem_of_getElem? (i := 617) (by decide +kernel), List.mem_of_getElem? (i := 618) (by decide +kernel)⟩
theorem lw_p8 : lw_okq (⟨"RetraceDesk$Trace", "takesCall", "(LRetraceDesk$Frame;)Z"⟩, 8) := ⟨⟨by decide +kernel, by decide +kernel⟩, List.mem_of_getElem? (i := 60) (by decide +kernel), List.mem_of_getElem? (i := 626) (by decide +kernel), List.mem_of_getElem? (i := 627) (by decide +kernel)⟩
theorem lw_p9 : lw_okq (⟨"RetraceDesk$Trace", "takesPlace", "(LRetraceDesk$Frame;)Z"⟩, 8) := ⟨⟨by decide +kernel, by decide +kernel⟩, List.mem_of_getElem? (i := 60) (by decide +kernel), List.mem_of_getElem? (i := 632) (by decide +kernel), List.mem_of_getElem? (i := 633) (by decide +kernel)⟩
theorem lw_p10 : lw_okq (⟨"java/lang/Throwable", "fillInStackTrace", "(I)Ljava/lang/Throwable;"⟩, 6) := ⟨⟨by decide +kernel, by decide +kernel⟩, List.mem_of_getElem? (i := 690) (by decide +kernel), List.mem_of_getElem? (i := 688) (by decide +kernel), List.mem_of_getElem? (i := 689) (by decide +kernel)⟩
theorem lw_p11 : lw_okq (⟨"RetraceDesk", "readTrace", "()V"⟩, 10) := ⟨⟨by decide +kernel, by decide +kernel⟩, List.mem_of_getElem? (i := 28) (by decide +kernel), List.mem_of_getElem? (i := 724) (by decide +kernel), List.mem_of_getElem? (i := 725) (by decide +kernel)⟩
theorem lw_p12 : lw_okq (⟨"RetraceDesk", "newRewriter", "()LRetraceDesk$Rewriter;"⟩, 10) := ⟨⟨by decide +kernel, by decide +kernel⟩, List.mem_of_getElem? (i := 28) (by decide +kernel), List.mem_of_getElem? (i := 739) (by decide +kernel), List.mem_of_getElem? (i := 740) (by decide +kernel)⟩
theorem lw_p13 : lw_okq (⟨"RetraceDesk$Rewriter", "writeHeader", "(ILRetraceDesk$Slice;)V"⟩, 5) := ⟨⟨by decide +kernel, by decide +kernel⟩, List.mem_of_getElem? (i := 758) (by decide +kernel), List.mem_of_getElem? (i := 787) (by decide +kernel), List.mem_of_getElem? (i := 788) (by decide +kernel)⟩
theorem lw_p14 : lw_okq (⟨"RetraceDesk$Rewriter", "retraceFrame", "(LRetraceDesk$Frame;)V"⟩, 5) := ⟨⟨by decide +kernel, by decide +kernel⟩, List.mem_of_getElem? (i := 758) (by decide +kernel), List.mem_of_getElem? (i := 810) (by decide +kernel), List.mem_of_getElem? (i := 811) (by decide +kernel)⟩
theorem lw_p15 : lw_okq (⟨"RetraceDesk$Rewriter", "writeUnchanged", "(LRetraceDesk$Frame;)V"⟩, 5) := ⟨⟨by decide +kernel, by decide +kernel⟩, List.mem_of_getElem? (i := 758) (by decide +kernel), List.mem_of_getElem? (i := 814) (by decide +kernel), List.mem_of_getElem? (i := 815) (by decide +kernel)⟩
def lw_privs_1 : List (MethodName × Nat) := [(⟨"RetraceDesk$Mapping", "takesMethodLine", "()Z"⟩, 10), (⟨"RetraceDesk$Mapping", "takesRange", "(LRetraceDesk$MethodLine;)Z"⟩, 10), (⟨"RetraceDesk$Mapping", "takesRealCall", "(LRetraceDesk$MethodLine;)Z"⟩, 10), (⟨"RetraceDesk$Mapping", "takesRealRange", "(LRetraceDesk$MethodLine;)Z"⟩, 10), (⟨"RetraceDesk$Mapping", "enterMethodLine", "(LRetraceDesk$MethodLine;LRetraceDesk$ClassLine;)V"⟩, 10), (⟨"RetraceDesk$Mapping", "takesClassLine", "()Z"⟩, 10), (⟨"RetraceDesk$Trace", "takesHeader", "()Z"⟩, 8), (⟨"RetraceDesk$Trace", "takesMore", "(LRetraceDesk$Header;)Z"⟩, 8), (⟨"RetraceDesk$Trace", "takesCall", "(LRetraceDesk$Frame;)Z"⟩, 8), (⟨"RetraceDesk$Trace", "takesPlace", "(LRetraceDesk$Frame;)Z"⟩, 8), (⟨"java/lang/Throwable", "fillInStackTrace", "(I)Ljava/lang/Throwable;"⟩, 6), (⟨"RetraceDesk", "readTrace", "()V"⟩, 10), (⟨"RetraceDesk", "newRewriter", "()LRetraceDesk$Rewriter;"⟩, 10), (⟨"RetraceDesk$Rewriter", "writeHeader", "(ILRetraceDesk$Slice;)V"⟩, 5), (⟨"RetraceDesk$Rewriter", "retraceFrame", "(LRetraceDesk$Frame;)V"⟩, 5), (⟨"RetraceDesk$Rewriter", "writeUnchanged", "(LRetraceDesk$Frame;)V"⟩, 5)]
theorem lw_r1 : ∀ q ∈ lw_privs_1, lw_okq q := List.forall_mem_cons.mpr ⟨lw_p0, List.forall_mem_cons.mpr ⟨lw_p1, List.forall_mem_cons.mpr ⟨lw_p2, List.forall_mem_cons.mpr ⟨lw_p3, List.forall_mem_cons.mpr ⟨lw_p4, List.forall_mem_cons.mpr ⟨lw_p5, List.forall_mem_cons.mpr ⟨lw_p6, List.forall_mem_cons.mpr ⟨lw_p7, List.forall_mem_cons.mpr ⟨lw_p8, List.forall_mem_cons.mpr ⟨lw_p9, List.forall_mem_cons.mpr ⟨lw_p10, List.forall_mem_cons.mpr ⟨lw_p11, List.forall_mem_cons.mpr ⟨lw_p12, List.forall_mem_cons.mpr ⟨lw_p13, List.forall_mem_cons.mpr ⟨lw_p14, List.forall_mem_cons.mpr ⟨lw_p15, fun _ h => absurd h List.not_mem_nil⟩⟩⟩⟩⟩⟩⟩⟩⟩⟩⟩⟩⟩⟩⟩⟩
theorem lw_p16 : lw_okq (⟨"RetraceDesk$Rewriter", "openFrame", "(LRetraceDesk$Slice;LRetraceDesk$Slice;)V"⟩, 5) := ⟨⟨by decide +kernel, by decide +kernel⟩, List.mem_of_getElem? (i := 758) (by decide +kernel), List.mem_of_getElem? (i := 818) (by decide +kernel), List.mem_of_getElem? (i := 819) (by decide +kernel)⟩
theorem lw_p17 : lw_okq (⟨"RetraceDesk$Rewriter", "closeFrame", "(I)V"⟩, 5) := ⟨⟨by decide +kernel, by decide +kernel⟩, List.mem_of_getElem? (i := 758) (by decide +kernel), List.mem_of_getElem? (i := 823) (by decide +kernel), List.mem_of_getElem? (i := 824) (by decide +kernel)⟩
theorem lw_p18 : lw_okq (⟨"RetraceDesk$Mapping", "isGroup", "(ILRetraceDesk$Slice;)Z"⟩, 10) := ⟨⟨by decide +kernel, by decide +kernel⟩, List.mem_of_getElem? (i := 223) (by decide +kernel), List.mem_of_getElem? (i := 836) (by decide +kernel), List.mem_of_getElem? (i := 837) (by decide +kernel)⟩
theorem lw_p19 : lw_okq (⟨"RetraceDesk$Rewriter", "writeInlined", "(II)V"⟩, 5) := ⟨⟨by decide +kernel, by decide +kernel⟩, List.mem_of_getElem? (i := 758) (by decide +kernel), List.mem_of_getElem? (i := 840) (by decide +kernel), List.mem_of_getElem? (i := 841) (by decide +kernel)⟩
theorem lw_p20 : lw_okq (⟨"RetraceDesk$Rewriter", "writeReal", "(LRetraceDesk$Slice;LRetraceDesk$Slice;LRetraceDesk$Frame;)V"⟩, 5) := ⟨⟨by decide +kernel, by decide +kernel⟩, List.mem_of_getElem? (i := 758) (by decide +kernel), List.mem_of_getElem? (i := 856) (by decide +kernel), List.mem_of_getElem? (i := 857) (by decide +kernel)⟩
theorem lw_p21 : lw_okq (⟨"RetraceDesk$Rewriter", "writeMore", "(LRetraceDesk$Header;)V"⟩, 5) := ⟨⟨by decide +kernel, by decide +kernel⟩, List.mem_of_getElem? (i := 758) (by decide +kernel), List.mem_of_getElem? (i := 873) (by decide +kernel), List.mem_of_getElem? (i := 874) (by decide +kernel)⟩
theorem lw_p22 : lw_okq (⟨"RetraceDesk", "refuseLongPrint", "()V"⟩, 10) := ⟨⟨by decide +kernel, by decide +kernel⟩, List.mem_of_getElem? (i := 28) (by decide +kernel), List.mem_of_getElem? (i := 879) (by decide +kernel), List.mem_of_getElem? (i := 880) (by decide +kernel)⟩
theorem lw_p23 : lw_okq (⟨"RetraceDesk", "keepRetraced", "(LRetraceDesk$Rewriter;)V"⟩, 10) := ⟨⟨by decide +kernel, by decide +kernel⟩, List.mem_of_getElem? (i := 28) (by decide +kernel), List.mem_of_getElem? (i := 883) (by decide +kernel), List.mem_of_getElem? (i := 884) (by decide +kernel)⟩
theorem lw_p24 : lw_okq (⟨"RetraceDesk", "swapPrints", "()V"⟩, 10) := ⟨⟨by decide +kernel, by decide +kernel⟩, List.mem_of_getElem? (i := 28) (by decide +kernel), List.mem_of_getElem? (i := 887) (by decide +kernel), List.mem_of_getElem? (i := 888) (by decide +kernel)⟩
theorem lw_p25 : lw_okq (⟨"RetraceDesk$Rewriter", "shortenFrom", "(II)I"⟩, 5) := ⟨⟨by decide +kernel, by decide +kernel⟩, List.mem_of_getElem? (i := 758) (by decide +kernel), List.mem_of_getElem? (i := 903) (by decide +kernel), List.mem_of_getElem? (i := 904) (by decide +kernel)⟩
theorem lw_p26 : lw_okq (⟨"RetraceDesk$Rewriter", "offsetOfFit", "(III)I"⟩, 5) := ⟨⟨by decide +kernel, by decide +kernel⟩, List.mem_of_getElem? (i := 758) (by decide +kernel), List.mem_of_getElem? (i := 907) (by decide +kernel), List.mem_of_getElem? (i := 908) (by decide +kernel)⟩
theorem lw_p27 : lw_okq (⟨"RetraceDesk$Rewriter", "shortenAlone", "(LRetraceDesk$Frame;)V"⟩, 5) := ⟨⟨by decide +kernel, by decide +kernel⟩, List.mem_of_getElem? (i := 758) (by decide +kernel), List.mem_of_getElem? (i := 913) (by decide +kernel), List.mem_of_getElem? (i := 914) (by decide +kernel)⟩
theorem lw_p28 : lw_okq (⟨"RetraceDesk$Rewriter", "writeShort", "(LRetraceDesk$Slice;LRetraceDesk$Slice;LRetraceDesk$Frame;)V"⟩, 5) := ⟨⟨by decide +kernel, by decide +kernel⟩, List.mem_of_getElem? (i := 758) (by decide +kernel), List.mem_of_getElem? (i := 925) (by decide +kernel), List.mem_of_getElem? (i := 926) (by decide +kernel)⟩
theorem lw_p29 : lw_okq (⟨"RetraceDesk", "refuseUnknownCrash", "(I)V"⟩, 10) := ⟨⟨by decide +kernel, by decide +kernel⟩, List.mem_of_getElem? (i := 28) (by decide +kernel), List.mem_of_getElem? (i := 1034) (by decide +kernel), List.mem_of_getElem? (i := 1035) (by decide +kernel)⟩
theorem lw_p30 : lw_okq (⟨"RetraceDeskModel", "lay", "(IIZ)V"⟩, 54) := ⟨⟨by decide +kernel, by decide +kernel⟩, List.mem_of_getElem? (i := 1045) (by decide +kernel), List.mem_of_getElem? (i := 1231) (by decide +kernel), List.mem_of_getElem? (i := 1232) (by decide +kernel)⟩
theorem lw_p31 : lw_okq (⟨"RetraceDeskModel", "readMapping", "(I)I"⟩, 54) := ⟨⟨by decide +kernel, by decide +kernel⟩, List.mem_of_getElem? (i := 1045) (by decide +kernel), List.mem_of_getElem? (i := 1235) (by decide +kernel), List.mem_of_getElem? (i := 1236) (by decide +kernel)⟩
def lw_privs_2 : List (MethodName × Nat) := [(⟨"RetraceDesk$Rewriter", "openFrame", "(LRetraceDesk$Slice;LRetraceDesk$Slice;)V"⟩, 5), (⟨"RetraceDesk$Rewriter", "closeFrame", "(I)V"⟩, 5), (⟨"RetraceDesk$Mapping", "isGroup", "(ILRetraceDesk$Slice;)Z"⟩, 10), (⟨"RetraceDesk$Rewriter", "writeInlined", "(II)V"⟩, 5), (⟨"RetraceDesk$Rewriter", "writeReal", "(LRetraceDesk$Slice;LRetraceDesk$Slice;LRetraceDesk$Frame;)V"⟩, 5), (⟨"RetraceDesk$Rewriter", "writeMore", "(LRetraceDesk$Header;)V"⟩, 5), (⟨"RetraceDesk", "refuseLongPrint", "()V"⟩, 10), (⟨"RetraceDesk", "keepRetraced", "(LRetraceDesk$Rewriter;)V"⟩, 10), (⟨"RetraceDesk", "swapPrints", "()V"⟩, 10), (⟨"RetraceDesk$Rewriter", "shortenFrom", "(II)I"⟩, 5), (⟨"RetraceDesk$Rewriter", "offsetOfFit", "(III)I"⟩, 5), (⟨"RetraceDesk$Rewriter", "shortenAlone", "(LRetraceDesk$Frame;)V"⟩, 5), (⟨"RetraceDesk$Rewriter", "writeShort", "(LRetraceDesk$Slice;LRetraceDesk$Slice;LRetraceDesk$Frame;)V"⟩, 5), (⟨"RetraceDesk", "refuseUnknownCrash", "(I)V"⟩, 10), (⟨"RetraceDeskModel", "lay", "(IIZ)V"⟩, 54), (⟨"RetraceDeskModel", "readMapping", "(I)I"⟩, 54)]
theorem lw_r2 : ∀ q ∈ lw_privs_2, lw_okq q := List.forall_mem_cons.mpr ⟨lw_p16, List.forall_mem_cons.mpr ⟨lw_p17, List.forall_mem_cons.mpr ⟨lw_p18, List.forall_mem_cons.mpr ⟨lw_p19, List.forall_mem_cons.mpr ⟨lw_p20, List.forall_mem_cons.mpr ⟨lw_p21, List.forall_mem_cons.mpr ⟨lw_p22, List.forall_mem_cons.mpr ⟨lw_p23, List.forall_mem_cons.mpr ⟨lw_p24, List.forall_mem_cons.mpr ⟨lw_p25, List.forall_mem_cons.mpr ⟨lw_p26, List.forall_mem_cons.mpr ⟨lw_p27, List.forall_mem_cons.mpr ⟨lw_p28, List.forall_mem_cons.mpr ⟨lw_p29, List.forall_mem_cons.mpr ⟨lw_p30, List.forall_mem_cons.mpr ⟨lw_p31, fun _ h => absurd h List.not_mem_nil⟩⟩⟩⟩⟩⟩⟩⟩⟩⟩⟩⟩⟩⟩⟩⟩
theorem lw_p32 : lw_okq (⟨"RetraceDeskModel", "stands", "(IIJI)Z"⟩, 54) := ⟨⟨by decide +kernel, by decide +kernel⟩, List.mem_of_getElem? (i := 1045) (by decide +kernel), List.mem_of_getElem? (i := 1240) (by decide +kernel), List.mem_of_getElem? (i := 1241) (by decide +kernel)⟩
theorem lw_p33 : lw_okq (⟨"RetraceDeskModel", "methodLine", "(II)Z"⟩, 54) := ⟨⟨by decide +kernel, by decide +kernel⟩, List.mem_of_getElem? (i := 1045) (by decide +kernel), List.mem_of_getElem? (i := 1244) (by decide +kernel), List.mem_of_getElem? (i := 1245) (by decide +kernel)⟩
theorem lw_p34 : lw_okq (⟨"RetraceDeskModel", "numberEnd", "(II)I"⟩, 54) := ⟨⟨by decide +kernel, by decide +kernel⟩, List.mem_of_getElem? (i := 1045) (by decide +kernel), List.mem_of_getElem? (i := 1251) (by decide +kernel), List.mem_of_getElem? (i := 1252) (by decide +kernel)⟩
theorem lw_p35 : lw_okq (⟨"RetraceDeskModel", "nameEnd", "(II)I"⟩, 54) := ⟨⟨by decide +kernel, by decide +kernel⟩, List.mem_of_getElem? (i := 1045) (by decide +kernel), List.mem_of_getElem? (i := 1256) (by decide +kernel), List.mem_of_getElem? (i := 1257) (by decide +kernel)⟩
theorem lw_p36 : lw_okq (⟨"RetraceDeskModel", "partEnd", "(II)I"⟩, 54) := ⟨⟨by decide +kernel, by decide +kernel⟩, List.mem_of_getElem? (i := 1045) (by decide +kernel), List.mem_of_getElem? (i := 1260) (by decide +kernel), List.mem_of_getElem? (i := 1261) (by decide +kernel)⟩
theorem lw_p37 : lw_okq (⟨"RetraceDeskModel", "methodRest", "(IIIZ)Z"⟩, 54) := ⟨⟨by decide +kernel, by decide +kernel⟩, List.mem_of_getElem? (i := 1045) (by decide +kernel), List.mem_of_getElem? (i := 1267) (by decide +kernel), List.mem_of_getElem? (i := 1268) (by decide +kernel)⟩
theorem lw_p38 : lw_okq (⟨"RetraceDeskModel", "more", "(II)I"⟩, 54) := ⟨⟨by decide +kernel, by decide +kernel⟩, List.mem_of_getElem? (i := 1045) (by decide +kernel), List.mem_of_getElem? (i := 1271) (by decide +kernel), List.mem_of_getElem? (i := 1272) (by decide +kernel)⟩
theorem lw_p39 : lw_okq (⟨"RetraceDeskModel", "same", "(IIII)Z"⟩, 54) := ⟨⟨by decide +kernel, by decide +kernel⟩, List.mem_of_getElem? (i := 1045) (by decide +kernel), List.mem_of_getElem? (i := 1276) (by decide +kernel), List.mem_of_getElem? (i := 1277) (by decide +kernel)⟩
theorem lw_p40 : lw_okq (⟨"RetraceDeskModel", "classLine", "(II)Z"⟩, 54) := ⟨⟨by decide +kernel, by decide +kernel⟩, List.mem_of_getElem? (i := 1045) (by decide +kernel), List.mem_of_getElem? (i := 1280) (by decide +kernel), List.mem_of_getElem? (i := 1281) (by decide +kernel)⟩
theorem lw_p41 : lw_okq (⟨"RetraceDeskModel", "rewrite", "(Z)I"⟩, 54) := ⟨⟨by decide +kernel, by decide +kernel⟩, List.mem_of_getElem? (i := 1045) (by decide +kernel), List.mem_of_getElem? (i := 1288) (by decide +kernel), List.mem_of_getElem? (i := 1289) (by decide +kernel)⟩
theorem lw_p42 : lw_okq (⟨"RetraceDeskModel", "readTrace", "(I)I"⟩, 54) := ⟨⟨by decide +kernel, by decide +kernel⟩, List.mem_of_getElem? (i := 1045) (by decide +kernel), List.mem_of_getElem? (i := 1292) (by decide +kernel), List.mem_of_getElem? (i := 1293) (by decide +kernel)⟩
theorem lw_p43 : lw_okq (⟨"RetraceDeskModel", "lineKind", "(III)I"⟩, 54) := ⟨⟨by decide +kernel, by decide +kernel⟩, List.mem_of_getElem? (i := 1045) (by decide +kernel), List.mem_of_getElem? (i := 1296) (by decide +kernel), List.mem_of_getElem? (i := 1297) (by decide +kernel)⟩
theorem lw_p44 : lw_okq (⟨"RetraceDeskModel", "header", "(II)Z"⟩, 54) := ⟨⟨by decide +kernel, by decide +kernel⟩, List.mem_of_getElem? (i := 1045) (by decide +kernel), List.mem_of_getElem? (i := 1300) (by decide +kernel), List.mem_of_getElem? (i := 1301) (by decide +kernel)⟩
theorem lw_p45 : lw_okq (⟨"RetraceDeskModel", "frame", "(II)Z"⟩, 54) := ⟨⟨by decide +kernel, by decide +kernel⟩, List.mem_of_getElem? (i := 1045) (by decide +kernel), List.mem_of_getElem? (i := 1307) (by decide +kernel), List.mem_of_getElem? (i := 1308) (by decide +kernel)⟩
theorem lw_p46 : lw_okq (⟨"RetraceDeskModel", "place", "(II)Z"⟩, 54) := ⟨⟨by decide +kernel, by decide +kernel⟩, List.mem_of_getElem? (i := 1045) (by decide +kernel), List.mem_of_getElem? (i := 1312) (by decide +kernel), List.mem_of_getElem? (i := 1313) (by decide +kernel)⟩
theorem lw_p47 : lw_okq (⟨"RetraceDeskModel", "isNowhere", "(II)Z"⟩, 54) := ⟨⟨by decide +kernel, by decide +kernel⟩, List.mem_of_getElem? (i := 1045) (by decide +kernel), List.mem_of_getElem? (i := 1316) (by decide +kernel), List.mem_of_getElem? (i := 1317) (by decide +kernel)⟩
def lw_privs_3 : List (MethodName × Nat) := [(⟨"RetraceDeskModel", "stands", "(IIJI)Z"⟩, 54), (⟨"RetraceDeskModel", "methodLine", "(II)Z"⟩, 54), (⟨"RetraceDeskModel", "numberEnd", "(II)I"⟩, 54), (⟨"RetraceDeskModel", "nameEnd", "(II)I"⟩, 54), (⟨"RetraceDeskModel", "partEnd", "(II)I"⟩, 54), (⟨"RetraceDeskModel", "methodRest", "(IIIZ)Z"⟩, 54), (⟨"RetraceDeskModel", "more", "(II)I"⟩, 54), (⟨"RetraceDeskModel", "same", "(IIII)Z"⟩, 54), (⟨"RetraceDeskModel", "classLine", "(II)Z"⟩, 54), (⟨"RetraceDeskModel", "rewrite", "(Z)I"⟩, 54), (⟨"RetraceDeskModel", "readTrace", "(I)I"⟩, 54), (⟨"RetraceDeskModel", "lineKind", "(III)I"⟩, 54), (⟨"RetraceDeskModel", "header", "(II)Z"⟩, 54), (⟨"RetraceDeskModel", "frame", "(II)Z"⟩, 54), (⟨"RetraceDeskModel", "place", "(II)Z"⟩, 54), (⟨"RetraceDeskModel", "isNowhere", "(II)Z"⟩, 54)]
theorem lw_r3 : ∀ q ∈ lw_privs_3, lw_okq q := List.forall_mem_cons.mpr ⟨lw_p32, List.forall_mem_cons.mpr ⟨lw_p33, List.forall_mem_cons.mpr ⟨lw_p34, List.forall_mem_cons.mpr ⟨lw_p35, List.forall_mem_cons.mpr ⟨lw_p36, List.forall_mem_cons.mpr ⟨lw_p37, List.forall_mem_cons.mpr ⟨lw_p38, List.forall_mem_cons.mpr ⟨lw_p39, List.forall_mem_cons.mpr ⟨lw_p40, List.forall_mem_cons.mpr ⟨lw_p41, List.forall_mem_cons.mpr ⟨lw_p42, List.forall_mem_cons.mpr ⟨lw_p43, List.forall_mem_cons.mpr ⟨lw_p44, List.forall_mem_cons.mpr ⟨lw_p45, List.forall_mem_cons.mpr ⟨lw_p46, List.forall_mem_cons.mpr ⟨lw_p47, fun _ h => absurd h List.not_mem_nil⟩⟩⟩⟩⟩⟩⟩⟩⟩⟩⟩⟩⟩⟩⟩⟩
theorem lw_p48 : lw_okq (⟨"RetraceDeskModel", "moreLine", "(II)Z"⟩, 54) := ⟨⟨by decide +kernel, by decide +kernel⟩, List.mem_of_getElem? (i := 1045) (by decide +kernel), List.mem_of_getElem? (i := 1324) (by decide +kernel), List.mem_of_getElem? (i := 1325) (by decide +kernel)⟩
theorem lw_p49 : lw_okq (⟨"RetraceDeskModel", "retraceAll", "()V"⟩, 54) := ⟨⟨by decide +kernel, by decide +kernel⟩, List.mem_of_getElem? (i := 1045) (by decide +kernel), List.mem_of_getElem? (i := 1330) (by decide +kernel), List.mem_of_getElem? (i := 1331) (by decide +kernel)⟩
theorem lw_p50 : lw_okq (⟨"RetraceDeskModel", "classLineOf", "(IIZ)I"⟩, 54) := ⟨⟨by decide +kernel, by decide +kernel⟩, List.mem_of_getElem? (i := 1045) (by decide +kernel), List.mem_of_getElem? (i := 1334) (by decide +kernel), List.mem_of_getElem? (i := 1335) (by decide +kernel)⟩
theorem lw_p51 : lw_okq (⟨"RetraceDeskModel", "emitHeader", "(III)V"⟩, 54) := ⟨⟨by decide +kernel, by decide +kernel⟩, List.mem_of_getElem? (i := 1045) (by decide +kernel), List.mem_of_getElem? (i := 1338) (by decide +kernel), List.mem_of_getElem? (i := 1339) (by decide +kernel)⟩
theorem lw_p52 : lw_okq (⟨"RetraceDeskModel", "emitText", "(II)V"⟩, 54) := ⟨⟨by decide +kernel, by decide +kernel⟩, List.mem_of_getElem? (i := 1045) (by decide +kernel), List.mem_of_getElem? (i := 1342) (by decide +kernel), List.mem_of_getElem? (i := 1343) (by decide +kernel)⟩
theorem lw_p53 : lw_okq (⟨"RetraceDeskModel", "emit", "(I)V"⟩, 54) := ⟨⟨by decide +kernel, by decide +kernel⟩, List.mem_of_getElem? (i := 1045) (by decide +kernel), List.mem_of_getElem? (i := 1346) (by decide +kernel), List.mem_of_getElem? (i := 1347) (by decide +kernel)⟩
theorem lw_p54 : lw_okq (⟨"RetraceDeskModel", "retraceFrame", "(I)V"⟩, 54) := ⟨⟨by decide +kernel, by decide +kernel⟩, List.mem_of_getElem? (i := 1045) (by decide +kernel), List.mem_of_getElem? (i := 1350) (by decide +kernel), List.mem_of_getElem? (i := 1351) (by decide +kernel)⟩
theorem lw_p55 : lw_okq (⟨"RetraceDeskModel", "isFor", "(III)Z"⟩, 54) := ⟨⟨by decide +kernel, by decide +kernel⟩, List.mem_of_getElem? (i := 1045) (by decide +kernel), List.mem_of_getElem? (i := 1354) (by decide +kernel), List.mem_of_getElem? (i := 1355) (by decide +kernel)⟩
theorem lw_p56 : lw_okq (⟨"RetraceDeskModel", "lineOf", "(I)I"⟩, 54) := ⟨⟨by decide +kernel, by decide +kernel⟩, List.mem_of_getElem? (i := 1045) (by decide +kernel), List.mem_of_getElem? (i := 1358) (by decide +kernel), List.mem_of_getElem? (i := 1359) (by decide +kernel)⟩
theorem lw_p57 : lw_okq (⟨"RetraceDeskModel", "inlined", "(II)V"⟩, 54) := ⟨⟨by decide +kernel, by decide +kernel⟩, List.mem_of_getElem? (i := 1045) (by decide +kernel), List.mem_of_getElem? (i := 1362) (by decide +kernel), List.mem_of_getElem? (i := 1363) (by decide +kernel)⟩
theorem lw_p58 : lw_okq (⟨"RetraceDeskModel", "lastOf", "(I)I"⟩, 54) := ⟨⟨by decide +kernel, by decide +kernel⟩, List.mem_of_getElem? (i := 1045) (by decide +kernel), List.mem_of_getElem? (i := 1366) (by decide +kernel), List.mem_of_getElem? (i := 1367) (by decide +kernel)⟩
theorem lw_p59 : lw_okq (⟨"RetraceDeskModel", "emitCall", "(I)V"⟩, 54) := ⟨⟨by decide +kernel, by decide +kernel⟩, List.mem_of_getElem? (i := 1045) (by decide +kernel), List.mem_of_getElem? (i := 1370) (by decide +kernel), List.mem_of_getElem? (i := 1371) (by decide +kernel)⟩
theorem lw_p60 : lw_okq (⟨"RetraceDeskModel", "emitWord", "(JI)V"⟩, 54) := ⟨⟨by decide +kernel, by decide +kernel⟩, List.mem_of_getElem? (i := 1045) (by decide +kernel), List.mem_of_getElem? (i := 1374) (by decide +kernel), List.mem_of_getElem? (i := 1375) (by decide +kernel)⟩
theorem lw_p61 : lw_okq (⟨"RetraceDeskModel", "emitFile", "(II)V"⟩, 54) := ⟨⟨by decide +kernel, by decide +kernel⟩, List.mem_of_getElem? (i := 1045) (by decide +kernel), List.mem_of_getElem? (i := 1378) (by decide +kernel), List.mem_of_getElem? (i := 1379) (by decide +kernel)⟩
theorem lw_p62 : lw_okq (⟨"RetraceDeskModel", "emitNumber", "(I)V"⟩, 54) := ⟨⟨by decide +kernel, by decide +kernel⟩, List.mem_of_getElem? (i := 1045) (by decide +kernel), List.mem_of_getElem? (i := 1383) (by decide +kernel), List.mem_of_getElem? (i := 1384) (by decide +kernel)⟩
theorem lw_p63 : lw_okq (⟨"RetraceDeskModel", "differ", "(II)Z"⟩, 54) := ⟨⟨by decide +kernel, by decide +kernel⟩, List.mem_of_getElem? (i := 1045) (by decide +kernel), List.mem_of_getElem? (i := 1387) (by decide +kernel), List.mem_of_getElem? (i := 1388) (by decide +kernel)⟩
def lw_privs_4 : List (MethodName × Nat) := [(⟨"RetraceDeskModel", "moreLine", "(II)Z"⟩, 54), (⟨"RetraceDeskModel", "retraceAll", "()V"⟩, 54), (⟨"RetraceDeskModel", "classLineOf", "(IIZ)I"⟩, 54), (⟨"RetraceDeskModel", "emitHeader", "(III)V"⟩, 54), (⟨"RetraceDeskModel", "emitText", "(II)V"⟩, 54), (⟨"RetraceDeskModel", "emit", "(I)V"⟩, 54), (⟨"RetraceDeskModel", "retraceFrame", "(I)V"⟩, 54), (⟨"RetraceDeskModel", "isFor", "(III)Z"⟩, 54), (⟨"RetraceDeskModel", "lineOf", "(I)I"⟩, 54), (⟨"RetraceDeskModel", "inlined", "(II)V"⟩, 54), (⟨"RetraceDeskModel", "lastOf", "(I)I"⟩, 54), (⟨"RetraceDeskModel", "emitCall", "(I)V"⟩, 54), (⟨"RetraceDeskModel", "emitWord", "(JI)V"⟩, 54), (⟨"RetraceDeskModel", "emitFile", "(II)V"⟩, 54), (⟨"RetraceDeskModel", "emitNumber", "(I)V"⟩, 54), (⟨"RetraceDeskModel", "differ", "(II)Z"⟩, 54)]
theorem lw_r4 : ∀ q ∈ lw_privs_4, lw_okq q := List.forall_mem_cons.mpr ⟨lw_p48, List.forall_mem_cons.mpr ⟨lw_p49, List.forall_mem_cons.mpr ⟨lw_p50, List.forall_mem_cons.mpr ⟨lw_p51, List.forall_mem_cons.mpr ⟨lw_p52, List.forall_mem_cons.mpr ⟨lw_p53, List.forall_mem_cons.mpr ⟨lw_p54, List.forall_mem_cons.mpr ⟨lw_p55, List.forall_mem_cons.mpr ⟨lw_p56, List.forall_mem_cons.mpr ⟨lw_p57, List.forall_mem_cons.mpr ⟨lw_p58, List.forall_mem_cons.mpr ⟨lw_p59, List.forall_mem_cons.mpr ⟨lw_p60, List.forall_mem_cons.mpr ⟨lw_p61, List.forall_mem_cons.mpr ⟨lw_p62, List.forall_mem_cons.mpr ⟨lw_p63, fun _ h => absurd h List.not_mem_nil⟩⟩⟩⟩⟩⟩⟩⟩⟩⟩⟩⟩⟩⟩⟩⟩
theorem lw_p64 : lw_okq (⟨"RetraceDeskModel", "hasFile", "(I)Z"⟩, 54) := ⟨⟨by decide +kernel, by decide +kernel⟩, List.mem_of_getElem? (i := 1045) (by decide +kernel), List.mem_of_getElem? (i := 1391) (by decide +kernel), List.mem_of_getElem? (i := 1392) (by decide +kernel)⟩
theorem lw_p65 : lw_okq (⟨"RetraceDeskModel", "emitTail", "(I)V"⟩, 54) := ⟨⟨by decide +kernel, by decide +kernel⟩, List.mem_of_getElem? (i := 1045) (by decide +kernel), List.mem_of_getElem? (i := 1395) (by decide +kernel), List.mem_of_getElem? (i := 1396) (by decide +kernel)⟩
theorem lw_p66 : lw_okq (⟨"RetraceDeskModel", "shortenAll", "()V"⟩, 54) := ⟨⟨by decide +kernel, by decide +kernel⟩, List.mem_of_getElem? (i := 1045) (by decide +kernel), List.mem_of_getElem? (i := 1399) (by decide +kernel), List.mem_of_getElem? (i := 1400) (by decide +kernel)⟩
theorem lw_p67 : lw_okq (⟨"RetraceDeskModel", "shortenFrame", "(I)I"⟩, 54) := ⟨⟨by decide +kernel, by decide +kernel⟩, List.mem_of_getElem? (i := 1045) (by decide +kernel), List.mem_of_getElem? (i := 1403) (by decide +kernel), List.mem_of_getElem? (i := 1404) (by decide +kernel)⟩
theorem lw_p68 : lw_okq (⟨"RetraceDeskModel", "fit", "(II)I"⟩, 54) := ⟨⟨by decide +kernel, by decide +kernel⟩, List.mem_of_getElem? (i := 1045) (by decide +kernel), List.mem_of_getElem? (i := 1407) (by decide +kernel), List.mem_of_getElem? (i := 1408) (by decide +kernel)⟩
theorem lw_p69 : lw_okq (⟨"RetraceDeskModel", "calls", "(II)Z"⟩, 54) := ⟨⟨by decide +kernel, by decide +kernel⟩, List.mem_of_getElem? (i := 1045) (by decide +kernel), List.mem_of_getElem? (i := 1411) (by decide +kernel), List.mem_of_getElem? (i := 1412) (by decide +kernel)⟩
theorem lw_p70 : lw_okq (⟨"RetraceDeskModel", "emitShort", "(III)V"⟩, 54) := ⟨⟨by decide +kernel, by decide +kernel⟩, List.mem_of_getElem? (i := 1045) (by decide +kernel), List.mem_of_getElem? (i := 1415) (by decide +kernel), List.mem_of_getElem? (i := 1416) (by decide +kernel)⟩
theorem lw_p71 : lw_okq (⟨"RetraceDeskModel", "emitSource", "()V"⟩, 54) := ⟨⟨by decide +kernel, by decide +kernel⟩, List.mem_of_getElem? (i := 1045) (by decide +kernel), List.mem_of_getElem? (i := 1419) (by decide +kernel), List.mem_of_getElem? (i := 1420) (by decide +kernel)⟩
theorem lw_p72 : lw_okq (⟨"RetraceDeskModel", "emitPlace", "(I)V"⟩, 54) := ⟨⟨by decide +kernel, by decide +kernel⟩, List.mem_of_getElem? (i := 1045) (by decide +kernel), List.mem_of_getElem? (i := 1425) (by decide +kernel), List.mem_of_getElem? (i := 1426) (by decide +kernel)⟩
theorem lw_p73 : lw_okq (⟨"RetraceDeskModel", "keepPrint", "()I"⟩, 54) := ⟨⟨by decide +kernel, by decide +kernel⟩, List.mem_of_getElem? (i := 1045) (by decide +kernel), List.mem_of_getElem? (i := 1429) (by decide +kernel), List.mem_of_getElem? (i := 1430) (by decide +kernel)⟩
theorem lw_p74 : lw_okq (⟨"RetraceDeskModel", "isFrameAt", "(I)Z"⟩, 54) := ⟨⟨by decide +kernel, by decide +kernel⟩, List.mem_of_getElem? (i := 1045) (by decide +kernel), List.mem_of_getElem? (i := 1433) (by decide +kernel), List.mem_of_getElem? (i := 1434) (by decide +kernel)⟩
theorem lw_p75 : lw_okq (⟨"RetraceDeskModel", "keyOf", "()J"⟩, 54) := ⟨⟨by decide +kernel, by decide +kernel⟩, List.mem_of_getElem? (i := 1045) (by decide +kernel), List.mem_of_getElem? (i := 1445) (by decide +kernel), List.mem_of_getElem? (i := 1446) (by decide +kernel)⟩
theorem lw_p76 : lw_okq (⟨"RetraceDeskModel", "endOfLine", "(I)I"⟩, 54) := ⟨⟨by decide +kernel, by decide +kernel⟩, List.mem_of_getElem? (i := 1045) (by decide +kernel), List.mem_of_getElem? (i := 1450) (by decide +kernel), List.mem_of_getElem? (i := 1451) (by decide +kernel)⟩
theorem lw_p77 : lw_okq (⟨"RetraceDeskModel", "sameCalls", "(II)Z"⟩, 54) := ⟨⟨by decide +kernel, by decide +kernel⟩, List.mem_of_getElem? (i := 1045) (by decide +kernel), List.mem_of_getElem? (i := 1454) (by decide +kernel), List.mem_of_getElem? (i := 1455) (by decide +kernel)⟩
theorem lw_p78 : lw_okq (⟨"RetraceDeskModel", "bracket", "(I)I"⟩, 54) := ⟨⟨by decide +kernel, by decide +kernel⟩, List.mem_of_getElem? (i := 1045) (by decide +kernel), List.mem_of_getElem? (i := 1458) (by decide +kernel), List.mem_of_getElem? (i := 1459) (by decide +kernel)⟩
theorem lw_p79 : lw_okq (⟨"RetraceDeskModel", "mix", "(I)V"⟩, 54) := ⟨⟨by decide +kernel, by decide +kernel⟩, List.mem_of_getElem? (i := 1045) (by decide +kernel), List.mem_of_getElem? (i := 1462) (by decide +kernel), List.mem_of_getElem? (i := 1463) (by decide +kernel)⟩
def lw_privs_5 : List (MethodName × Nat) := [(⟨"RetraceDeskModel", "hasFile", "(I)Z"⟩, 54), (⟨"RetraceDeskModel", "emitTail", "(I)V"⟩, 54), (⟨"RetraceDeskModel", "shortenAll", "()V"⟩, 54), (⟨"RetraceDeskModel", "shortenFrame", "(I)I"⟩, 54), (⟨"RetraceDeskModel", "fit", "(II)I"⟩, 54), (⟨"RetraceDeskModel", "calls", "(II)Z"⟩, 54), (⟨"RetraceDeskModel", "emitShort", "(III)V"⟩, 54), (⟨"RetraceDeskModel", "emitSource", "()V"⟩, 54), (⟨"RetraceDeskModel", "emitPlace", "(I)V"⟩, 54), (⟨"RetraceDeskModel", "keepPrint", "()I"⟩, 54), (⟨"RetraceDeskModel", "isFrameAt", "(I)Z"⟩, 54), (⟨"RetraceDeskModel", "keyOf", "()J"⟩, 54), (⟨"RetraceDeskModel", "endOfLine", "(I)I"⟩, 54), (⟨"RetraceDeskModel", "sameCalls", "(II)Z"⟩, 54), (⟨"RetraceDeskModel", "bracket", "(I)I"⟩, 54), (⟨"RetraceDeskModel", "mix", "(I)V"⟩, 54)]
theorem lw_r5 : ∀ q ∈ lw_privs_5, lw_okq q := List.forall_mem_cons.mpr ⟨lw_p64, List.forall_mem_cons.mpr ⟨lw_p65, List.forall_mem_cons.mpr ⟨lw_p66, List.forall_mem_cons.mpr ⟨lw_p67, List.forall_mem_cons.mpr ⟨lw_p68, List.forall_mem_cons.mpr ⟨lw_p69, List.forall_mem_cons.mpr ⟨lw_p70, List.forall_mem_cons.mpr ⟨lw_p71, List.forall_mem_cons.mpr ⟨lw_p72, List.forall_mem_cons.mpr ⟨lw_p73, List.forall_mem_cons.mpr ⟨lw_p74, List.forall_mem_cons.mpr ⟨lw_p75, List.forall_mem_cons.mpr ⟨lw_p76, List.forall_mem_cons.mpr ⟨lw_p77, List.forall_mem_cons.mpr ⟨lw_p78, List.forall_mem_cons.mpr ⟨lw_p79, fun _ h => absurd h List.not_mem_nil⟩⟩⟩⟩⟩⟩⟩⟩⟩⟩⟩⟩⟩⟩⟩⟩
theorem lw_p80 : lw_okq (⟨"RetraceDeskModel", "mixHeader", "(II)V"⟩, 54) := ⟨⟨by decide +kernel, by decide +kernel⟩, List.mem_of_getElem? (i := 1045) (by decide +kernel), List.mem_of_getElem? (i := 1467) (by decide +kernel), List.mem_of_getElem? (i := 1468) (by decide +kernel)⟩
theorem lw_p81 : lw_okq (⟨"RetraceDeskModel", "mixHead", "(II)V"⟩, 54) := ⟨⟨by decide +kernel, by decide +kernel⟩, List.mem_of_getElem? (i := 1045) (by decide +kernel), List.mem_of_getElem? (i := 1471) (by decide +kernel), List.mem_of_getElem? (i := 1472) (by decide +kernel)⟩
def lw_privs_6 : List (MethodName × Nat) := [(⟨"RetraceDeskModel", "mixHeader", "(II)V"⟩, 54), (⟨"RetraceDeskModel", "mixHead", "(II)V"⟩, 54)]
theorem lw_r6 : ∀ q ∈ lw_privs_6, lw_okq q := List.forall_mem_cons.mpr ⟨lw_p80, List.forall_mem_cons.mpr ⟨lw_p81, fun _ h => absurd h List.not_mem_nil⟩⟩
def lw_privs : List (MethodName × Nat) := lw_privs_1 ++ (lw_privs_2 ++ (lw_privs_3 ++ (lw_privs_4 ++ (lw_privs_5 ++ (lw_privs_6)))))
def lw_tbl : List Cond := k2_sels lw_privs ++ tables_1
theorem lw_privs_ok : ∀ q ∈ lw_privs, lw_okq q := by
  show ∀ q ∈ lw_privs_1 ++ (lw_privs_2 ++ (lw_privs_3 ++ (lw_privs_4 ++ (lw_privs_5 ++ (lw_privs_6))))), lw_okq q
  exact List.forall_mem_append.mpr ⟨lw_r1, List.forall_mem_append.mpr ⟨lw_r2, List.forall_mem_append.mpr ⟨lw_r3, List.forall_mem_append.mpr ⟨lw_r4, List.forall_mem_append.mpr ⟨lw_r5, lw_r6⟩⟩⟩⟩⟩
end
section
/-! names, fields, words: printed by wip/whole/mk_names.py out of the listing and the words of the Statement -/
def R_CL : String := "RetraceDesk$ClassLine"
def T_CL : u_T := fun k => match k with
  | 0 => ("RetraceDesk$ClassLine", "real", "LRetraceDesk$Slice;", true)
  | 1 => ("RetraceDesk$ClassLine", "brief", "LRetraceDesk$Slice;", true)
  | 2 => ("RetraceDesk$ClassLine", "firstMethod", "I", false)
  | 3 => ("RetraceDesk$ClassLine", "endMethod", "I", false)
  | _ => ("RetraceDesk$ClassLine", "groupCount", "I", false)
def k_CL : Nat → FieldType := fun k => match k with
  | 0 => .object "RetraceDesk$Slice"
  | 1 => .object "RetraceDesk$Slice"
  | 2 => .int
  | 3 => .int
  | _ => .int
theorem ky_CL : ∀ k, k < 5 → parseFieldDescriptor (T_CL k).2.2.1 = some (k_CL k) := by decide +kernel
theorem kn_CL : ∀ a, a < 5 → ∀ b, b < 5 → a ≠ b → (T_CL a).2.1 ≠ (T_CL b).2.1 := by decide +kernel
def R_CB : String := "RetraceDesk$CrashBook"
def T_CB : u_T := fun k => match k with
  | 0 => ("RetraceDesk$CrashBook", "keys", "[J", true)
  | 1 => ("RetraceDesk$CrashBook", "times", "[I", true)
  | 2 => ("RetraceDesk$CrashBook", "firsts", "[I", true)
  | 3 => ("RetraceDesk$CrashBook", "lasts", "[I", true)
  | 4 => ("RetraceDesk$CrashBook", "size", "I", false)
  | _ => ("RetraceDesk$CrashBook", "reportCount", "I", false)
def k_CB : Nat → FieldType := fun k => match k with
  | 0 => .array .long
  | 1 => .array .int
  | 2 => .array .int
  | 3 => .array .int
  | 4 => .int
  | _ => .int
theorem ky_CB : ∀ k, k < 6 → parseFieldDescriptor (T_CB k).2.2.1 = some (k_CB k) := by decide +kernel
theorem kn_CB : ∀ a, a < 6 → ∀ b, b < 6 → a ≠ b → (T_CB a).2.1 ≠ (T_CB b).2.1 := by decide +kernel
def R_FR : String := "RetraceDesk$Frame"
def T_FR : u_T := fun k => match k with
  | 0 => ("RetraceDesk$Frame", "owner", "LRetraceDesk$Slice;", true)
  | 1 => ("RetraceDesk$Frame", "method", "LRetraceDesk$Slice;", true)
  | 2 => ("RetraceDesk$Frame", "place", "LRetraceDesk$Slice;", true)
  | 3 => ("RetraceDesk$Frame", "hasFile", "Z", false)
  | _ => ("RetraceDesk$Frame", "line", "I", false)
def k_FR : Nat → FieldType := fun k => match k with
  | 0 => .object "RetraceDesk$Slice"
  | 1 => .object "RetraceDesk$Slice"
  | 2 => .object "RetraceDesk$Slice"
  | 3 => .boolean
  | _ => .int
theorem ky_FR : ∀ k, k < 5 → parseFieldDescriptor (T_FR k).2.2.1 = some (k_FR k) := by decide +kernel
theorem kn_FR : ∀ a, a < 5 → ∀ b, b < 5 → a ≠ b → (T_FR a).2.1 ≠ (T_FR b).2.1 := by decide +kernel
def R_HE : String := "RetraceDesk$Header"
def T_HE : u_T := fun k => match k with
  | 0 => ("RetraceDesk$Header", "type", "LRetraceDesk$Slice;", true)
  | 1 => ("RetraceDesk$Header", "message", "LRetraceDesk$Slice;", true)
  | 2 => ("RetraceDesk$Header", "hasMessage", "Z", false)
  | 3 => ("RetraceDesk$Header", "more", "I", false)
  | 4 => ("RetraceDesk$Header", "firstFrame", "I", false)
  | _ => ("RetraceDesk$Header", "endFrame", "I", false)
def k_HE : Nat → FieldType := fun k => match k with
  | 0 => .object "RetraceDesk$Slice"
  | 1 => .object "RetraceDesk$Slice"
  | 2 => .boolean
  | 3 => .int
  | 4 => .int
  | _ => .int
theorem ky_HE : ∀ k, k < 6 → parseFieldDescriptor (T_HE k).2.2.1 = some (k_HE k) := by decide +kernel
theorem kn_HE : ∀ a, a < 6 → ∀ b, b < 6 → a ≠ b → (T_HE a).2.1 ≠ (T_HE b).2.1 := by decide +kernel
def R_MA : String := "RetraceDesk$Mapping"
def T_MA : u_T := fun k => match k with
  | 0 => ("RetraceDesk$Form", "codes", "[C", true)
  | 1 => ("RetraceDesk$Form", "here", "I", false)
  | 2 => ("RetraceDesk$Form", "end", "I", false)
  | 3 => ("RetraceDesk$Mapping", "classLines", "[LRetraceDesk$ClassLine;", true)
  | 4 => ("RetraceDesk$Mapping", "methodLines", "[LRetraceDesk$MethodLine;", true)
  | 5 => ("RetraceDesk$Mapping", "classCount", "I", false)
  | 6 => ("RetraceDesk$Mapping", "methodCount", "I", false)
  | 7 => ("RetraceDesk$Mapping", "groupCount", "I", false)
  | 8 => ("RetraceDesk$Mapping", "latestGroup", "I", false)
  | _ => ("RetraceDesk$Mapping", "call", "LRetraceDesk$Slice;", true)
def k_MA : Nat → FieldType := fun k => match k with
  | 0 => .array .char
  | 1 => .int
  | 2 => .int
  | 3 => .array (.object "RetraceDesk$ClassLine")
  | 4 => .array (.object "RetraceDesk$MethodLine")
  | 5 => .int
  | 6 => .int
  | 7 => .int
  | 8 => .int
  | _ => .object "RetraceDesk$Slice"
theorem ky_MA : ∀ k, k < 10 → parseFieldDescriptor (T_MA k).2.2.1 = some (k_MA k) := by decide +kernel
theorem kn_MA : ∀ a, a < 10 → ∀ b, b < 10 → a ≠ b → (T_MA a).2.1 ≠ (T_MA b).2.1 := by decide +kernel
def R_ML : String := "RetraceDesk$MethodLine"
def T_ML : u_T := fun k => match k with
  | 0 => ("RetraceDesk$MethodLine", "owner", "LRetraceDesk$Slice;", true)
  | 1 => ("RetraceDesk$MethodLine", "method", "LRetraceDesk$Slice;", true)
  | 2 => ("RetraceDesk$MethodLine", "brief", "LRetraceDesk$Slice;", true)
  | 3 => ("RetraceDesk$MethodLine", "classPlace", "I", false)
  | 4 => ("RetraceDesk$MethodLine", "groupSize", "I", false)
  | 5 => ("RetraceDesk$MethodLine", "first", "I", false)
  | 6 => ("RetraceDesk$MethodLine", "last", "I", false)
  | 7 => ("RetraceDesk$MethodLine", "realFirst", "I", false)
  | _ => ("RetraceDesk$MethodLine", "realLast", "I", false)
def k_ML : Nat → FieldType := fun k => match k with
  | 0 => .object "RetraceDesk$Slice"
  | 1 => .object "RetraceDesk$Slice"
  | 2 => .object "RetraceDesk$Slice"
  | 3 => .int
  | 4 => .int
  | 5 => .int
  | 6 => .int
  | 7 => .int
  | _ => .int
theorem ky_ML : ∀ k, k < 9 → parseFieldDescriptor (T_ML k).2.2.1 = some (k_ML k) := by decide +kernel
theorem kn_ML : ∀ a, a < 9 → ∀ b, b < 9 → a ≠ b → (T_ML a).2.1 ≠ (T_ML b).2.1 := by decide +kernel
def R_RW : String := "RetraceDesk$Rewriter"
def T_RW : u_T := fun k => match k with
  | 0 => ("RetraceDesk$Rewriter", "trace", "LRetraceDesk$Trace;", true)
  | 1 => ("RetraceDesk$Rewriter", "mapping", "LRetraceDesk$Mapping;", true)
  | 2 => ("RetraceDesk$Rewriter", "print", "LRetraceDesk$Text;", true)
  | 3 => ("RetraceDesk$Rewriter", "frameCount", "I", false)
  | _ => ("RetraceDesk$Rewriter", "doubtfulCount", "I", false)
def k_RW : Nat → FieldType := fun k => match k with
  | 0 => .object "RetraceDesk$Trace"
  | 1 => .object "RetraceDesk$Mapping"
  | 2 => .object "RetraceDesk$Text"
  | 3 => .int
  | _ => .int
theorem ky_RW : ∀ k, k < 5 → parseFieldDescriptor (T_RW k).2.2.1 = some (k_RW k) := by decide +kernel
theorem kn_RW : ∀ a, a < 5 → ∀ b, b < 5 → a ≠ b → (T_RW a).2.1 ≠ (T_RW b).2.1 := by decide +kernel
def R_SL : String := "RetraceDesk$Slice"
def T_SL : u_T := fun k => match k with
  | 0 => ("RetraceDesk$Slice", "codes", "[C", true)
  | 1 => ("RetraceDesk$Slice", "from", "I", false)
  | _ => ("RetraceDesk$Slice", "to", "I", false)
def k_SL : Nat → FieldType := fun k => match k with
  | 0 => .array .char
  | 1 => .int
  | _ => .int
theorem ky_SL : ∀ k, k < 3 → parseFieldDescriptor (T_SL k).2.2.1 = some (k_SL k) := by decide +kernel
theorem kn_SL : ∀ a, a < 3 → ∀ b, b < 3 → a ≠ b → (T_SL a).2.1 ≠ (T_SL b).2.1 := by decide +kernel
def R_TX : String := "RetraceDesk$Text"
def T_TX : u_T := fun k => match k with
  | 0 => ("RetraceDesk$Text", "codes", "[C", true)
  | 1 => ("RetraceDesk$Text", "size", "I", false)
  | _ => ("RetraceDesk$Text", "isOverfull", "Z", false)
def k_TX : Nat → FieldType := fun k => match k with
  | 0 => .array .char
  | 1 => .int
  | _ => .boolean
theorem ky_TX : ∀ k, k < 3 → parseFieldDescriptor (T_TX k).2.2.1 = some (k_TX k) := by decide +kernel
theorem kn_TX : ∀ a, a < 3 → ∀ b, b < 3 → a ≠ b → (T_TX a).2.1 ≠ (T_TX b).2.1 := by decide +kernel
def R_TR : String := "RetraceDesk$Trace"
def T_TR : u_T := fun k => match k with
  | 0 => ("RetraceDesk$Form", "codes", "[C", true)
  | 1 => ("RetraceDesk$Form", "here", "I", false)
  | 2 => ("RetraceDesk$Form", "end", "I", false)
  | 3 => ("RetraceDesk$Trace", "headers", "[LRetraceDesk$Header;", true)
  | 4 => ("RetraceDesk$Trace", "frames", "[LRetraceDesk$Frame;", true)
  | 5 => ("RetraceDesk$Trace", "headerCount", "I", false)
  | 6 => ("RetraceDesk$Trace", "frameCount", "I", false)
  | _ => ("RetraceDesk$Trace", "call", "LRetraceDesk$Slice;", true)
def k_TR : Nat → FieldType := fun k => match k with
  | 0 => .array .char
  | 1 => .int
  | 2 => .int
  | 3 => .array (.object "RetraceDesk$Header")
  | 4 => .array (.object "RetraceDesk$Frame")
  | 5 => .int
  | 6 => .int
  | _ => .object "RetraceDesk$Slice"
theorem ky_TR : ∀ k, k < 8 → parseFieldDescriptor (T_TR k).2.2.1 = some (k_TR k) := by decide +kernel
theorem kn_TR : ∀ a, a < 8 → ∀ b, b < 8 → a ≠ b → (T_TR a).2.1 ≠ (T_TR b).2.1 := by decide +kernel
def R_RD : String := "RetraceDesk"
def T_RD : u_T := fun k => match k with
  | 0 => ("RetraceDesk", "draft", "LRetraceDesk$Text;", true)
  | 1 => ("RetraceDesk", "trace", "LRetraceDesk$Trace;", true)
  | 2 => ("RetraceDesk", "book", "LRetraceDesk$CrashBook;", true)
  | 3 => ("RetraceDesk", "mapping", "LRetraceDesk$Mapping;", false)
  | 4 => ("RetraceDesk", "spareMapping", "LRetraceDesk$Mapping;", false)
  | 5 => ("RetraceDesk", "print", "LRetraceDesk$Text;", false)
  | 6 => ("RetraceDesk", "sparePrint", "LRetraceDesk$Text;", false)
  | 7 => ("RetraceDesk", "isLoaded", "Z", false)
  | 8 => ("RetraceDesk", "wrongLine", "I", false)
  | _ => ("RetraceDesk", "doubtfulFrames", "I", false)
def k_RD : Nat → FieldType := fun k => match k with
  | 0 => .object "RetraceDesk$Text"
  | 1 => .object "RetraceDesk$Trace"
  | 2 => .object "RetraceDesk$CrashBook"
  | 3 => .object "RetraceDesk$Mapping"
  | 4 => .object "RetraceDesk$Mapping"
  | 5 => .object "RetraceDesk$Text"
  | 6 => .object "RetraceDesk$Text"
  | 7 => .boolean
  | 8 => .int
  | _ => .int
theorem ky_RD : ∀ k, k < 10 → parseFieldDescriptor (T_RD k).2.2.1 = some (k_RD k) := by decide +kernel
theorem kn_RD : ∀ a, a < 10 → ∀ b, b < 10 → a ≠ b → (T_RD a).2.1 ≠ (T_RD b).2.1 := by decide +kernel
def R_MO : String := "RetraceDeskModel"
def T_MO : u_T := fun k => match k with
  | 0 => ("RetraceDeskModel", "draft", "[I", true)
  | 1 => ("RetraceDeskModel", "size", "I", false)
  | 2 => ("RetraceDeskModel", "all", "[I", true)
  | 3 => ("RetraceDeskModel", "kept", "[I", true)
  | 4 => ("RetraceDeskModel", "keptSize", "I", false)
  | 5 => ("RetraceDeskModel", "loaded", "Z", false)
  | 6 => ("RetraceDeskModel", "classes", "I", false)
  | 7 => ("RetraceDeskModel", "realFrom", "[I", true)
  | 8 => ("RetraceDeskModel", "realTo", "[I", true)
  | 9 => ("RetraceDeskModel", "shortFrom", "[I", true)
  | 10 => ("RetraceDeskModel", "shortTo", "[I", true)
  | 11 => ("RetraceDeskModel", "methods", "I", false)
  | 12 => ("RetraceDeskModel", "ownFrom", "[I", true)
  | 13 => ("RetraceDeskModel", "ownTo", "[I", true)
  | 14 => ("RetraceDeskModel", "callFrom", "[I", true)
  | 15 => ("RetraceDeskModel", "callTo", "[I", true)
  | 16 => ("RetraceDeskModel", "nickFrom", "[I", true)
  | 17 => ("RetraceDeskModel", "nickTo", "[I", true)
  | 18 => ("RetraceDeskModel", "low", "[I", true)
  | 19 => ("RetraceDeskModel", "high", "[I", true)
  | 20 => ("RetraceDeskModel", "first", "[I", true)
  | 21 => ("RetraceDeskModel", "last", "[I", true)
  | 22 => ("RetraceDeskModel", "classOf", "[I", true)
  | 23 => ("RetraceDeskModel", "groupOf", "[I", true)
  | 24 => ("RetraceDeskModel", "groups", "I", false)
  | 25 => ("RetraceDeskModel", "value", "I", false)
  | 26 => ("RetraceDeskModel", "parts", "I", false)
  | 27 => ("RetraceDeskModel", "lastPart", "I", false)
  | 28 => ("RetraceDeskModel", "lines", "I", false)
  | 29 => ("RetraceDeskModel", "kind", "[I", true)
  | 30 => ("RetraceDeskModel", "lineFrom", "[I", true)
  | 31 => ("RetraceDeskModel", "lineTo", "[I", true)
  | 32 => ("RetraceDeskModel", "nameFrom", "[I", true)
  | 33 => ("RetraceDeskModel", "nameTo", "[I", true)
  | 34 => ("RetraceDeskModel", "methodFrom", "[I", true)
  | 35 => ("RetraceDeskModel", "fileFrom", "[I", true)
  | 36 => ("RetraceDeskModel", "fileTo", "[I", true)
  | 37 => ("RetraceDeskModel", "number", "[I", true)
  | 38 => ("RetraceDeskModel", "out", "[I", true)
  | 39 => ("RetraceDeskModel", "outSize", "I", false)
  | 40 => ("RetraceDeskModel", "overflow", "Z", false)
  | 41 => ("RetraceDeskModel", "doubts", "I", false)
  | 42 => ("RetraceDeskModel", "print", "[I", true)
  | 43 => ("RetraceDeskModel", "printSize", "I", false)
  | 44 => ("RetraceDeskModel", "doubtsKept", "I", false)
  | 45 => ("RetraceDeskModel", "wrongLine", "I", false)
  | 46 => ("RetraceDeskModel", "hash", "J", false)
  | 47 => ("RetraceDeskModel", "crashCount", "I", false)
  | 48 => ("RetraceDeskModel", "reportCount", "I", false)
  | 49 => ("RetraceDeskModel", "keys", "[J", true)
  | 50 => ("RetraceDeskModel", "times", "[I", true)
  | 51 => ("RetraceDeskModel", "firsts", "[I", true)
  | 52 => ("RetraceDeskModel", "lasts", "[I", true)
  | _ => ("RetraceDeskModel", "code", "I", false)
def k_MO : Nat → FieldType := fun k => match k with
  | 0 => .array .int
  | 1 => .int
  | 2 => .array .int
  | 3 => .array .int
  | 4 => .int
  | 5 => .boolean
  | 6 => .int
  | 7 => .array .int
  | 8 => .array .int
  | 9 => .array .int
  | 10 => .array .int
  | 11 => .int
  | 12 => .array .int
  | 13 => .array .int
  | 14 => .array .int
  | 15 => .array .int
  | 16 => .array .int
  | 17 => .array .int
  | 18 => .array .int
  | 19 => .array .int
  | 20 => .array .int
  | 21 => .array .int
  | 22 => .array .int
  | 23 => .array .int
  | 24 => .int
  | 25 => .int
  | 26 => .int
  | 27 => .int
  | 28 => .int
  | 29 => .array .int
  | 30 => .array .int
  | 31 => .array .int
  | 32 => .array .int
  | 33 => .array .int
  | 34 => .array .int
  | 35 => .array .int
  | 36 => .array .int
  | 37 => .array .int
  | 38 => .array .int
  | 39 => .int
  | 40 => .boolean
  | 41 => .int
  | 42 => .array .int
  | 43 => .int
  | 44 => .int
  | 45 => .int
  | 46 => .long
  | 47 => .int
  | 48 => .int
  | 49 => .array .long
  | 50 => .array .int
  | 51 => .array .int
  | 52 => .array .int
  | _ => .int
theorem ky_MO : ∀ k, k < 54 → parseFieldDescriptor (T_MO k).2.2.1 = some (k_MO k) := by decide +kernel
theorem kn_MO : ∀ a, a < 54 → ∀ b, b < 54 → a ≠ b → (T_MO a).2.1 ≠ (T_MO b).2.1 := by decide +kernel
abbrev vwCl : List vw_C := [(R_CL, T_CL, 5), (R_CB, T_CB, 6), (R_FR, T_FR, 5), (R_HE, T_HE, 6), (R_MA, T_MA, 10), (R_ML, T_ML, 9), (R_RW, T_RW, 5), (R_SL, T_SL, 3), (R_TX, T_TX, 3), (R_TR, T_TR, 8), (R_RD, T_RD, 10), (R_MO, T_MO, 54)]
def am_tbl : List Cond := lw_tbl.filter goodWord
theorem am_good : GoodIn am_tbl am_tbl := fun w h => ⟨h, good_of_word (List.mem_filter.mp h).2⟩
theorem am_in {w : Cond} (h : w ∈ lw_tbl) (g : goodWord w = true) : w ∈ am_tbl := List.mem_filter.mpr ⟨h, g⟩
theorem lw_in1 {w : Cond} (h : w ∈ tables_1_1) : w ∈ lw_tbl := List.mem_append_right _ (show w ∈ tables_1 from List.mem_append_left _ h)
theorem lw_in2 {w : Cond} (h : w ∈ tables_1_2) : w ∈ lw_tbl := List.mem_append_right _ (show w ∈ tables_1 from List.mem_append_right _ (List.mem_append_left _ h))
theorem lw_in3 {w : Cond} (h : w ∈ tables_1_3) : w ∈ lw_tbl := List.mem_append_right _ (show w ∈ tables_1 from List.mem_append_right _ (List.mem_append_right _ (List.mem_append_left _ h)))
theorem lw_in4 {w : Cond} (h : w ∈ tables_1_4) : w ∈ lw_tbl := List.mem_append_right _ (show w ∈ tables_1 from List.mem_append_right _ (List.mem_append_right _ (List.mem_append_right _ (List.mem_append_left _ h))))
theorem lw_in5 {w : Cond} (h : w ∈ tables_1_5) : w ∈ lw_tbl := List.mem_append_right _ (show w ∈ tables_1 from List.mem_append_right _ (List.mem_append_right _ (List.mem_append_right _ (List.mem_append_right _ (List.mem_append_left _ h)))))
theorem lw_in6 {w : Cond} (h : w ∈ tables_1_6) : w ∈ lw_tbl := List.mem_append_right _ (show w ∈ tables_1 from List.mem_append_right _ (List.mem_append_right _ (List.mem_append_right _ (List.mem_append_right _ (List.mem_append_right _ (List.mem_append_left _ h))))))
theorem lw_in7 {w : Cond} (h : w ∈ tables_1_7) : w ∈ lw_tbl := List.mem_append_right _ (show w ∈ tables_1 from List.mem_append_right _ (List.mem_append_right _ (List.mem_append_right _ (List.mem_append_right _ (List.mem_append_right _ (List.mem_append_right _ (h)))))))
theorem tb_0 : (Jvm.Cond.initialized "RetraceDeskLaw") ∈ am_tbl := am_in (lw_in1 (List.mem_of_getElem? (i := 0) rfl)) (by decide +kernel)
theorem tb_1 : (Jvm.Cond.initialized "RetraceDesk") ∈ am_tbl := am_in (lw_in1 (List.mem_of_getElem? (i := 1) rfl)) (by decide +kernel)
theorem tb_2 : (Jvm.Cond.initialized "RetraceDesk$Text") ∈ am_tbl := am_in (lw_in1 (List.mem_of_getElem? (i := 2) rfl)) (by decide +kernel)
theorem tb_3 : (Jvm.Cond.initialized "RetraceDesk$Form") ∈ am_tbl := am_in (lw_in1 (List.mem_of_getElem? (i := 3) rfl)) (by decide +kernel)
theorem tb_4 : (Jvm.Cond.initialized "RetraceDesk$Trace") ∈ am_tbl := am_in (lw_in1 (List.mem_of_getElem? (i := 4) rfl)) (by decide +kernel)
theorem tb_5 : (Jvm.Cond.initialized "RetraceDesk$Slice") ∈ am_tbl := am_in (lw_in1 (List.mem_of_getElem? (i := 5) rfl)) (by decide +kernel)
theorem tb_6 : (Jvm.Cond.initialized "RetraceDesk$Header") ∈ am_tbl := am_in (lw_in1 (List.mem_of_getElem? (i := 6) rfl)) (by decide +kernel)
theorem tb_7 : (Jvm.Cond.initialized "RetraceDesk$Frame") ∈ am_tbl := am_in (lw_in1 (List.mem_of_getElem? (i := 7) rfl)) (by decide +kernel)
theorem tb_8 : (Jvm.Cond.initialized "RetraceDesk$CrashBook") ∈ am_tbl := am_in (lw_in1 (List.mem_of_getElem? (i := 8) rfl)) (by decide +kernel)
theorem tb_9 : (Jvm.Cond.initialized "RetraceDesk$Mapping") ∈ am_tbl := am_in (lw_in1 (List.mem_of_getElem? (i := 9) rfl)) (by decide +kernel)
theorem tb_10 : (Jvm.Cond.initialized "RetraceDesk$ClassLine") ∈ am_tbl := am_in (lw_in1 (List.mem_of_getElem? (i := 10) rfl)) (by decide +kernel)
theorem tb_11 : (Jvm.Cond.initialized "RetraceDesk$MethodLine") ∈ am_tbl := am_in (lw_in1 (List.mem_of_getElem? (i := 11) rfl)) (by decide +kernel)
theorem tb_12 : (Jvm.Cond.initialized "RetraceDeskModel") ∈ am_tbl := am_in (lw_in1 (List.mem_of_getElem? (i := 12) rfl)) (by decide +kernel)
theorem tb_13 : (Jvm.Cond.initialized "java/lang/System") ∈ am_tbl := am_in (lw_in1 (List.mem_of_getElem? (i := 13) rfl)) (by decide +kernel)
theorem tb_14 : (Jvm.Cond.initialized "java/lang/String") ∈ am_tbl := am_in (lw_in1 (List.mem_of_getElem? (i := 14) rfl)) (by decide +kernel)
theorem tb_15 : (Jvm.Cond.initialized "java/lang/StringLatin1") ∈ am_tbl := am_in (lw_in1 (List.mem_of_getElem? (i := 15) rfl)) (by decide +kernel)
theorem tb_16 : (Jvm.Cond.initialized "jdk/internal/util/Preconditions") ∈ am_tbl := am_in (lw_in1 (List.mem_of_getElem? (i := 16) rfl)) (by decide +kernel)
theorem tb_17 : (Jvm.Cond.initialized "java/lang/StringUTF16") ∈ am_tbl := am_in (lw_in1 (List.mem_of_getElem? (i := 17) rfl)) (by decide +kernel)
theorem tb_18 : (Jvm.Cond.initialized "java/lang/Math") ∈ am_tbl := am_in (lw_in1 (List.mem_of_getElem? (i := 18) rfl)) (by decide +kernel)
theorem tb_24 : (Jvm.Cond.initialized "RetraceDesk$Rewriter") ∈ am_tbl := am_in (lw_in1 (List.mem_of_getElem? (i := 24) rfl)) (by decide +kernel)
theorem tb_27 : (Jvm.Cond.classLink "RetraceDeskLaw" (8 : Nat) "RetraceDesk") ∈ am_tbl := am_in (lw_in1 (List.mem_of_getElem? (i := 27) rfl)) (by decide +kernel)
theorem tb_28 : (Jvm.Cond.instantiable "RetraceDesk" (10 : Nat)) ∈ am_tbl := am_in (lw_in1 (List.mem_of_getElem? (i := 28) rfl)) (by decide +kernel)
theorem tb_29 : (Jvm.Cond.methodLink "RetraceDeskLaw" (45 : Nat) ({ cls := "RetraceDesk", name := "<init>", desc := "()V" } : Jvm.MethodName)) ∈ am_tbl := am_in (lw_in1 (List.mem_of_getElem? (i := 29) rfl)) (by decide +kernel)
theorem tb_30 : (Jvm.Cond.instanceMethod ({ cls := "RetraceDesk", name := "<init>", desc := "()V" } : Jvm.MethodName)) ∈ am_tbl := am_in (lw_in1 (List.mem_of_getElem? (i := 30) rfl)) (by decide +kernel)
theorem tb_31 : (Jvm.Cond.code ({ cls := "RetraceDesk", name := "<init>", desc := "()V" } : Jvm.MethodName) prog_1_method_1_code (1 : Nat) (Option.none : Option Jvm.ClassFile.FieldType)) ∈ am_tbl := am_in (lw_in1 (List.mem_of_getElem? (i := 31) rfl)) (by decide +kernel)
theorem tb_32 : (Jvm.Cond.methodLink "RetraceDesk" (3 : Nat) ({ cls := "java/lang/Object", name := "<init>", desc := "()V" } : Jvm.MethodName)) ∈ am_tbl := am_in (lw_in1 (List.mem_of_getElem? (i := 32) rfl)) (by decide +kernel)
theorem tb_33 : (Jvm.Cond.instanceMethod ({ cls := "java/lang/Object", name := "<init>", desc := "()V" } : Jvm.MethodName)) ∈ am_tbl := am_in (lw_in1 (List.mem_of_getElem? (i := 33) rfl)) (by decide +kernel)
theorem tb_34 : (Jvm.Cond.code ({ cls := "java/lang/Object", name := "<init>", desc := "()V" } : Jvm.MethodName) object_method_1_code (1 : Nat) (Option.none : Option Jvm.ClassFile.FieldType)) ∈ am_tbl := am_in (lw_in1 (List.mem_of_getElem? (i := 34) rfl)) (by decide +kernel)
theorem tb_35 : (Jvm.Cond.classLink "RetraceDesk" (9 : Nat) "RetraceDesk$Text") ∈ am_tbl := am_in (lw_in1 (List.mem_of_getElem? (i := 35) rfl)) (by decide +kernel)
theorem tb_36 : (Jvm.Cond.instantiable "RetraceDesk$Text" (3 : Nat)) ∈ am_tbl := am_in (lw_in1 (List.mem_of_getElem? (i := 36) rfl)) (by decide +kernel)
theorem tb_37 : (Jvm.Cond.methodLink "RetraceDesk" (11 : Nat) ({ cls := "RetraceDesk$Text", name := "<init>", desc := "(I)V" } : Jvm.MethodName)) ∈ am_tbl := am_in (lw_in1 (List.mem_of_getElem? (i := 37) rfl)) (by decide +kernel)
theorem tb_38 : (Jvm.Cond.instanceMethod ({ cls := "RetraceDesk$Text", name := "<init>", desc := "(I)V" } : Jvm.MethodName)) ∈ am_tbl := am_in (lw_in1 (List.mem_of_getElem? (i := 38) rfl)) (by decide +kernel)
theorem tb_39 : (Jvm.Cond.code ({ cls := "RetraceDesk$Text", name := "<init>", desc := "(I)V" } : Jvm.MethodName) prog_11_method_1_code (2 : Nat) (Option.none : Option Jvm.ClassFile.FieldType)) ∈ am_tbl := am_in (lw_in1 (List.mem_of_getElem? (i := 39) rfl)) (by decide +kernel)
theorem tb_40 : (Jvm.Cond.methodLink "RetraceDesk$Text" (3 : Nat) ({ cls := "java/lang/Object", name := "<init>", desc := "()V" } : Jvm.MethodName)) ∈ am_tbl := am_in (lw_in1 (List.mem_of_getElem? (i := 40) rfl)) (by decide +kernel)
theorem tb_41 : (Jvm.Cond.fieldLink "RetraceDesk$Text" (9 : Nat) "RetraceDesk$Text" "codes" "[C") ∈ am_tbl := am_in (lw_in1 (List.mem_of_getElem? (i := 41) rfl)) (by decide +kernel)
theorem tb_42 : (Jvm.Cond.fieldLink "RetraceDesk" (20 : Nat) "RetraceDesk$Text" "codes" "[C") ∈ am_tbl := am_in (lw_in1 (List.mem_of_getElem? (i := 42) rfl)) (by decide +kernel)
theorem tb_43 : (Jvm.Cond.fieldLink "RetraceDesk$Mapping" (32 : Nat) "RetraceDesk$Text" "codes" "[C") ∈ am_tbl := am_in (lw_in1 (List.mem_of_getElem? (i := 43) rfl)) (by decide +kernel)
theorem tb_44 : (Jvm.Cond.fieldLink "RetraceDesk$CrashBook" (37 : Nat) "RetraceDesk$Text" "codes" "[C") ∈ am_tbl := am_in (lw_in1 (List.mem_of_getElem? (i := 44) rfl)) (by decide +kernel)
theorem tb_45 : (Jvm.Cond.fieldLink "RetraceDesk$Text" (15 : Nat) "RetraceDesk$Text" "size" "I") ∈ am_tbl := am_in (lw_in1 (List.mem_of_getElem? (i := 45) rfl)) (by decide +kernel)
theorem tb_46 : (Jvm.Cond.fieldLink "RetraceDesk$Mapping" (39 : Nat) "RetraceDesk$Text" "size" "I") ∈ am_tbl := am_in (lw_in1 (List.mem_of_getElem? (i := 46) rfl)) (by decide +kernel)
theorem tb_47 : (Jvm.Cond.fieldLink "RetraceDesk" (54 : Nat) "RetraceDesk$Text" "size" "I") ∈ am_tbl := am_in (lw_in1 (List.mem_of_getElem? (i := 47) rfl)) (by decide +kernel)
theorem tb_48 : (Jvm.Cond.fieldLink "RetraceDesk$CrashBook" (34 : Nat) "RetraceDesk$Text" "size" "I") ∈ am_tbl := am_in (lw_in1 (List.mem_of_getElem? (i := 48) rfl)) (by decide +kernel)
theorem tb_49 : (Jvm.Cond.fieldLink "RetraceDesk$Text" (19 : Nat) "RetraceDesk$Text" "isOverfull" "Z") ∈ am_tbl := am_in (lw_in1 (List.mem_of_getElem? (i := 49) rfl)) (by decide +kernel)
theorem tb_50 : (Jvm.Cond.fieldLink "RetraceDesk" (184 : Nat) "RetraceDesk$Text" "isOverfull" "Z") ∈ am_tbl := am_in (lw_in1 (List.mem_of_getElem? (i := 50) rfl)) (by decide +kernel)
theorem tb_51 : (Jvm.Cond.laysFinal "RetraceDesk$Text" "RetraceDesk$Text" "codes" "[C") ∈ am_tbl := am_in (lw_in1 (List.mem_of_getElem? (i := 51) rfl)) (by decide +kernel)
theorem tb_53 : (Jvm.Cond.lays "RetraceDesk$Text" "RetraceDesk$Text" "size" "I") ∈ am_tbl := am_in (lw_in1 (List.mem_of_getElem? (i := 53) rfl)) (by decide +kernel)
theorem tb_55 : (Jvm.Cond.lays "RetraceDesk$Text" "RetraceDesk$Text" "isOverfull" "Z") ∈ am_tbl := am_in (lw_in1 (List.mem_of_getElem? (i := 55) rfl)) (by decide +kernel)
theorem tb_58 : (Jvm.Cond.arrayClass Jvm.ClassFile.FieldType.char) ∈ am_tbl := am_in (lw_in1 (List.mem_of_getElem? (i := 58) rfl)) (by decide +kernel)
theorem tb_59 : (Jvm.Cond.classLink "RetraceDesk" (18 : Nat) "RetraceDesk$Trace") ∈ am_tbl := am_in (lw_in1 (List.mem_of_getElem? (i := 59) rfl)) (by decide +kernel)
theorem tb_60 : (Jvm.Cond.instantiable "RetraceDesk$Trace" (8 : Nat)) ∈ am_tbl := am_in (lw_in1 (List.mem_of_getElem? (i := 60) rfl)) (by decide +kernel)
theorem tb_61 : (Jvm.Cond.methodLink "RetraceDesk" (24 : Nat) ({ cls := "RetraceDesk$Trace", name := "<init>", desc := "([C)V" } : Jvm.MethodName)) ∈ am_tbl := am_in (lw_in1 (List.mem_of_getElem? (i := 61) rfl)) (by decide +kernel)
theorem tb_62 : (Jvm.Cond.instanceMethod ({ cls := "RetraceDesk$Trace", name := "<init>", desc := "([C)V" } : Jvm.MethodName)) ∈ am_tbl := am_in (lw_in1 (List.mem_of_getElem? (i := 62) rfl)) (by decide +kernel)
theorem tb_63 : (Jvm.Cond.code ({ cls := "RetraceDesk$Trace", name := "<init>", desc := "([C)V" } : Jvm.MethodName) prog_12_method_1_code (3 : Nat) (Option.none : Option Jvm.ClassFile.FieldType)) ∈ am_tbl := am_in (lw_in1 (List.mem_of_getElem? (i := 63) rfl)) (by decide +kernel)
theorem tb_64 : (Jvm.Cond.methodLink "RetraceDesk$Trace" (3 : Nat) ({ cls := "RetraceDesk$Form", name := "<init>", desc := "([C)V" } : Jvm.MethodName)) ∈ am_tbl := am_in (lw_in1 (List.mem_of_getElem? (i := 64) rfl)) (by decide +kernel)
theorem tb_65 : (Jvm.Cond.instanceMethod ({ cls := "RetraceDesk$Form", name := "<init>", desc := "([C)V" } : Jvm.MethodName)) ∈ am_tbl := am_in (lw_in1 (List.mem_of_getElem? (i := 65) rfl)) (by decide +kernel)
theorem tb_66 : (Jvm.Cond.code ({ cls := "RetraceDesk$Form", name := "<init>", desc := "([C)V" } : Jvm.MethodName) prog_4_method_1_code (2 : Nat) (Option.none : Option Jvm.ClassFile.FieldType)) ∈ am_tbl := am_in (lw_in1 (List.mem_of_getElem? (i := 66) rfl)) (by decide +kernel)
theorem tb_67 : (Jvm.Cond.methodLink "RetraceDesk$Form" (3 : Nat) ({ cls := "java/lang/Object", name := "<init>", desc := "()V" } : Jvm.MethodName)) ∈ am_tbl := am_in (lw_in1 (List.mem_of_getElem? (i := 67) rfl)) (by decide +kernel)
theorem tb_68 : (Jvm.Cond.classLink "RetraceDesk$Trace" (9 : Nat) "RetraceDesk$Slice") ∈ am_tbl := am_in (lw_in1 (List.mem_of_getElem? (i := 68) rfl)) (by decide +kernel)
theorem tb_69 : (Jvm.Cond.instantiable "RetraceDesk$Slice" (3 : Nat)) ∈ am_tbl := am_in (lw_in1 (List.mem_of_getElem? (i := 69) rfl)) (by decide +kernel)
theorem tb_70 : (Jvm.Cond.methodLink "RetraceDesk$Trace" (11 : Nat) ({ cls := "RetraceDesk$Slice", name := "<init>", desc := "([C)V" } : Jvm.MethodName)) ∈ am_tbl := am_in (lw_in1 (List.mem_of_getElem? (i := 70) rfl)) (by decide +kernel)
theorem tb_71 : (Jvm.Cond.instanceMethod ({ cls := "RetraceDesk$Slice", name := "<init>", desc := "([C)V" } : Jvm.MethodName)) ∈ am_tbl := am_in (lw_in1 (List.mem_of_getElem? (i := 71) rfl)) (by decide +kernel)
theorem tb_72 : (Jvm.Cond.code ({ cls := "RetraceDesk$Slice", name := "<init>", desc := "([C)V" } : Jvm.MethodName) prog_10_method_1_code (2 : Nat) (Option.none : Option Jvm.ClassFile.FieldType)) ∈ am_tbl := am_in (lw_in1 (List.mem_of_getElem? (i := 72) rfl)) (by decide +kernel)
theorem tb_73 : (Jvm.Cond.methodLink "RetraceDesk$Slice" (3 : Nat) ({ cls := "java/lang/Object", name := "<init>", desc := "()V" } : Jvm.MethodName)) ∈ am_tbl := am_in (lw_in1 (List.mem_of_getElem? (i := 73) rfl)) (by decide +kernel)
theorem tb_74 : (Jvm.Cond.fieldLink "RetraceDesk$Slice" (9 : Nat) "RetraceDesk$Slice" "codes" "[C") ∈ am_tbl := am_in (lw_in1 (List.mem_of_getElem? (i := 74) rfl)) (by decide +kernel)
theorem tb_75 : (Jvm.Cond.fieldLink "RetraceDesk$Text" (37 : Nat) "RetraceDesk$Slice" "codes" "[C") ∈ am_tbl := am_in (lw_in1 (List.mem_of_getElem? (i := 75) rfl)) (by decide +kernel)
theorem tb_76 : (Jvm.Cond.fieldLink "RetraceDesk$Slice" (15 : Nat) "RetraceDesk$Slice" "from" "I") ∈ am_tbl := am_in (lw_in1 (List.mem_of_getElem? (i := 76) rfl)) (by decide +kernel)
theorem tb_77 : (Jvm.Cond.fieldLink "RetraceDesk$Text" (40 : Nat) "RetraceDesk$Slice" "from" "I") ∈ am_tbl := am_in (lw_in1 (List.mem_of_getElem? (i := 77) rfl)) (by decide +kernel)
theorem tb_78 : (Jvm.Cond.fieldLink "RetraceDesk$Trace" (101 : Nat) "RetraceDesk$Slice" "from" "I") ∈ am_tbl := am_in (lw_in1 (List.mem_of_getElem? (i := 78) rfl)) (by decide +kernel)
theorem tb_79 : (Jvm.Cond.fieldLink "RetraceDesk$Mapping" (145 : Nat) "RetraceDesk$Slice" "from" "I") ∈ am_tbl := am_in (lw_in1 (List.mem_of_getElem? (i := 79) rfl)) (by decide +kernel)
theorem tb_80 : (Jvm.Cond.fieldLink "RetraceDesk$Slice" (19 : Nat) "RetraceDesk$Slice" "to" "I") ∈ am_tbl := am_in (lw_in1 (List.mem_of_getElem? (i := 80) rfl)) (by decide +kernel)
theorem tb_81 : (Jvm.Cond.fieldLink "RetraceDesk$Text" (43 : Nat) "RetraceDesk$Slice" "to" "I") ∈ am_tbl := am_in (lw_in1 (List.mem_of_getElem? (i := 81) rfl)) (by decide +kernel)
theorem tb_82 : (Jvm.Cond.fieldLink "RetraceDesk$Trace" (111 : Nat) "RetraceDesk$Slice" "to" "I") ∈ am_tbl := am_in (lw_in1 (List.mem_of_getElem? (i := 82) rfl)) (by decide +kernel)
theorem tb_83 : (Jvm.Cond.fieldLink "RetraceDesk$Mapping" (148 : Nat) "RetraceDesk$Slice" "to" "I") ∈ am_tbl := am_in (lw_in1 (List.mem_of_getElem? (i := 83) rfl)) (by decide +kernel)
theorem tb_84 : (Jvm.Cond.laysFinal "RetraceDesk$Slice" "RetraceDesk$Slice" "codes" "[C") ∈ am_tbl := am_in (lw_in1 (List.mem_of_getElem? (i := 84) rfl)) (by decide +kernel)
theorem tb_86 : (Jvm.Cond.lays "RetraceDesk$Slice" "RetraceDesk$Slice" "from" "I") ∈ am_tbl := am_in (lw_in1 (List.mem_of_getElem? (i := 86) rfl)) (by decide +kernel)
theorem tb_88 : (Jvm.Cond.lays "RetraceDesk$Slice" "RetraceDesk$Slice" "to" "I") ∈ am_tbl := am_in (lw_in1 (List.mem_of_getElem? (i := 88) rfl)) (by decide +kernel)
theorem tb_91 : (Jvm.Cond.classLink "RetraceDesk$Trace" (18 : Nat) "RetraceDesk$Header") ∈ am_tbl := am_in (lw_in1 (List.mem_of_getElem? (i := 91) rfl)) (by decide +kernel)
theorem tb_93 : (Jvm.Cond.instantiable "RetraceDesk$Header" (6 : Nat)) ∈ am_tbl := am_in (lw_in1 (List.mem_of_getElem? (i := 93) rfl)) (by decide +kernel)
theorem tb_94 : (Jvm.Cond.methodLink "RetraceDesk$Trace" (24 : Nat) ({ cls := "RetraceDesk$Header", name := "<init>", desc := "([C)V" } : Jvm.MethodName)) ∈ am_tbl := am_in (lw_in1 (List.mem_of_getElem? (i := 94) rfl)) (by decide +kernel)
theorem tb_95 : (Jvm.Cond.instanceMethod ({ cls := "RetraceDesk$Header", name := "<init>", desc := "([C)V" } : Jvm.MethodName)) ∈ am_tbl := am_in (lw_in1 (List.mem_of_getElem? (i := 95) rfl)) (by decide +kernel)
theorem tb_96 : (Jvm.Cond.code ({ cls := "RetraceDesk$Header", name := "<init>", desc := "([C)V" } : Jvm.MethodName) prog_6_method_1_code (2 : Nat) (Option.none : Option Jvm.ClassFile.FieldType)) ∈ am_tbl := am_in (lw_in1 (List.mem_of_getElem? (i := 96) rfl)) (by decide +kernel)
theorem tb_97 : (Jvm.Cond.methodLink "RetraceDesk$Header" (1 : Nat) ({ cls := "java/lang/Object", name := "<init>", desc := "()V" } : Jvm.MethodName)) ∈ am_tbl := am_in (lw_in1 (List.mem_of_getElem? (i := 97) rfl)) (by decide +kernel)
theorem tb_98 : (Jvm.Cond.classLink "RetraceDesk$Header" (7 : Nat) "RetraceDesk$Slice") ∈ am_tbl := am_in (lw_in1 (List.mem_of_getElem? (i := 98) rfl)) (by decide +kernel)
theorem tb_99 : (Jvm.Cond.methodLink "RetraceDesk$Header" (9 : Nat) ({ cls := "RetraceDesk$Slice", name := "<init>", desc := "([C)V" } : Jvm.MethodName)) ∈ am_tbl := am_in (lw_in1 (List.mem_of_getElem? (i := 99) rfl)) (by decide +kernel)
theorem tb_100 : (Jvm.Cond.fieldLink "RetraceDesk$Header" (12 : Nat) "RetraceDesk$Header" "type" "LRetraceDesk$Slice;") ∈ am_tbl := am_in (lw_in1 (List.mem_of_getElem? (i := 100) rfl)) (by decide +kernel)
theorem tb_101 : (Jvm.Cond.fieldLink "RetraceDesk$Rewriter" (33 : Nat) "RetraceDesk$Header" "type" "LRetraceDesk$Slice;") ∈ am_tbl := am_in (lw_in1 (List.mem_of_getElem? (i := 101) rfl)) (by decide +kernel)
theorem tb_102 : (Jvm.Cond.fieldLink "RetraceDesk$Trace" (71 : Nat) "RetraceDesk$Header" "type" "LRetraceDesk$Slice;") ∈ am_tbl := am_in (lw_in1 (List.mem_of_getElem? (i := 102) rfl)) (by decide +kernel)
theorem tb_103 : (Jvm.Cond.fieldLink "RetraceDesk$Header" (18 : Nat) "RetraceDesk$Header" "message" "LRetraceDesk$Slice;") ∈ am_tbl := am_in (lw_in1 (List.mem_of_getElem? (i := 103) rfl)) (by decide +kernel)
theorem tb_104 : (Jvm.Cond.fieldLink "RetraceDesk$Trace" (84 : Nat) "RetraceDesk$Header" "message" "LRetraceDesk$Slice;") ∈ am_tbl := am_in (lw_in1 (List.mem_of_getElem? (i := 104) rfl)) (by decide +kernel)
theorem tb_105 : (Jvm.Cond.fieldLink "RetraceDesk$Rewriter" (207 : Nat) "RetraceDesk$Header" "message" "LRetraceDesk$Slice;") ∈ am_tbl := am_in (lw_in1 (List.mem_of_getElem? (i := 105) rfl)) (by decide +kernel)
theorem tb_106 : (Jvm.Cond.fieldLink "RetraceDesk$Trace" (80 : Nat) "RetraceDesk$Header" "hasMessage" "Z") ∈ am_tbl := am_in (lw_in1 (List.mem_of_getElem? (i := 106) rfl)) (by decide +kernel)
theorem tb_107 : (Jvm.Cond.fieldLink "RetraceDesk$Rewriter" (201 : Nat) "RetraceDesk$Header" "hasMessage" "Z") ∈ am_tbl := am_in (lw_in1 (List.mem_of_getElem? (i := 107) rfl)) (by decide +kernel)
theorem tb_108 : (Jvm.Cond.fieldLink "RetraceDesk$Trace" (49 : Nat) "RetraceDesk$Header" "more" "I") ∈ am_tbl := am_in (lw_in1 (List.mem_of_getElem? (i := 108) rfl)) (by decide +kernel)
theorem tb_109 : (Jvm.Cond.fieldLink "RetraceDesk$Rewriter" (214 : Nat) "RetraceDesk$Header" "more" "I") ∈ am_tbl := am_in (lw_in1 (List.mem_of_getElem? (i := 109) rfl)) (by decide +kernel)
theorem tb_110 : (Jvm.Cond.fieldLink "RetraceDesk$Rewriter" (54 : Nat) "RetraceDesk$Header" "firstFrame" "I") ∈ am_tbl := am_in (lw_in1 (List.mem_of_getElem? (i := 110) rfl)) (by decide +kernel)
theorem tb_111 : (Jvm.Cond.fieldLink "RetraceDesk$Trace" (91 : Nat) "RetraceDesk$Header" "firstFrame" "I") ∈ am_tbl := am_in (lw_in1 (List.mem_of_getElem? (i := 111) rfl)) (by decide +kernel)
theorem tb_112 : (Jvm.Cond.fieldLink "RetraceDesk$Rewriter" (57 : Nat) "RetraceDesk$Header" "endFrame" "I") ∈ am_tbl := am_in (lw_in1 (List.mem_of_getElem? (i := 112) rfl)) (by decide +kernel)
theorem tb_113 : (Jvm.Cond.fieldLink "RetraceDesk$Trace" (68 : Nat) "RetraceDesk$Header" "endFrame" "I") ∈ am_tbl := am_in (lw_in1 (List.mem_of_getElem? (i := 113) rfl)) (by decide +kernel)
theorem tb_114 : (Jvm.Cond.laysFinal "RetraceDesk$Header" "RetraceDesk$Header" "type" "LRetraceDesk$Slice;") ∈ am_tbl := am_in (lw_in1 (List.mem_of_getElem? (i := 114) rfl)) (by decide +kernel)
theorem tb_116 : (Jvm.Cond.laysFinal "RetraceDesk$Header" "RetraceDesk$Header" "message" "LRetraceDesk$Slice;") ∈ am_tbl := am_in (lw_in1 (List.mem_of_getElem? (i := 116) rfl)) (by decide +kernel)
theorem tb_118 : (Jvm.Cond.lays "RetraceDesk$Header" "RetraceDesk$Header" "hasMessage" "Z") ∈ am_tbl := am_in (lw_in1 (List.mem_of_getElem? (i := 118) rfl)) (by decide +kernel)
theorem tb_120 : (Jvm.Cond.lays "RetraceDesk$Header" "RetraceDesk$Header" "more" "I") ∈ am_tbl := am_in (lw_in1 (List.mem_of_getElem? (i := 120) rfl)) (by decide +kernel)
theorem tb_122 : (Jvm.Cond.lays "RetraceDesk$Header" "RetraceDesk$Header" "firstFrame" "I") ∈ am_tbl := am_in (lw_in1 (List.mem_of_getElem? (i := 122) rfl)) (by decide +kernel)
theorem tb_124 : (Jvm.Cond.lays "RetraceDesk$Header" "RetraceDesk$Header" "endFrame" "I") ∈ am_tbl := am_in (lw_in1 (List.mem_of_getElem? (i := 124) rfl)) (by decide +kernel)
theorem tb_127 : (Jvm.Cond.classLink "RetraceDesk$Trace" (25 : Nat) "RetraceDesk$Frame") ∈ am_tbl := am_in (lw_in1 (List.mem_of_getElem? (i := 127) rfl)) (by decide +kernel)
theorem tb_129 : (Jvm.Cond.instantiable "RetraceDesk$Frame" (5 : Nat)) ∈ am_tbl := am_in (lw_in1 (List.mem_of_getElem? (i := 129) rfl)) (by decide +kernel)
theorem tb_130 : (Jvm.Cond.methodLink "RetraceDesk$Trace" (31 : Nat) ({ cls := "RetraceDesk$Frame", name := "<init>", desc := "([C)V" } : Jvm.MethodName)) ∈ am_tbl := am_in (lw_in1 (List.mem_of_getElem? (i := 130) rfl)) (by decide +kernel)
theorem tb_131 : (Jvm.Cond.instanceMethod ({ cls := "RetraceDesk$Frame", name := "<init>", desc := "([C)V" } : Jvm.MethodName)) ∈ am_tbl := am_in (lw_in1 (List.mem_of_getElem? (i := 131) rfl)) (by decide +kernel)
theorem tb_132 : (Jvm.Cond.code ({ cls := "RetraceDesk$Frame", name := "<init>", desc := "([C)V" } : Jvm.MethodName) prog_5_method_1_code (2 : Nat) (Option.none : Option Jvm.ClassFile.FieldType)) ∈ am_tbl := am_in (lw_in1 (List.mem_of_getElem? (i := 132) rfl)) (by decide +kernel)
theorem tb_133 : (Jvm.Cond.methodLink "RetraceDesk$Frame" (1 : Nat) ({ cls := "java/lang/Object", name := "<init>", desc := "()V" } : Jvm.MethodName)) ∈ am_tbl := am_in (lw_in1 (List.mem_of_getElem? (i := 133) rfl)) (by decide +kernel)
theorem tb_134 : (Jvm.Cond.classLink "RetraceDesk$Frame" (7 : Nat) "RetraceDesk$Slice") ∈ am_tbl := am_in (lw_in1 (List.mem_of_getElem? (i := 134) rfl)) (by decide +kernel)
theorem tb_135 : (Jvm.Cond.methodLink "RetraceDesk$Frame" (9 : Nat) ({ cls := "RetraceDesk$Slice", name := "<init>", desc := "([C)V" } : Jvm.MethodName)) ∈ am_tbl := am_in (lw_in1 (List.mem_of_getElem? (i := 135) rfl)) (by decide +kernel)
theorem tb_136 : (Jvm.Cond.fieldLink "RetraceDesk$Frame" (12 : Nat) "RetraceDesk$Frame" "owner" "LRetraceDesk$Slice;") ∈ am_tbl := am_in (lw_in1 (List.mem_of_getElem? (i := 136) rfl)) (by decide +kernel)
theorem tb_137 : (Jvm.Cond.fieldLink "RetraceDesk$Rewriter" (72 : Nat) "RetraceDesk$Frame" "owner" "LRetraceDesk$Slice;") ∈ am_tbl := am_in (lw_in1 (List.mem_of_getElem? (i := 137) rfl)) (by decide +kernel)
theorem tb_138 : (Jvm.Cond.fieldLink "RetraceDesk$Trace" (98 : Nat) "RetraceDesk$Frame" "owner" "LRetraceDesk$Slice;") ∈ am_tbl := am_in (lw_in1 (List.mem_of_getElem? (i := 138) rfl)) (by decide +kernel)
theorem tb_139 : (Jvm.Cond.fieldLink "RetraceDesk$Frame" (18 : Nat) "RetraceDesk$Frame" "method" "LRetraceDesk$Slice;") ∈ am_tbl := am_in (lw_in1 (List.mem_of_getElem? (i := 139) rfl)) (by decide +kernel)
theorem tb_140 : (Jvm.Cond.fieldLink "RetraceDesk$Rewriter" (80 : Nat) "RetraceDesk$Frame" "method" "LRetraceDesk$Slice;") ∈ am_tbl := am_in (lw_in1 (List.mem_of_getElem? (i := 140) rfl)) (by decide +kernel)
theorem tb_141 : (Jvm.Cond.fieldLink "RetraceDesk$Trace" (108 : Nat) "RetraceDesk$Frame" "method" "LRetraceDesk$Slice;") ∈ am_tbl := am_in (lw_in1 (List.mem_of_getElem? (i := 141) rfl)) (by decide +kernel)
theorem tb_142 : (Jvm.Cond.fieldLink "RetraceDesk$Frame" (21 : Nat) "RetraceDesk$Frame" "place" "LRetraceDesk$Slice;") ∈ am_tbl := am_in (lw_in1 (List.mem_of_getElem? (i := 142) rfl)) (by decide +kernel)
theorem tb_143 : (Jvm.Cond.fieldLink "RetraceDesk$Trace" (124 : Nat) "RetraceDesk$Frame" "place" "LRetraceDesk$Slice;") ∈ am_tbl := am_in (lw_in1 (List.mem_of_getElem? (i := 143) rfl)) (by decide +kernel)
theorem tb_144 : (Jvm.Cond.fieldLink "RetraceDesk$Rewriter" (224 : Nat) "RetraceDesk$Frame" "place" "LRetraceDesk$Slice;") ∈ am_tbl := am_in (lw_in1 (List.mem_of_getElem? (i := 144) rfl)) (by decide +kernel)
theorem tb_145 : (Jvm.Cond.fieldLink "RetraceDesk$Trace" (117 : Nat) "RetraceDesk$Frame" "hasFile" "Z") ∈ am_tbl := am_in (lw_in1 (List.mem_of_getElem? (i := 145) rfl)) (by decide +kernel)
theorem tb_146 : (Jvm.Cond.fieldLink "RetraceDesk$Rewriter" (227 : Nat) "RetraceDesk$Frame" "hasFile" "Z") ∈ am_tbl := am_in (lw_in1 (List.mem_of_getElem? (i := 146) rfl)) (by decide +kernel)
theorem tb_147 : (Jvm.Cond.fieldLink "RetraceDesk$Rewriter" (83 : Nat) "RetraceDesk$Frame" "line" "I") ∈ am_tbl := am_in (lw_in1 (List.mem_of_getElem? (i := 147) rfl)) (by decide +kernel)
theorem tb_148 : (Jvm.Cond.fieldLink "RetraceDesk$Trace" (114 : Nat) "RetraceDesk$Frame" "line" "I") ∈ am_tbl := am_in (lw_in1 (List.mem_of_getElem? (i := 148) rfl)) (by decide +kernel)
theorem tb_149 : (Jvm.Cond.laysFinal "RetraceDesk$Frame" "RetraceDesk$Frame" "owner" "LRetraceDesk$Slice;") ∈ am_tbl := am_in (lw_in1 (List.mem_of_getElem? (i := 149) rfl)) (by decide +kernel)
theorem tb_151 : (Jvm.Cond.laysFinal "RetraceDesk$Frame" "RetraceDesk$Frame" "method" "LRetraceDesk$Slice;") ∈ am_tbl := am_in (lw_in1 (List.mem_of_getElem? (i := 151) rfl)) (by decide +kernel)
theorem tb_153 : (Jvm.Cond.laysFinal "RetraceDesk$Frame" "RetraceDesk$Frame" "place" "LRetraceDesk$Slice;") ∈ am_tbl := am_in (lw_in1 (List.mem_of_getElem? (i := 153) rfl)) (by decide +kernel)
theorem tb_155 : (Jvm.Cond.lays "RetraceDesk$Frame" "RetraceDesk$Frame" "hasFile" "Z") ∈ am_tbl := am_in (lw_in1 (List.mem_of_getElem? (i := 155) rfl)) (by decide +kernel)
theorem tb_157 : (Jvm.Cond.lays "RetraceDesk$Frame" "RetraceDesk$Frame" "line" "I") ∈ am_tbl := am_in (lw_in1 (List.mem_of_getElem? (i := 157) rfl)) (by decide +kernel)
theorem tb_160 : (Jvm.Cond.fieldLink "RetraceDesk$Trace" (20 : Nat) "RetraceDesk$Trace" "headers" "[LRetraceDesk$Header;") ∈ am_tbl := am_in (lw_in1 (List.mem_of_getElem? (i := 160) rfl)) (by decide +kernel)
theorem tb_161 : (Jvm.Cond.fieldLink "RetraceDesk$Rewriter" (29 : Nat) "RetraceDesk$Trace" "headers" "[LRetraceDesk$Header;") ∈ am_tbl := am_in (lw_in1 (List.mem_of_getElem? (i := 161) rfl)) (by decide +kernel)
theorem tb_162 : (Jvm.Cond.fieldLink "RetraceDesk$Trace" (27 : Nat) "RetraceDesk$Trace" "frames" "[LRetraceDesk$Frame;") ∈ am_tbl := am_in (lw_in1 (List.mem_of_getElem? (i := 162) rfl)) (by decide +kernel)
theorem tb_163 : (Jvm.Cond.fieldLink "RetraceDesk$Rewriter" (60 : Nat) "RetraceDesk$Trace" "frames" "[LRetraceDesk$Frame;") ∈ am_tbl := am_in (lw_in1 (List.mem_of_getElem? (i := 163) rfl)) (by decide +kernel)
theorem tb_164 : (Jvm.Cond.fieldLink "RetraceDesk$Trace" (32 : Nat) "RetraceDesk$Trace" "headerCount" "I") ∈ am_tbl := am_in (lw_in1 (List.mem_of_getElem? (i := 164) rfl)) (by decide +kernel)
theorem tb_165 : (Jvm.Cond.fieldLink "RetraceDesk$Rewriter" (23 : Nat) "RetraceDesk$Trace" "headerCount" "I") ∈ am_tbl := am_in (lw_in1 (List.mem_of_getElem? (i := 165) rfl)) (by decide +kernel)
theorem tb_166 : (Jvm.Cond.fieldLink "RetraceDesk$Trace" (36 : Nat) "RetraceDesk$Trace" "frameCount" "I") ∈ am_tbl := am_in (lw_in1 (List.mem_of_getElem? (i := 166) rfl)) (by decide +kernel)
theorem tb_167 : (Jvm.Cond.fieldLink "RetraceDesk$Trace" (12 : Nat) "RetraceDesk$Trace" "call" "LRetraceDesk$Slice;") ∈ am_tbl := am_in (lw_in1 (List.mem_of_getElem? (i := 167) rfl)) (by decide +kernel)
theorem tb_168 : (Jvm.Cond.fieldLink "RetraceDesk$Form" (9 : Nat) "RetraceDesk$Form" "codes" "[C") ∈ am_tbl := am_in (lw_in1 (List.mem_of_getElem? (i := 168) rfl)) (by decide +kernel)
theorem tb_169 : (Jvm.Cond.fieldLink "RetraceDesk$Mapping" (38 : Nat) "RetraceDesk$Mapping" "codes" "[C") ∈ am_tbl := am_in (lw_in1 (List.mem_of_getElem? (i := 169) rfl)) (by decide +kernel)
theorem tb_170 : (Jvm.Cond.sameField "RetraceDesk$Mapping" "RetraceDesk$Form" "codes" "[C") ∈ am_tbl := am_in (lw_in1 (List.mem_of_getElem? (i := 170) rfl)) (by decide +kernel)
theorem tb_171 : (Jvm.Cond.fieldLink "RetraceDesk$Form" (15 : Nat) "RetraceDesk$Form" "here" "I") ∈ am_tbl := am_in (lw_in1 (List.mem_of_getElem? (i := 171) rfl)) (by decide +kernel)
theorem tb_172 : (Jvm.Cond.fieldLink "RetraceDesk$Form" (19 : Nat) "RetraceDesk$Form" "end" "I") ∈ am_tbl := am_in (lw_in1 (List.mem_of_getElem? (i := 172) rfl)) (by decide +kernel)
theorem tb_173 : (Jvm.Cond.laysFinal "RetraceDesk$Trace" "RetraceDesk$Trace" "headers" "[LRetraceDesk$Header;") ∈ am_tbl := am_in (lw_in1 (List.mem_of_getElem? (i := 173) rfl)) (by decide +kernel)
theorem tb_175 : (Jvm.Cond.laysFinal "RetraceDesk$Trace" "RetraceDesk$Trace" "frames" "[LRetraceDesk$Frame;") ∈ am_tbl := am_in (lw_in1 (List.mem_of_getElem? (i := 175) rfl)) (by decide +kernel)
theorem tb_177 : (Jvm.Cond.lays "RetraceDesk$Trace" "RetraceDesk$Trace" "headerCount" "I") ∈ am_tbl := am_in (lw_in1 (List.mem_of_getElem? (i := 177) rfl)) (by decide +kernel)
theorem tb_179 : (Jvm.Cond.lays "RetraceDesk$Trace" "RetraceDesk$Trace" "frameCount" "I") ∈ am_tbl := am_in (lw_in1 (List.mem_of_getElem? (i := 179) rfl)) (by decide +kernel)
theorem tb_181 : (Jvm.Cond.laysFinal "RetraceDesk$Trace" "RetraceDesk$Trace" "call" "LRetraceDesk$Slice;") ∈ am_tbl := am_in (lw_in1 (List.mem_of_getElem? (i := 181) rfl)) (by decide +kernel)
theorem tb_183 : (Jvm.Cond.laysFinal "RetraceDesk$Trace" "RetraceDesk$Form" "codes" "[C") ∈ am_tbl := am_in (lw_in1 (List.mem_of_getElem? (i := 183) rfl)) (by decide +kernel)
theorem tb_185 : (Jvm.Cond.lays "RetraceDesk$Trace" "RetraceDesk$Form" "here" "I") ∈ am_tbl := am_in (lw_in1 (List.mem_of_getElem? (i := 185) rfl)) (by decide +kernel)
theorem tb_187 : (Jvm.Cond.lays "RetraceDesk$Trace" "RetraceDesk$Form" "end" "I") ∈ am_tbl := am_in (lw_in1 (List.mem_of_getElem? (i := 187) rfl)) (by decide +kernel)
theorem tb_190 : (Jvm.Cond.classLink "RetraceDesk" (31 : Nat) "RetraceDesk$CrashBook") ∈ am_tbl := am_in (lw_in1 (List.mem_of_getElem? (i := 190) rfl)) (by decide +kernel)
theorem tb_191 : (Jvm.Cond.instantiable "RetraceDesk$CrashBook" (6 : Nat)) ∈ am_tbl := am_in (lw_in1 (List.mem_of_getElem? (i := 191) rfl)) (by decide +kernel)
theorem tb_192 : (Jvm.Cond.methodLink "RetraceDesk" (33 : Nat) ({ cls := "RetraceDesk$CrashBook", name := "<init>", desc := "()V" } : Jvm.MethodName)) ∈ am_tbl := am_in (lw_in1 (List.mem_of_getElem? (i := 192) rfl)) (by decide +kernel)
theorem tb_193 : (Jvm.Cond.instanceMethod ({ cls := "RetraceDesk$CrashBook", name := "<init>", desc := "()V" } : Jvm.MethodName)) ∈ am_tbl := am_in (lw_in1 (List.mem_of_getElem? (i := 193) rfl)) (by decide +kernel)
theorem tb_194 : (Jvm.Cond.code ({ cls := "RetraceDesk$CrashBook", name := "<init>", desc := "()V" } : Jvm.MethodName) prog_3_method_1_code (1 : Nat) (Option.none : Option Jvm.ClassFile.FieldType)) ∈ am_tbl := am_in (lw_in1 (List.mem_of_getElem? (i := 194) rfl)) (by decide +kernel)
theorem tb_195 : (Jvm.Cond.methodLink "RetraceDesk$CrashBook" (3 : Nat) ({ cls := "java/lang/Object", name := "<init>", desc := "()V" } : Jvm.MethodName)) ∈ am_tbl := am_in (lw_in1 (List.mem_of_getElem? (i := 195) rfl)) (by decide +kernel)
theorem tb_196 : (Jvm.Cond.fieldLink "RetraceDesk$CrashBook" (9 : Nat) "RetraceDesk$CrashBook" "keys" "[J") ∈ am_tbl := am_in (lw_in1 (List.mem_of_getElem? (i := 196) rfl)) (by decide +kernel)
theorem tb_197 : (Jvm.Cond.fieldLink "RetraceDesk" (160 : Nat) "RetraceDesk$CrashBook" "keys" "[J") ∈ am_tbl := am_in (lw_in1 (List.mem_of_getElem? (i := 197) rfl)) (by decide +kernel)
theorem tb_198 : (Jvm.Cond.fieldLink "RetraceDesk$CrashBook" (15 : Nat) "RetraceDesk$CrashBook" "times" "[I") ∈ am_tbl := am_in (lw_in1 (List.mem_of_getElem? (i := 198) rfl)) (by decide +kernel)
theorem tb_199 : (Jvm.Cond.fieldLink "RetraceDesk" (164 : Nat) "RetraceDesk$CrashBook" "times" "[I") ∈ am_tbl := am_in (lw_in1 (List.mem_of_getElem? (i := 199) rfl)) (by decide +kernel)
theorem tb_200 : (Jvm.Cond.fieldLink "RetraceDesk$CrashBook" (19 : Nat) "RetraceDesk$CrashBook" "firsts" "[I") ∈ am_tbl := am_in (lw_in1 (List.mem_of_getElem? (i := 200) rfl)) (by decide +kernel)
theorem tb_201 : (Jvm.Cond.fieldLink "RetraceDesk" (168 : Nat) "RetraceDesk$CrashBook" "firsts" "[I") ∈ am_tbl := am_in (lw_in1 (List.mem_of_getElem? (i := 201) rfl)) (by decide +kernel)
theorem tb_202 : (Jvm.Cond.fieldLink "RetraceDesk$CrashBook" (22 : Nat) "RetraceDesk$CrashBook" "lasts" "[I") ∈ am_tbl := am_in (lw_in1 (List.mem_of_getElem? (i := 202) rfl)) (by decide +kernel)
theorem tb_203 : (Jvm.Cond.fieldLink "RetraceDesk" (171 : Nat) "RetraceDesk$CrashBook" "lasts" "[I") ∈ am_tbl := am_in (lw_in1 (List.mem_of_getElem? (i := 203) rfl)) (by decide +kernel)
theorem tb_204 : (Jvm.Cond.fieldLink "RetraceDesk$CrashBook" (25 : Nat) "RetraceDesk$CrashBook" "size" "I") ∈ am_tbl := am_in (lw_in1 (List.mem_of_getElem? (i := 204) rfl)) (by decide +kernel)
theorem tb_205 : (Jvm.Cond.fieldLink "RetraceDesk" (156 : Nat) "RetraceDesk$CrashBook" "size" "I") ∈ am_tbl := am_in (lw_in1 (List.mem_of_getElem? (i := 205) rfl)) (by decide +kernel)
theorem tb_206 : (Jvm.Cond.fieldLink "RetraceDesk$CrashBook" (29 : Nat) "RetraceDesk$CrashBook" "reportCount" "I") ∈ am_tbl := am_in (lw_in1 (List.mem_of_getElem? (i := 206) rfl)) (by decide +kernel)
theorem tb_207 : (Jvm.Cond.laysFinal "RetraceDesk$CrashBook" "RetraceDesk$CrashBook" "keys" "[J") ∈ am_tbl := am_in (lw_in1 (List.mem_of_getElem? (i := 207) rfl)) (by decide +kernel)
theorem tb_209 : (Jvm.Cond.laysFinal "RetraceDesk$CrashBook" "RetraceDesk$CrashBook" "times" "[I") ∈ am_tbl := am_in (lw_in1 (List.mem_of_getElem? (i := 209) rfl)) (by decide +kernel)
theorem tb_211 : (Jvm.Cond.laysFinal "RetraceDesk$CrashBook" "RetraceDesk$CrashBook" "firsts" "[I") ∈ am_tbl := am_in (lw_in1 (List.mem_of_getElem? (i := 211) rfl)) (by decide +kernel)
theorem tb_213 : (Jvm.Cond.laysFinal "RetraceDesk$CrashBook" "RetraceDesk$CrashBook" "lasts" "[I") ∈ am_tbl := am_in (lw_in1 (List.mem_of_getElem? (i := 213) rfl)) (by decide +kernel)
theorem tb_215 : (Jvm.Cond.lays "RetraceDesk$CrashBook" "RetraceDesk$CrashBook" "size" "I") ∈ am_tbl := am_in (lw_in1 (List.mem_of_getElem? (i := 215) rfl)) (by decide +kernel)
theorem tb_217 : (Jvm.Cond.lays "RetraceDesk$CrashBook" "RetraceDesk$CrashBook" "reportCount" "I") ∈ am_tbl := am_in (lw_in1 (List.mem_of_getElem? (i := 217) rfl)) (by decide +kernel)
theorem tb_220 : (Jvm.Cond.arrayClass Jvm.ClassFile.FieldType.long) ∈ am_tbl := am_in (lw_in1 (List.mem_of_getElem? (i := 220) rfl)) (by decide +kernel)
theorem tb_221 : (Jvm.Cond.arrayClass Jvm.ClassFile.FieldType.int) ∈ am_tbl := am_in (lw_in1 (List.mem_of_getElem? (i := 221) rfl)) (by decide +kernel)
theorem tb_222 : (Jvm.Cond.classLink "RetraceDesk" (38 : Nat) "RetraceDesk$Mapping") ∈ am_tbl := am_in (lw_in1 (List.mem_of_getElem? (i := 222) rfl)) (by decide +kernel)
theorem tb_223 : (Jvm.Cond.instantiable "RetraceDesk$Mapping" (10 : Nat)) ∈ am_tbl := am_in (lw_in1 (List.mem_of_getElem? (i := 223) rfl)) (by decide +kernel)
theorem tb_224 : (Jvm.Cond.methodLink "RetraceDesk" (40 : Nat) ({ cls := "RetraceDesk$Mapping", name := "<init>", desc := "([C)V" } : Jvm.MethodName)) ∈ am_tbl := am_in (lw_in1 (List.mem_of_getElem? (i := 224) rfl)) (by decide +kernel)
theorem tb_225 : (Jvm.Cond.instanceMethod ({ cls := "RetraceDesk$Mapping", name := "<init>", desc := "([C)V" } : Jvm.MethodName)) ∈ am_tbl := am_in (lw_in1 (List.mem_of_getElem? (i := 225) rfl)) (by decide +kernel)
theorem tb_226 : (Jvm.Cond.code ({ cls := "RetraceDesk$Mapping", name := "<init>", desc := "([C)V" } : Jvm.MethodName) prog_7_method_1_code (3 : Nat) (Option.none : Option Jvm.ClassFile.FieldType)) ∈ am_tbl := am_in (lw_in1 (List.mem_of_getElem? (i := 226) rfl)) (by decide +kernel)
theorem tb_227 : (Jvm.Cond.methodLink "RetraceDesk$Mapping" (3 : Nat) ({ cls := "RetraceDesk$Form", name := "<init>", desc := "([C)V" } : Jvm.MethodName)) ∈ am_tbl := am_in (lw_in1 (List.mem_of_getElem? (i := 227) rfl)) (by decide +kernel)
theorem tb_228 : (Jvm.Cond.classLink "RetraceDesk$Mapping" (9 : Nat) "RetraceDesk$Slice") ∈ am_tbl := am_in (lw_in1 (List.mem_of_getElem? (i := 228) rfl)) (by decide +kernel)
theorem tb_229 : (Jvm.Cond.methodLink "RetraceDesk$Mapping" (11 : Nat) ({ cls := "RetraceDesk$Slice", name := "<init>", desc := "([C)V" } : Jvm.MethodName)) ∈ am_tbl := am_in (lw_in1 (List.mem_of_getElem? (i := 229) rfl)) (by decide +kernel)
theorem tb_230 : (Jvm.Cond.classLink "RetraceDesk$Mapping" (18 : Nat) "RetraceDesk$ClassLine") ∈ am_tbl := am_in (lw_in1 (List.mem_of_getElem? (i := 230) rfl)) (by decide +kernel)
theorem tb_232 : (Jvm.Cond.instantiable "RetraceDesk$ClassLine" (5 : Nat)) ∈ am_tbl := am_in (lw_in1 (List.mem_of_getElem? (i := 232) rfl)) (by decide +kernel)
theorem tb_233 : (Jvm.Cond.methodLink "RetraceDesk$Mapping" (24 : Nat) ({ cls := "RetraceDesk$ClassLine", name := "<init>", desc := "([C)V" } : Jvm.MethodName)) ∈ am_tbl := am_in (lw_in1 (List.mem_of_getElem? (i := 233) rfl)) (by decide +kernel)
theorem tb_234 : (Jvm.Cond.instanceMethod ({ cls := "RetraceDesk$ClassLine", name := "<init>", desc := "([C)V" } : Jvm.MethodName)) ∈ am_tbl := am_in (lw_in1 (List.mem_of_getElem? (i := 234) rfl)) (by decide +kernel)
theorem tb_235 : (Jvm.Cond.code ({ cls := "RetraceDesk$ClassLine", name := "<init>", desc := "([C)V" } : Jvm.MethodName) prog_2_method_1_code (2 : Nat) (Option.none : Option Jvm.ClassFile.FieldType)) ∈ am_tbl := am_in (lw_in1 (List.mem_of_getElem? (i := 235) rfl)) (by decide +kernel)
theorem tb_236 : (Jvm.Cond.methodLink "RetraceDesk$ClassLine" (1 : Nat) ({ cls := "java/lang/Object", name := "<init>", desc := "()V" } : Jvm.MethodName)) ∈ am_tbl := am_in (lw_in1 (List.mem_of_getElem? (i := 236) rfl)) (by decide +kernel)
theorem tb_237 : (Jvm.Cond.classLink "RetraceDesk$ClassLine" (7 : Nat) "RetraceDesk$Slice") ∈ am_tbl := am_in (lw_in1 (List.mem_of_getElem? (i := 237) rfl)) (by decide +kernel)
theorem tb_238 : (Jvm.Cond.methodLink "RetraceDesk$ClassLine" (9 : Nat) ({ cls := "RetraceDesk$Slice", name := "<init>", desc := "([C)V" } : Jvm.MethodName)) ∈ am_tbl := am_in (lw_in1 (List.mem_of_getElem? (i := 238) rfl)) (by decide +kernel)
theorem tb_239 : (Jvm.Cond.fieldLink "RetraceDesk$ClassLine" (12 : Nat) "RetraceDesk$ClassLine" "real" "LRetraceDesk$Slice;") ∈ am_tbl := am_in (lw_in1 (List.mem_of_getElem? (i := 239) rfl)) (by decide +kernel)
theorem tb_240 : (Jvm.Cond.fieldLink "RetraceDesk$Rewriter" (45 : Nat) "RetraceDesk$ClassLine" "real" "LRetraceDesk$Slice;") ∈ am_tbl := am_in (lw_in2 (List.mem_of_getElem? (i := 0) rfl)) (by decide +kernel)
theorem tb_241 : (Jvm.Cond.fieldLink "RetraceDesk$Mapping" (80 : Nat) "RetraceDesk$ClassLine" "real" "LRetraceDesk$Slice;") ∈ am_tbl := am_in (lw_in2 (List.mem_of_getElem? (i := 1) rfl)) (by decide +kernel)
theorem tb_242 : (Jvm.Cond.fieldLink "RetraceDesk$ClassLine" (18 : Nat) "RetraceDesk$ClassLine" "brief" "LRetraceDesk$Slice;") ∈ am_tbl := am_in (lw_in2 (List.mem_of_getElem? (i := 2) rfl)) (by decide +kernel)
theorem tb_243 : (Jvm.Cond.fieldLink "RetraceDesk$Mapping" (89 : Nat) "RetraceDesk$ClassLine" "brief" "LRetraceDesk$Slice;") ∈ am_tbl := am_in (lw_in2 (List.mem_of_getElem? (i := 3) rfl)) (by decide +kernel)
theorem tb_244 : (Jvm.Cond.fieldLink "RetraceDesk$Rewriter" (151 : Nat) "RetraceDesk$ClassLine" "brief" "LRetraceDesk$Slice;") ∈ am_tbl := am_in (lw_in2 (List.mem_of_getElem? (i := 4) rfl)) (by decide +kernel)
theorem tb_245 : (Jvm.Cond.fieldLink "RetraceDesk$Mapping" (101 : Nat) "RetraceDesk$ClassLine" "firstMethod" "I") ∈ am_tbl := am_in (lw_in2 (List.mem_of_getElem? (i := 5) rfl)) (by decide +kernel)
theorem tb_246 : (Jvm.Cond.fieldLink "RetraceDesk$Mapping" (104 : Nat) "RetraceDesk$ClassLine" "endMethod" "I") ∈ am_tbl := am_in (lw_in2 (List.mem_of_getElem? (i := 6) rfl)) (by decide +kernel)
theorem tb_247 : (Jvm.Cond.fieldLink "RetraceDesk$Mapping" (107 : Nat) "RetraceDesk$ClassLine" "groupCount" "I") ∈ am_tbl := am_in (lw_in2 (List.mem_of_getElem? (i := 7) rfl)) (by decide +kernel)
theorem tb_248 : (Jvm.Cond.fieldLink "RetraceDesk" (153 : Nat) "RetraceDesk$ClassLine" "groupCount" "I") ∈ am_tbl := am_in (lw_in2 (List.mem_of_getElem? (i := 8) rfl)) (by decide +kernel)
theorem tb_249 : (Jvm.Cond.laysFinal "RetraceDesk$ClassLine" "RetraceDesk$ClassLine" "real" "LRetraceDesk$Slice;") ∈ am_tbl := am_in (lw_in2 (List.mem_of_getElem? (i := 9) rfl)) (by decide +kernel)
theorem tb_251 : (Jvm.Cond.laysFinal "RetraceDesk$ClassLine" "RetraceDesk$ClassLine" "brief" "LRetraceDesk$Slice;") ∈ am_tbl := am_in (lw_in2 (List.mem_of_getElem? (i := 11) rfl)) (by decide +kernel)
theorem tb_253 : (Jvm.Cond.lays "RetraceDesk$ClassLine" "RetraceDesk$ClassLine" "firstMethod" "I") ∈ am_tbl := am_in (lw_in2 (List.mem_of_getElem? (i := 13) rfl)) (by decide +kernel)
theorem tb_255 : (Jvm.Cond.lays "RetraceDesk$ClassLine" "RetraceDesk$ClassLine" "endMethod" "I") ∈ am_tbl := am_in (lw_in2 (List.mem_of_getElem? (i := 15) rfl)) (by decide +kernel)
theorem tb_257 : (Jvm.Cond.lays "RetraceDesk$ClassLine" "RetraceDesk$ClassLine" "groupCount" "I") ∈ am_tbl := am_in (lw_in2 (List.mem_of_getElem? (i := 17) rfl)) (by decide +kernel)
theorem tb_260 : (Jvm.Cond.classLink "RetraceDesk$Mapping" (25 : Nat) "RetraceDesk$MethodLine") ∈ am_tbl := am_in (lw_in2 (List.mem_of_getElem? (i := 20) rfl)) (by decide +kernel)
theorem tb_262 : (Jvm.Cond.instantiable "RetraceDesk$MethodLine" (9 : Nat)) ∈ am_tbl := am_in (lw_in2 (List.mem_of_getElem? (i := 22) rfl)) (by decide +kernel)
theorem tb_263 : (Jvm.Cond.methodLink "RetraceDesk$Mapping" (31 : Nat) ({ cls := "RetraceDesk$MethodLine", name := "<init>", desc := "([C)V" } : Jvm.MethodName)) ∈ am_tbl := am_in (lw_in2 (List.mem_of_getElem? (i := 23) rfl)) (by decide +kernel)
theorem tb_264 : (Jvm.Cond.instanceMethod ({ cls := "RetraceDesk$MethodLine", name := "<init>", desc := "([C)V" } : Jvm.MethodName)) ∈ am_tbl := am_in (lw_in2 (List.mem_of_getElem? (i := 24) rfl)) (by decide +kernel)
theorem tb_265 : (Jvm.Cond.code ({ cls := "RetraceDesk$MethodLine", name := "<init>", desc := "([C)V" } : Jvm.MethodName) prog_8_method_1_code (2 : Nat) (Option.none : Option Jvm.ClassFile.FieldType)) ∈ am_tbl := am_in (lw_in2 (List.mem_of_getElem? (i := 25) rfl)) (by decide +kernel)
theorem tb_266 : (Jvm.Cond.methodLink "RetraceDesk$MethodLine" (3 : Nat) ({ cls := "java/lang/Object", name := "<init>", desc := "()V" } : Jvm.MethodName)) ∈ am_tbl := am_in (lw_in2 (List.mem_of_getElem? (i := 26) rfl)) (by decide +kernel)
theorem tb_267 : (Jvm.Cond.classLink "RetraceDesk$MethodLine" (9 : Nat) "RetraceDesk$Slice") ∈ am_tbl := am_in (lw_in2 (List.mem_of_getElem? (i := 27) rfl)) (by decide +kernel)
theorem tb_268 : (Jvm.Cond.methodLink "RetraceDesk$MethodLine" (11 : Nat) ({ cls := "RetraceDesk$Slice", name := "<init>", desc := "([C)V" } : Jvm.MethodName)) ∈ am_tbl := am_in (lw_in2 (List.mem_of_getElem? (i := 28) rfl)) (by decide +kernel)
theorem tb_269 : (Jvm.Cond.fieldLink "RetraceDesk$MethodLine" (14 : Nat) "RetraceDesk$MethodLine" "owner" "LRetraceDesk$Slice;") ∈ am_tbl := am_in (lw_in2 (List.mem_of_getElem? (i := 29) rfl)) (by decide +kernel)
theorem tb_270 : (Jvm.Cond.fieldLink "RetraceDesk$Rewriter" (106 : Nat) "RetraceDesk$MethodLine" "owner" "LRetraceDesk$Slice;") ∈ am_tbl := am_in (lw_in2 (List.mem_of_getElem? (i := 30) rfl)) (by decide +kernel)
theorem tb_271 : (Jvm.Cond.fieldLink "RetraceDesk$Mapping" (142 : Nat) "RetraceDesk$MethodLine" "owner" "LRetraceDesk$Slice;") ∈ am_tbl := am_in (lw_in2 (List.mem_of_getElem? (i := 31) rfl)) (by decide +kernel)
theorem tb_272 : (Jvm.Cond.fieldLink "RetraceDesk$MethodLine" (20 : Nat) "RetraceDesk$MethodLine" "method" "LRetraceDesk$Slice;") ∈ am_tbl := am_in (lw_in2 (List.mem_of_getElem? (i := 32) rfl)) (by decide +kernel)
theorem tb_273 : (Jvm.Cond.fieldLink "RetraceDesk$Rewriter" (109 : Nat) "RetraceDesk$MethodLine" "method" "LRetraceDesk$Slice;") ∈ am_tbl := am_in (lw_in2 (List.mem_of_getElem? (i := 33) rfl)) (by decide +kernel)
theorem tb_274 : (Jvm.Cond.fieldLink "RetraceDesk$Mapping" (155 : Nat) "RetraceDesk$MethodLine" "method" "LRetraceDesk$Slice;") ∈ am_tbl := am_in (lw_in2 (List.mem_of_getElem? (i := 34) rfl)) (by decide +kernel)
theorem tb_275 : (Jvm.Cond.fieldLink "RetraceDesk$MethodLine" (23 : Nat) "RetraceDesk$MethodLine" "brief" "LRetraceDesk$Slice;") ∈ am_tbl := am_in (lw_in2 (List.mem_of_getElem? (i := 35) rfl)) (by decide +kernel)
theorem tb_276 : (Jvm.Cond.fieldLink "RetraceDesk$Mapping" (121 : Nat) "RetraceDesk$MethodLine" "brief" "LRetraceDesk$Slice;") ∈ am_tbl := am_in (lw_in2 (List.mem_of_getElem? (i := 36) rfl)) (by decide +kernel)
theorem tb_277 : (Jvm.Cond.fieldLink "RetraceDesk$Rewriter" (172 : Nat) "RetraceDesk$MethodLine" "brief" "LRetraceDesk$Slice;") ∈ am_tbl := am_in (lw_in2 (List.mem_of_getElem? (i := 37) rfl)) (by decide +kernel)
theorem tb_278 : (Jvm.Cond.fieldLink "RetraceDesk$MethodLine" (44 : Nat) "RetraceDesk$MethodLine" "classPlace" "I") ∈ am_tbl := am_in (lw_in2 (List.mem_of_getElem? (i := 38) rfl)) (by decide +kernel)
theorem tb_279 : (Jvm.Cond.fieldLink "RetraceDesk$Mapping" (108 : Nat) "RetraceDesk$MethodLine" "classPlace" "I") ∈ am_tbl := am_in (lw_in2 (List.mem_of_getElem? (i := 39) rfl)) (by decide +kernel)
theorem tb_280 : (Jvm.Cond.fieldLink "RetraceDesk$Rewriter" (121 : Nat) "RetraceDesk$MethodLine" "groupSize" "I") ∈ am_tbl := am_in (lw_in2 (List.mem_of_getElem? (i := 40) rfl)) (by decide +kernel)
theorem tb_281 : (Jvm.Cond.fieldLink "RetraceDesk$Mapping" (170 : Nat) "RetraceDesk$MethodLine" "groupSize" "I") ∈ am_tbl := am_in (lw_in2 (List.mem_of_getElem? (i := 41) rfl)) (by decide +kernel)
theorem tb_282 : (Jvm.Cond.fieldLink "RetraceDesk$MethodLine" (26 : Nat) "RetraceDesk$MethodLine" "first" "I") ∈ am_tbl := am_in (lw_in2 (List.mem_of_getElem? (i := 42) rfl)) (by decide +kernel)
theorem tb_283 : (Jvm.Cond.fieldLink "RetraceDesk$Rewriter" (128 : Nat) "RetraceDesk$MethodLine" "first" "I") ∈ am_tbl := am_in (lw_in2 (List.mem_of_getElem? (i := 43) rfl)) (by decide +kernel)
theorem tb_284 : (Jvm.Cond.fieldLink "RetraceDesk$Mapping" (126 : Nat) "RetraceDesk$MethodLine" "first" "I") ∈ am_tbl := am_in (lw_in2 (List.mem_of_getElem? (i := 44) rfl)) (by decide +kernel)
theorem tb_285 : (Jvm.Cond.fieldLink "RetraceDesk$MethodLine" (47 : Nat) "RetraceDesk$MethodLine" "last" "I") ∈ am_tbl := am_in (lw_in2 (List.mem_of_getElem? (i := 45) rfl)) (by decide +kernel)
theorem tb_286 : (Jvm.Cond.fieldLink "RetraceDesk$Mapping" (129 : Nat) "RetraceDesk$MethodLine" "last" "I") ∈ am_tbl := am_in (lw_in2 (List.mem_of_getElem? (i := 46) rfl)) (by decide +kernel)
theorem tb_287 : (Jvm.Cond.fieldLink "RetraceDesk$MethodLine" (30 : Nat) "RetraceDesk$MethodLine" "realFirst" "I") ∈ am_tbl := am_in (lw_in2 (List.mem_of_getElem? (i := 47) rfl)) (by decide +kernel)
theorem tb_288 : (Jvm.Cond.fieldLink "RetraceDesk$Rewriter" (141 : Nat) "RetraceDesk$MethodLine" "realFirst" "I") ∈ am_tbl := am_in (lw_in2 (List.mem_of_getElem? (i := 48) rfl)) (by decide +kernel)
theorem tb_289 : (Jvm.Cond.fieldLink "RetraceDesk$Mapping" (158 : Nat) "RetraceDesk$MethodLine" "realFirst" "I") ∈ am_tbl := am_in (lw_in2 (List.mem_of_getElem? (i := 49) rfl)) (by decide +kernel)
theorem tb_290 : (Jvm.Cond.fieldLink "RetraceDesk$MethodLine" (33 : Nat) "RetraceDesk$MethodLine" "realLast" "I") ∈ am_tbl := am_in (lw_in2 (List.mem_of_getElem? (i := 50) rfl)) (by decide +kernel)
theorem tb_291 : (Jvm.Cond.fieldLink "RetraceDesk$Rewriter" (182 : Nat) "RetraceDesk$MethodLine" "realLast" "I") ∈ am_tbl := am_in (lw_in2 (List.mem_of_getElem? (i := 51) rfl)) (by decide +kernel)
theorem tb_292 : (Jvm.Cond.fieldLink "RetraceDesk$Mapping" (161 : Nat) "RetraceDesk$MethodLine" "realLast" "I") ∈ am_tbl := am_in (lw_in2 (List.mem_of_getElem? (i := 52) rfl)) (by decide +kernel)
theorem tb_293 : (Jvm.Cond.laysFinal "RetraceDesk$MethodLine" "RetraceDesk$MethodLine" "owner" "LRetraceDesk$Slice;") ∈ am_tbl := am_in (lw_in2 (List.mem_of_getElem? (i := 53) rfl)) (by decide +kernel)
theorem tb_295 : (Jvm.Cond.laysFinal "RetraceDesk$MethodLine" "RetraceDesk$MethodLine" "method" "LRetraceDesk$Slice;") ∈ am_tbl := am_in (lw_in2 (List.mem_of_getElem? (i := 55) rfl)) (by decide +kernel)
theorem tb_297 : (Jvm.Cond.laysFinal "RetraceDesk$MethodLine" "RetraceDesk$MethodLine" "brief" "LRetraceDesk$Slice;") ∈ am_tbl := am_in (lw_in2 (List.mem_of_getElem? (i := 57) rfl)) (by decide +kernel)
theorem tb_299 : (Jvm.Cond.lays "RetraceDesk$MethodLine" "RetraceDesk$MethodLine" "classPlace" "I") ∈ am_tbl := am_in (lw_in2 (List.mem_of_getElem? (i := 59) rfl)) (by decide +kernel)
theorem tb_301 : (Jvm.Cond.lays "RetraceDesk$MethodLine" "RetraceDesk$MethodLine" "groupSize" "I") ∈ am_tbl := am_in (lw_in2 (List.mem_of_getElem? (i := 61) rfl)) (by decide +kernel)
theorem tb_303 : (Jvm.Cond.lays "RetraceDesk$MethodLine" "RetraceDesk$MethodLine" "first" "I") ∈ am_tbl := am_in (lw_in2 (List.mem_of_getElem? (i := 63) rfl)) (by decide +kernel)
theorem tb_305 : (Jvm.Cond.lays "RetraceDesk$MethodLine" "RetraceDesk$MethodLine" "last" "I") ∈ am_tbl := am_in (lw_in2 (List.mem_of_getElem? (i := 65) rfl)) (by decide +kernel)
theorem tb_307 : (Jvm.Cond.lays "RetraceDesk$MethodLine" "RetraceDesk$MethodLine" "realFirst" "I") ∈ am_tbl := am_in (lw_in2 (List.mem_of_getElem? (i := 67) rfl)) (by decide +kernel)
theorem tb_309 : (Jvm.Cond.lays "RetraceDesk$MethodLine" "RetraceDesk$MethodLine" "realLast" "I") ∈ am_tbl := am_in (lw_in2 (List.mem_of_getElem? (i := 69) rfl)) (by decide +kernel)
theorem tb_312 : (Jvm.Cond.fieldLink "RetraceDesk$Mapping" (20 : Nat) "RetraceDesk$Mapping" "classLines" "[LRetraceDesk$ClassLine;") ∈ am_tbl := am_in (lw_in2 (List.mem_of_getElem? (i := 72) rfl)) (by decide +kernel)
theorem tb_313 : (Jvm.Cond.fieldLink "RetraceDesk" (149 : Nat) "RetraceDesk$Mapping" "classLines" "[LRetraceDesk$ClassLine;") ∈ am_tbl := am_in (lw_in2 (List.mem_of_getElem? (i := 73) rfl)) (by decide +kernel)
theorem tb_314 : (Jvm.Cond.fieldLink "RetraceDesk$Mapping" (27 : Nat) "RetraceDesk$Mapping" "methodLines" "[LRetraceDesk$MethodLine;") ∈ am_tbl := am_in (lw_in2 (List.mem_of_getElem? (i := 74) rfl)) (by decide +kernel)
theorem tb_315 : (Jvm.Cond.fieldLink "RetraceDesk$Rewriter" (117 : Nat) "RetraceDesk$Mapping" "methodLines" "[LRetraceDesk$MethodLine;") ∈ am_tbl := am_in (lw_in2 (List.mem_of_getElem? (i := 75) rfl)) (by decide +kernel)
theorem tb_316 : (Jvm.Cond.fieldLink "RetraceDesk$Mapping" (49 : Nat) "RetraceDesk$Mapping" "classCount" "I") ∈ am_tbl := am_in (lw_in2 (List.mem_of_getElem? (i := 76) rfl)) (by decide +kernel)
theorem tb_317 : (Jvm.Cond.fieldLink "RetraceDesk" (143 : Nat) "RetraceDesk$Mapping" "classCount" "I") ∈ am_tbl := am_in (lw_in2 (List.mem_of_getElem? (i := 77) rfl)) (by decide +kernel)
theorem tb_318 : (Jvm.Cond.fieldLink "RetraceDesk$Mapping" (52 : Nat) "RetraceDesk$Mapping" "methodCount" "I") ∈ am_tbl := am_in (lw_in2 (List.mem_of_getElem? (i := 78) rfl)) (by decide +kernel)
theorem tb_319 : (Jvm.Cond.fieldLink "RetraceDesk$Rewriter" (158 : Nat) "RetraceDesk$Mapping" "methodCount" "I") ∈ am_tbl := am_in (lw_in2 (List.mem_of_getElem? (i := 79) rfl)) (by decide +kernel)
theorem tb_320 : (Jvm.Cond.fieldLink "RetraceDesk$Mapping" (55 : Nat) "RetraceDesk$Mapping" "groupCount" "I") ∈ am_tbl := am_in (lw_in2 (List.mem_of_getElem? (i := 80) rfl)) (by decide +kernel)
theorem tb_321 : (Jvm.Cond.fieldLink "RetraceDesk" (91 : Nat) "RetraceDesk$Mapping" "groupCount" "I") ∈ am_tbl := am_in (lw_in2 (List.mem_of_getElem? (i := 81) rfl)) (by decide +kernel)
theorem tb_322 : (Jvm.Cond.fieldLink "RetraceDesk$Mapping" (58 : Nat) "RetraceDesk$Mapping" "latestGroup" "I") ∈ am_tbl := am_in (lw_in2 (List.mem_of_getElem? (i := 82) rfl)) (by decide +kernel)
theorem tb_323 : (Jvm.Cond.fieldLink "RetraceDesk$Mapping" (12 : Nat) "RetraceDesk$Mapping" "call" "LRetraceDesk$Slice;") ∈ am_tbl := am_in (lw_in2 (List.mem_of_getElem? (i := 83) rfl)) (by decide +kernel)
theorem tb_324 : (Jvm.Cond.laysFinal "RetraceDesk$Mapping" "RetraceDesk$Mapping" "classLines" "[LRetraceDesk$ClassLine;") ∈ am_tbl := am_in (lw_in2 (List.mem_of_getElem? (i := 84) rfl)) (by decide +kernel)
theorem tb_326 : (Jvm.Cond.laysFinal "RetraceDesk$Mapping" "RetraceDesk$Mapping" "methodLines" "[LRetraceDesk$MethodLine;") ∈ am_tbl := am_in (lw_in2 (List.mem_of_getElem? (i := 86) rfl)) (by decide +kernel)
theorem tb_328 : (Jvm.Cond.lays "RetraceDesk$Mapping" "RetraceDesk$Mapping" "classCount" "I") ∈ am_tbl := am_in (lw_in2 (List.mem_of_getElem? (i := 88) rfl)) (by decide +kernel)
theorem tb_330 : (Jvm.Cond.lays "RetraceDesk$Mapping" "RetraceDesk$Mapping" "methodCount" "I") ∈ am_tbl := am_in (lw_in2 (List.mem_of_getElem? (i := 90) rfl)) (by decide +kernel)
theorem tb_332 : (Jvm.Cond.lays "RetraceDesk$Mapping" "RetraceDesk$Mapping" "groupCount" "I") ∈ am_tbl := am_in (lw_in2 (List.mem_of_getElem? (i := 92) rfl)) (by decide +kernel)
theorem tb_334 : (Jvm.Cond.lays "RetraceDesk$Mapping" "RetraceDesk$Mapping" "latestGroup" "I") ∈ am_tbl := am_in (lw_in2 (List.mem_of_getElem? (i := 94) rfl)) (by decide +kernel)
theorem tb_336 : (Jvm.Cond.laysFinal "RetraceDesk$Mapping" "RetraceDesk$Mapping" "call" "LRetraceDesk$Slice;") ∈ am_tbl := am_in (lw_in2 (List.mem_of_getElem? (i := 96) rfl)) (by decide +kernel)
theorem tb_338 : (Jvm.Cond.laysFinal "RetraceDesk$Mapping" "RetraceDesk$Form" "codes" "[C") ∈ am_tbl := am_in (lw_in2 (List.mem_of_getElem? (i := 98) rfl)) (by decide +kernel)
theorem tb_339 : (Jvm.Cond.lays "RetraceDesk$Mapping" "RetraceDesk$Form" "here" "I") ∈ am_tbl := am_in (lw_in2 (List.mem_of_getElem? (i := 99) rfl)) (by decide +kernel)
theorem tb_340 : (Jvm.Cond.lays "RetraceDesk$Mapping" "RetraceDesk$Form" "end" "I") ∈ am_tbl := am_in (lw_in2 (List.mem_of_getElem? (i := 100) rfl)) (by decide +kernel)
theorem tb_342 : (Jvm.Cond.fieldLink "RetraceDesk" (14 : Nat) "RetraceDesk" "draft" "LRetraceDesk$Text;") ∈ am_tbl := am_in (lw_in2 (List.mem_of_getElem? (i := 102) rfl)) (by decide +kernel)
theorem tb_343 : (Jvm.Cond.fieldLink "RetraceDesk" (27 : Nat) "RetraceDesk" "trace" "LRetraceDesk$Trace;") ∈ am_tbl := am_in (lw_in2 (List.mem_of_getElem? (i := 103) rfl)) (by decide +kernel)
theorem tb_344 : (Jvm.Cond.fieldLink "RetraceDesk" (34 : Nat) "RetraceDesk" "book" "LRetraceDesk$CrashBook;") ∈ am_tbl := am_in (lw_in2 (List.mem_of_getElem? (i := 104) rfl)) (by decide +kernel)
theorem tb_345 : (Jvm.Cond.fieldLink "RetraceDesk" (41 : Nat) "RetraceDesk" "mapping" "LRetraceDesk$Mapping;") ∈ am_tbl := am_in (lw_in2 (List.mem_of_getElem? (i := 105) rfl)) (by decide +kernel)
theorem tb_346 : (Jvm.Cond.fieldLink "RetraceDesk" (45 : Nat) "RetraceDesk" "spareMapping" "LRetraceDesk$Mapping;") ∈ am_tbl := am_in (lw_in2 (List.mem_of_getElem? (i := 106) rfl)) (by decide +kernel)
theorem tb_347 : (Jvm.Cond.fieldLink "RetraceDesk" (48 : Nat) "RetraceDesk" "print" "LRetraceDesk$Text;") ∈ am_tbl := am_in (lw_in2 (List.mem_of_getElem? (i := 107) rfl)) (by decide +kernel)
theorem tb_348 : (Jvm.Cond.fieldLink "RetraceDesk" (51 : Nat) "RetraceDesk" "sparePrint" "LRetraceDesk$Text;") ∈ am_tbl := am_in (lw_in2 (List.mem_of_getElem? (i := 108) rfl)) (by decide +kernel)
theorem tb_349 : (Jvm.Cond.fieldLink "RetraceDesk" (87 : Nat) "RetraceDesk" "isLoaded" "Z") ∈ am_tbl := am_in (lw_in2 (List.mem_of_getElem? (i := 109) rfl)) (by decide +kernel)
theorem tb_350 : (Jvm.Cond.fieldLink "RetraceDesk" (81 : Nat) "RetraceDesk" "wrongLine" "I") ∈ am_tbl := am_in (lw_in2 (List.mem_of_getElem? (i := 110) rfl)) (by decide +kernel)
theorem tb_351 : (Jvm.Cond.fieldLink "RetraceDesk" (140 : Nat) "RetraceDesk" "doubtfulFrames" "I") ∈ am_tbl := am_in (lw_in2 (List.mem_of_getElem? (i := 111) rfl)) (by decide +kernel)
theorem tb_352 : (Jvm.Cond.laysFinal "RetraceDesk" "RetraceDesk" "draft" "LRetraceDesk$Text;") ∈ am_tbl := am_in (lw_in2 (List.mem_of_getElem? (i := 112) rfl)) (by decide +kernel)
theorem tb_354 : (Jvm.Cond.laysFinal "RetraceDesk" "RetraceDesk" "trace" "LRetraceDesk$Trace;") ∈ am_tbl := am_in (lw_in2 (List.mem_of_getElem? (i := 114) rfl)) (by decide +kernel)
theorem tb_356 : (Jvm.Cond.laysFinal "RetraceDesk" "RetraceDesk" "book" "LRetraceDesk$CrashBook;") ∈ am_tbl := am_in (lw_in2 (List.mem_of_getElem? (i := 116) rfl)) (by decide +kernel)
theorem tb_358 : (Jvm.Cond.lays "RetraceDesk" "RetraceDesk" "mapping" "LRetraceDesk$Mapping;") ∈ am_tbl := am_in (lw_in2 (List.mem_of_getElem? (i := 118) rfl)) (by decide +kernel)
theorem tb_360 : (Jvm.Cond.lays "RetraceDesk" "RetraceDesk" "spareMapping" "LRetraceDesk$Mapping;") ∈ am_tbl := am_in (lw_in2 (List.mem_of_getElem? (i := 120) rfl)) (by decide +kernel)
theorem tb_362 : (Jvm.Cond.lays "RetraceDesk" "RetraceDesk" "print" "LRetraceDesk$Text;") ∈ am_tbl := am_in (lw_in2 (List.mem_of_getElem? (i := 122) rfl)) (by decide +kernel)
theorem tb_364 : (Jvm.Cond.lays "RetraceDesk" "RetraceDesk" "sparePrint" "LRetraceDesk$Text;") ∈ am_tbl := am_in (lw_in2 (List.mem_of_getElem? (i := 124) rfl)) (by decide +kernel)
theorem tb_366 : (Jvm.Cond.lays "RetraceDesk" "RetraceDesk" "isLoaded" "Z") ∈ am_tbl := am_in (lw_in2 (List.mem_of_getElem? (i := 126) rfl)) (by decide +kernel)
theorem tb_368 : (Jvm.Cond.lays "RetraceDesk" "RetraceDesk" "wrongLine" "I") ∈ am_tbl := am_in (lw_in2 (List.mem_of_getElem? (i := 128) rfl)) (by decide +kernel)
theorem tb_370 : (Jvm.Cond.lays "RetraceDesk" "RetraceDesk" "doubtfulFrames" "I") ∈ am_tbl := am_in (lw_in2 (List.mem_of_getElem? (i := 130) rfl)) (by decide +kernel)
theorem tb_373 : (Jvm.Cond.methodLink "RetraceDeskLaw" (51 : Nat) ({ cls := "RetraceDesk", name := "put", desc := "(IJ)Z" } : Jvm.MethodName)) ∈ am_tbl := am_in (lw_in2 (List.mem_of_getElem? (i := 133) rfl)) (by decide +kernel)
theorem tb_374 : (Jvm.Cond.instanceMethod ({ cls := "RetraceDesk", name := "put", desc := "(IJ)Z" } : Jvm.MethodName)) ∈ am_tbl := am_in (lw_in2 (List.mem_of_getElem? (i := 134) rfl)) (by decide +kernel)
theorem tb_375 : (Jvm.Cond.selects "RetraceDesk" ({ cls := "RetraceDesk", name := "put", desc := "(IJ)Z" } : Jvm.MethodName) ({ cls := "RetraceDesk", name := "put", desc := "(IJ)Z" } : Jvm.MethodName)) ∈ am_tbl := am_in (lw_in2 (List.mem_of_getElem? (i := 135) rfl)) (by decide +kernel)
theorem tb_376 : (Jvm.Cond.code ({ cls := "RetraceDesk", name := "put", desc := "(IJ)Z" } : Jvm.MethodName) prog_1_method_2_code (5 : Nat) (Option.some Jvm.ClassFile.FieldType.boolean)) ∈ am_tbl := am_in (lw_in2 (List.mem_of_getElem? (i := 136) rfl)) (by decide +kernel)
theorem tb_377 : (Jvm.Cond.methodLink "RetraceDesk" (58 : Nat) ({ cls := "RetraceDesk", name := "codeIn", desc := "(JI)C" } : Jvm.MethodName)) ∈ am_tbl := am_in (lw_in2 (List.mem_of_getElem? (i := 137) rfl)) (by decide +kernel)
theorem tb_378 : (Jvm.Cond.static ({ cls := "RetraceDesk", name := "codeIn", desc := "(JI)C" } : Jvm.MethodName)) ∈ am_tbl := am_in (lw_in2 (List.mem_of_getElem? (i := 138) rfl)) (by decide +kernel)
theorem tb_379 : (Jvm.Cond.code ({ cls := "RetraceDesk", name := "codeIn", desc := "(JI)C" } : Jvm.MethodName) prog_1_method_22_code (3 : Nat) (Option.some Jvm.ClassFile.FieldType.char)) ∈ am_tbl := am_in (lw_in2 (List.mem_of_getElem? (i := 139) rfl)) (by decide +kernel)
theorem tb_380 : (Jvm.Cond.constantLong "RetraceDesk" (190 : Nat) (255 : Int64)) ∈ am_tbl := am_in (lw_in2 (List.mem_of_getElem? (i := 140) rfl)) (by decide +kernel)
theorem tb_381 : (Jvm.Cond.methodLink "RetraceDesk" (62 : Nat) ({ cls := "RetraceDesk", name := "isDraftCode", desc := "(C)Z" } : Jvm.MethodName)) ∈ am_tbl := am_in (lw_in2 (List.mem_of_getElem? (i := 141) rfl)) (by decide +kernel)
theorem tb_382 : (Jvm.Cond.static ({ cls := "RetraceDesk", name := "isDraftCode", desc := "(C)Z" } : Jvm.MethodName)) ∈ am_tbl := am_in (lw_in2 (List.mem_of_getElem? (i := 142) rfl)) (by decide +kernel)
theorem tb_383 : (Jvm.Cond.code ({ cls := "RetraceDesk", name := "isDraftCode", desc := "(C)Z" } : Jvm.MethodName) prog_1_method_23_code (1 : Nat) (Option.some Jvm.ClassFile.FieldType.boolean)) ∈ am_tbl := am_in (lw_in2 (List.mem_of_getElem? (i := 143) rfl)) (by decide +kernel)
theorem tb_384 : (Jvm.Cond.methodLink "RetraceDesk" (66 : Nat) ({ cls := "RetraceDesk$Text", name := "add", desc := "(C)V" } : Jvm.MethodName)) ∈ am_tbl := am_in (lw_in2 (List.mem_of_getElem? (i := 144) rfl)) (by decide +kernel)
theorem tb_385 : (Jvm.Cond.instanceMethod ({ cls := "RetraceDesk$Text", name := "add", desc := "(C)V" } : Jvm.MethodName)) ∈ am_tbl := am_in (lw_in2 (List.mem_of_getElem? (i := 145) rfl)) (by decide +kernel)
theorem tb_386 : (Jvm.Cond.selects "RetraceDesk$Text" ({ cls := "RetraceDesk$Text", name := "add", desc := "(C)V" } : Jvm.MethodName) ({ cls := "RetraceDesk$Text", name := "add", desc := "(C)V" } : Jvm.MethodName)) ∈ am_tbl := am_in (lw_in2 (List.mem_of_getElem? (i := 146) rfl)) (by decide +kernel)
theorem tb_387 : (Jvm.Cond.code ({ cls := "RetraceDesk$Text", name := "add", desc := "(C)V" } : Jvm.MethodName) prog_11_method_3_code (2 : Nat) (Option.none : Option Jvm.ClassFile.FieldType)) ∈ am_tbl := am_in (lw_in2 (List.mem_of_getElem? (i := 147) rfl)) (by decide +kernel)
theorem tb_388 : (Jvm.Cond.methodLink "RetraceDeskLaw" (56 : Nat) ({ cls := "RetraceDesk", name := "scrap", desc := "()V" } : Jvm.MethodName)) ∈ am_tbl := am_in (lw_in2 (List.mem_of_getElem? (i := 148) rfl)) (by decide +kernel)
theorem tb_389 : (Jvm.Cond.instanceMethod ({ cls := "RetraceDesk", name := "scrap", desc := "()V" } : Jvm.MethodName)) ∈ am_tbl := am_in (lw_in2 (List.mem_of_getElem? (i := 149) rfl)) (by decide +kernel)
theorem tb_390 : (Jvm.Cond.selects "RetraceDesk" ({ cls := "RetraceDesk", name := "scrap", desc := "()V" } : Jvm.MethodName) ({ cls := "RetraceDesk", name := "scrap", desc := "()V" } : Jvm.MethodName)) ∈ am_tbl := am_in (lw_in2 (List.mem_of_getElem? (i := 150) rfl)) (by decide +kernel)
theorem tb_391 : (Jvm.Cond.code ({ cls := "RetraceDesk", name := "scrap", desc := "()V" } : Jvm.MethodName) prog_1_method_3_code (1 : Nat) (Option.none : Option Jvm.ClassFile.FieldType)) ∈ am_tbl := am_in (lw_in2 (List.mem_of_getElem? (i := 151) rfl)) (by decide +kernel)
theorem tb_392 : (Jvm.Cond.methodLink "RetraceDesk" (70 : Nat) ({ cls := "RetraceDesk$Text", name := "clear", desc := "()V" } : Jvm.MethodName)) ∈ am_tbl := am_in (lw_in2 (List.mem_of_getElem? (i := 152) rfl)) (by decide +kernel)
theorem tb_393 : (Jvm.Cond.instanceMethod ({ cls := "RetraceDesk$Text", name := "clear", desc := "()V" } : Jvm.MethodName)) ∈ am_tbl := am_in (lw_in2 (List.mem_of_getElem? (i := 153) rfl)) (by decide +kernel)
theorem tb_394 : (Jvm.Cond.selects "RetraceDesk$Text" ({ cls := "RetraceDesk$Text", name := "clear", desc := "()V" } : Jvm.MethodName) ({ cls := "RetraceDesk$Text", name := "clear", desc := "()V" } : Jvm.MethodName)) ∈ am_tbl := am_in (lw_in2 (List.mem_of_getElem? (i := 154) rfl)) (by decide +kernel)
theorem tb_395 : (Jvm.Cond.code ({ cls := "RetraceDesk$Text", name := "clear", desc := "()V" } : Jvm.MethodName) prog_11_method_2_code (1 : Nat) (Option.none : Option Jvm.ClassFile.FieldType)) ∈ am_tbl := am_in (lw_in2 (List.mem_of_getElem? (i := 155) rfl)) (by decide +kernel)
theorem tb_396 : (Jvm.Cond.methodLink "RetraceDeskLaw" (78 : Nat) ({ cls := "RetraceDesk", name := "wrong", desc := "()I" } : Jvm.MethodName)) ∈ am_tbl := am_in (lw_in2 (List.mem_of_getElem? (i := 156) rfl)) (by decide +kernel)
theorem tb_397 : (Jvm.Cond.instanceMethod ({ cls := "RetraceDesk", name := "wrong", desc := "()I" } : Jvm.MethodName)) ∈ am_tbl := am_in (lw_in2 (List.mem_of_getElem? (i := 157) rfl)) (by decide +kernel)
theorem tb_398 : (Jvm.Cond.selects "RetraceDesk" ({ cls := "RetraceDesk", name := "wrong", desc := "()I" } : Jvm.MethodName) ({ cls := "RetraceDesk", name := "wrong", desc := "()I" } : Jvm.MethodName)) ∈ am_tbl := am_in (lw_in2 (List.mem_of_getElem? (i := 158) rfl)) (by decide +kernel)
theorem tb_399 : (Jvm.Cond.code ({ cls := "RetraceDesk", name := "wrong", desc := "()I" } : Jvm.MethodName) prog_1_method_8_code (1 : Nat) (Option.some Jvm.ClassFile.FieldType.int)) ∈ am_tbl := am_in (lw_in2 (List.mem_of_getElem? (i := 159) rfl)) (by decide +kernel)
theorem tb_400 : (Jvm.Cond.methodLink "RetraceDeskLaw" (82 : Nat) ({ cls := "RetraceDesk", name := "length", desc := "()I" } : Jvm.MethodName)) ∈ am_tbl := am_in (lw_in2 (List.mem_of_getElem? (i := 160) rfl)) (by decide +kernel)
theorem tb_401 : (Jvm.Cond.instanceMethod ({ cls := "RetraceDesk", name := "length", desc := "()I" } : Jvm.MethodName)) ∈ am_tbl := am_in (lw_in2 (List.mem_of_getElem? (i := 161) rfl)) (by decide +kernel)
theorem tb_402 : (Jvm.Cond.selects "RetraceDesk" ({ cls := "RetraceDesk", name := "length", desc := "()I" } : Jvm.MethodName) ({ cls := "RetraceDesk", name := "length", desc := "()I" } : Jvm.MethodName)) ∈ am_tbl := am_in (lw_in2 (List.mem_of_getElem? (i := 162) rfl)) (by decide +kernel)
theorem tb_403 : (Jvm.Cond.code ({ cls := "RetraceDesk", name := "length", desc := "()I" } : Jvm.MethodName) prog_1_method_9_code (1 : Nat) (Option.some Jvm.ClassFile.FieldType.int)) ∈ am_tbl := am_in (lw_in2 (List.mem_of_getElem? (i := 163) rfl)) (by decide +kernel)
theorem tb_404 : (Jvm.Cond.methodLink "RetraceDeskLaw" (90 : Nat) ({ cls := "RetraceDesk", name := "doubtful", desc := "()I" } : Jvm.MethodName)) ∈ am_tbl := am_in (lw_in2 (List.mem_of_getElem? (i := 164) rfl)) (by decide +kernel)
theorem tb_405 : (Jvm.Cond.instanceMethod ({ cls := "RetraceDesk", name := "doubtful", desc := "()I" } : Jvm.MethodName)) ∈ am_tbl := am_in (lw_in2 (List.mem_of_getElem? (i := 165) rfl)) (by decide +kernel)
theorem tb_406 : (Jvm.Cond.selects "RetraceDesk" ({ cls := "RetraceDesk", name := "doubtful", desc := "()I" } : Jvm.MethodName) ({ cls := "RetraceDesk", name := "doubtful", desc := "()I" } : Jvm.MethodName)) ∈ am_tbl := am_in (lw_in2 (List.mem_of_getElem? (i := 166) rfl)) (by decide +kernel)
theorem tb_407 : (Jvm.Cond.code ({ cls := "RetraceDesk", name := "doubtful", desc := "()I" } : Jvm.MethodName) prog_1_method_11_code (1 : Nat) (Option.some Jvm.ClassFile.FieldType.int)) ∈ am_tbl := am_in (lw_in2 (List.mem_of_getElem? (i := 167) rfl)) (by decide +kernel)
theorem tb_408 : (Jvm.Cond.methodLink "RetraceDeskLaw" (97 : Nat) ({ cls := "RetraceDesk", name := "crashes", desc := "()I" } : Jvm.MethodName)) ∈ am_tbl := am_in (lw_in2 (List.mem_of_getElem? (i := 168) rfl)) (by decide +kernel)
theorem tb_409 : (Jvm.Cond.instanceMethod ({ cls := "RetraceDesk", name := "crashes", desc := "()I" } : Jvm.MethodName)) ∈ am_tbl := am_in (lw_in2 (List.mem_of_getElem? (i := 169) rfl)) (by decide +kernel)
theorem tb_410 : (Jvm.Cond.selects "RetraceDesk" ({ cls := "RetraceDesk", name := "crashes", desc := "()I" } : Jvm.MethodName) ({ cls := "RetraceDesk", name := "crashes", desc := "()I" } : Jvm.MethodName)) ∈ am_tbl := am_in (lw_in2 (List.mem_of_getElem? (i := 170) rfl)) (by decide +kernel)
theorem tb_411 : (Jvm.Cond.code ({ cls := "RetraceDesk", name := "crashes", desc := "()I" } : Jvm.MethodName) prog_1_method_13_code (1 : Nat) (Option.some Jvm.ClassFile.FieldType.int)) ∈ am_tbl := am_in (lw_in2 (List.mem_of_getElem? (i := 171) rfl)) (by decide +kernel)
theorem tb_412 : (Jvm.Cond.methodLink "RetraceDeskLaw" (60 : Nat) ({ cls := "RetraceDeskLaw", name := "load", desc := "(LRetraceDesk;[J)I" } : Jvm.MethodName)) ∈ am_tbl := am_in (lw_in2 (List.mem_of_getElem? (i := 172) rfl)) (by decide +kernel)
theorem tb_413 : (Jvm.Cond.static ({ cls := "RetraceDeskLaw", name := "load", desc := "(LRetraceDesk;[J)I" } : Jvm.MethodName)) ∈ am_tbl := am_in (lw_in2 (List.mem_of_getElem? (i := 173) rfl)) (by decide +kernel)
theorem tb_416 : (Jvm.Cond.methodLink "RetraceDeskLaw" (7 : Nat) ({ cls := "RetraceDesk", name := "load", desc := "()I" } : Jvm.MethodName)) ∈ am_tbl := am_in (lw_in2 (List.mem_of_getElem? (i := 176) rfl)) (by decide +kernel)
theorem tb_417 : (Jvm.Cond.instanceMethod ({ cls := "RetraceDesk", name := "load", desc := "()I" } : Jvm.MethodName)) ∈ am_tbl := am_in (lw_in2 (List.mem_of_getElem? (i := 177) rfl)) (by decide +kernel)
theorem tb_418 : (Jvm.Cond.selects "RetraceDesk" ({ cls := "RetraceDesk", name := "load", desc := "()I" } : Jvm.MethodName) ({ cls := "RetraceDesk", name := "load", desc := "()I" } : Jvm.MethodName)) ∈ am_tbl := am_in (lw_in2 (List.mem_of_getElem? (i := 178) rfl)) (by decide +kernel)
theorem tb_419 : (Jvm.Cond.code ({ cls := "RetraceDesk", name := "load", desc := "()I" } : Jvm.MethodName) prog_1_method_4_code (4 : Nat) (Option.some Jvm.ClassFile.FieldType.int)) ∈ am_tbl := am_in (lw_in2 (List.mem_of_getElem? (i := 179) rfl)) (by decide +kernel)
theorem tb_420 : (Jvm.Cond.methodLink "RetraceDesk" (73 : Nat) ({ cls := "RetraceDesk$Mapping", name := "begin", desc := "(LRetraceDesk$Text;)V" } : Jvm.MethodName)) ∈ am_tbl := am_in (lw_in2 (List.mem_of_getElem? (i := 180) rfl)) (by decide +kernel)
theorem tb_421 : (Jvm.Cond.instanceMethod ({ cls := "RetraceDesk$Mapping", name := "begin", desc := "(LRetraceDesk$Text;)V" } : Jvm.MethodName)) ∈ am_tbl := am_in (lw_in2 (List.mem_of_getElem? (i := 181) rfl)) (by decide +kernel)
theorem tb_422 : (Jvm.Cond.selects "RetraceDesk$Mapping" ({ cls := "RetraceDesk$Mapping", name := "begin", desc := "(LRetraceDesk$Text;)V" } : Jvm.MethodName) ({ cls := "RetraceDesk$Mapping", name := "begin", desc := "(LRetraceDesk$Text;)V" } : Jvm.MethodName)) ∈ am_tbl := am_in (lw_in2 (List.mem_of_getElem? (i := 182) rfl)) (by decide +kernel)
theorem tb_423 : (Jvm.Cond.code ({ cls := "RetraceDesk$Mapping", name := "begin", desc := "(LRetraceDesk$Text;)V" } : Jvm.MethodName) prog_7_method_2_code (2 : Nat) (Option.none : Option Jvm.ClassFile.FieldType)) ∈ am_tbl := am_in (lw_in2 (List.mem_of_getElem? (i := 183) rfl)) (by decide +kernel)
theorem tb_424 : (Jvm.Cond.methodLink "RetraceDesk$Mapping" (43 : Nat) ({ cls := "java/lang/System", name := "arraycopy", desc := "(Ljava/lang/Object;ILjava/lang/Object;II)V" } : Jvm.MethodName)) ∈ am_tbl := am_in (lw_in2 (List.mem_of_getElem? (i := 184) rfl)) (by decide +kernel)
theorem tb_425 : (Jvm.Cond.static ({ cls := "java/lang/System", name := "arraycopy", desc := "(Ljava/lang/Object;ILjava/lang/Object;II)V" } : Jvm.MethodName)) ∈ am_tbl := am_in (lw_in2 (List.mem_of_getElem? (i := 185) rfl)) (by decide +kernel)
theorem tb_427 : (Jvm.Cond.methodLink "RetraceDesk" (77 : Nat) ({ cls := "RetraceDesk$Mapping", name := "firstWrongLine", desc := "(I)I" } : Jvm.MethodName)) ∈ am_tbl := am_in (lw_in2 (List.mem_of_getElem? (i := 187) rfl)) (by decide +kernel)
theorem tb_428 : (Jvm.Cond.sameMethod "RetraceDesk$Mapping" "RetraceDesk$Form" "firstWrongLine" "(I)I") ∈ am_tbl := am_in (lw_in2 (List.mem_of_getElem? (i := 188) rfl)) (by decide +kernel)
theorem tb_430 : (Jvm.Cond.selects "RetraceDesk$Mapping" ({ cls := "RetraceDesk$Mapping", name := "firstWrongLine", desc := "(I)I" } : Jvm.MethodName) ({ cls := "RetraceDesk$Form", name := "firstWrongLine", desc := "(I)I" } : Jvm.MethodName)) ∈ am_tbl := am_in (lw_in2 (List.mem_of_getElem? (i := 190) rfl)) (by decide +kernel)
theorem tb_431 : (Jvm.Cond.instanceMethod ({ cls := "RetraceDesk$Form", name := "firstWrongLine", desc := "(I)I" } : Jvm.MethodName)) ∈ am_tbl := am_in (lw_in2 (List.mem_of_getElem? (i := 191) rfl)) (by decide +kernel)
theorem tb_432 : (Jvm.Cond.code ({ cls := "RetraceDesk$Form", name := "firstWrongLine", desc := "(I)I" } : Jvm.MethodName) prog_4_method_3_code (4 : Nat) (Option.some Jvm.ClassFile.FieldType.int)) ∈ am_tbl := am_in (lw_in2 (List.mem_of_getElem? (i := 192) rfl)) (by decide +kernel)
theorem tb_433 : (Jvm.Cond.methodLink "RetraceDesk$Form" (22 : Nat) ({ cls := "RetraceDesk$Form", name := "takesLine", desc := "()Z" } : Jvm.MethodName)) ∈ am_tbl := am_in (lw_in2 (List.mem_of_getElem? (i := 193) rfl)) (by decide +kernel)
theorem tb_435 : (Jvm.Cond.sameMethod "RetraceDesk$Form" "RetraceDesk$Form" "takesLine" "()Z") ∈ am_tbl := am_in (lw_in2 (List.mem_of_getElem? (i := 195) rfl)) (by decide +kernel)
theorem tb_436 : (Jvm.Cond.selects "RetraceDesk$Mapping" ({ cls := "RetraceDesk$Form", name := "takesLine", desc := "()Z" } : Jvm.MethodName) ({ cls := "RetraceDesk$Mapping", name := "takesLine", desc := "()Z" } : Jvm.MethodName)) ∈ am_tbl := am_in (lw_in2 (List.mem_of_getElem? (i := 196) rfl)) (by decide +kernel)
theorem tb_437 : (Jvm.Cond.instanceMethod ({ cls := "RetraceDesk$Mapping", name := "takesLine", desc := "()Z" } : Jvm.MethodName)) ∈ am_tbl := am_in (lw_in2 (List.mem_of_getElem? (i := 197) rfl)) (by decide +kernel)
theorem tb_438 : (Jvm.Cond.code ({ cls := "RetraceDesk$Mapping", name := "takesLine", desc := "()Z" } : Jvm.MethodName) prog_7_method_3_code (1 : Nat) (Option.some Jvm.ClassFile.FieldType.boolean)) ∈ am_tbl := am_in (lw_in2 (List.mem_of_getElem? (i := 198) rfl)) (by decide +kernel)
theorem tb_439 : (Jvm.Cond.methodLink "RetraceDesk$Mapping" (61 : Nat) ({ cls := "RetraceDesk$Mapping", name := "isDone", desc := "()Z" } : Jvm.MethodName)) ∈ am_tbl := am_in (lw_in2 (List.mem_of_getElem? (i := 199) rfl)) (by decide +kernel)
theorem tb_440 : (Jvm.Cond.sameMethod "RetraceDesk$Mapping" "RetraceDesk$Form" "isDone" "()Z") ∈ am_tbl := am_in (lw_in2 (List.mem_of_getElem? (i := 200) rfl)) (by decide +kernel)
theorem tb_442 : (Jvm.Cond.selects "RetraceDesk$Mapping" ({ cls := "RetraceDesk$Mapping", name := "isDone", desc := "()Z" } : Jvm.MethodName) ({ cls := "RetraceDesk$Form", name := "isDone", desc := "()Z" } : Jvm.MethodName)) ∈ am_tbl := am_in (lw_in2 (List.mem_of_getElem? (i := 202) rfl)) (by decide +kernel)
theorem tb_443 : (Jvm.Cond.instanceMethod ({ cls := "RetraceDesk$Form", name := "isDone", desc := "()Z" } : Jvm.MethodName)) ∈ am_tbl := am_in (lw_in2 (List.mem_of_getElem? (i := 203) rfl)) (by decide +kernel)
theorem tb_444 : (Jvm.Cond.code ({ cls := "RetraceDesk$Form", name := "isDone", desc := "()Z" } : Jvm.MethodName) prog_4_method_4_code (1 : Nat) (Option.some Jvm.ClassFile.FieldType.boolean)) ∈ am_tbl := am_in (lw_in2 (List.mem_of_getElem? (i := 204) rfl)) (by decide +kernel)
theorem tb_445 : (Jvm.Cond.methodLink "RetraceDesk$Mapping" (65 : Nat) ({ cls := "RetraceDesk$Mapping", name := "isAtComment", desc := "()Z" } : Jvm.MethodName)) ∈ am_tbl := am_in (lw_in2 (List.mem_of_getElem? (i := 205) rfl)) (by decide +kernel)
theorem tb_446 : (Jvm.Cond.sameMethod "RetraceDesk$Mapping" "RetraceDesk$Form" "isAtComment" "()Z") ∈ am_tbl := am_in (lw_in2 (List.mem_of_getElem? (i := 206) rfl)) (by decide +kernel)
theorem tb_448 : (Jvm.Cond.selects "RetraceDesk$Mapping" ({ cls := "RetraceDesk$Mapping", name := "isAtComment", desc := "()Z" } : Jvm.MethodName) ({ cls := "RetraceDesk$Form", name := "isAtComment", desc := "()Z" } : Jvm.MethodName)) ∈ am_tbl := am_in (lw_in2 (List.mem_of_getElem? (i := 208) rfl)) (by decide +kernel)
theorem tb_449 : (Jvm.Cond.instanceMethod ({ cls := "RetraceDesk$Form", name := "isAtComment", desc := "()Z" } : Jvm.MethodName)) ∈ am_tbl := am_in (lw_in2 (List.mem_of_getElem? (i := 209) rfl)) (by decide +kernel)
theorem tb_450 : (Jvm.Cond.code ({ cls := "RetraceDesk$Form", name := "isAtComment", desc := "()Z" } : Jvm.MethodName) prog_4_method_5_code (1 : Nat) (Option.some Jvm.ClassFile.FieldType.boolean)) ∈ am_tbl := am_in (lw_in2 (List.mem_of_getElem? (i := 210) rfl)) (by decide +kernel)
theorem tb_452 : (Jvm.Cond.methodLink "RetraceDesk$Mapping" (70 : Nat) ({ cls := "RetraceDesk$Mapping", name := "takeWord", desc := "(Ljava/lang/String;)Z" } : Jvm.MethodName)) ∈ am_tbl := am_in (lw_in2 (List.mem_of_getElem? (i := 212) rfl)) (by decide +kernel)
theorem tb_453 : (Jvm.Cond.sameMethod "RetraceDesk$Mapping" "RetraceDesk$Form" "takeWord" "(Ljava/lang/String;)Z") ∈ am_tbl := am_in (lw_in2 (List.mem_of_getElem? (i := 213) rfl)) (by decide +kernel)
theorem tb_455 : (Jvm.Cond.selects "RetraceDesk$Mapping" ({ cls := "RetraceDesk$Mapping", name := "takeWord", desc := "(Ljava/lang/String;)Z" } : Jvm.MethodName) ({ cls := "RetraceDesk$Form", name := "takeWord", desc := "(Ljava/lang/String;)Z" } : Jvm.MethodName)) ∈ am_tbl := am_in (lw_in2 (List.mem_of_getElem? (i := 215) rfl)) (by decide +kernel)
theorem tb_456 : (Jvm.Cond.instanceMethod ({ cls := "RetraceDesk$Form", name := "takeWord", desc := "(Ljava/lang/String;)Z" } : Jvm.MethodName)) ∈ am_tbl := am_in (lw_in2 (List.mem_of_getElem? (i := 216) rfl)) (by decide +kernel)
theorem tb_457 : (Jvm.Cond.code ({ cls := "RetraceDesk$Form", name := "takeWord", desc := "(Ljava/lang/String;)Z" } : Jvm.MethodName) prog_4_method_7_code (3 : Nat) (Option.some Jvm.ClassFile.FieldType.boolean)) ∈ am_tbl := am_in (lw_in2 (List.mem_of_getElem? (i := 217) rfl)) (by decide +kernel)
theorem tb_458 : (Jvm.Cond.methodLink "RetraceDesk$Form" (30 : Nat) ({ cls := "java/lang/String", name := "length", desc := "()I" } : Jvm.MethodName)) ∈ am_tbl := am_in (lw_in2 (List.mem_of_getElem? (i := 218) rfl)) (by decide +kernel)
theorem tb_459 : (Jvm.Cond.instanceMethod ({ cls := "java/lang/String", name := "length", desc := "()I" } : Jvm.MethodName)) ∈ am_tbl := am_in (lw_in2 (List.mem_of_getElem? (i := 219) rfl)) (by decide +kernel)
theorem tb_460 : (Jvm.Cond.selects "java/lang/String" ({ cls := "java/lang/String", name := "length", desc := "()I" } : Jvm.MethodName) ({ cls := "java/lang/String", name := "length", desc := "()I" } : Jvm.MethodName)) ∈ am_tbl := am_in (lw_in2 (List.mem_of_getElem? (i := 220) rfl)) (by decide +kernel)
theorem tb_461 : (Jvm.Cond.code ({ cls := "java/lang/String", name := "length", desc := "()I" } : Jvm.MethodName) prog_21_method_54_code (1 : Nat) (Option.some Jvm.ClassFile.FieldType.int)) ∈ am_tbl := am_in (lw_in2 (List.mem_of_getElem? (i := 221) rfl)) (by decide +kernel)
theorem tb_462 : (Jvm.Cond.methodLink "java/lang/String" (335 : Nat) ({ cls := "java/lang/String", name := "coder", desc := "()B" } : Jvm.MethodName)) ∈ am_tbl := am_in (lw_in2 (List.mem_of_getElem? (i := 222) rfl)) (by decide +kernel)
theorem tb_463 : (Jvm.Cond.instanceMethod ({ cls := "java/lang/String", name := "coder", desc := "()B" } : Jvm.MethodName)) ∈ am_tbl := am_in (lw_in2 (List.mem_of_getElem? (i := 223) rfl)) (by decide +kernel)
theorem tb_464 : (Jvm.Cond.selects "java/lang/String" ({ cls := "java/lang/String", name := "coder", desc := "()B" } : Jvm.MethodName) ({ cls := "java/lang/String", name := "coder", desc := "()B" } : Jvm.MethodName)) ∈ am_tbl := am_in (lw_in2 (List.mem_of_getElem? (i := 224) rfl)) (by decide +kernel)
theorem tb_465 : (Jvm.Cond.code ({ cls := "java/lang/String", name := "coder", desc := "()B" } : Jvm.MethodName) prog_21_method_152_code (1 : Nat) (Option.some Jvm.ClassFile.FieldType.byte)) ∈ am_tbl := am_in (lw_in2 (List.mem_of_getElem? (i := 225) rfl)) (by decide +kernel)
theorem tb_466 : (Jvm.Cond.fieldLink "java/lang/String" (38 : Nat) "java/lang/String" "COMPACT_STRINGS" "Z") ∈ am_tbl := am_in (lw_in2 (List.mem_of_getElem? (i := 226) rfl)) (by decide +kernel)
theorem tb_468 : (Jvm.Cond.methodLink "RetraceDesk$Form" (36 : Nat) ({ cls := "java/lang/String", name := "charAt", desc := "(I)C" } : Jvm.MethodName)) ∈ am_tbl := am_in (lw_in2 (List.mem_of_getElem? (i := 228) rfl)) (by decide +kernel)
theorem tb_469 : (Jvm.Cond.instanceMethod ({ cls := "java/lang/String", name := "charAt", desc := "(I)C" } : Jvm.MethodName)) ∈ am_tbl := am_in (lw_in2 (List.mem_of_getElem? (i := 229) rfl)) (by decide +kernel)
theorem tb_470 : (Jvm.Cond.selects "java/lang/String" ({ cls := "java/lang/String", name := "charAt", desc := "(I)C" } : Jvm.MethodName) ({ cls := "java/lang/String", name := "charAt", desc := "(I)C" } : Jvm.MethodName)) ∈ am_tbl := am_in (lw_in2 (List.mem_of_getElem? (i := 230) rfl)) (by decide +kernel)
theorem tb_471 : (Jvm.Cond.code ({ cls := "java/lang/String", name := "charAt", desc := "(I)C" } : Jvm.MethodName) prog_21_method_56_code (2 : Nat) (Option.some Jvm.ClassFile.FieldType.char)) ∈ am_tbl := am_in (lw_in2 (List.mem_of_getElem? (i := 231) rfl)) (by decide +kernel)
theorem tb_472 : (Jvm.Cond.methodLink "java/lang/String" (492 : Nat) ({ cls := "java/lang/String", name := "isLatin1", desc := "()Z" } : Jvm.MethodName)) ∈ am_tbl := am_in (lw_in2 (List.mem_of_getElem? (i := 232) rfl)) (by decide +kernel)
theorem tb_473 : (Jvm.Cond.instanceMethod ({ cls := "java/lang/String", name := "isLatin1", desc := "()Z" } : Jvm.MethodName)) ∈ am_tbl := am_in (lw_in2 (List.mem_of_getElem? (i := 233) rfl)) (by decide +kernel)
theorem tb_474 : (Jvm.Cond.selects "java/lang/String" ({ cls := "java/lang/String", name := "isLatin1", desc := "()Z" } : Jvm.MethodName) ({ cls := "java/lang/String", name := "isLatin1", desc := "()Z" } : Jvm.MethodName)) ∈ am_tbl := am_in (lw_in2 (List.mem_of_getElem? (i := 234) rfl)) (by decide +kernel)
theorem tb_475 : (Jvm.Cond.code ({ cls := "java/lang/String", name := "isLatin1", desc := "()Z" } : Jvm.MethodName) prog_21_method_154_code (1 : Nat) (Option.some Jvm.ClassFile.FieldType.boolean)) ∈ am_tbl := am_in (lw_in2 (List.mem_of_getElem? (i := 235) rfl)) (by decide +kernel)
theorem tb_476 : (Jvm.Cond.methodLink "java/lang/String" (495 : Nat) ({ cls := "java/lang/StringLatin1", name := "charAt", desc := "([BI)C" } : Jvm.MethodName)) ∈ am_tbl := am_in (lw_in2 (List.mem_of_getElem? (i := 236) rfl)) (by decide +kernel)
theorem tb_477 : (Jvm.Cond.static ({ cls := "java/lang/StringLatin1", name := "charAt", desc := "([BI)C" } : Jvm.MethodName)) ∈ am_tbl := am_in (lw_in2 (List.mem_of_getElem? (i := 237) rfl)) (by decide +kernel)
theorem tb_478 : (Jvm.Cond.code ({ cls := "java/lang/StringLatin1", name := "charAt", desc := "([BI)C" } : Jvm.MethodName) prog_22_method_2_code (2 : Nat) (Option.some Jvm.ClassFile.FieldType.char)) ∈ am_tbl := am_in (lw_in2 (List.mem_of_getElem? (i := 238) rfl)) (by decide +kernel)
theorem tb_479 : (Jvm.Cond.methodLink "java/lang/StringLatin1" (9 : Nat) ({ cls := "java/lang/String", name := "checkIndex", desc := "(II)V" } : Jvm.MethodName)) ∈ am_tbl := am_in (lw_in2 (List.mem_of_getElem? (i := 239) rfl)) (by decide +kernel)
theorem tb_480 : (Jvm.Cond.static ({ cls := "java/lang/String", name := "checkIndex", desc := "(II)V" } : Jvm.MethodName)) ∈ am_tbl := am_in (lw_in3 (List.mem_of_getElem? (i := 0) rfl)) (by decide +kernel)
theorem tb_481 : (Jvm.Cond.code ({ cls := "java/lang/String", name := "checkIndex", desc := "(II)V" } : Jvm.MethodName) prog_21_method_155_code (2 : Nat) (Option.none : Option Jvm.ClassFile.FieldType)) ∈ am_tbl := am_in (lw_in3 (List.mem_of_getElem? (i := 1) rfl)) (by decide +kernel)
theorem tb_482 : (Jvm.Cond.fieldLink "java/lang/String" (1053 : Nat) "jdk/internal/util/Preconditions" "SIOOBE_FORMATTER" "Ljava/util/function/BiFunction;") ∈ am_tbl := am_in (lw_in3 (List.mem_of_getElem? (i := 2) rfl)) (by decide +kernel)
theorem tb_484 : (Jvm.Cond.methodLink "java/lang/String" (1059 : Nat) ({ cls := "jdk/internal/util/Preconditions", name := "checkIndex", desc := "(IILjava/util/function/BiFunction;)I" } : Jvm.MethodName)) ∈ am_tbl := am_in (lw_in3 (List.mem_of_getElem? (i := 4) rfl)) (by decide +kernel)
theorem tb_485 : (Jvm.Cond.static ({ cls := "jdk/internal/util/Preconditions", name := "checkIndex", desc := "(IILjava/util/function/BiFunction;)I" } : Jvm.MethodName)) ∈ am_tbl := am_in (lw_in3 (List.mem_of_getElem? (i := 5) rfl)) (by decide +kernel)
theorem tb_486 : (Jvm.Cond.code ({ cls := "jdk/internal/util/Preconditions", name := "checkIndex", desc := "(IILjava/util/function/BiFunction;)I" } : Jvm.MethodName) prog_27_method_11_code (3 : Nat) (Option.some Jvm.ClassFile.FieldType.int)) ∈ am_tbl := am_in (lw_in3 (List.mem_of_getElem? (i := 6) rfl)) (by decide +kernel)
theorem tb_487 : (Jvm.Cond.methodLink "java/lang/String" (498 : Nat) ({ cls := "java/lang/StringUTF16", name := "charAt", desc := "([BI)C" } : Jvm.MethodName)) ∈ am_tbl := am_in (lw_in3 (List.mem_of_getElem? (i := 7) rfl)) (by decide +kernel)
theorem tb_488 : (Jvm.Cond.static ({ cls := "java/lang/StringUTF16", name := "charAt", desc := "([BI)C" } : Jvm.MethodName)) ∈ am_tbl := am_in (lw_in3 (List.mem_of_getElem? (i := 8) rfl)) (by decide +kernel)
theorem tb_489 : (Jvm.Cond.code ({ cls := "java/lang/StringUTF16", name := "charAt", desc := "([BI)C" } : Jvm.MethodName) prog_23_method_83_code (2 : Nat) (Option.some Jvm.ClassFile.FieldType.char)) ∈ am_tbl := am_in (lw_in3 (List.mem_of_getElem? (i := 9) rfl)) (by decide +kernel)
theorem tb_490 : (Jvm.Cond.methodLink "java/lang/StringUTF16" (67 : Nat) ({ cls := "java/lang/StringUTF16", name := "checkIndex", desc := "(I[B)V" } : Jvm.MethodName)) ∈ am_tbl := am_in (lw_in3 (List.mem_of_getElem? (i := 10) rfl)) (by decide +kernel)
theorem tb_491 : (Jvm.Cond.static ({ cls := "java/lang/StringUTF16", name := "checkIndex", desc := "(I[B)V" } : Jvm.MethodName)) ∈ am_tbl := am_in (lw_in3 (List.mem_of_getElem? (i := 11) rfl)) (by decide +kernel)
theorem tb_492 : (Jvm.Cond.code ({ cls := "java/lang/StringUTF16", name := "checkIndex", desc := "(I[B)V" } : Jvm.MethodName) prog_23_method_91_code (2 : Nat) (Option.none : Option Jvm.ClassFile.FieldType)) ∈ am_tbl := am_in (lw_in3 (List.mem_of_getElem? (i := 12) rfl)) (by decide +kernel)
theorem tb_493 : (Jvm.Cond.methodLink "java/lang/StringUTF16" (48 : Nat) ({ cls := "java/lang/StringUTF16", name := "length", desc := "([B)I" } : Jvm.MethodName)) ∈ am_tbl := am_in (lw_in3 (List.mem_of_getElem? (i := 13) rfl)) (by decide +kernel)
theorem tb_494 : (Jvm.Cond.static ({ cls := "java/lang/StringUTF16", name := "length", desc := "([B)I" } : Jvm.MethodName)) ∈ am_tbl := am_in (lw_in3 (List.mem_of_getElem? (i := 14) rfl)) (by decide +kernel)
theorem tb_495 : (Jvm.Cond.code ({ cls := "java/lang/StringUTF16", name := "length", desc := "([B)I" } : Jvm.MethodName) prog_23_method_6_code (1 : Nat) (Option.some Jvm.ClassFile.FieldType.int)) ∈ am_tbl := am_in (lw_in3 (List.mem_of_getElem? (i := 15) rfl)) (by decide +kernel)
theorem tb_496 : (Jvm.Cond.methodLink "java/lang/StringUTF16" (414 : Nat) ({ cls := "java/lang/String", name := "checkIndex", desc := "(II)V" } : Jvm.MethodName)) ∈ am_tbl := am_in (lw_in3 (List.mem_of_getElem? (i := 16) rfl)) (by decide +kernel)
theorem tb_497 : (Jvm.Cond.methodLink "java/lang/StringUTF16" (71 : Nat) ({ cls := "java/lang/StringUTF16", name := "getChar", desc := "([BI)C" } : Jvm.MethodName)) ∈ am_tbl := am_in (lw_in3 (List.mem_of_getElem? (i := 17) rfl)) (by decide +kernel)
theorem tb_498 : (Jvm.Cond.static ({ cls := "java/lang/StringUTF16", name := "getChar", desc := "([BI)C" } : Jvm.MethodName)) ∈ am_tbl := am_in (lw_in3 (List.mem_of_getElem? (i := 18) rfl)) (by decide +kernel)
theorem tb_499 : (Jvm.Cond.code ({ cls := "java/lang/StringUTF16", name := "getChar", desc := "([BI)C" } : Jvm.MethodName) prog_23_method_5_code (2 : Nat) (Option.some Jvm.ClassFile.FieldType.char)) ∈ am_tbl := am_in (lw_in3 (List.mem_of_getElem? (i := 19) rfl)) (by decide +kernel)
theorem tb_500 : (Jvm.Cond.fieldLink "java/lang/StringUTF16" (44 : Nat) "java/lang/StringUTF16" "$assertionsDisabled" "Z") ∈ am_tbl := am_in (lw_in3 (List.mem_of_getElem? (i := 20) rfl)) (by decide +kernel)
theorem tb_502 : (Jvm.Cond.fieldLink "java/lang/StringUTF16" (59 : Nat) "java/lang/StringUTF16" "HI_BYTE_SHIFT" "I") ∈ am_tbl := am_in (lw_in3 (List.mem_of_getElem? (i := 22) rfl)) (by decide +kernel)
theorem tb_504 : (Jvm.Cond.fieldLink "java/lang/StringUTF16" (63 : Nat) "java/lang/StringUTF16" "LO_BYTE_SHIFT" "I") ∈ am_tbl := am_in (lw_in3 (List.mem_of_getElem? (i := 24) rfl)) (by decide +kernel)
theorem tb_506 : (Jvm.Cond.methodLink "RetraceDesk$Mapping" (74 : Nat) ({ cls := "RetraceDesk$Mapping", name := "takesMethodLine", desc := "()Z" } : Jvm.MethodName)) ∈ am_tbl := am_in (lw_in3 (List.mem_of_getElem? (i := 26) rfl)) (by decide +kernel)
theorem tb_508 : (Jvm.Cond.instanceMethod ({ cls := "RetraceDesk$Mapping", name := "takesMethodLine", desc := "()Z" } : Jvm.MethodName)) ∈ am_tbl := am_in (lw_in3 (List.mem_of_getElem? (i := 28) rfl)) (by decide +kernel)
theorem tb_509 : (Jvm.Cond.code ({ cls := "RetraceDesk$Mapping", name := "takesMethodLine", desc := "()Z" } : Jvm.MethodName) prog_7_method_5_code (2 : Nat) (Option.some Jvm.ClassFile.FieldType.boolean)) ∈ am_tbl := am_in (lw_in3 (List.mem_of_getElem? (i := 29) rfl)) (by decide +kernel)
theorem tb_510 : (Jvm.Cond.methodLink "RetraceDesk$Mapping" (111 : Nat) ({ cls := "RetraceDesk$Mapping", name := "takesRange", desc := "(LRetraceDesk$MethodLine;)Z" } : Jvm.MethodName)) ∈ am_tbl := am_in (lw_in3 (List.mem_of_getElem? (i := 30) rfl)) (by decide +kernel)
theorem tb_512 : (Jvm.Cond.instanceMethod ({ cls := "RetraceDesk$Mapping", name := "takesRange", desc := "(LRetraceDesk$MethodLine;)Z" } : Jvm.MethodName)) ∈ am_tbl := am_in (lw_in3 (List.mem_of_getElem? (i := 32) rfl)) (by decide +kernel)
theorem tb_513 : (Jvm.Cond.code ({ cls := "RetraceDesk$Mapping", name := "takesRange", desc := "(LRetraceDesk$MethodLine;)Z" } : Jvm.MethodName) prog_7_method_6_code (2 : Nat) (Option.some Jvm.ClassFile.FieldType.boolean)) ∈ am_tbl := am_in (lw_in3 (List.mem_of_getElem? (i := 33) rfl)) (by decide +kernel)
theorem tb_514 : (Jvm.Cond.methodLink "RetraceDesk$Mapping" (132 : Nat) ({ cls := "RetraceDesk$Mapping", name := "isAtFigure", desc := "()Z" } : Jvm.MethodName)) ∈ am_tbl := am_in (lw_in3 (List.mem_of_getElem? (i := 34) rfl)) (by decide +kernel)
theorem tb_515 : (Jvm.Cond.sameMethod "RetraceDesk$Mapping" "RetraceDesk$Form" "isAtFigure" "()Z") ∈ am_tbl := am_in (lw_in3 (List.mem_of_getElem? (i := 35) rfl)) (by decide +kernel)
theorem tb_517 : (Jvm.Cond.selects "RetraceDesk$Mapping" ({ cls := "RetraceDesk$Mapping", name := "isAtFigure", desc := "()Z" } : Jvm.MethodName) ({ cls := "RetraceDesk$Form", name := "isAtFigure", desc := "()Z" } : Jvm.MethodName)) ∈ am_tbl := am_in (lw_in3 (List.mem_of_getElem? (i := 37) rfl)) (by decide +kernel)
theorem tb_518 : (Jvm.Cond.instanceMethod ({ cls := "RetraceDesk$Form", name := "isAtFigure", desc := "()Z" } : Jvm.MethodName)) ∈ am_tbl := am_in (lw_in3 (List.mem_of_getElem? (i := 38) rfl)) (by decide +kernel)
theorem tb_519 : (Jvm.Cond.code ({ cls := "RetraceDesk$Form", name := "isAtFigure", desc := "()Z" } : Jvm.MethodName) prog_4_method_6_code (1 : Nat) (Option.some Jvm.ClassFile.FieldType.boolean)) ∈ am_tbl := am_in (lw_in3 (List.mem_of_getElem? (i := 39) rfl)) (by decide +kernel)
theorem tb_521 : (Jvm.Cond.static ({ cls := "RetraceDesk", name := "isFigure", desc := "(C)Z" } : Jvm.MethodName)) ∈ am_tbl := am_in (lw_in3 (List.mem_of_getElem? (i := 41) rfl)) (by decide +kernel)
theorem tb_522 : (Jvm.Cond.code ({ cls := "RetraceDesk", name := "isFigure", desc := "(C)Z" } : Jvm.MethodName) prog_1_method_24_code (1 : Nat) (Option.some Jvm.ClassFile.FieldType.boolean)) ∈ am_tbl := am_in (lw_in3 (List.mem_of_getElem? (i := 42) rfl)) (by decide +kernel)
theorem tb_523 : (Jvm.Cond.methodLink "RetraceDesk$Mapping" (135 : Nat) ({ cls := "RetraceDesk$Mapping", name := "takeNumber", desc := "()I" } : Jvm.MethodName)) ∈ am_tbl := am_in (lw_in3 (List.mem_of_getElem? (i := 43) rfl)) (by decide +kernel)
theorem tb_524 : (Jvm.Cond.sameMethod "RetraceDesk$Mapping" "RetraceDesk$Form" "takeNumber" "()I") ∈ am_tbl := am_in (lw_in3 (List.mem_of_getElem? (i := 44) rfl)) (by decide +kernel)
theorem tb_526 : (Jvm.Cond.selects "RetraceDesk$Mapping" ({ cls := "RetraceDesk$Mapping", name := "takeNumber", desc := "()I" } : Jvm.MethodName) ({ cls := "RetraceDesk$Form", name := "takeNumber", desc := "()I" } : Jvm.MethodName)) ∈ am_tbl := am_in (lw_in3 (List.mem_of_getElem? (i := 46) rfl)) (by decide +kernel)
theorem tb_527 : (Jvm.Cond.instanceMethod ({ cls := "RetraceDesk$Form", name := "takeNumber", desc := "()I" } : Jvm.MethodName)) ∈ am_tbl := am_in (lw_in3 (List.mem_of_getElem? (i := 47) rfl)) (by decide +kernel)
theorem tb_528 : (Jvm.Cond.code ({ cls := "RetraceDesk$Form", name := "takeNumber", desc := "()I" } : Jvm.MethodName) prog_4_method_11_code (3 : Nat) (Option.some Jvm.ClassFile.FieldType.int)) ∈ am_tbl := am_in (lw_in3 (List.mem_of_getElem? (i := 48) rfl)) (by decide +kernel)
theorem tb_530 : (Jvm.Cond.methodLink "RetraceDesk$Mapping" (115 : Nat) ({ cls := "RetraceDesk$Mapping", name := "takesRealCall", desc := "(LRetraceDesk$MethodLine;)Z" } : Jvm.MethodName)) ∈ am_tbl := am_in (lw_in3 (List.mem_of_getElem? (i := 50) rfl)) (by decide +kernel)
theorem tb_532 : (Jvm.Cond.instanceMethod ({ cls := "RetraceDesk$Mapping", name := "takesRealCall", desc := "(LRetraceDesk$MethodLine;)Z" } : Jvm.MethodName)) ∈ am_tbl := am_in (lw_in3 (List.mem_of_getElem? (i := 52) rfl)) (by decide +kernel)
theorem tb_533 : (Jvm.Cond.code ({ cls := "RetraceDesk$Mapping", name := "takesRealCall", desc := "(LRetraceDesk$MethodLine;)Z" } : Jvm.MethodName) prog_7_method_7_code (4 : Nat) (Option.some Jvm.ClassFile.FieldType.boolean)) ∈ am_tbl := am_in (lw_in3 (List.mem_of_getElem? (i := 53) rfl)) (by decide +kernel)
theorem tb_534 : (Jvm.Cond.methodLink "RetraceDesk$Mapping" (83 : Nat) ({ cls := "RetraceDesk$Mapping", name := "takeParts", desc := "(LRetraceDesk$Slice;II)Z" } : Jvm.MethodName)) ∈ am_tbl := am_in (lw_in3 (List.mem_of_getElem? (i := 54) rfl)) (by decide +kernel)
theorem tb_535 : (Jvm.Cond.sameMethod "RetraceDesk$Mapping" "RetraceDesk$Form" "takeParts" "(LRetraceDesk$Slice;II)Z") ∈ am_tbl := am_in (lw_in3 (List.mem_of_getElem? (i := 55) rfl)) (by decide +kernel)
theorem tb_537 : (Jvm.Cond.selects "RetraceDesk$Mapping" ({ cls := "RetraceDesk$Mapping", name := "takeParts", desc := "(LRetraceDesk$Slice;II)Z" } : Jvm.MethodName) ({ cls := "RetraceDesk$Form", name := "takeParts", desc := "(LRetraceDesk$Slice;II)Z" } : Jvm.MethodName)) ∈ am_tbl := am_in (lw_in3 (List.mem_of_getElem? (i := 57) rfl)) (by decide +kernel)
theorem tb_538 : (Jvm.Cond.instanceMethod ({ cls := "RetraceDesk$Form", name := "takeParts", desc := "(LRetraceDesk$Slice;II)Z" } : Jvm.MethodName)) ∈ am_tbl := am_in (lw_in3 (List.mem_of_getElem? (i := 58) rfl)) (by decide +kernel)
theorem tb_539 : (Jvm.Cond.code ({ cls := "RetraceDesk$Form", name := "takeParts", desc := "(LRetraceDesk$Slice;II)Z" } : Jvm.MethodName) prog_4_method_10_code (8 : Nat) (Option.some Jvm.ClassFile.FieldType.boolean)) ∈ am_tbl := am_in (lw_in3 (List.mem_of_getElem? (i := 59) rfl)) (by decide +kernel)
theorem tb_541 : (Jvm.Cond.static ({ cls := "RetraceDesk", name := "isLetter", desc := "(C)Z" } : Jvm.MethodName)) ∈ am_tbl := am_in (lw_in3 (List.mem_of_getElem? (i := 61) rfl)) (by decide +kernel)
theorem tb_542 : (Jvm.Cond.code ({ cls := "RetraceDesk", name := "isLetter", desc := "(C)Z" } : Jvm.MethodName) prog_1_method_25_code (1 : Nat) (Option.some Jvm.ClassFile.FieldType.boolean)) ∈ am_tbl := am_in (lw_in3 (List.mem_of_getElem? (i := 62) rfl)) (by decide +kernel)
theorem tb_543 : (Jvm.Cond.methodLink "RetraceDesk$Form" (46 : Nat) ({ cls := "RetraceDesk$Slice", name := "set", desc := "(II)V" } : Jvm.MethodName)) ∈ am_tbl := am_in (lw_in3 (List.mem_of_getElem? (i := 63) rfl)) (by decide +kernel)
theorem tb_544 : (Jvm.Cond.instanceMethod ({ cls := "RetraceDesk$Slice", name := "set", desc := "(II)V" } : Jvm.MethodName)) ∈ am_tbl := am_in (lw_in3 (List.mem_of_getElem? (i := 64) rfl)) (by decide +kernel)
theorem tb_545 : (Jvm.Cond.selects "RetraceDesk$Slice" ({ cls := "RetraceDesk$Slice", name := "set", desc := "(II)V" } : Jvm.MethodName) ({ cls := "RetraceDesk$Slice", name := "set", desc := "(II)V" } : Jvm.MethodName)) ∈ am_tbl := am_in (lw_in3 (List.mem_of_getElem? (i := 65) rfl)) (by decide +kernel)
theorem tb_546 : (Jvm.Cond.code ({ cls := "RetraceDesk$Slice", name := "set", desc := "(II)V" } : Jvm.MethodName) prog_10_method_2_code (3 : Nat) (Option.none : Option Jvm.ClassFile.FieldType)) ∈ am_tbl := am_in (lw_in3 (List.mem_of_getElem? (i := 66) rfl)) (by decide +kernel)
theorem tb_547 : (Jvm.Cond.methodLink "RetraceDesk$Mapping" (139 : Nat) ({ cls := "RetraceDesk$Slice", name := "lastPoint", desc := "()I" } : Jvm.MethodName)) ∈ am_tbl := am_in (lw_in3 (List.mem_of_getElem? (i := 67) rfl)) (by decide +kernel)
theorem tb_548 : (Jvm.Cond.instanceMethod ({ cls := "RetraceDesk$Slice", name := "lastPoint", desc := "()I" } : Jvm.MethodName)) ∈ am_tbl := am_in (lw_in3 (List.mem_of_getElem? (i := 68) rfl)) (by decide +kernel)
theorem tb_549 : (Jvm.Cond.selects "RetraceDesk$Slice" ({ cls := "RetraceDesk$Slice", name := "lastPoint", desc := "()I" } : Jvm.MethodName) ({ cls := "RetraceDesk$Slice", name := "lastPoint", desc := "()I" } : Jvm.MethodName)) ∈ am_tbl := am_in (lw_in3 (List.mem_of_getElem? (i := 69) rfl)) (by decide +kernel)
theorem tb_550 : (Jvm.Cond.code ({ cls := "RetraceDesk$Slice", name := "lastPoint", desc := "()I" } : Jvm.MethodName) prog_10_method_4_code (2 : Nat) (Option.some Jvm.ClassFile.FieldType.int)) ∈ am_tbl := am_in (lw_in3 (List.mem_of_getElem? (i := 70) rfl)) (by decide +kernel)
theorem tb_551 : (Jvm.Cond.methodLink "RetraceDesk$Mapping" (151 : Nat) ({ cls := "RetraceDesk$Slice", name := "set", desc := "(II)V" } : Jvm.MethodName)) ∈ am_tbl := am_in (lw_in3 (List.mem_of_getElem? (i := 71) rfl)) (by decide +kernel)
theorem tb_552 : (Jvm.Cond.methodLink "RetraceDesk$Mapping" (118 : Nat) ({ cls := "RetraceDesk$Mapping", name := "takesRealRange", desc := "(LRetraceDesk$MethodLine;)Z" } : Jvm.MethodName)) ∈ am_tbl := am_in (lw_in3 (List.mem_of_getElem? (i := 72) rfl)) (by decide +kernel)
theorem tb_554 : (Jvm.Cond.instanceMethod ({ cls := "RetraceDesk$Mapping", name := "takesRealRange", desc := "(LRetraceDesk$MethodLine;)Z" } : Jvm.MethodName)) ∈ am_tbl := am_in (lw_in3 (List.mem_of_getElem? (i := 74) rfl)) (by decide +kernel)
theorem tb_555 : (Jvm.Cond.code ({ cls := "RetraceDesk$Mapping", name := "takesRealRange", desc := "(LRetraceDesk$MethodLine;)Z" } : Jvm.MethodName) prog_7_method_8_code (2 : Nat) (Option.some Jvm.ClassFile.FieldType.boolean)) ∈ am_tbl := am_in (lw_in3 (List.mem_of_getElem? (i := 75) rfl)) (by decide +kernel)
theorem tb_556 : (Jvm.Cond.methodLink "RetraceDesk$Mapping" (164 : Nat) ({ cls := "RetraceDesk$MethodLine", name := "hasRange", desc := "()Z" } : Jvm.MethodName)) ∈ am_tbl := am_in (lw_in3 (List.mem_of_getElem? (i := 76) rfl)) (by decide +kernel)
theorem tb_557 : (Jvm.Cond.instanceMethod ({ cls := "RetraceDesk$MethodLine", name := "hasRange", desc := "()Z" } : Jvm.MethodName)) ∈ am_tbl := am_in (lw_in3 (List.mem_of_getElem? (i := 77) rfl)) (by decide +kernel)
theorem tb_558 : (Jvm.Cond.selects "RetraceDesk$MethodLine" ({ cls := "RetraceDesk$MethodLine", name := "hasRange", desc := "()Z" } : Jvm.MethodName) ({ cls := "RetraceDesk$MethodLine", name := "hasRange", desc := "()Z" } : Jvm.MethodName)) ∈ am_tbl := am_in (lw_in3 (List.mem_of_getElem? (i := 78) rfl)) (by decide +kernel)
theorem tb_559 : (Jvm.Cond.code ({ cls := "RetraceDesk$MethodLine", name := "hasRange", desc := "()Z" } : Jvm.MethodName) prog_8_method_2_code (1 : Nat) (Option.some Jvm.ClassFile.FieldType.boolean)) ∈ am_tbl := am_in (lw_in3 (List.mem_of_getElem? (i := 79) rfl)) (by decide +kernel)
theorem tb_560 : (Jvm.Cond.methodLink "RetraceDesk$Mapping" (167 : Nat) ({ cls := "RetraceDesk$MethodLine", name := "hasOneRealLine", desc := "()Z" } : Jvm.MethodName)) ∈ am_tbl := am_in (lw_in3 (List.mem_of_getElem? (i := 80) rfl)) (by decide +kernel)
theorem tb_561 : (Jvm.Cond.instanceMethod ({ cls := "RetraceDesk$MethodLine", name := "hasOneRealLine", desc := "()Z" } : Jvm.MethodName)) ∈ am_tbl := am_in (lw_in3 (List.mem_of_getElem? (i := 81) rfl)) (by decide +kernel)
theorem tb_562 : (Jvm.Cond.selects "RetraceDesk$MethodLine" ({ cls := "RetraceDesk$MethodLine", name := "hasOneRealLine", desc := "()Z" } : Jvm.MethodName) ({ cls := "RetraceDesk$MethodLine", name := "hasOneRealLine", desc := "()Z" } : Jvm.MethodName)) ∈ am_tbl := am_in (lw_in3 (List.mem_of_getElem? (i := 82) rfl)) (by decide +kernel)
theorem tb_563 : (Jvm.Cond.code ({ cls := "RetraceDesk$MethodLine", name := "hasOneRealLine", desc := "()Z" } : Jvm.MethodName) prog_8_method_3_code (1 : Nat) (Option.some Jvm.ClassFile.FieldType.boolean)) ∈ am_tbl := am_in (lw_in3 (List.mem_of_getElem? (i := 83) rfl)) (by decide +kernel)
theorem tb_565 : (Jvm.Cond.methodLink "RetraceDesk$Mapping" (122 : Nat) ({ cls := "RetraceDesk$Mapping", name := "enterMethodLine", desc := "(LRetraceDesk$MethodLine;LRetraceDesk$ClassLine;)V" } : Jvm.MethodName)) ∈ am_tbl := am_in (lw_in3 (List.mem_of_getElem? (i := 85) rfl)) (by decide +kernel)
theorem tb_567 : (Jvm.Cond.instanceMethod ({ cls := "RetraceDesk$Mapping", name := "enterMethodLine", desc := "(LRetraceDesk$MethodLine;LRetraceDesk$ClassLine;)V" } : Jvm.MethodName)) ∈ am_tbl := am_in (lw_in3 (List.mem_of_getElem? (i := 87) rfl)) (by decide +kernel)
theorem tb_568 : (Jvm.Cond.code ({ cls := "RetraceDesk$Mapping", name := "enterMethodLine", desc := "(LRetraceDesk$MethodLine;LRetraceDesk$ClassLine;)V" } : Jvm.MethodName) prog_7_method_9_code (3 : Nat) (Option.none : Option Jvm.ClassFile.FieldType)) ∈ am_tbl := am_in (lw_in3 (List.mem_of_getElem? (i := 88) rfl)) (by decide +kernel)
theorem tb_569 : (Jvm.Cond.methodLink "RetraceDesk$Mapping" (173 : Nat) ({ cls := "RetraceDesk$MethodLine", name := "isInGroupOf", desc := "(LRetraceDesk$MethodLine;)Z" } : Jvm.MethodName)) ∈ am_tbl := am_in (lw_in3 (List.mem_of_getElem? (i := 89) rfl)) (by decide +kernel)
theorem tb_570 : (Jvm.Cond.instanceMethod ({ cls := "RetraceDesk$MethodLine", name := "isInGroupOf", desc := "(LRetraceDesk$MethodLine;)Z" } : Jvm.MethodName)) ∈ am_tbl := am_in (lw_in3 (List.mem_of_getElem? (i := 90) rfl)) (by decide +kernel)
theorem tb_571 : (Jvm.Cond.selects "RetraceDesk$MethodLine" ({ cls := "RetraceDesk$MethodLine", name := "isInGroupOf", desc := "(LRetraceDesk$MethodLine;)Z" } : Jvm.MethodName) ({ cls := "RetraceDesk$MethodLine", name := "isInGroupOf", desc := "(LRetraceDesk$MethodLine;)Z" } : Jvm.MethodName)) ∈ am_tbl := am_in (lw_in3 (List.mem_of_getElem? (i := 91) rfl)) (by decide +kernel)
theorem tb_572 : (Jvm.Cond.code ({ cls := "RetraceDesk$MethodLine", name := "isInGroupOf", desc := "(LRetraceDesk$MethodLine;)Z" } : Jvm.MethodName) prog_8_method_5_code (2 : Nat) (Option.some Jvm.ClassFile.FieldType.boolean)) ∈ am_tbl := am_in (lw_in3 (List.mem_of_getElem? (i := 92) rfl)) (by decide +kernel)
theorem tb_573 : (Jvm.Cond.methodLink "RetraceDesk$MethodLine" (40 : Nat) ({ cls := "RetraceDesk$MethodLine", name := "hasRange", desc := "()Z" } : Jvm.MethodName)) ∈ am_tbl := am_in (lw_in3 (List.mem_of_getElem? (i := 93) rfl)) (by decide +kernel)
theorem tb_574 : (Jvm.Cond.methodLink "RetraceDesk$MethodLine" (36 : Nat) ({ cls := "RetraceDesk$Slice", name := "isSame", desc := "(LRetraceDesk$Slice;)Z" } : Jvm.MethodName)) ∈ am_tbl := am_in (lw_in3 (List.mem_of_getElem? (i := 94) rfl)) (by decide +kernel)
theorem tb_575 : (Jvm.Cond.instanceMethod ({ cls := "RetraceDesk$Slice", name := "isSame", desc := "(LRetraceDesk$Slice;)Z" } : Jvm.MethodName)) ∈ am_tbl := am_in (lw_in3 (List.mem_of_getElem? (i := 95) rfl)) (by decide +kernel)
theorem tb_576 : (Jvm.Cond.selects "RetraceDesk$Slice" ({ cls := "RetraceDesk$Slice", name := "isSame", desc := "(LRetraceDesk$Slice;)Z" } : Jvm.MethodName) ({ cls := "RetraceDesk$Slice", name := "isSame", desc := "(LRetraceDesk$Slice;)Z" } : Jvm.MethodName)) ∈ am_tbl := am_in (lw_in3 (List.mem_of_getElem? (i := 96) rfl)) (by decide +kernel)
theorem tb_577 : (Jvm.Cond.code ({ cls := "RetraceDesk$Slice", name := "isSame", desc := "(LRetraceDesk$Slice;)Z" } : Jvm.MethodName) prog_10_method_3_code (4 : Nat) (Option.some Jvm.ClassFile.FieldType.boolean)) ∈ am_tbl := am_in (lw_in3 (List.mem_of_getElem? (i := 97) rfl)) (by decide +kernel)
theorem tb_578 : (Jvm.Cond.methodLink "RetraceDesk$Mapping" (77 : Nat) ({ cls := "RetraceDesk$Mapping", name := "takesClassLine", desc := "()Z" } : Jvm.MethodName)) ∈ am_tbl := am_in (lw_in3 (List.mem_of_getElem? (i := 98) rfl)) (by decide +kernel)
theorem tb_580 : (Jvm.Cond.instanceMethod ({ cls := "RetraceDesk$Mapping", name := "takesClassLine", desc := "()Z" } : Jvm.MethodName)) ∈ am_tbl := am_in (lw_in3 (List.mem_of_getElem? (i := 100) rfl)) (by decide +kernel)
theorem tb_581 : (Jvm.Cond.code ({ cls := "RetraceDesk$Mapping", name := "takesClassLine", desc := "()Z" } : Jvm.MethodName) prog_7_method_4_code (2 : Nat) (Option.some Jvm.ClassFile.FieldType.boolean)) ∈ am_tbl := am_in (lw_in3 (List.mem_of_getElem? (i := 101) rfl)) (by decide +kernel)
theorem tb_582 : (Jvm.Cond.methodLink "RetraceDesk$Mapping" (94 : Nat) ({ cls := "RetraceDesk$Mapping", name := "lineOfReal", desc := "(LRetraceDesk$Slice;)LRetraceDesk$ClassLine;" } : Jvm.MethodName)) ∈ am_tbl := am_in (lw_in3 (List.mem_of_getElem? (i := 102) rfl)) (by decide +kernel)
theorem tb_583 : (Jvm.Cond.instanceMethod ({ cls := "RetraceDesk$Mapping", name := "lineOfReal", desc := "(LRetraceDesk$Slice;)LRetraceDesk$ClassLine;" } : Jvm.MethodName)) ∈ am_tbl := am_in (lw_in3 (List.mem_of_getElem? (i := 103) rfl)) (by decide +kernel)
theorem tb_584 : (Jvm.Cond.selects "RetraceDesk$Mapping" ({ cls := "RetraceDesk$Mapping", name := "lineOfReal", desc := "(LRetraceDesk$Slice;)LRetraceDesk$ClassLine;" } : Jvm.MethodName) ({ cls := "RetraceDesk$Mapping", name := "lineOfReal", desc := "(LRetraceDesk$Slice;)LRetraceDesk$ClassLine;" } : Jvm.MethodName)) ∈ am_tbl := am_in (lw_in3 (List.mem_of_getElem? (i := 104) rfl)) (by decide +kernel)
theorem tb_585 : (Jvm.Cond.code ({ cls := "RetraceDesk$Mapping", name := "lineOfReal", desc := "(LRetraceDesk$Slice;)LRetraceDesk$ClassLine;" } : Jvm.MethodName) prog_7_method_10_code (3 : Nat) (Option.some (Jvm.ClassFile.FieldType.object "RetraceDesk$ClassLine"))) ∈ am_tbl := am_in (lw_in3 (List.mem_of_getElem? (i := 105) rfl)) (by decide +kernel)
theorem tb_586 : (Jvm.Cond.methodLink "RetraceDesk$Mapping" (176 : Nat) ({ cls := "RetraceDesk$Slice", name := "isSame", desc := "(LRetraceDesk$Slice;)Z" } : Jvm.MethodName)) ∈ am_tbl := am_in (lw_in3 (List.mem_of_getElem? (i := 106) rfl)) (by decide +kernel)
theorem tb_587 : (Jvm.Cond.methodLink "RetraceDesk$Mapping" (98 : Nat) ({ cls := "RetraceDesk$Mapping", name := "lineOfShort", desc := "(LRetraceDesk$Slice;)LRetraceDesk$ClassLine;" } : Jvm.MethodName)) ∈ am_tbl := am_in (lw_in3 (List.mem_of_getElem? (i := 107) rfl)) (by decide +kernel)
theorem tb_588 : (Jvm.Cond.instanceMethod ({ cls := "RetraceDesk$Mapping", name := "lineOfShort", desc := "(LRetraceDesk$Slice;)LRetraceDesk$ClassLine;" } : Jvm.MethodName)) ∈ am_tbl := am_in (lw_in3 (List.mem_of_getElem? (i := 108) rfl)) (by decide +kernel)
theorem tb_589 : (Jvm.Cond.selects "RetraceDesk$Mapping" ({ cls := "RetraceDesk$Mapping", name := "lineOfShort", desc := "(LRetraceDesk$Slice;)LRetraceDesk$ClassLine;" } : Jvm.MethodName) ({ cls := "RetraceDesk$Mapping", name := "lineOfShort", desc := "(LRetraceDesk$Slice;)LRetraceDesk$ClassLine;" } : Jvm.MethodName)) ∈ am_tbl := am_in (lw_in3 (List.mem_of_getElem? (i := 109) rfl)) (by decide +kernel)
theorem tb_590 : (Jvm.Cond.code ({ cls := "RetraceDesk$Mapping", name := "lineOfShort", desc := "(LRetraceDesk$Slice;)LRetraceDesk$ClassLine;" } : Jvm.MethodName) prog_7_method_11_code (3 : Nat) (Option.some (Jvm.ClassFile.FieldType.object "RetraceDesk$ClassLine"))) ∈ am_tbl := am_in (lw_in3 (List.mem_of_getElem? (i := 110) rfl)) (by decide +kernel)
theorem tb_591 : (Jvm.Cond.selects "RetraceDesk$Trace" ({ cls := "RetraceDesk$Form", name := "takesLine", desc := "()Z" } : Jvm.MethodName) ({ cls := "RetraceDesk$Trace", name := "takesLine", desc := "()Z" } : Jvm.MethodName)) ∈ am_tbl := am_in (lw_in3 (List.mem_of_getElem? (i := 111) rfl)) (by decide +kernel)
theorem tb_592 : (Jvm.Cond.instanceMethod ({ cls := "RetraceDesk$Trace", name := "takesLine", desc := "()Z" } : Jvm.MethodName)) ∈ am_tbl := am_in (lw_in3 (List.mem_of_getElem? (i := 112) rfl)) (by decide +kernel)
theorem tb_593 : (Jvm.Cond.code ({ cls := "RetraceDesk$Trace", name := "takesLine", desc := "()Z" } : Jvm.MethodName) prog_12_method_3_code (3 : Nat) (Option.some Jvm.ClassFile.FieldType.boolean)) ∈ am_tbl := am_in (lw_in3 (List.mem_of_getElem? (i := 113) rfl)) (by decide +kernel)
theorem tb_595 : (Jvm.Cond.methodLink "RetraceDesk$Trace" (41 : Nat) ({ cls := "RetraceDesk$Trace", name := "takeWord", desc := "(Ljava/lang/String;)Z" } : Jvm.MethodName)) ∈ am_tbl := am_in (lw_in3 (List.mem_of_getElem? (i := 115) rfl)) (by decide +kernel)
theorem tb_596 : (Jvm.Cond.sameMethod "RetraceDesk$Trace" "RetraceDesk$Form" "takeWord" "(Ljava/lang/String;)Z") ∈ am_tbl := am_in (lw_in3 (List.mem_of_getElem? (i := 116) rfl)) (by decide +kernel)
theorem tb_597 : (Jvm.Cond.selects "RetraceDesk$Trace" ({ cls := "RetraceDesk$Trace", name := "takeWord", desc := "(Ljava/lang/String;)Z" } : Jvm.MethodName) ({ cls := "RetraceDesk$Form", name := "takeWord", desc := "(Ljava/lang/String;)Z" } : Jvm.MethodName)) ∈ am_tbl := am_in (lw_in3 (List.mem_of_getElem? (i := 117) rfl)) (by decide +kernel)
theorem tb_598 : (Jvm.Cond.methodLink "RetraceDesk$Trace" (45 : Nat) ({ cls := "RetraceDesk$Trace", name := "takesHeader", desc := "()Z" } : Jvm.MethodName)) ∈ am_tbl := am_in (lw_in3 (List.mem_of_getElem? (i := 118) rfl)) (by decide +kernel)
theorem tb_600 : (Jvm.Cond.instanceMethod ({ cls := "RetraceDesk$Trace", name := "takesHeader", desc := "()Z" } : Jvm.MethodName)) ∈ am_tbl := am_in (lw_in3 (List.mem_of_getElem? (i := 120) rfl)) (by decide +kernel)
theorem tb_601 : (Jvm.Cond.code ({ cls := "RetraceDesk$Trace", name := "takesHeader", desc := "()Z" } : Jvm.MethodName) prog_12_method_4_code (2 : Nat) (Option.some Jvm.ClassFile.FieldType.boolean)) ∈ am_tbl := am_in (lw_in3 (List.mem_of_getElem? (i := 121) rfl)) (by decide +kernel)
theorem tb_602 : (Jvm.Cond.methodLink "RetraceDesk$Trace" (74 : Nat) ({ cls := "RetraceDesk$Trace", name := "takeParts", desc := "(LRetraceDesk$Slice;II)Z" } : Jvm.MethodName)) ∈ am_tbl := am_in (lw_in3 (List.mem_of_getElem? (i := 122) rfl)) (by decide +kernel)
theorem tb_603 : (Jvm.Cond.sameMethod "RetraceDesk$Trace" "RetraceDesk$Form" "takeParts" "(LRetraceDesk$Slice;II)Z") ∈ am_tbl := am_in (lw_in3 (List.mem_of_getElem? (i := 123) rfl)) (by decide +kernel)
theorem tb_604 : (Jvm.Cond.selects "RetraceDesk$Trace" ({ cls := "RetraceDesk$Trace", name := "takeParts", desc := "(LRetraceDesk$Slice;II)Z" } : Jvm.MethodName) ({ cls := "RetraceDesk$Form", name := "takeParts", desc := "(LRetraceDesk$Slice;II)Z" } : Jvm.MethodName)) ∈ am_tbl := am_in (lw_in3 (List.mem_of_getElem? (i := 124) rfl)) (by decide +kernel)
theorem tb_606 : (Jvm.Cond.methodLink "RetraceDesk$Trace" (65 : Nat) ({ cls := "RetraceDesk$Trace", name := "isDone", desc := "()Z" } : Jvm.MethodName)) ∈ am_tbl := am_in (lw_in3 (List.mem_of_getElem? (i := 126) rfl)) (by decide +kernel)
theorem tb_607 : (Jvm.Cond.sameMethod "RetraceDesk$Trace" "RetraceDesk$Form" "isDone" "()Z") ∈ am_tbl := am_in (lw_in3 (List.mem_of_getElem? (i := 127) rfl)) (by decide +kernel)
theorem tb_608 : (Jvm.Cond.selects "RetraceDesk$Trace" ({ cls := "RetraceDesk$Trace", name := "isDone", desc := "()Z" } : Jvm.MethodName) ({ cls := "RetraceDesk$Form", name := "isDone", desc := "()Z" } : Jvm.MethodName)) ∈ am_tbl := am_in (lw_in3 (List.mem_of_getElem? (i := 128) rfl)) (by decide +kernel)
theorem tb_609 : (Jvm.Cond.methodLink "RetraceDesk$Trace" (87 : Nat) ({ cls := "RetraceDesk$Trace", name := "takeRest", desc := "(LRetraceDesk$Slice;)V" } : Jvm.MethodName)) ∈ am_tbl := am_in (lw_in3 (List.mem_of_getElem? (i := 129) rfl)) (by decide +kernel)
theorem tb_610 : (Jvm.Cond.sameMethod "RetraceDesk$Trace" "RetraceDesk$Form" "takeRest" "(LRetraceDesk$Slice;)V") ∈ am_tbl := am_in (lw_in3 (List.mem_of_getElem? (i := 130) rfl)) (by decide +kernel)
theorem tb_612 : (Jvm.Cond.selects "RetraceDesk$Trace" ({ cls := "RetraceDesk$Trace", name := "takeRest", desc := "(LRetraceDesk$Slice;)V" } : Jvm.MethodName) ({ cls := "RetraceDesk$Form", name := "takeRest", desc := "(LRetraceDesk$Slice;)V" } : Jvm.MethodName)) ∈ am_tbl := am_in (lw_in3 (List.mem_of_getElem? (i := 132) rfl)) (by decide +kernel)
theorem tb_613 : (Jvm.Cond.instanceMethod ({ cls := "RetraceDesk$Form", name := "takeRest", desc := "(LRetraceDesk$Slice;)V" } : Jvm.MethodName)) ∈ am_tbl := am_in (lw_in3 (List.mem_of_getElem? (i := 133) rfl)) (by decide +kernel)
theorem tb_614 : (Jvm.Cond.code ({ cls := "RetraceDesk$Form", name := "takeRest", desc := "(LRetraceDesk$Slice;)V" } : Jvm.MethodName) prog_4_method_9_code (2 : Nat) (Option.none : Option Jvm.ClassFile.FieldType)) ∈ am_tbl := am_in (lw_in3 (List.mem_of_getElem? (i := 134) rfl)) (by decide +kernel)
theorem tb_616 : (Jvm.Cond.methodLink "RetraceDesk$Trace" (54 : Nat) ({ cls := "RetraceDesk$Trace", name := "takesMore", desc := "(LRetraceDesk$Header;)Z" } : Jvm.MethodName)) ∈ am_tbl := am_in (lw_in3 (List.mem_of_getElem? (i := 136) rfl)) (by decide +kernel)
theorem tb_618 : (Jvm.Cond.instanceMethod ({ cls := "RetraceDesk$Trace", name := "takesMore", desc := "(LRetraceDesk$Header;)Z" } : Jvm.MethodName)) ∈ am_tbl := am_in (lw_in3 (List.mem_of_getElem? (i := 138) rfl)) (by decide +kernel)
theorem tb_619 : (Jvm.Cond.code ({ cls := "RetraceDesk$Trace", name := "takesMore", desc := "(LRetraceDesk$Header;)Z" } : Jvm.MethodName) prog_12_method_7_code (2 : Nat) (Option.some Jvm.ClassFile.FieldType.boolean)) ∈ am_tbl := am_in (lw_in3 (List.mem_of_getElem? (i := 139) rfl)) (by decide +kernel)
theorem tb_621 : (Jvm.Cond.methodLink "RetraceDesk$Trace" (137 : Nat) ({ cls := "RetraceDesk$Trace", name := "takeNumber", desc := "()I" } : Jvm.MethodName)) ∈ am_tbl := am_in (lw_in3 (List.mem_of_getElem? (i := 141) rfl)) (by decide +kernel)
theorem tb_622 : (Jvm.Cond.sameMethod "RetraceDesk$Trace" "RetraceDesk$Form" "takeNumber" "()I") ∈ am_tbl := am_in (lw_in3 (List.mem_of_getElem? (i := 142) rfl)) (by decide +kernel)
theorem tb_623 : (Jvm.Cond.selects "RetraceDesk$Trace" ({ cls := "RetraceDesk$Trace", name := "takeNumber", desc := "()I" } : Jvm.MethodName) ({ cls := "RetraceDesk$Form", name := "takeNumber", desc := "()I" } : Jvm.MethodName)) ∈ am_tbl := am_in (lw_in3 (List.mem_of_getElem? (i := 143) rfl)) (by decide +kernel)
theorem tb_625 : (Jvm.Cond.methodLink "RetraceDesk$Trace" (58 : Nat) ({ cls := "RetraceDesk$Trace", name := "takesCall", desc := "(LRetraceDesk$Frame;)Z" } : Jvm.MethodName)) ∈ am_tbl := am_in (lw_in3 (List.mem_of_getElem? (i := 145) rfl)) (by decide +kernel)
theorem tb_627 : (Jvm.Cond.instanceMethod ({ cls := "RetraceDesk$Trace", name := "takesCall", desc := "(LRetraceDesk$Frame;)Z" } : Jvm.MethodName)) ∈ am_tbl := am_in (lw_in3 (List.mem_of_getElem? (i := 147) rfl)) (by decide +kernel)
theorem tb_628 : (Jvm.Cond.code ({ cls := "RetraceDesk$Trace", name := "takesCall", desc := "(LRetraceDesk$Frame;)Z" } : Jvm.MethodName) prog_12_method_5_code (3 : Nat) (Option.some Jvm.ClassFile.FieldType.boolean)) ∈ am_tbl := am_in (lw_in3 (List.mem_of_getElem? (i := 148) rfl)) (by decide +kernel)
theorem tb_629 : (Jvm.Cond.methodLink "RetraceDesk$Trace" (94 : Nat) ({ cls := "RetraceDesk$Slice", name := "lastPoint", desc := "()I" } : Jvm.MethodName)) ∈ am_tbl := am_in (lw_in3 (List.mem_of_getElem? (i := 149) rfl)) (by decide +kernel)
theorem tb_630 : (Jvm.Cond.methodLink "RetraceDesk$Trace" (104 : Nat) ({ cls := "RetraceDesk$Slice", name := "set", desc := "(II)V" } : Jvm.MethodName)) ∈ am_tbl := am_in (lw_in3 (List.mem_of_getElem? (i := 150) rfl)) (by decide +kernel)
theorem tb_631 : (Jvm.Cond.methodLink "RetraceDesk$Trace" (62 : Nat) ({ cls := "RetraceDesk$Trace", name := "takesPlace", desc := "(LRetraceDesk$Frame;)Z" } : Jvm.MethodName)) ∈ am_tbl := am_in (lw_in3 (List.mem_of_getElem? (i := 151) rfl)) (by decide +kernel)
theorem tb_633 : (Jvm.Cond.instanceMethod ({ cls := "RetraceDesk$Trace", name := "takesPlace", desc := "(LRetraceDesk$Frame;)Z" } : Jvm.MethodName)) ∈ am_tbl := am_in (lw_in3 (List.mem_of_getElem? (i := 153) rfl)) (by decide +kernel)
theorem tb_634 : (Jvm.Cond.code ({ cls := "RetraceDesk$Trace", name := "takesPlace", desc := "(LRetraceDesk$Frame;)Z" } : Jvm.MethodName) prog_12_method_6_code (2 : Nat) (Option.some Jvm.ClassFile.FieldType.boolean)) ∈ am_tbl := am_in (lw_in3 (List.mem_of_getElem? (i := 154) rfl)) (by decide +kernel)
theorem tb_637 : (Jvm.Cond.methodLink "RetraceDesk$Trace" (127 : Nat) ({ cls := "RetraceDesk$Trace", name := "takeWordInto", desc := "(Ljava/lang/String;LRetraceDesk$Slice;)Z" } : Jvm.MethodName)) ∈ am_tbl := am_in (lw_in3 (List.mem_of_getElem? (i := 157) rfl)) (by decide +kernel)
theorem tb_638 : (Jvm.Cond.sameMethod "RetraceDesk$Trace" "RetraceDesk$Form" "takeWordInto" "(Ljava/lang/String;LRetraceDesk$Slice;)Z") ∈ am_tbl := am_in (lw_in3 (List.mem_of_getElem? (i := 158) rfl)) (by decide +kernel)
theorem tb_640 : (Jvm.Cond.selects "RetraceDesk$Trace" ({ cls := "RetraceDesk$Trace", name := "takeWordInto", desc := "(Ljava/lang/String;LRetraceDesk$Slice;)Z" } : Jvm.MethodName) ({ cls := "RetraceDesk$Form", name := "takeWordInto", desc := "(Ljava/lang/String;LRetraceDesk$Slice;)Z" } : Jvm.MethodName)) ∈ am_tbl := am_in (lw_in3 (List.mem_of_getElem? (i := 160) rfl)) (by decide +kernel)
theorem tb_641 : (Jvm.Cond.instanceMethod ({ cls := "RetraceDesk$Form", name := "takeWordInto", desc := "(Ljava/lang/String;LRetraceDesk$Slice;)Z" } : Jvm.MethodName)) ∈ am_tbl := am_in (lw_in3 (List.mem_of_getElem? (i := 161) rfl)) (by decide +kernel)
theorem tb_642 : (Jvm.Cond.code ({ cls := "RetraceDesk$Form", name := "takeWordInto", desc := "(Ljava/lang/String;LRetraceDesk$Slice;)Z" } : Jvm.MethodName) prog_4_method_8_code (3 : Nat) (Option.some Jvm.ClassFile.FieldType.boolean)) ∈ am_tbl := am_in (lw_in3 (List.mem_of_getElem? (i := 162) rfl)) (by decide +kernel)
theorem tb_643 : (Jvm.Cond.methodLink "RetraceDesk$Form" (40 : Nat) ({ cls := "java/lang/Math", name := "min", desc := "(II)I" } : Jvm.MethodName)) ∈ am_tbl := am_in (lw_in3 (List.mem_of_getElem? (i := 163) rfl)) (by decide +kernel)
theorem tb_644 : (Jvm.Cond.static ({ cls := "java/lang/Math", name := "min", desc := "(II)I" } : Jvm.MethodName)) ∈ am_tbl := am_in (lw_in3 (List.mem_of_getElem? (i := 164) rfl)) (by decide +kernel)
theorem tb_645 : (Jvm.Cond.code ({ cls := "java/lang/Math", name := "min", desc := "(II)I" } : Jvm.MethodName) prog_19_method_69_code (2 : Nat) (Option.some Jvm.ClassFile.FieldType.int)) ∈ am_tbl := am_in (lw_in3 (List.mem_of_getElem? (i := 165) rfl)) (by decide +kernel)
theorem tb_646 : (Jvm.Cond.methodLink "RetraceDesk$Form" (52 : Nat) ({ cls := "RetraceDesk$Form", name := "takeWord", desc := "(Ljava/lang/String;)Z" } : Jvm.MethodName)) ∈ am_tbl := am_in (lw_in3 (List.mem_of_getElem? (i := 166) rfl)) (by decide +kernel)
theorem tb_714 : (Jvm.Cond.arrayClass Jvm.ClassFile.FieldType.byte) ∈ am_tbl := am_in (lw_in3 (List.mem_of_getElem? (i := 234) rfl)) (by decide +kernel)
theorem tb_715 : (Jvm.Cond.methodLink "RetraceDeskLaw" (69 : Nat) ({ cls := "RetraceDeskLaw", name := "retrace", desc := "(LRetraceDesk;[J)I" } : Jvm.MethodName)) ∈ am_tbl := am_in (lw_in3 (List.mem_of_getElem? (i := 235) rfl)) (by decide +kernel)
theorem tb_716 : (Jvm.Cond.static ({ cls := "RetraceDeskLaw", name := "retrace", desc := "(LRetraceDesk;[J)I" } : Jvm.MethodName)) ∈ am_tbl := am_in (lw_in3 (List.mem_of_getElem? (i := 236) rfl)) (by decide +kernel)
theorem tb_719 : (Jvm.Cond.methodLink "RetraceDeskLaw" (15 : Nat) ({ cls := "RetraceDesk", name := "retrace", desc := "()I" } : Jvm.MethodName)) ∈ am_tbl := am_in (lw_in3 (List.mem_of_getElem? (i := 239) rfl)) (by decide +kernel)
theorem tb_720 : (Jvm.Cond.instanceMethod ({ cls := "RetraceDesk", name := "retrace", desc := "()I" } : Jvm.MethodName)) ∈ am_tbl := am_in (lw_in4 (List.mem_of_getElem? (i := 0) rfl)) (by decide +kernel)
theorem tb_721 : (Jvm.Cond.selects "RetraceDesk" ({ cls := "RetraceDesk", name := "retrace", desc := "()I" } : Jvm.MethodName) ({ cls := "RetraceDesk", name := "retrace", desc := "()I" } : Jvm.MethodName)) ∈ am_tbl := am_in (lw_in4 (List.mem_of_getElem? (i := 1) rfl)) (by decide +kernel)
theorem tb_722 : (Jvm.Cond.code ({ cls := "RetraceDesk", name := "retrace", desc := "()I" } : Jvm.MethodName) prog_1_method_5_code (2 : Nat) (Option.some Jvm.ClassFile.FieldType.int)) ∈ am_tbl := am_in (lw_in4 (List.mem_of_getElem? (i := 2) rfl)) (by decide +kernel)
theorem tb_723 : (Jvm.Cond.methodLink "RetraceDesk" (94 : Nat) ({ cls := "RetraceDesk", name := "readTrace", desc := "()V" } : Jvm.MethodName)) ∈ am_tbl := am_in (lw_in4 (List.mem_of_getElem? (i := 3) rfl)) (by decide +kernel)
theorem tb_725 : (Jvm.Cond.instanceMethod ({ cls := "RetraceDesk", name := "readTrace", desc := "()V" } : Jvm.MethodName)) ∈ am_tbl := am_in (lw_in4 (List.mem_of_getElem? (i := 5) rfl)) (by decide +kernel)
theorem tb_726 : (Jvm.Cond.code ({ cls := "RetraceDesk", name := "readTrace", desc := "()V" } : Jvm.MethodName) prog_1_method_17_code (2 : Nat) (Option.none : Option Jvm.ClassFile.FieldType)) ∈ am_tbl := am_in (lw_in4 (List.mem_of_getElem? (i := 6) rfl)) (by decide +kernel)
theorem tb_727 : (Jvm.Cond.methodLink "RetraceDesk" (174 : Nat) ({ cls := "RetraceDesk$Trace", name := "begin", desc := "()V" } : Jvm.MethodName)) ∈ am_tbl := am_in (lw_in4 (List.mem_of_getElem? (i := 7) rfl)) (by decide +kernel)
theorem tb_728 : (Jvm.Cond.instanceMethod ({ cls := "RetraceDesk$Trace", name := "begin", desc := "()V" } : Jvm.MethodName)) ∈ am_tbl := am_in (lw_in4 (List.mem_of_getElem? (i := 8) rfl)) (by decide +kernel)
theorem tb_729 : (Jvm.Cond.selects "RetraceDesk$Trace" ({ cls := "RetraceDesk$Trace", name := "begin", desc := "()V" } : Jvm.MethodName) ({ cls := "RetraceDesk$Trace", name := "begin", desc := "()V" } : Jvm.MethodName)) ∈ am_tbl := am_in (lw_in4 (List.mem_of_getElem? (i := 9) rfl)) (by decide +kernel)
theorem tb_730 : (Jvm.Cond.code ({ cls := "RetraceDesk$Trace", name := "begin", desc := "()V" } : Jvm.MethodName) prog_12_method_2_code (1 : Nat) (Option.none : Option Jvm.ClassFile.FieldType)) ∈ am_tbl := am_in (lw_in4 (List.mem_of_getElem? (i := 10) rfl)) (by decide +kernel)
theorem tb_731 : (Jvm.Cond.methodLink "RetraceDesk" (176 : Nat) ({ cls := "RetraceDesk$Text", name := "sizeWithoutEmptyLastLine", desc := "()I" } : Jvm.MethodName)) ∈ am_tbl := am_in (lw_in4 (List.mem_of_getElem? (i := 11) rfl)) (by decide +kernel)
theorem tb_732 : (Jvm.Cond.instanceMethod ({ cls := "RetraceDesk$Text", name := "sizeWithoutEmptyLastLine", desc := "()I" } : Jvm.MethodName)) ∈ am_tbl := am_in (lw_in4 (List.mem_of_getElem? (i := 12) rfl)) (by decide +kernel)
theorem tb_733 : (Jvm.Cond.selects "RetraceDesk$Text" ({ cls := "RetraceDesk$Text", name := "sizeWithoutEmptyLastLine", desc := "()I" } : Jvm.MethodName) ({ cls := "RetraceDesk$Text", name := "sizeWithoutEmptyLastLine", desc := "()I" } : Jvm.MethodName)) ∈ am_tbl := am_in (lw_in4 (List.mem_of_getElem? (i := 13) rfl)) (by decide +kernel)
theorem tb_734 : (Jvm.Cond.code ({ cls := "RetraceDesk$Text", name := "sizeWithoutEmptyLastLine", desc := "()I" } : Jvm.MethodName) prog_11_method_9_code (1 : Nat) (Option.some Jvm.ClassFile.FieldType.int)) ∈ am_tbl := am_in (lw_in4 (List.mem_of_getElem? (i := 14) rfl)) (by decide +kernel)
theorem tb_735 : (Jvm.Cond.methodLink "RetraceDesk" (180 : Nat) ({ cls := "RetraceDesk$Trace", name := "firstWrongLine", desc := "(I)I" } : Jvm.MethodName)) ∈ am_tbl := am_in (lw_in4 (List.mem_of_getElem? (i := 15) rfl)) (by decide +kernel)
theorem tb_736 : (Jvm.Cond.sameMethod "RetraceDesk$Trace" "RetraceDesk$Form" "firstWrongLine" "(I)I") ∈ am_tbl := am_in (lw_in4 (List.mem_of_getElem? (i := 16) rfl)) (by decide +kernel)
theorem tb_737 : (Jvm.Cond.selects "RetraceDesk$Trace" ({ cls := "RetraceDesk$Trace", name := "firstWrongLine", desc := "(I)I" } : Jvm.MethodName) ({ cls := "RetraceDesk$Form", name := "firstWrongLine", desc := "(I)I" } : Jvm.MethodName)) ∈ am_tbl := am_in (lw_in4 (List.mem_of_getElem? (i := 17) rfl)) (by decide +kernel)
theorem tb_738 : (Jvm.Cond.methodLink "RetraceDesk" (97 : Nat) ({ cls := "RetraceDesk", name := "newRewriter", desc := "()LRetraceDesk$Rewriter;" } : Jvm.MethodName)) ∈ am_tbl := am_in (lw_in4 (List.mem_of_getElem? (i := 18) rfl)) (by decide +kernel)
theorem tb_740 : (Jvm.Cond.instanceMethod ({ cls := "RetraceDesk", name := "newRewriter", desc := "()LRetraceDesk$Rewriter;" } : Jvm.MethodName)) ∈ am_tbl := am_in (lw_in4 (List.mem_of_getElem? (i := 20) rfl)) (by decide +kernel)
theorem tb_741 : (Jvm.Cond.code ({ cls := "RetraceDesk", name := "newRewriter", desc := "()LRetraceDesk$Rewriter;" } : Jvm.MethodName) prog_1_method_18_code (1 : Nat) (Option.some (Jvm.ClassFile.FieldType.object "RetraceDesk$Rewriter"))) ∈ am_tbl := am_in (lw_in4 (List.mem_of_getElem? (i := 21) rfl)) (by decide +kernel)
theorem tb_757 : (Jvm.Cond.classLink "RetraceDesk" (102 : Nat) "RetraceDesk$Rewriter") ∈ am_tbl := am_in (lw_in4 (List.mem_of_getElem? (i := 37) rfl)) (by decide +kernel)
theorem tb_758 : (Jvm.Cond.instantiable "RetraceDesk$Rewriter" (5 : Nat)) ∈ am_tbl := am_in (lw_in4 (List.mem_of_getElem? (i := 38) rfl)) (by decide +kernel)
theorem tb_759 : (Jvm.Cond.methodLink "RetraceDesk" (181 : Nat) ({ cls := "RetraceDesk$Rewriter", name := "<init>", desc := "(LRetraceDesk$Trace;LRetraceDesk$Mapping;LRetraceDesk$Text;)V" } : Jvm.MethodName)) ∈ am_tbl := am_in (lw_in4 (List.mem_of_getElem? (i := 39) rfl)) (by decide +kernel)
theorem tb_760 : (Jvm.Cond.instanceMethod ({ cls := "RetraceDesk$Rewriter", name := "<init>", desc := "(LRetraceDesk$Trace;LRetraceDesk$Mapping;LRetraceDesk$Text;)V" } : Jvm.MethodName)) ∈ am_tbl := am_in (lw_in4 (List.mem_of_getElem? (i := 40) rfl)) (by decide +kernel)
theorem tb_761 : (Jvm.Cond.code ({ cls := "RetraceDesk$Rewriter", name := "<init>", desc := "(LRetraceDesk$Trace;LRetraceDesk$Mapping;LRetraceDesk$Text;)V" } : Jvm.MethodName) prog_9_method_1_code (4 : Nat) (Option.none : Option Jvm.ClassFile.FieldType)) ∈ am_tbl := am_in (lw_in4 (List.mem_of_getElem? (i := 41) rfl)) (by decide +kernel)
theorem tb_762 : (Jvm.Cond.methodLink "RetraceDesk$Rewriter" (3 : Nat) ({ cls := "java/lang/Object", name := "<init>", desc := "()V" } : Jvm.MethodName)) ∈ am_tbl := am_in (lw_in4 (List.mem_of_getElem? (i := 42) rfl)) (by decide +kernel)
theorem tb_763 : (Jvm.Cond.fieldLink "RetraceDesk$Rewriter" (9 : Nat) "RetraceDesk$Rewriter" "trace" "LRetraceDesk$Trace;") ∈ am_tbl := am_in (lw_in4 (List.mem_of_getElem? (i := 43) rfl)) (by decide +kernel)
theorem tb_764 : (Jvm.Cond.fieldLink "RetraceDesk$Rewriter" (15 : Nat) "RetraceDesk$Rewriter" "mapping" "LRetraceDesk$Mapping;") ∈ am_tbl := am_in (lw_in4 (List.mem_of_getElem? (i := 44) rfl)) (by decide +kernel)
theorem tb_765 : (Jvm.Cond.fieldLink "RetraceDesk$Rewriter" (19 : Nat) "RetraceDesk$Rewriter" "print" "LRetraceDesk$Text;") ∈ am_tbl := am_in (lw_in4 (List.mem_of_getElem? (i := 45) rfl)) (by decide +kernel)
theorem tb_766 : (Jvm.Cond.fieldLink "RetraceDesk" (113 : Nat) "RetraceDesk$Rewriter" "frameCount" "I") ∈ am_tbl := am_in (lw_in4 (List.mem_of_getElem? (i := 46) rfl)) (by decide +kernel)
theorem tb_767 : (Jvm.Cond.fieldLink "RetraceDesk$Rewriter" (232 : Nat) "RetraceDesk$Rewriter" "frameCount" "I") ∈ am_tbl := am_in (lw_in4 (List.mem_of_getElem? (i := 47) rfl)) (by decide +kernel)
theorem tb_768 : (Jvm.Cond.fieldLink "RetraceDesk$Rewriter" (114 : Nat) "RetraceDesk$Rewriter" "doubtfulCount" "I") ∈ am_tbl := am_in (lw_in4 (List.mem_of_getElem? (i := 48) rfl)) (by decide +kernel)
theorem tb_769 : (Jvm.Cond.fieldLink "RetraceDesk" (187 : Nat) "RetraceDesk$Rewriter" "doubtfulCount" "I") ∈ am_tbl := am_in (lw_in4 (List.mem_of_getElem? (i := 49) rfl)) (by decide +kernel)
theorem tb_770 : (Jvm.Cond.laysFinal "RetraceDesk$Rewriter" "RetraceDesk$Rewriter" "trace" "LRetraceDesk$Trace;") ∈ am_tbl := am_in (lw_in4 (List.mem_of_getElem? (i := 50) rfl)) (by decide +kernel)
theorem tb_772 : (Jvm.Cond.laysFinal "RetraceDesk$Rewriter" "RetraceDesk$Rewriter" "mapping" "LRetraceDesk$Mapping;") ∈ am_tbl := am_in (lw_in4 (List.mem_of_getElem? (i := 52) rfl)) (by decide +kernel)
theorem tb_774 : (Jvm.Cond.laysFinal "RetraceDesk$Rewriter" "RetraceDesk$Rewriter" "print" "LRetraceDesk$Text;") ∈ am_tbl := am_in (lw_in4 (List.mem_of_getElem? (i := 54) rfl)) (by decide +kernel)
theorem tb_776 : (Jvm.Cond.lays "RetraceDesk$Rewriter" "RetraceDesk$Rewriter" "frameCount" "I") ∈ am_tbl := am_in (lw_in4 (List.mem_of_getElem? (i := 56) rfl)) (by decide +kernel)
theorem tb_778 : (Jvm.Cond.lays "RetraceDesk$Rewriter" "RetraceDesk$Rewriter" "doubtfulCount" "I") ∈ am_tbl := am_in (lw_in4 (List.mem_of_getElem? (i := 58) rfl)) (by decide +kernel)
theorem tb_781 : (Jvm.Cond.methodLink "RetraceDesk" (101 : Nat) ({ cls := "RetraceDesk$Rewriter", name := "retraceTrace", desc := "()V" } : Jvm.MethodName)) ∈ am_tbl := am_in (lw_in4 (List.mem_of_getElem? (i := 61) rfl)) (by decide +kernel)
theorem tb_782 : (Jvm.Cond.instanceMethod ({ cls := "RetraceDesk$Rewriter", name := "retraceTrace", desc := "()V" } : Jvm.MethodName)) ∈ am_tbl := am_in (lw_in4 (List.mem_of_getElem? (i := 62) rfl)) (by decide +kernel)
theorem tb_783 : (Jvm.Cond.selects "RetraceDesk$Rewriter" ({ cls := "RetraceDesk$Rewriter", name := "retraceTrace", desc := "()V" } : Jvm.MethodName) ({ cls := "RetraceDesk$Rewriter", name := "retraceTrace", desc := "()V" } : Jvm.MethodName)) ∈ am_tbl := am_in (lw_in4 (List.mem_of_getElem? (i := 63) rfl)) (by decide +kernel)
theorem tb_784 : (Jvm.Cond.code ({ cls := "RetraceDesk$Rewriter", name := "retraceTrace", desc := "()V" } : Jvm.MethodName) prog_9_method_2_code (5 : Nat) (Option.none : Option Jvm.ClassFile.FieldType)) ∈ am_tbl := am_in (lw_in4 (List.mem_of_getElem? (i := 64) rfl)) (by decide +kernel)
theorem tb_785 : (Jvm.Cond.methodLink "RetraceDesk$Rewriter" (39 : Nat) ({ cls := "RetraceDesk$Mapping", name := "lineOfShort", desc := "(LRetraceDesk$Slice;)LRetraceDesk$ClassLine;" } : Jvm.MethodName)) ∈ am_tbl := am_in (lw_in4 (List.mem_of_getElem? (i := 65) rfl)) (by decide +kernel)
theorem tb_786 : (Jvm.Cond.methodLink "RetraceDesk$Rewriter" (50 : Nat) ({ cls := "RetraceDesk$Rewriter", name := "writeHeader", desc := "(ILRetraceDesk$Slice;)V" } : Jvm.MethodName)) ∈ am_tbl := am_in (lw_in4 (List.mem_of_getElem? (i := 66) rfl)) (by decide +kernel)
theorem tb_788 : (Jvm.Cond.instanceMethod ({ cls := "RetraceDesk$Rewriter", name := "writeHeader", desc := "(ILRetraceDesk$Slice;)V" } : Jvm.MethodName)) ∈ am_tbl := am_in (lw_in4 (List.mem_of_getElem? (i := 68) rfl)) (by decide +kernel)
theorem tb_789 : (Jvm.Cond.code ({ cls := "RetraceDesk$Rewriter", name := "writeHeader", desc := "(ILRetraceDesk$Slice;)V" } : Jvm.MethodName) prog_9_method_9_code (4 : Nat) (Option.none : Option Jvm.ClassFile.FieldType)) ∈ am_tbl := am_in (lw_in4 (List.mem_of_getElem? (i := 69) rfl)) (by decide +kernel)
theorem tb_791 : (Jvm.Cond.methodLink "RetraceDesk$Rewriter" (175 : Nat) ({ cls := "RetraceDesk$Text", name := "addWord", desc := "(Ljava/lang/String;)V" } : Jvm.MethodName)) ∈ am_tbl := am_in (lw_in4 (List.mem_of_getElem? (i := 71) rfl)) (by decide +kernel)
theorem tb_792 : (Jvm.Cond.instanceMethod ({ cls := "RetraceDesk$Text", name := "addWord", desc := "(Ljava/lang/String;)V" } : Jvm.MethodName)) ∈ am_tbl := am_in (lw_in4 (List.mem_of_getElem? (i := 72) rfl)) (by decide +kernel)
theorem tb_793 : (Jvm.Cond.selects "RetraceDesk$Text" ({ cls := "RetraceDesk$Text", name := "addWord", desc := "(Ljava/lang/String;)V" } : Jvm.MethodName) ({ cls := "RetraceDesk$Text", name := "addWord", desc := "(Ljava/lang/String;)V" } : Jvm.MethodName)) ∈ am_tbl := am_in (lw_in4 (List.mem_of_getElem? (i := 73) rfl)) (by decide +kernel)
theorem tb_794 : (Jvm.Cond.code ({ cls := "RetraceDesk$Text", name := "addWord", desc := "(Ljava/lang/String;)V" } : Jvm.MethodName) prog_11_method_4_code (3 : Nat) (Option.none : Option Jvm.ClassFile.FieldType)) ∈ am_tbl := am_in (lw_in4 (List.mem_of_getElem? (i := 74) rfl)) (by decide +kernel)
theorem tb_795 : (Jvm.Cond.methodLink "RetraceDesk$Text" (23 : Nat) ({ cls := "java/lang/String", name := "length", desc := "()I" } : Jvm.MethodName)) ∈ am_tbl := am_in (lw_in4 (List.mem_of_getElem? (i := 75) rfl)) (by decide +kernel)
theorem tb_796 : (Jvm.Cond.methodLink "RetraceDesk$Text" (29 : Nat) ({ cls := "java/lang/String", name := "charAt", desc := "(I)C" } : Jvm.MethodName)) ∈ am_tbl := am_in (lw_in4 (List.mem_of_getElem? (i := 76) rfl)) (by decide +kernel)
theorem tb_797 : (Jvm.Cond.methodLink "RetraceDesk$Text" (33 : Nat) ({ cls := "RetraceDesk$Text", name := "add", desc := "(C)V" } : Jvm.MethodName)) ∈ am_tbl := am_in (lw_in4 (List.mem_of_getElem? (i := 77) rfl)) (by decide +kernel)
theorem tb_798 : (Jvm.Cond.methodLink "RetraceDesk$Rewriter" (198 : Nat) ({ cls := "RetraceDesk$Text", name := "addSlice", desc := "(LRetraceDesk$Slice;)V" } : Jvm.MethodName)) ∈ am_tbl := am_in (lw_in4 (List.mem_of_getElem? (i := 78) rfl)) (by decide +kernel)
theorem tb_799 : (Jvm.Cond.instanceMethod ({ cls := "RetraceDesk$Text", name := "addSlice", desc := "(LRetraceDesk$Slice;)V" } : Jvm.MethodName)) ∈ am_tbl := am_in (lw_in4 (List.mem_of_getElem? (i := 79) rfl)) (by decide +kernel)
theorem tb_800 : (Jvm.Cond.selects "RetraceDesk$Text" ({ cls := "RetraceDesk$Text", name := "addSlice", desc := "(LRetraceDesk$Slice;)V" } : Jvm.MethodName) ({ cls := "RetraceDesk$Text", name := "addSlice", desc := "(LRetraceDesk$Slice;)V" } : Jvm.MethodName)) ∈ am_tbl := am_in (lw_in4 (List.mem_of_getElem? (i := 80) rfl)) (by decide +kernel)
theorem tb_801 : (Jvm.Cond.code ({ cls := "RetraceDesk$Text", name := "addSlice", desc := "(LRetraceDesk$Slice;)V" } : Jvm.MethodName) prog_11_method_5_code (2 : Nat) (Option.none : Option Jvm.ClassFile.FieldType)) ∈ am_tbl := am_in (lw_in4 (List.mem_of_getElem? (i := 81) rfl)) (by decide +kernel)
theorem tb_802 : (Jvm.Cond.methodLink "RetraceDesk$Text" (46 : Nat) ({ cls := "RetraceDesk$Text", name := "addSpan", desc := "([CII)V" } : Jvm.MethodName)) ∈ am_tbl := am_in (lw_in4 (List.mem_of_getElem? (i := 82) rfl)) (by decide +kernel)
theorem tb_803 : (Jvm.Cond.instanceMethod ({ cls := "RetraceDesk$Text", name := "addSpan", desc := "([CII)V" } : Jvm.MethodName)) ∈ am_tbl := am_in (lw_in4 (List.mem_of_getElem? (i := 83) rfl)) (by decide +kernel)
theorem tb_804 : (Jvm.Cond.selects "RetraceDesk$Text" ({ cls := "RetraceDesk$Text", name := "addSpan", desc := "([CII)V" } : Jvm.MethodName) ({ cls := "RetraceDesk$Text", name := "addSpan", desc := "([CII)V" } : Jvm.MethodName)) ∈ am_tbl := am_in (lw_in4 (List.mem_of_getElem? (i := 84) rfl)) (by decide +kernel)
theorem tb_805 : (Jvm.Cond.code ({ cls := "RetraceDesk$Text", name := "addSpan", desc := "([CII)V" } : Jvm.MethodName) prog_11_method_6_code (4 : Nat) (Option.none : Option Jvm.ClassFile.FieldType)) ∈ am_tbl := am_in (lw_in4 (List.mem_of_getElem? (i := 85) rfl)) (by decide +kernel)
theorem tb_806 : (Jvm.Cond.methodLink "RetraceDesk$Text" (50 : Nat) ({ cls := "java/lang/System", name := "arraycopy", desc := "(Ljava/lang/Object;ILjava/lang/Object;II)V" } : Jvm.MethodName)) ∈ am_tbl := am_in (lw_in4 (List.mem_of_getElem? (i := 86) rfl)) (by decide +kernel)
theorem tb_808 : (Jvm.Cond.methodLink "RetraceDesk$Rewriter" (210 : Nat) ({ cls := "RetraceDesk$Text", name := "add", desc := "(C)V" } : Jvm.MethodName)) ∈ am_tbl := am_in (lw_in4 (List.mem_of_getElem? (i := 88) rfl)) (by decide +kernel)
theorem tb_809 : (Jvm.Cond.methodLink "RetraceDesk$Rewriter" (64 : Nat) ({ cls := "RetraceDesk$Rewriter", name := "retraceFrame", desc := "(LRetraceDesk$Frame;)V" } : Jvm.MethodName)) ∈ am_tbl := am_in (lw_in4 (List.mem_of_getElem? (i := 89) rfl)) (by decide +kernel)
theorem tb_811 : (Jvm.Cond.instanceMethod ({ cls := "RetraceDesk$Rewriter", name := "retraceFrame", desc := "(LRetraceDesk$Frame;)V" } : Jvm.MethodName)) ∈ am_tbl := am_in (lw_in4 (List.mem_of_getElem? (i := 91) rfl)) (by decide +kernel)
theorem tb_812 : (Jvm.Cond.code ({ cls := "RetraceDesk$Rewriter", name := "retraceFrame", desc := "(LRetraceDesk$Frame;)V" } : Jvm.MethodName) prog_9_method_3_code (6 : Nat) (Option.none : Option Jvm.ClassFile.FieldType)) ∈ am_tbl := am_in (lw_in4 (List.mem_of_getElem? (i := 92) rfl)) (by decide +kernel)
theorem tb_813 : (Jvm.Cond.methodLink "RetraceDesk$Rewriter" (77 : Nat) ({ cls := "RetraceDesk$Rewriter", name := "writeUnchanged", desc := "(LRetraceDesk$Frame;)V" } : Jvm.MethodName)) ∈ am_tbl := am_in (lw_in4 (List.mem_of_getElem? (i := 93) rfl)) (by decide +kernel)
theorem tb_815 : (Jvm.Cond.instanceMethod ({ cls := "RetraceDesk$Rewriter", name := "writeUnchanged", desc := "(LRetraceDesk$Frame;)V" } : Jvm.MethodName)) ∈ am_tbl := am_in (lw_in4 (List.mem_of_getElem? (i := 95) rfl)) (by decide +kernel)
theorem tb_816 : (Jvm.Cond.code ({ cls := "RetraceDesk$Rewriter", name := "writeUnchanged", desc := "(LRetraceDesk$Frame;)V" } : Jvm.MethodName) prog_9_method_11_code (2 : Nat) (Option.none : Option Jvm.ClassFile.FieldType)) ∈ am_tbl := am_in (lw_in4 (List.mem_of_getElem? (i := 96) rfl)) (by decide +kernel)
theorem tb_817 : (Jvm.Cond.methodLink "RetraceDesk$Rewriter" (131 : Nat) ({ cls := "RetraceDesk$Rewriter", name := "openFrame", desc := "(LRetraceDesk$Slice;LRetraceDesk$Slice;)V" } : Jvm.MethodName)) ∈ am_tbl := am_in (lw_in4 (List.mem_of_getElem? (i := 97) rfl)) (by decide +kernel)
theorem tb_819 : (Jvm.Cond.instanceMethod ({ cls := "RetraceDesk$Rewriter", name := "openFrame", desc := "(LRetraceDesk$Slice;LRetraceDesk$Slice;)V" } : Jvm.MethodName)) ∈ am_tbl := am_in (lw_in4 (List.mem_of_getElem? (i := 99) rfl)) (by decide +kernel)
theorem tb_820 : (Jvm.Cond.code ({ cls := "RetraceDesk$Rewriter", name := "openFrame", desc := "(LRetraceDesk$Slice;LRetraceDesk$Slice;)V" } : Jvm.MethodName) prog_9_method_14_code (3 : Nat) (Option.none : Option Jvm.ClassFile.FieldType)) ∈ am_tbl := am_in (lw_in4 (List.mem_of_getElem? (i := 100) rfl)) (by decide +kernel)
theorem tb_822 : (Jvm.Cond.methodLink "RetraceDesk$Rewriter" (144 : Nat) ({ cls := "RetraceDesk$Rewriter", name := "closeFrame", desc := "(I)V" } : Jvm.MethodName)) ∈ am_tbl := am_in (lw_in4 (List.mem_of_getElem? (i := 102) rfl)) (by decide +kernel)
theorem tb_824 : (Jvm.Cond.instanceMethod ({ cls := "RetraceDesk$Rewriter", name := "closeFrame", desc := "(I)V" } : Jvm.MethodName)) ∈ am_tbl := am_in (lw_in4 (List.mem_of_getElem? (i := 104) rfl)) (by decide +kernel)
theorem tb_825 : (Jvm.Cond.code ({ cls := "RetraceDesk$Rewriter", name := "closeFrame", desc := "(I)V" } : Jvm.MethodName) prog_9_method_15_code (2 : Nat) (Option.none : Option Jvm.ClassFile.FieldType)) ∈ am_tbl := am_in (lw_in4 (List.mem_of_getElem? (i := 105) rfl)) (by decide +kernel)
theorem tb_826 : (Jvm.Cond.methodLink "RetraceDesk$Rewriter" (219 : Nat) ({ cls := "RetraceDesk$Text", name := "addNumber", desc := "(I)V" } : Jvm.MethodName)) ∈ am_tbl := am_in (lw_in4 (List.mem_of_getElem? (i := 106) rfl)) (by decide +kernel)
theorem tb_827 : (Jvm.Cond.instanceMethod ({ cls := "RetraceDesk$Text", name := "addNumber", desc := "(I)V" } : Jvm.MethodName)) ∈ am_tbl := am_in (lw_in4 (List.mem_of_getElem? (i := 107) rfl)) (by decide +kernel)
theorem tb_828 : (Jvm.Cond.selects "RetraceDesk$Text" ({ cls := "RetraceDesk$Text", name := "addNumber", desc := "(I)V" } : Jvm.MethodName) ({ cls := "RetraceDesk$Text", name := "addNumber", desc := "(I)V" } : Jvm.MethodName)) ∈ am_tbl := am_in (lw_in4 (List.mem_of_getElem? (i := 108) rfl)) (by decide +kernel)
theorem tb_829 : (Jvm.Cond.code ({ cls := "RetraceDesk$Text", name := "addNumber", desc := "(I)V" } : Jvm.MethodName) prog_11_method_7_code (3 : Nat) (Option.none : Option Jvm.ClassFile.FieldType)) ∈ am_tbl := am_in (lw_in4 (List.mem_of_getElem? (i := 109) rfl)) (by decide +kernel)
theorem tb_831 : (Jvm.Cond.methodLink "RetraceDesk$Rewriter" (86 : Nat) ({ cls := "RetraceDesk$Mapping", name := "groupAround", desc := "(LRetraceDesk$ClassLine;LRetraceDesk$Slice;I)I" } : Jvm.MethodName)) ∈ am_tbl := am_in (lw_in4 (List.mem_of_getElem? (i := 111) rfl)) (by decide +kernel)
theorem tb_832 : (Jvm.Cond.instanceMethod ({ cls := "RetraceDesk$Mapping", name := "groupAround", desc := "(LRetraceDesk$ClassLine;LRetraceDesk$Slice;I)I" } : Jvm.MethodName)) ∈ am_tbl := am_in (lw_in4 (List.mem_of_getElem? (i := 112) rfl)) (by decide +kernel)
theorem tb_833 : (Jvm.Cond.selects "RetraceDesk$Mapping" ({ cls := "RetraceDesk$Mapping", name := "groupAround", desc := "(LRetraceDesk$ClassLine;LRetraceDesk$Slice;I)I" } : Jvm.MethodName) ({ cls := "RetraceDesk$Mapping", name := "groupAround", desc := "(LRetraceDesk$ClassLine;LRetraceDesk$Slice;I)I" } : Jvm.MethodName)) ∈ am_tbl := am_in (lw_in4 (List.mem_of_getElem? (i := 113) rfl)) (by decide +kernel)
theorem tb_834 : (Jvm.Cond.code ({ cls := "RetraceDesk$Mapping", name := "groupAround", desc := "(LRetraceDesk$ClassLine;LRetraceDesk$Slice;I)I" } : Jvm.MethodName) prog_7_method_14_code (6 : Nat) (Option.some Jvm.ClassFile.FieldType.int)) ∈ am_tbl := am_in (lw_in4 (List.mem_of_getElem? (i := 114) rfl)) (by decide +kernel)
theorem tb_835 : (Jvm.Cond.methodLink "RetraceDesk$Mapping" (180 : Nat) ({ cls := "RetraceDesk$Mapping", name := "isGroup", desc := "(ILRetraceDesk$Slice;)Z" } : Jvm.MethodName)) ∈ am_tbl := am_in (lw_in4 (List.mem_of_getElem? (i := 115) rfl)) (by decide +kernel)
theorem tb_837 : (Jvm.Cond.instanceMethod ({ cls := "RetraceDesk$Mapping", name := "isGroup", desc := "(ILRetraceDesk$Slice;)Z" } : Jvm.MethodName)) ∈ am_tbl := am_in (lw_in4 (List.mem_of_getElem? (i := 117) rfl)) (by decide +kernel)
theorem tb_838 : (Jvm.Cond.code ({ cls := "RetraceDesk$Mapping", name := "isGroup", desc := "(ILRetraceDesk$Slice;)Z" } : Jvm.MethodName) prog_7_method_12_code (3 : Nat) (Option.some Jvm.ClassFile.FieldType.boolean)) ∈ am_tbl := am_in (lw_in4 (List.mem_of_getElem? (i := 118) rfl)) (by decide +kernel)
theorem tb_839 : (Jvm.Cond.methodLink "RetraceDesk$Rewriter" (90 : Nat) ({ cls := "RetraceDesk$Rewriter", name := "writeInlined", desc := "(II)V" } : Jvm.MethodName)) ∈ am_tbl := am_in (lw_in4 (List.mem_of_getElem? (i := 119) rfl)) (by decide +kernel)
theorem tb_841 : (Jvm.Cond.instanceMethod ({ cls := "RetraceDesk$Rewriter", name := "writeInlined", desc := "(II)V" } : Jvm.MethodName)) ∈ am_tbl := am_in (lw_in4 (List.mem_of_getElem? (i := 121) rfl)) (by decide +kernel)
theorem tb_842 : (Jvm.Cond.code ({ cls := "RetraceDesk$Rewriter", name := "writeInlined", desc := "(II)V" } : Jvm.MethodName) prog_9_method_4_code (7 : Nat) (Option.none : Option Jvm.ClassFile.FieldType)) ∈ am_tbl := am_in (lw_in4 (List.mem_of_getElem? (i := 122) rfl)) (by decide +kernel)
theorem tb_843 : (Jvm.Cond.methodLink "RetraceDesk$Rewriter" (124 : Nat) ({ cls := "RetraceDesk$MethodLine", name := "hasOneRealLine", desc := "()Z" } : Jvm.MethodName)) ∈ am_tbl := am_in (lw_in4 (List.mem_of_getElem? (i := 123) rfl)) (by decide +kernel)
theorem tb_844 : (Jvm.Cond.methodLink "RetraceDesk$Rewriter" (135 : Nat) ({ cls := "RetraceDesk$Text", name := "addFileOf", desc := "(LRetraceDesk$Slice;)V" } : Jvm.MethodName)) ∈ am_tbl := am_in (lw_in4 (List.mem_of_getElem? (i := 124) rfl)) (by decide +kernel)
theorem tb_845 : (Jvm.Cond.instanceMethod ({ cls := "RetraceDesk$Text", name := "addFileOf", desc := "(LRetraceDesk$Slice;)V" } : Jvm.MethodName)) ∈ am_tbl := am_in (lw_in4 (List.mem_of_getElem? (i := 125) rfl)) (by decide +kernel)
theorem tb_846 : (Jvm.Cond.selects "RetraceDesk$Text" ({ cls := "RetraceDesk$Text", name := "addFileOf", desc := "(LRetraceDesk$Slice;)V" } : Jvm.MethodName) ({ cls := "RetraceDesk$Text", name := "addFileOf", desc := "(LRetraceDesk$Slice;)V" } : Jvm.MethodName)) ∈ am_tbl := am_in (lw_in4 (List.mem_of_getElem? (i := 126) rfl)) (by decide +kernel)
theorem tb_847 : (Jvm.Cond.code ({ cls := "RetraceDesk$Text", name := "addFileOf", desc := "(LRetraceDesk$Slice;)V" } : Jvm.MethodName) prog_11_method_8_code (5 : Nat) (Option.none : Option Jvm.ClassFile.FieldType)) ∈ am_tbl := am_in (lw_in4 (List.mem_of_getElem? (i := 127) rfl)) (by decide +kernel)
theorem tb_848 : (Jvm.Cond.methodLink "RetraceDesk$Text" (56 : Nat) ({ cls := "RetraceDesk$Slice", name := "lastPoint", desc := "()I" } : Jvm.MethodName)) ∈ am_tbl := am_in (lw_in4 (List.mem_of_getElem? (i := 128) rfl)) (by decide +kernel)
theorem tb_850 : (Jvm.Cond.methodLink "RetraceDesk$Text" (61 : Nat) ({ cls := "RetraceDesk$Text", name := "addWord", desc := "(Ljava/lang/String;)V" } : Jvm.MethodName)) ∈ am_tbl := am_in (lw_in4 (List.mem_of_getElem? (i := 130) rfl)) (by decide +kernel)
theorem tb_851 : (Jvm.Cond.methodLink "RetraceDesk$Rewriter" (94 : Nat) ({ cls := "RetraceDesk$Mapping", name := "firstGroup", desc := "(LRetraceDesk$ClassLine;LRetraceDesk$Slice;)I" } : Jvm.MethodName)) ∈ am_tbl := am_in (lw_in4 (List.mem_of_getElem? (i := 131) rfl)) (by decide +kernel)
theorem tb_852 : (Jvm.Cond.instanceMethod ({ cls := "RetraceDesk$Mapping", name := "firstGroup", desc := "(LRetraceDesk$ClassLine;LRetraceDesk$Slice;)I" } : Jvm.MethodName)) ∈ am_tbl := am_in (lw_in4 (List.mem_of_getElem? (i := 132) rfl)) (by decide +kernel)
theorem tb_853 : (Jvm.Cond.selects "RetraceDesk$Mapping" ({ cls := "RetraceDesk$Mapping", name := "firstGroup", desc := "(LRetraceDesk$ClassLine;LRetraceDesk$Slice;)I" } : Jvm.MethodName) ({ cls := "RetraceDesk$Mapping", name := "firstGroup", desc := "(LRetraceDesk$ClassLine;LRetraceDesk$Slice;)I" } : Jvm.MethodName)) ∈ am_tbl := am_in (lw_in4 (List.mem_of_getElem? (i := 133) rfl)) (by decide +kernel)
theorem tb_854 : (Jvm.Cond.code ({ cls := "RetraceDesk$Mapping", name := "firstGroup", desc := "(LRetraceDesk$ClassLine;LRetraceDesk$Slice;)I" } : Jvm.MethodName) prog_7_method_13_code (4 : Nat) (Option.some Jvm.ClassFile.FieldType.int)) ∈ am_tbl := am_in (lw_in4 (List.mem_of_getElem? (i := 134) rfl)) (by decide +kernel)
theorem tb_855 : (Jvm.Cond.methodLink "RetraceDesk$Rewriter" (98 : Nat) ({ cls := "RetraceDesk$Rewriter", name := "writeReal", desc := "(LRetraceDesk$Slice;LRetraceDesk$Slice;LRetraceDesk$Frame;)V" } : Jvm.MethodName)) ∈ am_tbl := am_in (lw_in4 (List.mem_of_getElem? (i := 135) rfl)) (by decide +kernel)
theorem tb_857 : (Jvm.Cond.instanceMethod ({ cls := "RetraceDesk$Rewriter", name := "writeReal", desc := "(LRetraceDesk$Slice;LRetraceDesk$Slice;LRetraceDesk$Frame;)V" } : Jvm.MethodName)) ∈ am_tbl := am_in (lw_in4 (List.mem_of_getElem? (i := 137) rfl)) (by decide +kernel)
theorem tb_858 : (Jvm.Cond.code ({ cls := "RetraceDesk$Rewriter", name := "writeReal", desc := "(LRetraceDesk$Slice;LRetraceDesk$Slice;LRetraceDesk$Frame;)V" } : Jvm.MethodName) prog_9_method_12_code (4 : Nat) (Option.none : Option Jvm.ClassFile.FieldType)) ∈ am_tbl := am_in (lw_in4 (List.mem_of_getElem? (i := 138) rfl)) (by decide +kernel)
theorem tb_859 : (Jvm.Cond.methodLink "RetraceDesk$Rewriter" (102 : Nat) ({ cls := "RetraceDesk$Mapping", name := "lastLineOf", desc := "(I)LRetraceDesk$MethodLine;" } : Jvm.MethodName)) ∈ am_tbl := am_in (lw_in4 (List.mem_of_getElem? (i := 139) rfl)) (by decide +kernel)
theorem tb_860 : (Jvm.Cond.instanceMethod ({ cls := "RetraceDesk$Mapping", name := "lastLineOf", desc := "(I)LRetraceDesk$MethodLine;" } : Jvm.MethodName)) ∈ am_tbl := am_in (lw_in4 (List.mem_of_getElem? (i := 140) rfl)) (by decide +kernel)
theorem tb_861 : (Jvm.Cond.selects "RetraceDesk$Mapping" ({ cls := "RetraceDesk$Mapping", name := "lastLineOf", desc := "(I)LRetraceDesk$MethodLine;" } : Jvm.MethodName) ({ cls := "RetraceDesk$Mapping", name := "lastLineOf", desc := "(I)LRetraceDesk$MethodLine;" } : Jvm.MethodName)) ∈ am_tbl := am_in (lw_in4 (List.mem_of_getElem? (i := 141) rfl)) (by decide +kernel)
theorem tb_862 : (Jvm.Cond.code ({ cls := "RetraceDesk$Mapping", name := "lastLineOf", desc := "(I)LRetraceDesk$MethodLine;" } : Jvm.MethodName) prog_7_method_17_code (2 : Nat) (Option.some (Jvm.ClassFile.FieldType.object "RetraceDesk$MethodLine"))) ∈ am_tbl := am_in (lw_in4 (List.mem_of_getElem? (i := 142) rfl)) (by decide +kernel)
theorem tb_863 : (Jvm.Cond.methodLink "RetraceDesk$Rewriter" (110 : Nat) ({ cls := "RetraceDesk$Mapping", name := "hasUnlikeGroups", desc := "(LRetraceDesk$ClassLine;LRetraceDesk$Slice;LRetraceDesk$MethodLine;)Z" } : Jvm.MethodName)) ∈ am_tbl := am_in (lw_in4 (List.mem_of_getElem? (i := 143) rfl)) (by decide +kernel)
theorem tb_864 : (Jvm.Cond.instanceMethod ({ cls := "RetraceDesk$Mapping", name := "hasUnlikeGroups", desc := "(LRetraceDesk$ClassLine;LRetraceDesk$Slice;LRetraceDesk$MethodLine;)Z" } : Jvm.MethodName)) ∈ am_tbl := am_in (lw_in4 (List.mem_of_getElem? (i := 144) rfl)) (by decide +kernel)
theorem tb_865 : (Jvm.Cond.selects "RetraceDesk$Mapping" ({ cls := "RetraceDesk$Mapping", name := "hasUnlikeGroups", desc := "(LRetraceDesk$ClassLine;LRetraceDesk$Slice;LRetraceDesk$MethodLine;)Z" } : Jvm.MethodName) ({ cls := "RetraceDesk$Mapping", name := "hasUnlikeGroups", desc := "(LRetraceDesk$ClassLine;LRetraceDesk$Slice;LRetraceDesk$MethodLine;)Z" } : Jvm.MethodName)) ∈ am_tbl := am_in (lw_in4 (List.mem_of_getElem? (i := 145) rfl)) (by decide +kernel)
theorem tb_866 : (Jvm.Cond.code ({ cls := "RetraceDesk$Mapping", name := "hasUnlikeGroups", desc := "(LRetraceDesk$ClassLine;LRetraceDesk$Slice;LRetraceDesk$MethodLine;)Z" } : Jvm.MethodName) prog_7_method_15_code (5 : Nat) (Option.some Jvm.ClassFile.FieldType.boolean)) ∈ am_tbl := am_in (lw_in4 (List.mem_of_getElem? (i := 146) rfl)) (by decide +kernel)
theorem tb_867 : (Jvm.Cond.methodLink "RetraceDesk$Mapping" (184 : Nat) ({ cls := "RetraceDesk$Mapping", name := "lastLineOf", desc := "(I)LRetraceDesk$MethodLine;" } : Jvm.MethodName)) ∈ am_tbl := am_in (lw_in4 (List.mem_of_getElem? (i := 147) rfl)) (by decide +kernel)
theorem tb_868 : (Jvm.Cond.methodLink "RetraceDesk$Mapping" (188 : Nat) ({ cls := "RetraceDesk$MethodLine", name := "isRealCall", desc := "(LRetraceDesk$Slice;LRetraceDesk$Slice;)Z" } : Jvm.MethodName)) ∈ am_tbl := am_in (lw_in4 (List.mem_of_getElem? (i := 148) rfl)) (by decide +kernel)
theorem tb_869 : (Jvm.Cond.instanceMethod ({ cls := "RetraceDesk$MethodLine", name := "isRealCall", desc := "(LRetraceDesk$Slice;LRetraceDesk$Slice;)Z" } : Jvm.MethodName)) ∈ am_tbl := am_in (lw_in4 (List.mem_of_getElem? (i := 149) rfl)) (by decide +kernel)
theorem tb_870 : (Jvm.Cond.selects "RetraceDesk$MethodLine" ({ cls := "RetraceDesk$MethodLine", name := "isRealCall", desc := "(LRetraceDesk$Slice;LRetraceDesk$Slice;)Z" } : Jvm.MethodName) ({ cls := "RetraceDesk$MethodLine", name := "isRealCall", desc := "(LRetraceDesk$Slice;LRetraceDesk$Slice;)Z" } : Jvm.MethodName)) ∈ am_tbl := am_in (lw_in4 (List.mem_of_getElem? (i := 150) rfl)) (by decide +kernel)
theorem tb_871 : (Jvm.Cond.code ({ cls := "RetraceDesk$MethodLine", name := "isRealCall", desc := "(LRetraceDesk$Slice;LRetraceDesk$Slice;)Z" } : Jvm.MethodName) prog_8_method_4_code (3 : Nat) (Option.some Jvm.ClassFile.FieldType.boolean)) ∈ am_tbl := am_in (lw_in4 (List.mem_of_getElem? (i := 151) rfl)) (by decide +kernel)
theorem tb_872 : (Jvm.Cond.methodLink "RetraceDesk$Rewriter" (68 : Nat) ({ cls := "RetraceDesk$Rewriter", name := "writeMore", desc := "(LRetraceDesk$Header;)V" } : Jvm.MethodName)) ∈ am_tbl := am_in (lw_in4 (List.mem_of_getElem? (i := 152) rfl)) (by decide +kernel)
theorem tb_874 : (Jvm.Cond.instanceMethod ({ cls := "RetraceDesk$Rewriter", name := "writeMore", desc := "(LRetraceDesk$Header;)V" } : Jvm.MethodName)) ∈ am_tbl := am_in (lw_in4 (List.mem_of_getElem? (i := 154) rfl)) (by decide +kernel)
theorem tb_875 : (Jvm.Cond.code ({ cls := "RetraceDesk$Rewriter", name := "writeMore", desc := "(LRetraceDesk$Header;)V" } : Jvm.MethodName) prog_9_method_10_code (2 : Nat) (Option.none : Option Jvm.ClassFile.FieldType)) ∈ am_tbl := am_in (lw_in4 (List.mem_of_getElem? (i := 155) rfl)) (by decide +kernel)
theorem tb_878 : (Jvm.Cond.methodLink "RetraceDesk" (106 : Nat) ({ cls := "RetraceDesk", name := "refuseLongPrint", desc := "()V" } : Jvm.MethodName)) ∈ am_tbl := am_in (lw_in4 (List.mem_of_getElem? (i := 158) rfl)) (by decide +kernel)
theorem tb_880 : (Jvm.Cond.instanceMethod ({ cls := "RetraceDesk", name := "refuseLongPrint", desc := "()V" } : Jvm.MethodName)) ∈ am_tbl := am_in (lw_in4 (List.mem_of_getElem? (i := 160) rfl)) (by decide +kernel)
theorem tb_881 : (Jvm.Cond.code ({ cls := "RetraceDesk", name := "refuseLongPrint", desc := "()V" } : Jvm.MethodName) prog_1_method_19_code (1 : Nat) (Option.none : Option Jvm.ClassFile.FieldType)) ∈ am_tbl := am_in (lw_in4 (List.mem_of_getElem? (i := 161) rfl)) (by decide +kernel)
theorem tb_882 : (Jvm.Cond.methodLink "RetraceDesk" (109 : Nat) ({ cls := "RetraceDesk", name := "keepRetraced", desc := "(LRetraceDesk$Rewriter;)V" } : Jvm.MethodName)) ∈ am_tbl := am_in (lw_in4 (List.mem_of_getElem? (i := 162) rfl)) (by decide +kernel)
theorem tb_884 : (Jvm.Cond.instanceMethod ({ cls := "RetraceDesk", name := "keepRetraced", desc := "(LRetraceDesk$Rewriter;)V" } : Jvm.MethodName)) ∈ am_tbl := am_in (lw_in4 (List.mem_of_getElem? (i := 164) rfl)) (by decide +kernel)
theorem tb_885 : (Jvm.Cond.code ({ cls := "RetraceDesk", name := "keepRetraced", desc := "(LRetraceDesk$Rewriter;)V" } : Jvm.MethodName) prog_1_method_20_code (2 : Nat) (Option.none : Option Jvm.ClassFile.FieldType)) ∈ am_tbl := am_in (lw_in4 (List.mem_of_getElem? (i := 165) rfl)) (by decide +kernel)
theorem tb_886 : (Jvm.Cond.methodLink "RetraceDesk" (119 : Nat) ({ cls := "RetraceDesk", name := "swapPrints", desc := "()V" } : Jvm.MethodName)) ∈ am_tbl := am_in (lw_in4 (List.mem_of_getElem? (i := 166) rfl)) (by decide +kernel)
theorem tb_888 : (Jvm.Cond.instanceMethod ({ cls := "RetraceDesk", name := "swapPrints", desc := "()V" } : Jvm.MethodName)) ∈ am_tbl := am_in (lw_in4 (List.mem_of_getElem? (i := 168) rfl)) (by decide +kernel)
theorem tb_889 : (Jvm.Cond.code ({ cls := "RetraceDesk", name := "swapPrints", desc := "()V" } : Jvm.MethodName) prog_1_method_21_code (2 : Nat) (Option.none : Option Jvm.ClassFile.FieldType)) ∈ am_tbl := am_in (lw_in4 (List.mem_of_getElem? (i := 169) rfl)) (by decide +kernel)
theorem tb_890 : (Jvm.Cond.methodLink "RetraceDeskLaw" (72 : Nat) ({ cls := "RetraceDeskLaw", name := "shorten", desc := "(LRetraceDesk;[J)I" } : Jvm.MethodName)) ∈ am_tbl := am_in (lw_in4 (List.mem_of_getElem? (i := 170) rfl)) (by decide +kernel)
theorem tb_891 : (Jvm.Cond.static ({ cls := "RetraceDeskLaw", name := "shorten", desc := "(LRetraceDesk;[J)I" } : Jvm.MethodName)) ∈ am_tbl := am_in (lw_in4 (List.mem_of_getElem? (i := 171) rfl)) (by decide +kernel)
theorem tb_893 : (Jvm.Cond.methodLink "RetraceDeskLaw" (20 : Nat) ({ cls := "RetraceDesk", name := "shorten", desc := "()I" } : Jvm.MethodName)) ∈ am_tbl := am_in (lw_in4 (List.mem_of_getElem? (i := 173) rfl)) (by decide +kernel)
theorem tb_894 : (Jvm.Cond.instanceMethod ({ cls := "RetraceDesk", name := "shorten", desc := "()I" } : Jvm.MethodName)) ∈ am_tbl := am_in (lw_in4 (List.mem_of_getElem? (i := 174) rfl)) (by decide +kernel)
theorem tb_895 : (Jvm.Cond.selects "RetraceDesk" ({ cls := "RetraceDesk", name := "shorten", desc := "()I" } : Jvm.MethodName) ({ cls := "RetraceDesk", name := "shorten", desc := "()I" } : Jvm.MethodName)) ∈ am_tbl := am_in (lw_in4 (List.mem_of_getElem? (i := 175) rfl)) (by decide +kernel)
theorem tb_896 : (Jvm.Cond.code ({ cls := "RetraceDesk", name := "shorten", desc := "()I" } : Jvm.MethodName) prog_1_method_6_code (2 : Nat) (Option.some Jvm.ClassFile.FieldType.int)) ∈ am_tbl := am_in (lw_in4 (List.mem_of_getElem? (i := 176) rfl)) (by decide +kernel)
theorem tb_897 : (Jvm.Cond.methodLink "RetraceDesk" (116 : Nat) ({ cls := "RetraceDesk$Rewriter", name := "shortenTrace", desc := "()V" } : Jvm.MethodName)) ∈ am_tbl := am_in (lw_in4 (List.mem_of_getElem? (i := 177) rfl)) (by decide +kernel)
theorem tb_898 : (Jvm.Cond.instanceMethod ({ cls := "RetraceDesk$Rewriter", name := "shortenTrace", desc := "()V" } : Jvm.MethodName)) ∈ am_tbl := am_in (lw_in4 (List.mem_of_getElem? (i := 178) rfl)) (by decide +kernel)
theorem tb_899 : (Jvm.Cond.selects "RetraceDesk$Rewriter" ({ cls := "RetraceDesk$Rewriter", name := "shortenTrace", desc := "()V" } : Jvm.MethodName) ({ cls := "RetraceDesk$Rewriter", name := "shortenTrace", desc := "()V" } : Jvm.MethodName)) ∈ am_tbl := am_in (lw_in4 (List.mem_of_getElem? (i := 179) rfl)) (by decide +kernel)
theorem tb_900 : (Jvm.Cond.code ({ cls := "RetraceDesk$Rewriter", name := "shortenTrace", desc := "()V" } : Jvm.MethodName) prog_9_method_5_code (6 : Nat) (Option.none : Option Jvm.ClassFile.FieldType)) ∈ am_tbl := am_in (lw_in4 (List.mem_of_getElem? (i := 180) rfl)) (by decide +kernel)
theorem tb_901 : (Jvm.Cond.methodLink "RetraceDesk$Rewriter" (148 : Nat) ({ cls := "RetraceDesk$Mapping", name := "lineOfReal", desc := "(LRetraceDesk$Slice;)LRetraceDesk$ClassLine;" } : Jvm.MethodName)) ∈ am_tbl := am_in (lw_in4 (List.mem_of_getElem? (i := 181) rfl)) (by decide +kernel)
theorem tb_902 : (Jvm.Cond.methodLink "RetraceDesk$Rewriter" (154 : Nat) ({ cls := "RetraceDesk$Rewriter", name := "shortenFrom", desc := "(II)I" } : Jvm.MethodName)) ∈ am_tbl := am_in (lw_in4 (List.mem_of_getElem? (i := 182) rfl)) (by decide +kernel)
theorem tb_904 : (Jvm.Cond.instanceMethod ({ cls := "RetraceDesk$Rewriter", name := "shortenFrom", desc := "(II)I" } : Jvm.MethodName)) ∈ am_tbl := am_in (lw_in4 (List.mem_of_getElem? (i := 184) rfl)) (by decide +kernel)
theorem tb_905 : (Jvm.Cond.code ({ cls := "RetraceDesk$Rewriter", name := "shortenFrom", desc := "(II)I" } : Jvm.MethodName) prog_9_method_6_code (8 : Nat) (Option.some Jvm.ClassFile.FieldType.int)) ∈ am_tbl := am_in (lw_in4 (List.mem_of_getElem? (i := 185) rfl)) (by decide +kernel)
theorem tb_906 : (Jvm.Cond.methodLink "RetraceDesk$Rewriter" (161 : Nat) ({ cls := "RetraceDesk$Rewriter", name := "offsetOfFit", desc := "(III)I" } : Jvm.MethodName)) ∈ am_tbl := am_in (lw_in4 (List.mem_of_getElem? (i := 186) rfl)) (by decide +kernel)
theorem tb_908 : (Jvm.Cond.instanceMethod ({ cls := "RetraceDesk$Rewriter", name := "offsetOfFit", desc := "(III)I" } : Jvm.MethodName)) ∈ am_tbl := am_in (lw_in4 (List.mem_of_getElem? (i := 188) rfl)) (by decide +kernel)
theorem tb_909 : (Jvm.Cond.code ({ cls := "RetraceDesk$Rewriter", name := "offsetOfFit", desc := "(III)I" } : Jvm.MethodName) prog_9_method_7_code (10 : Nat) (Option.some Jvm.ClassFile.FieldType.int)) ∈ am_tbl := am_in (lw_in4 (List.mem_of_getElem? (i := 189) rfl)) (by decide +kernel)
theorem tb_910 : (Jvm.Cond.methodLink "RetraceDesk$Rewriter" (179 : Nat) ({ cls := "RetraceDesk$MethodLine", name := "hasRange", desc := "()Z" } : Jvm.MethodName)) ∈ am_tbl := am_in (lw_in4 (List.mem_of_getElem? (i := 190) rfl)) (by decide +kernel)
theorem tb_911 : (Jvm.Cond.methodLink "RetraceDesk$Rewriter" (185 : Nat) ({ cls := "RetraceDesk$MethodLine", name := "isRealCall", desc := "(LRetraceDesk$Slice;LRetraceDesk$Slice;)Z" } : Jvm.MethodName)) ∈ am_tbl := am_in (lw_in4 (List.mem_of_getElem? (i := 191) rfl)) (by decide +kernel)
theorem tb_912 : (Jvm.Cond.methodLink "RetraceDesk$Rewriter" (165 : Nat) ({ cls := "RetraceDesk$Rewriter", name := "shortenAlone", desc := "(LRetraceDesk$Frame;)V" } : Jvm.MethodName)) ∈ am_tbl := am_in (lw_in4 (List.mem_of_getElem? (i := 192) rfl)) (by decide +kernel)
theorem tb_914 : (Jvm.Cond.instanceMethod ({ cls := "RetraceDesk$Rewriter", name := "shortenAlone", desc := "(LRetraceDesk$Frame;)V" } : Jvm.MethodName)) ∈ am_tbl := am_in (lw_in4 (List.mem_of_getElem? (i := 194) rfl)) (by decide +kernel)
theorem tb_915 : (Jvm.Cond.code ({ cls := "RetraceDesk$Rewriter", name := "shortenAlone", desc := "(LRetraceDesk$Frame;)V" } : Jvm.MethodName) prog_9_method_8_code (4 : Nat) (Option.none : Option Jvm.ClassFile.FieldType)) ∈ am_tbl := am_in (lw_in4 (List.mem_of_getElem? (i := 195) rfl)) (by decide +kernel)
theorem tb_916 : (Jvm.Cond.methodLink "RetraceDesk$Rewriter" (189 : Nat) ({ cls := "RetraceDesk$Mapping", name := "groupWithoutRange", desc := "(LRetraceDesk$Slice;LRetraceDesk$Slice;)I" } : Jvm.MethodName)) ∈ am_tbl := am_in (lw_in4 (List.mem_of_getElem? (i := 196) rfl)) (by decide +kernel)
theorem tb_917 : (Jvm.Cond.instanceMethod ({ cls := "RetraceDesk$Mapping", name := "groupWithoutRange", desc := "(LRetraceDesk$Slice;LRetraceDesk$Slice;)I" } : Jvm.MethodName)) ∈ am_tbl := am_in (lw_in4 (List.mem_of_getElem? (i := 197) rfl)) (by decide +kernel)
theorem tb_918 : (Jvm.Cond.selects "RetraceDesk$Mapping" ({ cls := "RetraceDesk$Mapping", name := "groupWithoutRange", desc := "(LRetraceDesk$Slice;LRetraceDesk$Slice;)I" } : Jvm.MethodName) ({ cls := "RetraceDesk$Mapping", name := "groupWithoutRange", desc := "(LRetraceDesk$Slice;LRetraceDesk$Slice;)I" } : Jvm.MethodName)) ∈ am_tbl := am_in (lw_in4 (List.mem_of_getElem? (i := 198) rfl)) (by decide +kernel)
theorem tb_919 : (Jvm.Cond.code ({ cls := "RetraceDesk$Mapping", name := "groupWithoutRange", desc := "(LRetraceDesk$Slice;LRetraceDesk$Slice;)I" } : Jvm.MethodName) prog_7_method_16_code (4 : Nat) (Option.some Jvm.ClassFile.FieldType.int)) ∈ am_tbl := am_in (lw_in4 (List.mem_of_getElem? (i := 199) rfl)) (by decide +kernel)
theorem tb_920 : (Jvm.Cond.methodLink "RetraceDesk$Rewriter" (168 : Nat) ({ cls := "RetraceDesk$Mapping", name := "shortClassOf", desc := "(LRetraceDesk$MethodLine;)LRetraceDesk$Slice;" } : Jvm.MethodName)) ∈ am_tbl := am_in (lw_in4 (List.mem_of_getElem? (i := 200) rfl)) (by decide +kernel)
theorem tb_921 : (Jvm.Cond.instanceMethod ({ cls := "RetraceDesk$Mapping", name := "shortClassOf", desc := "(LRetraceDesk$MethodLine;)LRetraceDesk$Slice;" } : Jvm.MethodName)) ∈ am_tbl := am_in (lw_in4 (List.mem_of_getElem? (i := 201) rfl)) (by decide +kernel)
theorem tb_922 : (Jvm.Cond.selects "RetraceDesk$Mapping" ({ cls := "RetraceDesk$Mapping", name := "shortClassOf", desc := "(LRetraceDesk$MethodLine;)LRetraceDesk$Slice;" } : Jvm.MethodName) ({ cls := "RetraceDesk$Mapping", name := "shortClassOf", desc := "(LRetraceDesk$MethodLine;)LRetraceDesk$Slice;" } : Jvm.MethodName)) ∈ am_tbl := am_in (lw_in4 (List.mem_of_getElem? (i := 202) rfl)) (by decide +kernel)
theorem tb_923 : (Jvm.Cond.code ({ cls := "RetraceDesk$Mapping", name := "shortClassOf", desc := "(LRetraceDesk$MethodLine;)LRetraceDesk$Slice;" } : Jvm.MethodName) prog_7_method_18_code (2 : Nat) (Option.some (Jvm.ClassFile.FieldType.object "RetraceDesk$Slice"))) ∈ am_tbl := am_in (lw_in4 (List.mem_of_getElem? (i := 203) rfl)) (by decide +kernel)
theorem tb_924 : (Jvm.Cond.methodLink "RetraceDesk$Rewriter" (193 : Nat) ({ cls := "RetraceDesk$Rewriter", name := "writeShort", desc := "(LRetraceDesk$Slice;LRetraceDesk$Slice;LRetraceDesk$Frame;)V" } : Jvm.MethodName)) ∈ am_tbl := am_in (lw_in4 (List.mem_of_getElem? (i := 204) rfl)) (by decide +kernel)
theorem tb_926 : (Jvm.Cond.instanceMethod ({ cls := "RetraceDesk$Rewriter", name := "writeShort", desc := "(LRetraceDesk$Slice;LRetraceDesk$Slice;LRetraceDesk$Frame;)V" } : Jvm.MethodName)) ∈ am_tbl := am_in (lw_in4 (List.mem_of_getElem? (i := 206) rfl)) (by decide +kernel)
theorem tb_927 : (Jvm.Cond.code ({ cls := "RetraceDesk$Rewriter", name := "writeShort", desc := "(LRetraceDesk$Slice;LRetraceDesk$Slice;LRetraceDesk$Frame;)V" } : Jvm.MethodName) prog_9_method_13_code (4 : Nat) (Option.none : Option Jvm.ClassFile.FieldType)) ∈ am_tbl := am_in (lw_in4 (List.mem_of_getElem? (i := 207) rfl)) (by decide +kernel)
theorem tb_929 : (Jvm.Cond.methodLink "RetraceDeskLaw" (75 : Nat) ({ cls := "RetraceDeskLaw", name := "report", desc := "(LRetraceDesk;[J)I" } : Jvm.MethodName)) ∈ am_tbl := am_in (lw_in4 (List.mem_of_getElem? (i := 209) rfl)) (by decide +kernel)
theorem tb_930 : (Jvm.Cond.static ({ cls := "RetraceDeskLaw", name := "report", desc := "(LRetraceDesk;[J)I" } : Jvm.MethodName)) ∈ am_tbl := am_in (lw_in4 (List.mem_of_getElem? (i := 210) rfl)) (by decide +kernel)
theorem tb_932 : (Jvm.Cond.methodLink "RetraceDeskLaw" (23 : Nat) ({ cls := "RetraceDesk", name := "report", desc := "()I" } : Jvm.MethodName)) ∈ am_tbl := am_in (lw_in4 (List.mem_of_getElem? (i := 212) rfl)) (by decide +kernel)
theorem tb_933 : (Jvm.Cond.instanceMethod ({ cls := "RetraceDesk", name := "report", desc := "()I" } : Jvm.MethodName)) ∈ am_tbl := am_in (lw_in4 (List.mem_of_getElem? (i := 213) rfl)) (by decide +kernel)
theorem tb_934 : (Jvm.Cond.selects "RetraceDesk" ({ cls := "RetraceDesk", name := "report", desc := "()I" } : Jvm.MethodName) ({ cls := "RetraceDesk", name := "report", desc := "()I" } : Jvm.MethodName)) ∈ am_tbl := am_in (lw_in4 (List.mem_of_getElem? (i := 214) rfl)) (by decide +kernel)
theorem tb_935 : (Jvm.Cond.code ({ cls := "RetraceDesk", name := "report", desc := "()I" } : Jvm.MethodName) prog_1_method_7_code (5 : Nat) (Option.some Jvm.ClassFile.FieldType.int)) ∈ am_tbl := am_in (lw_in4 (List.mem_of_getElem? (i := 215) rfl)) (by decide +kernel)
theorem tb_936 : (Jvm.Cond.methodLink "RetraceDesk" (122 : Nat) ({ cls := "RetraceDesk$CrashBook", name := "keyOf", desc := "(LRetraceDesk$Text;)J" } : Jvm.MethodName)) ∈ am_tbl := am_in (lw_in4 (List.mem_of_getElem? (i := 216) rfl)) (by decide +kernel)
theorem tb_937 : (Jvm.Cond.static ({ cls := "RetraceDesk$CrashBook", name := "keyOf", desc := "(LRetraceDesk$Text;)J" } : Jvm.MethodName)) ∈ am_tbl := am_in (lw_in4 (List.mem_of_getElem? (i := 217) rfl)) (by decide +kernel)
theorem tb_938 : (Jvm.Cond.code ({ cls := "RetraceDesk$CrashBook", name := "keyOf", desc := "(LRetraceDesk$Text;)J" } : Jvm.MethodName) prog_3_method_4_code (8 : Nat) (Option.some Jvm.ClassFile.FieldType.long)) ∈ am_tbl := am_in (lw_in4 (List.mem_of_getElem? (i := 218) rfl)) (by decide +kernel)
theorem tb_939 : (Jvm.Cond.constantLong "RetraceDesk$CrashBook" (32 : Nat) (-3750763034362895579 : Int64)) ∈ am_tbl := am_in (lw_in4 (List.mem_of_getElem? (i := 219) rfl)) (by decide +kernel)
theorem tb_941 : (Jvm.Cond.methodLink "RetraceDesk$CrashBook" (43 : Nat) ({ cls := "RetraceDesk$Text", name := "hasWordAt", desc := "(ILjava/lang/String;)Z" } : Jvm.MethodName)) ∈ am_tbl := am_in (lw_in4 (List.mem_of_getElem? (i := 221) rfl)) (by decide +kernel)
theorem tb_942 : (Jvm.Cond.instanceMethod ({ cls := "RetraceDesk$Text", name := "hasWordAt", desc := "(ILjava/lang/String;)Z" } : Jvm.MethodName)) ∈ am_tbl := am_in (lw_in4 (List.mem_of_getElem? (i := 222) rfl)) (by decide +kernel)
theorem tb_943 : (Jvm.Cond.selects "RetraceDesk$Text" ({ cls := "RetraceDesk$Text", name := "hasWordAt", desc := "(ILjava/lang/String;)Z" } : Jvm.MethodName) ({ cls := "RetraceDesk$Text", name := "hasWordAt", desc := "(ILjava/lang/String;)Z" } : Jvm.MethodName)) ∈ am_tbl := am_in (lw_in4 (List.mem_of_getElem? (i := 223) rfl)) (by decide +kernel)
theorem tb_944 : (Jvm.Cond.code ({ cls := "RetraceDesk$Text", name := "hasWordAt", desc := "(ILjava/lang/String;)Z" } : Jvm.MethodName) prog_11_method_10_code (4 : Nat) (Option.some Jvm.ClassFile.FieldType.boolean)) ∈ am_tbl := am_in (lw_in4 (List.mem_of_getElem? (i := 224) rfl)) (by decide +kernel)
theorem tb_945 : (Jvm.Cond.methodLink "RetraceDesk$CrashBook" (47 : Nat) ({ cls := "java/lang/String", name := "length", desc := "()I" } : Jvm.MethodName)) ∈ am_tbl := am_in (lw_in4 (List.mem_of_getElem? (i := 225) rfl)) (by decide +kernel)
theorem tb_946 : (Jvm.Cond.methodLink "RetraceDesk$CrashBook" (53 : Nat) ({ cls := "RetraceDesk$CrashBook", name := "isSameCall", desc := "(LRetraceDesk$Text;II)Z" } : Jvm.MethodName)) ∈ am_tbl := am_in (lw_in4 (List.mem_of_getElem? (i := 226) rfl)) (by decide +kernel)
theorem tb_947 : (Jvm.Cond.static ({ cls := "RetraceDesk$CrashBook", name := "isSameCall", desc := "(LRetraceDesk$Text;II)Z" } : Jvm.MethodName)) ∈ am_tbl := am_in (lw_in4 (List.mem_of_getElem? (i := 227) rfl)) (by decide +kernel)
theorem tb_948 : (Jvm.Cond.code ({ cls := "RetraceDesk$CrashBook", name := "isSameCall", desc := "(LRetraceDesk$Text;II)Z" } : Jvm.MethodName) prog_3_method_5_code (5 : Nat) (Option.some Jvm.ClassFile.FieldType.boolean)) ∈ am_tbl := am_in (lw_in4 (List.mem_of_getElem? (i := 228) rfl)) (by decide +kernel)
theorem tb_949 : (Jvm.Cond.methodLink "RetraceDesk$CrashBook" (69 : Nat) ({ cls := "java/lang/Math", name := "max", desc := "(II)I" } : Jvm.MethodName)) ∈ am_tbl := am_in (lw_in4 (List.mem_of_getElem? (i := 229) rfl)) (by decide +kernel)
theorem tb_950 : (Jvm.Cond.static ({ cls := "java/lang/Math", name := "max", desc := "(II)I" } : Jvm.MethodName)) ∈ am_tbl := am_in (lw_in4 (List.mem_of_getElem? (i := 230) rfl)) (by decide +kernel)
theorem tb_951 : (Jvm.Cond.code ({ cls := "java/lang/Math", name := "max", desc := "(II)I" } : Jvm.MethodName) prog_19_method_65_code (2 : Nat) (Option.some Jvm.ClassFile.FieldType.int)) ∈ am_tbl := am_in (lw_in4 (List.mem_of_getElem? (i := 231) rfl)) (by decide +kernel)
theorem tb_952 : (Jvm.Cond.methodLink "RetraceDesk$CrashBook" (57 : Nat) ({ cls := "RetraceDesk$CrashBook", name := "mixCall", desc := "(JLRetraceDesk$Text;I)J" } : Jvm.MethodName)) ∈ am_tbl := am_in (lw_in4 (List.mem_of_getElem? (i := 232) rfl)) (by decide +kernel)
theorem tb_953 : (Jvm.Cond.static ({ cls := "RetraceDesk$CrashBook", name := "mixCall", desc := "(JLRetraceDesk$Text;I)J" } : Jvm.MethodName)) ∈ am_tbl := am_in (lw_in4 (List.mem_of_getElem? (i := 233) rfl)) (by decide +kernel)
theorem tb_954 : (Jvm.Cond.code ({ cls := "RetraceDesk$CrashBook", name := "mixCall", desc := "(JLRetraceDesk$Text;I)J" } : Jvm.MethodName) prog_3_method_6_code (8 : Nat) (Option.some Jvm.ClassFile.FieldType.long)) ∈ am_tbl := am_in (lw_in4 (List.mem_of_getElem? (i := 234) rfl)) (by decide +kernel)
theorem tb_955 : (Jvm.Cond.methodLink "RetraceDesk$CrashBook" (75 : Nat) ({ cls := "RetraceDesk$Text", name := "placeOf", desc := "(CII)I" } : Jvm.MethodName)) ∈ am_tbl := am_in (lw_in4 (List.mem_of_getElem? (i := 235) rfl)) (by decide +kernel)
theorem tb_956 : (Jvm.Cond.instanceMethod ({ cls := "RetraceDesk$Text", name := "placeOf", desc := "(CII)I" } : Jvm.MethodName)) ∈ am_tbl := am_in (lw_in4 (List.mem_of_getElem? (i := 236) rfl)) (by decide +kernel)
theorem tb_957 : (Jvm.Cond.selects "RetraceDesk$Text" ({ cls := "RetraceDesk$Text", name := "placeOf", desc := "(CII)I" } : Jvm.MethodName) ({ cls := "RetraceDesk$Text", name := "placeOf", desc := "(CII)I" } : Jvm.MethodName)) ∈ am_tbl := am_in (lw_in4 (List.mem_of_getElem? (i := 237) rfl)) (by decide +kernel)
theorem tb_958 : (Jvm.Cond.code ({ cls := "RetraceDesk$Text", name := "placeOf", desc := "(CII)I" } : Jvm.MethodName) prog_11_method_11_code (5 : Nat) (Option.some Jvm.ClassFile.FieldType.int)) ∈ am_tbl := am_in (lw_in4 (List.mem_of_getElem? (i := 238) rfl)) (by decide +kernel)
theorem tb_959 : (Jvm.Cond.methodLink "RetraceDesk$CrashBook" (79 : Nat) ({ cls := "RetraceDesk$CrashBook", name := "mix", desc := "(JC)J" } : Jvm.MethodName)) ∈ am_tbl := am_in (lw_in4 (List.mem_of_getElem? (i := 239) rfl)) (by decide +kernel)
theorem tb_960 : (Jvm.Cond.static ({ cls := "RetraceDesk$CrashBook", name := "mix", desc := "(JC)J" } : Jvm.MethodName)) ∈ am_tbl := am_in (lw_in5 (List.mem_of_getElem? (i := 0) rfl)) (by decide +kernel)
theorem tb_961 : (Jvm.Cond.code ({ cls := "RetraceDesk$CrashBook", name := "mix", desc := "(JC)J" } : Jvm.MethodName) prog_3_method_9_code (3 : Nat) (Option.some Jvm.ClassFile.FieldType.long)) ∈ am_tbl := am_in (lw_in5 (List.mem_of_getElem? (i := 1) rfl)) (by decide +kernel)
theorem tb_962 : (Jvm.Cond.constantLong "RetraceDesk$CrashBook" (90 : Nat) (1099511628211 : Int64)) ∈ am_tbl := am_in (lw_in5 (List.mem_of_getElem? (i := 2) rfl)) (by decide +kernel)
theorem tb_965 : (Jvm.Cond.methodLink "RetraceDesk$CrashBook" (65 : Nat) ({ cls := "RetraceDesk$CrashBook", name := "mixHeader", desc := "(JLRetraceDesk$Text;II)J" } : Jvm.MethodName)) ∈ am_tbl := am_in (lw_in5 (List.mem_of_getElem? (i := 5) rfl)) (by decide +kernel)
theorem tb_966 : (Jvm.Cond.static ({ cls := "RetraceDesk$CrashBook", name := "mixHeader", desc := "(JLRetraceDesk$Text;II)J" } : Jvm.MethodName)) ∈ am_tbl := am_in (lw_in5 (List.mem_of_getElem? (i := 6) rfl)) (by decide +kernel)
theorem tb_967 : (Jvm.Cond.code ({ cls := "RetraceDesk$CrashBook", name := "mixHeader", desc := "(JLRetraceDesk$Text;II)J" } : Jvm.MethodName) prog_3_method_7_code (8 : Nat) (Option.some Jvm.ClassFile.FieldType.long)) ∈ am_tbl := am_in (lw_in5 (List.mem_of_getElem? (i := 7) rfl)) (by decide +kernel)
theorem tb_968 : (Jvm.Cond.methodLink "RetraceDesk$CrashBook" (83 : Nat) ({ cls := "RetraceDesk$CrashBook", name := "mixWithoutFigures", desc := "(JLRetraceDesk$Text;II)J" } : Jvm.MethodName)) ∈ am_tbl := am_in (lw_in5 (List.mem_of_getElem? (i := 8) rfl)) (by decide +kernel)
theorem tb_969 : (Jvm.Cond.static ({ cls := "RetraceDesk$CrashBook", name := "mixWithoutFigures", desc := "(JLRetraceDesk$Text;II)J" } : Jvm.MethodName)) ∈ am_tbl := am_in (lw_in5 (List.mem_of_getElem? (i := 9) rfl)) (by decide +kernel)
theorem tb_970 : (Jvm.Cond.code ({ cls := "RetraceDesk$CrashBook", name := "mixWithoutFigures", desc := "(JLRetraceDesk$Text;II)J" } : Jvm.MethodName) prog_3_method_8_code (9 : Nat) (Option.some Jvm.ClassFile.FieldType.long)) ∈ am_tbl := am_in (lw_in5 (List.mem_of_getElem? (i := 10) rfl)) (by decide +kernel)
theorem tb_972 : (Jvm.Cond.methodLink "RetraceDesk" (126 : Nat) ({ cls := "RetraceDesk$CrashBook", name := "placeOf", desc := "(J)I" } : Jvm.MethodName)) ∈ am_tbl := am_in (lw_in5 (List.mem_of_getElem? (i := 12) rfl)) (by decide +kernel)
theorem tb_973 : (Jvm.Cond.instanceMethod ({ cls := "RetraceDesk$CrashBook", name := "placeOf", desc := "(J)I" } : Jvm.MethodName)) ∈ am_tbl := am_in (lw_in5 (List.mem_of_getElem? (i := 13) rfl)) (by decide +kernel)
theorem tb_974 : (Jvm.Cond.selects "RetraceDesk$CrashBook" ({ cls := "RetraceDesk$CrashBook", name := "placeOf", desc := "(J)I" } : Jvm.MethodName) ({ cls := "RetraceDesk$CrashBook", name := "placeOf", desc := "(J)I" } : Jvm.MethodName)) ∈ am_tbl := am_in (lw_in5 (List.mem_of_getElem? (i := 14) rfl)) (by decide +kernel)
theorem tb_975 : (Jvm.Cond.code ({ cls := "RetraceDesk$CrashBook", name := "placeOf", desc := "(J)I" } : Jvm.MethodName) prog_3_method_2_code (4 : Nat) (Option.some Jvm.ClassFile.FieldType.int)) ∈ am_tbl := am_in (lw_in5 (List.mem_of_getElem? (i := 15) rfl)) (by decide +kernel)
theorem tb_976 : (Jvm.Cond.methodLink "RetraceDesk" (133 : Nat) ({ cls := "RetraceDesk$CrashBook", name := "enter", desc := "(IJ)V" } : Jvm.MethodName)) ∈ am_tbl := am_in (lw_in5 (List.mem_of_getElem? (i := 16) rfl)) (by decide +kernel)
theorem tb_977 : (Jvm.Cond.instanceMethod ({ cls := "RetraceDesk$CrashBook", name := "enter", desc := "(IJ)V" } : Jvm.MethodName)) ∈ am_tbl := am_in (lw_in5 (List.mem_of_getElem? (i := 17) rfl)) (by decide +kernel)
theorem tb_978 : (Jvm.Cond.selects "RetraceDesk$CrashBook" ({ cls := "RetraceDesk$CrashBook", name := "enter", desc := "(IJ)V" } : Jvm.MethodName) ({ cls := "RetraceDesk$CrashBook", name := "enter", desc := "(IJ)V" } : Jvm.MethodName)) ∈ am_tbl := am_in (lw_in5 (List.mem_of_getElem? (i := 18) rfl)) (by decide +kernel)
theorem tb_979 : (Jvm.Cond.code ({ cls := "RetraceDesk$CrashBook", name := "enter", desc := "(IJ)V" } : Jvm.MethodName) prog_3_method_3_code (4 : Nat) (Option.none : Option Jvm.ClassFile.FieldType)) ∈ am_tbl := am_in (lw_in5 (List.mem_of_getElem? (i := 19) rfl)) (by decide +kernel)
theorem tb_980 : (Jvm.Cond.methodLink "RetraceDeskLaw" (86 : Nat) ({ cls := "RetraceDeskLaw", name := "at", desc := "(LRetraceDesk;I[J)I" } : Jvm.MethodName)) ∈ am_tbl := am_in (lw_in5 (List.mem_of_getElem? (i := 20) rfl)) (by decide +kernel)
theorem tb_981 : (Jvm.Cond.static ({ cls := "RetraceDeskLaw", name := "at", desc := "(LRetraceDesk;I[J)I" } : Jvm.MethodName)) ∈ am_tbl := am_in (lw_in5 (List.mem_of_getElem? (i := 21) rfl)) (by decide +kernel)
theorem tb_984 : (Jvm.Cond.methodLink "RetraceDeskLaw" (26 : Nat) ({ cls := "RetraceDesk", name := "at", desc := "(I)I" } : Jvm.MethodName)) ∈ am_tbl := am_in (lw_in5 (List.mem_of_getElem? (i := 24) rfl)) (by decide +kernel)
theorem tb_985 : (Jvm.Cond.instanceMethod ({ cls := "RetraceDesk", name := "at", desc := "(I)I" } : Jvm.MethodName)) ∈ am_tbl := am_in (lw_in5 (List.mem_of_getElem? (i := 25) rfl)) (by decide +kernel)
theorem tb_986 : (Jvm.Cond.selects "RetraceDesk" ({ cls := "RetraceDesk", name := "at", desc := "(I)I" } : Jvm.MethodName) ({ cls := "RetraceDesk", name := "at", desc := "(I)I" } : Jvm.MethodName)) ∈ am_tbl := am_in (lw_in5 (List.mem_of_getElem? (i := 26) rfl)) (by decide +kernel)
theorem tb_987 : (Jvm.Cond.code ({ cls := "RetraceDesk", name := "at", desc := "(I)I" } : Jvm.MethodName) prog_1_method_10_code (2 : Nat) (Option.some Jvm.ClassFile.FieldType.int)) ∈ am_tbl := am_in (lw_in5 (List.mem_of_getElem? (i := 27) rfl)) (by decide +kernel)
theorem tb_1003 : (Jvm.Cond.methodLink "RetraceDeskLaw" (94 : Nat) ({ cls := "RetraceDeskLaw", name := "groups", desc := "(LRetraceDesk;I[J)I" } : Jvm.MethodName)) ∈ am_tbl := am_in (lw_in5 (List.mem_of_getElem? (i := 43) rfl)) (by decide +kernel)
theorem tb_1004 : (Jvm.Cond.static ({ cls := "RetraceDeskLaw", name := "groups", desc := "(LRetraceDesk;I[J)I" } : Jvm.MethodName)) ∈ am_tbl := am_in (lw_in5 (List.mem_of_getElem? (i := 44) rfl)) (by decide +kernel)
theorem tb_1007 : (Jvm.Cond.methodLink "RetraceDeskLaw" (32 : Nat) ({ cls := "RetraceDesk", name := "groups", desc := "(I)I" } : Jvm.MethodName)) ∈ am_tbl := am_in (lw_in5 (List.mem_of_getElem? (i := 47) rfl)) (by decide +kernel)
theorem tb_1008 : (Jvm.Cond.instanceMethod ({ cls := "RetraceDesk", name := "groups", desc := "(I)I" } : Jvm.MethodName)) ∈ am_tbl := am_in (lw_in5 (List.mem_of_getElem? (i := 48) rfl)) (by decide +kernel)
theorem tb_1009 : (Jvm.Cond.selects "RetraceDesk" ({ cls := "RetraceDesk", name := "groups", desc := "(I)I" } : Jvm.MethodName) ({ cls := "RetraceDesk", name := "groups", desc := "(I)I" } : Jvm.MethodName)) ∈ am_tbl := am_in (lw_in5 (List.mem_of_getElem? (i := 49) rfl)) (by decide +kernel)
theorem tb_1010 : (Jvm.Cond.code ({ cls := "RetraceDesk", name := "groups", desc := "(I)I" } : Jvm.MethodName) prog_1_method_12_code (2 : Nat) (Option.some Jvm.ClassFile.FieldType.int)) ∈ am_tbl := am_in (lw_in5 (List.mem_of_getElem? (i := 50) rfl)) (by decide +kernel)
theorem tb_1026 : (Jvm.Cond.methodLink "RetraceDeskLaw" (101 : Nat) ({ cls := "RetraceDeskLaw", name := "key", desc := "(LRetraceDesk;I[J)I" } : Jvm.MethodName)) ∈ am_tbl := am_in (lw_in5 (List.mem_of_getElem? (i := 66) rfl)) (by decide +kernel)
theorem tb_1027 : (Jvm.Cond.static ({ cls := "RetraceDeskLaw", name := "key", desc := "(LRetraceDesk;I[J)I" } : Jvm.MethodName)) ∈ am_tbl := am_in (lw_in5 (List.mem_of_getElem? (i := 67) rfl)) (by decide +kernel)
theorem tb_1029 : (Jvm.Cond.methodLink "RetraceDeskLaw" (37 : Nat) ({ cls := "RetraceDesk", name := "key", desc := "(I)J" } : Jvm.MethodName)) ∈ am_tbl := am_in (lw_in5 (List.mem_of_getElem? (i := 69) rfl)) (by decide +kernel)
theorem tb_1030 : (Jvm.Cond.instanceMethod ({ cls := "RetraceDesk", name := "key", desc := "(I)J" } : Jvm.MethodName)) ∈ am_tbl := am_in (lw_in5 (List.mem_of_getElem? (i := 70) rfl)) (by decide +kernel)
theorem tb_1031 : (Jvm.Cond.selects "RetraceDesk" ({ cls := "RetraceDesk", name := "key", desc := "(I)J" } : Jvm.MethodName) ({ cls := "RetraceDesk", name := "key", desc := "(I)J" } : Jvm.MethodName)) ∈ am_tbl := am_in (lw_in5 (List.mem_of_getElem? (i := 71) rfl)) (by decide +kernel)
theorem tb_1032 : (Jvm.Cond.code ({ cls := "RetraceDesk", name := "key", desc := "(I)J" } : Jvm.MethodName) prog_1_method_14_code (2 : Nat) (Option.some Jvm.ClassFile.FieldType.long)) ∈ am_tbl := am_in (lw_in5 (List.mem_of_getElem? (i := 72) rfl)) (by decide +kernel)
theorem tb_1033 : (Jvm.Cond.methodLink "RetraceDesk" (157 : Nat) ({ cls := "RetraceDesk", name := "refuseUnknownCrash", desc := "(I)V" } : Jvm.MethodName)) ∈ am_tbl := am_in (lw_in5 (List.mem_of_getElem? (i := 73) rfl)) (by decide +kernel)
theorem tb_1035 : (Jvm.Cond.instanceMethod ({ cls := "RetraceDesk", name := "refuseUnknownCrash", desc := "(I)V" } : Jvm.MethodName)) ∈ am_tbl := am_in (lw_in5 (List.mem_of_getElem? (i := 75) rfl)) (by decide +kernel)
theorem tb_1036 : (Jvm.Cond.code ({ cls := "RetraceDesk", name := "refuseUnknownCrash", desc := "(I)V" } : Jvm.MethodName) prog_1_method_16_code (2 : Nat) (Option.none : Option Jvm.ClassFile.FieldType)) ∈ am_tbl := am_in (lw_in5 (List.mem_of_getElem? (i := 76) rfl)) (by decide +kernel)
theorem tb_1037 : (Jvm.Cond.methodLink "RetraceDeskLaw" (104 : Nat) ({ cls := "RetraceDeskLaw", name := "reports", desc := "(LRetraceDesk;II[J)I" } : Jvm.MethodName)) ∈ am_tbl := am_in (lw_in5 (List.mem_of_getElem? (i := 77) rfl)) (by decide +kernel)
theorem tb_1038 : (Jvm.Cond.static ({ cls := "RetraceDeskLaw", name := "reports", desc := "(LRetraceDesk;II[J)I" } : Jvm.MethodName)) ∈ am_tbl := am_in (lw_in5 (List.mem_of_getElem? (i := 78) rfl)) (by decide +kernel)
theorem tb_1040 : (Jvm.Cond.methodLink "RetraceDeskLaw" (41 : Nat) ({ cls := "RetraceDesk", name := "reports", desc := "(II)I" } : Jvm.MethodName)) ∈ am_tbl := am_in (lw_in5 (List.mem_of_getElem? (i := 80) rfl)) (by decide +kernel)
theorem tb_1041 : (Jvm.Cond.instanceMethod ({ cls := "RetraceDesk", name := "reports", desc := "(II)I" } : Jvm.MethodName)) ∈ am_tbl := am_in (lw_in5 (List.mem_of_getElem? (i := 81) rfl)) (by decide +kernel)
theorem tb_1042 : (Jvm.Cond.selects "RetraceDesk" ({ cls := "RetraceDesk", name := "reports", desc := "(II)I" } : Jvm.MethodName) ({ cls := "RetraceDesk", name := "reports", desc := "(II)I" } : Jvm.MethodName)) ∈ am_tbl := am_in (lw_in5 (List.mem_of_getElem? (i := 82) rfl)) (by decide +kernel)
theorem tb_1043 : (Jvm.Cond.code ({ cls := "RetraceDesk", name := "reports", desc := "(II)I" } : Jvm.MethodName) prog_1_method_15_code (3 : Nat) (Option.some Jvm.ClassFile.FieldType.int)) ∈ am_tbl := am_in (lw_in5 (List.mem_of_getElem? (i := 83) rfl)) (by decide +kernel)
theorem tb_1044 : (Jvm.Cond.classLink "RetraceDeskLaw" (46 : Nat) "RetraceDeskModel") ∈ am_tbl := am_in (lw_in5 (List.mem_of_getElem? (i := 84) rfl)) (by decide +kernel)
theorem tb_1045 : (Jvm.Cond.instantiable "RetraceDeskModel" (54 : Nat)) ∈ am_tbl := am_in (lw_in5 (List.mem_of_getElem? (i := 85) rfl)) (by decide +kernel)
theorem tb_1046 : (Jvm.Cond.methodLink "RetraceDeskLaw" (48 : Nat) ({ cls := "RetraceDeskModel", name := "<init>", desc := "()V" } : Jvm.MethodName)) ∈ am_tbl := am_in (lw_in5 (List.mem_of_getElem? (i := 86) rfl)) (by decide +kernel)
theorem tb_1047 : (Jvm.Cond.instanceMethod ({ cls := "RetraceDeskModel", name := "<init>", desc := "()V" } : Jvm.MethodName)) ∈ am_tbl := am_in (lw_in5 (List.mem_of_getElem? (i := 87) rfl)) (by decide +kernel)
theorem tb_1048 : (Jvm.Cond.code ({ cls := "RetraceDeskModel", name := "<init>", desc := "()V" } : Jvm.MethodName) prog_14_method_1_code (1 : Nat) (Option.none : Option Jvm.ClassFile.FieldType)) ∈ am_tbl := am_in (lw_in5 (List.mem_of_getElem? (i := 88) rfl)) (by decide +kernel)
theorem tb_1049 : (Jvm.Cond.methodLink "RetraceDeskModel" (1 : Nat) ({ cls := "java/lang/Object", name := "<init>", desc := "()V" } : Jvm.MethodName)) ∈ am_tbl := am_in (lw_in5 (List.mem_of_getElem? (i := 89) rfl)) (by decide +kernel)
theorem tb_1050 : (Jvm.Cond.fieldLink "RetraceDeskModel" (7 : Nat) "RetraceDeskModel" "draft" "[I") ∈ am_tbl := am_in (lw_in5 (List.mem_of_getElem? (i := 90) rfl)) (by decide +kernel)
theorem tb_1051 : (Jvm.Cond.fieldLink "RetraceDeskModel" (117 : Nat) "RetraceDeskModel" "size" "I") ∈ am_tbl := am_in (lw_in5 (List.mem_of_getElem? (i := 91) rfl)) (by decide +kernel)
theorem tb_1052 : (Jvm.Cond.fieldLink "RetraceDeskModel" (13 : Nat) "RetraceDeskModel" "all" "[I") ∈ am_tbl := am_in (lw_in5 (List.mem_of_getElem? (i := 92) rfl)) (by decide +kernel)
theorem tb_1053 : (Jvm.Cond.fieldLink "RetraceDeskModel" (16 : Nat) "RetraceDeskModel" "kept" "[I") ∈ am_tbl := am_in (lw_in5 (List.mem_of_getElem? (i := 93) rfl)) (by decide +kernel)
theorem tb_1054 : (Jvm.Cond.fieldLink "RetraceDeskModel" (193 : Nat) "RetraceDeskModel" "keptSize" "I") ∈ am_tbl := am_in (lw_in5 (List.mem_of_getElem? (i := 94) rfl)) (by decide +kernel)
theorem tb_1055 : (Jvm.Cond.fieldLink "RetraceDeskModel" (196 : Nat) "RetraceDeskModel" "loaded" "Z") ∈ am_tbl := am_in (lw_in5 (List.mem_of_getElem? (i := 95) rfl)) (by decide +kernel)
theorem tb_1056 : (Jvm.Cond.fieldLink "RetraceDeskModel" (145 : Nat) "RetraceDeskModel" "classes" "I") ∈ am_tbl := am_in (lw_in5 (List.mem_of_getElem? (i := 96) rfl)) (by decide +kernel)
theorem tb_1057 : (Jvm.Cond.fieldLink "RetraceDeskModel" (19 : Nat) "RetraceDeskModel" "realFrom" "[I") ∈ am_tbl := am_in (lw_in5 (List.mem_of_getElem? (i := 97) rfl)) (by decide +kernel)
theorem tb_1058 : (Jvm.Cond.fieldLink "RetraceDeskModel" (22 : Nat) "RetraceDeskModel" "realTo" "[I") ∈ am_tbl := am_in (lw_in5 (List.mem_of_getElem? (i := 98) rfl)) (by decide +kernel)
theorem tb_1059 : (Jvm.Cond.fieldLink "RetraceDeskModel" (25 : Nat) "RetraceDeskModel" "shortFrom" "[I") ∈ am_tbl := am_in (lw_in5 (List.mem_of_getElem? (i := 99) rfl)) (by decide +kernel)
theorem tb_1060 : (Jvm.Cond.fieldLink "RetraceDeskModel" (28 : Nat) "RetraceDeskModel" "shortTo" "[I") ∈ am_tbl := am_in (lw_in5 (List.mem_of_getElem? (i := 100) rfl)) (by decide +kernel)
theorem tb_1061 : (Jvm.Cond.fieldLink "RetraceDeskModel" (163 : Nat) "RetraceDeskModel" "methods" "I") ∈ am_tbl := am_in (lw_in5 (List.mem_of_getElem? (i := 101) rfl)) (by decide +kernel)
theorem tb_1062 : (Jvm.Cond.fieldLink "RetraceDeskModel" (31 : Nat) "RetraceDeskModel" "ownFrom" "[I") ∈ am_tbl := am_in (lw_in5 (List.mem_of_getElem? (i := 102) rfl)) (by decide +kernel)
theorem tb_1063 : (Jvm.Cond.fieldLink "RetraceDeskModel" (34 : Nat) "RetraceDeskModel" "ownTo" "[I") ∈ am_tbl := am_in (lw_in5 (List.mem_of_getElem? (i := 103) rfl)) (by decide +kernel)
theorem tb_1064 : (Jvm.Cond.fieldLink "RetraceDeskModel" (37 : Nat) "RetraceDeskModel" "callFrom" "[I") ∈ am_tbl := am_in (lw_in5 (List.mem_of_getElem? (i := 104) rfl)) (by decide +kernel)
theorem tb_1065 : (Jvm.Cond.fieldLink "RetraceDeskModel" (40 : Nat) "RetraceDeskModel" "callTo" "[I") ∈ am_tbl := am_in (lw_in5 (List.mem_of_getElem? (i := 105) rfl)) (by decide +kernel)
theorem tb_1066 : (Jvm.Cond.fieldLink "RetraceDeskModel" (43 : Nat) "RetraceDeskModel" "nickFrom" "[I") ∈ am_tbl := am_in (lw_in5 (List.mem_of_getElem? (i := 106) rfl)) (by decide +kernel)
theorem tb_1067 : (Jvm.Cond.fieldLink "RetraceDeskModel" (46 : Nat) "RetraceDeskModel" "nickTo" "[I") ∈ am_tbl := am_in (lw_in5 (List.mem_of_getElem? (i := 107) rfl)) (by decide +kernel)
theorem tb_1068 : (Jvm.Cond.fieldLink "RetraceDeskModel" (49 : Nat) "RetraceDeskModel" "low" "[I") ∈ am_tbl := am_in (lw_in5 (List.mem_of_getElem? (i := 108) rfl)) (by decide +kernel)
theorem tb_1069 : (Jvm.Cond.fieldLink "RetraceDeskModel" (52 : Nat) "RetraceDeskModel" "high" "[I") ∈ am_tbl := am_in (lw_in5 (List.mem_of_getElem? (i := 109) rfl)) (by decide +kernel)
theorem tb_1070 : (Jvm.Cond.fieldLink "RetraceDeskModel" (55 : Nat) "RetraceDeskModel" "first" "[I") ∈ am_tbl := am_in (lw_in5 (List.mem_of_getElem? (i := 110) rfl)) (by decide +kernel)
theorem tb_1071 : (Jvm.Cond.fieldLink "RetraceDeskModel" (58 : Nat) "RetraceDeskModel" "last" "[I") ∈ am_tbl := am_in (lw_in5 (List.mem_of_getElem? (i := 111) rfl)) (by decide +kernel)
theorem tb_1072 : (Jvm.Cond.fieldLink "RetraceDeskModel" (61 : Nat) "RetraceDeskModel" "classOf" "[I") ∈ am_tbl := am_in (lw_in5 (List.mem_of_getElem? (i := 112) rfl)) (by decide +kernel)
theorem tb_1073 : (Jvm.Cond.fieldLink "RetraceDeskModel" (64 : Nat) "RetraceDeskModel" "groupOf" "[I") ∈ am_tbl := am_in (lw_in5 (List.mem_of_getElem? (i := 113) rfl)) (by decide +kernel)
theorem tb_1074 : (Jvm.Cond.fieldLink "RetraceDeskModel" (173 : Nat) "RetraceDeskModel" "groups" "I") ∈ am_tbl := am_in (lw_in5 (List.mem_of_getElem? (i := 114) rfl)) (by decide +kernel)
theorem tb_1075 : (Jvm.Cond.fieldLink "RetraceDeskModel" (139 : Nat) "RetraceDeskModel" "value" "I") ∈ am_tbl := am_in (lw_in5 (List.mem_of_getElem? (i := 115) rfl)) (by decide +kernel)
theorem tb_1076 : (Jvm.Cond.fieldLink "RetraceDeskModel" (129 : Nat) "RetraceDeskModel" "parts" "I") ∈ am_tbl := am_in (lw_in5 (List.mem_of_getElem? (i := 116) rfl)) (by decide +kernel)
theorem tb_1077 : (Jvm.Cond.fieldLink "RetraceDeskModel" (132 : Nat) "RetraceDeskModel" "lastPart" "I") ∈ am_tbl := am_in (lw_in5 (List.mem_of_getElem? (i := 117) rfl)) (by decide +kernel)
theorem tb_1078 : (Jvm.Cond.fieldLink "RetraceDeskModel" (203 : Nat) "RetraceDeskModel" "lines" "I") ∈ am_tbl := am_in (lw_in5 (List.mem_of_getElem? (i := 118) rfl)) (by decide +kernel)
theorem tb_1079 : (Jvm.Cond.fieldLink "RetraceDeskModel" (67 : Nat) "RetraceDeskModel" "kind" "[I") ∈ am_tbl := am_in (lw_in5 (List.mem_of_getElem? (i := 119) rfl)) (by decide +kernel)
theorem tb_1080 : (Jvm.Cond.fieldLink "RetraceDeskModel" (70 : Nat) "RetraceDeskModel" "lineFrom" "[I") ∈ am_tbl := am_in (lw_in5 (List.mem_of_getElem? (i := 120) rfl)) (by decide +kernel)
theorem tb_1081 : (Jvm.Cond.fieldLink "RetraceDeskModel" (73 : Nat) "RetraceDeskModel" "lineTo" "[I") ∈ am_tbl := am_in (lw_in5 (List.mem_of_getElem? (i := 121) rfl)) (by decide +kernel)
theorem tb_1082 : (Jvm.Cond.fieldLink "RetraceDeskModel" (76 : Nat) "RetraceDeskModel" "nameFrom" "[I") ∈ am_tbl := am_in (lw_in5 (List.mem_of_getElem? (i := 122) rfl)) (by decide +kernel)
theorem tb_1083 : (Jvm.Cond.fieldLink "RetraceDeskModel" (79 : Nat) "RetraceDeskModel" "nameTo" "[I") ∈ am_tbl := am_in (lw_in5 (List.mem_of_getElem? (i := 123) rfl)) (by decide +kernel)
theorem tb_1084 : (Jvm.Cond.fieldLink "RetraceDeskModel" (82 : Nat) "RetraceDeskModel" "methodFrom" "[I") ∈ am_tbl := am_in (lw_in5 (List.mem_of_getElem? (i := 124) rfl)) (by decide +kernel)
theorem tb_1085 : (Jvm.Cond.fieldLink "RetraceDeskModel" (85 : Nat) "RetraceDeskModel" "fileFrom" "[I") ∈ am_tbl := am_in (lw_in5 (List.mem_of_getElem? (i := 125) rfl)) (by decide +kernel)
theorem tb_1086 : (Jvm.Cond.fieldLink "RetraceDeskModel" (88 : Nat) "RetraceDeskModel" "fileTo" "[I") ∈ am_tbl := am_in (lw_in5 (List.mem_of_getElem? (i := 126) rfl)) (by decide +kernel)
theorem tb_1087 : (Jvm.Cond.fieldLink "RetraceDeskModel" (91 : Nat) "RetraceDeskModel" "number" "[I") ∈ am_tbl := am_in (lw_in5 (List.mem_of_getElem? (i := 127) rfl)) (by decide +kernel)
theorem tb_1088 : (Jvm.Cond.fieldLink "RetraceDeskModel" (94 : Nat) "RetraceDeskModel" "out" "[I") ∈ am_tbl := am_in (lw_in5 (List.mem_of_getElem? (i := 128) rfl)) (by decide +kernel)
theorem tb_1089 : (Jvm.Cond.fieldLink "RetraceDeskModel" (245 : Nat) "RetraceDeskModel" "outSize" "I") ∈ am_tbl := am_in (lw_in5 (List.mem_of_getElem? (i := 129) rfl)) (by decide +kernel)
theorem tb_1090 : (Jvm.Cond.fieldLink "RetraceDeskModel" (248 : Nat) "RetraceDeskModel" "overflow" "Z") ∈ am_tbl := am_in (lw_in5 (List.mem_of_getElem? (i := 130) rfl)) (by decide +kernel)
theorem tb_1091 : (Jvm.Cond.fieldLink "RetraceDeskModel" (298 : Nat) "RetraceDeskModel" "doubts" "I") ∈ am_tbl := am_in (lw_in5 (List.mem_of_getElem? (i := 131) rfl)) (by decide +kernel)
theorem tb_1092 : (Jvm.Cond.fieldLink "RetraceDeskModel" (97 : Nat) "RetraceDeskModel" "print" "[I") ∈ am_tbl := am_in (lw_in5 (List.mem_of_getElem? (i := 132) rfl)) (by decide +kernel)
theorem tb_1093 : (Jvm.Cond.fieldLink "RetraceDeskModel" (344 : Nat) "RetraceDeskModel" "printSize" "I") ∈ am_tbl := am_in (lw_in5 (List.mem_of_getElem? (i := 133) rfl)) (by decide +kernel)
theorem tb_1094 : (Jvm.Cond.fieldLink "RetraceDeskModel" (351 : Nat) "RetraceDeskModel" "doubtsKept" "I") ∈ am_tbl := am_in (lw_in5 (List.mem_of_getElem? (i := 134) rfl)) (by decide +kernel)
theorem tb_1095 : (Jvm.Cond.fieldLink "RetraceDeskModel" (200 : Nat) "RetraceDeskModel" "wrongLine" "I") ∈ am_tbl := am_in (lw_in5 (List.mem_of_getElem? (i := 135) rfl)) (by decide +kernel)
theorem tb_1096 : (Jvm.Cond.fieldLink "RetraceDeskModel" (358 : Nat) "RetraceDeskModel" "hash" "J") ∈ am_tbl := am_in (lw_in5 (List.mem_of_getElem? (i := 136) rfl)) (by decide +kernel)
theorem tb_1097 : (Jvm.Cond.fieldLink "RetraceDeskModel" (388 : Nat) "RetraceDeskModel" "crashCount" "I") ∈ am_tbl := am_in (lw_in5 (List.mem_of_getElem? (i := 137) rfl)) (by decide +kernel)
theorem tb_1098 : (Jvm.Cond.fieldLink "RetraceDeskModel" (391 : Nat) "RetraceDeskModel" "reportCount" "I") ∈ am_tbl := am_in (lw_in5 (List.mem_of_getElem? (i := 138) rfl)) (by decide +kernel)
theorem tb_1099 : (Jvm.Cond.fieldLink "RetraceDeskModel" (100 : Nat) "RetraceDeskModel" "keys" "[J") ∈ am_tbl := am_in (lw_in5 (List.mem_of_getElem? (i := 139) rfl)) (by decide +kernel)
theorem tb_1100 : (Jvm.Cond.fieldLink "RetraceDeskModel" (104 : Nat) "RetraceDeskModel" "times" "[I") ∈ am_tbl := am_in (lw_in5 (List.mem_of_getElem? (i := 140) rfl)) (by decide +kernel)
theorem tb_1101 : (Jvm.Cond.fieldLink "RetraceDeskModel" (107 : Nat) "RetraceDeskModel" "firsts" "[I") ∈ am_tbl := am_in (lw_in5 (List.mem_of_getElem? (i := 141) rfl)) (by decide +kernel)
theorem tb_1102 : (Jvm.Cond.fieldLink "RetraceDeskModel" (110 : Nat) "RetraceDeskModel" "lasts" "[I") ∈ am_tbl := am_in (lw_in5 (List.mem_of_getElem? (i := 142) rfl)) (by decide +kernel)
theorem tb_1103 : (Jvm.Cond.fieldLink "RetraceDeskModel" (113 : Nat) "RetraceDeskModel" "code" "I") ∈ am_tbl := am_in (lw_in5 (List.mem_of_getElem? (i := 143) rfl)) (by decide +kernel)
theorem tb_1104 : (Jvm.Cond.laysFinal "RetraceDeskModel" "RetraceDeskModel" "draft" "[I") ∈ am_tbl := am_in (lw_in5 (List.mem_of_getElem? (i := 144) rfl)) (by decide +kernel)
theorem tb_1106 : (Jvm.Cond.lays "RetraceDeskModel" "RetraceDeskModel" "size" "I") ∈ am_tbl := am_in (lw_in5 (List.mem_of_getElem? (i := 146) rfl)) (by decide +kernel)
theorem tb_1108 : (Jvm.Cond.laysFinal "RetraceDeskModel" "RetraceDeskModel" "all" "[I") ∈ am_tbl := am_in (lw_in5 (List.mem_of_getElem? (i := 148) rfl)) (by decide +kernel)
theorem tb_1110 : (Jvm.Cond.laysFinal "RetraceDeskModel" "RetraceDeskModel" "kept" "[I") ∈ am_tbl := am_in (lw_in5 (List.mem_of_getElem? (i := 150) rfl)) (by decide +kernel)
theorem tb_1112 : (Jvm.Cond.lays "RetraceDeskModel" "RetraceDeskModel" "keptSize" "I") ∈ am_tbl := am_in (lw_in5 (List.mem_of_getElem? (i := 152) rfl)) (by decide +kernel)
theorem tb_1114 : (Jvm.Cond.lays "RetraceDeskModel" "RetraceDeskModel" "loaded" "Z") ∈ am_tbl := am_in (lw_in5 (List.mem_of_getElem? (i := 154) rfl)) (by decide +kernel)
theorem tb_1116 : (Jvm.Cond.lays "RetraceDeskModel" "RetraceDeskModel" "classes" "I") ∈ am_tbl := am_in (lw_in5 (List.mem_of_getElem? (i := 156) rfl)) (by decide +kernel)
theorem tb_1118 : (Jvm.Cond.laysFinal "RetraceDeskModel" "RetraceDeskModel" "realFrom" "[I") ∈ am_tbl := am_in (lw_in5 (List.mem_of_getElem? (i := 158) rfl)) (by decide +kernel)
theorem tb_1120 : (Jvm.Cond.laysFinal "RetraceDeskModel" "RetraceDeskModel" "realTo" "[I") ∈ am_tbl := am_in (lw_in5 (List.mem_of_getElem? (i := 160) rfl)) (by decide +kernel)
theorem tb_1122 : (Jvm.Cond.laysFinal "RetraceDeskModel" "RetraceDeskModel" "shortFrom" "[I") ∈ am_tbl := am_in (lw_in5 (List.mem_of_getElem? (i := 162) rfl)) (by decide +kernel)
theorem tb_1124 : (Jvm.Cond.laysFinal "RetraceDeskModel" "RetraceDeskModel" "shortTo" "[I") ∈ am_tbl := am_in (lw_in5 (List.mem_of_getElem? (i := 164) rfl)) (by decide +kernel)
theorem tb_1126 : (Jvm.Cond.lays "RetraceDeskModel" "RetraceDeskModel" "methods" "I") ∈ am_tbl := am_in (lw_in5 (List.mem_of_getElem? (i := 166) rfl)) (by decide +kernel)
theorem tb_1128 : (Jvm.Cond.laysFinal "RetraceDeskModel" "RetraceDeskModel" "ownFrom" "[I") ∈ am_tbl := am_in (lw_in5 (List.mem_of_getElem? (i := 168) rfl)) (by decide +kernel)
theorem tb_1130 : (Jvm.Cond.laysFinal "RetraceDeskModel" "RetraceDeskModel" "ownTo" "[I") ∈ am_tbl := am_in (lw_in5 (List.mem_of_getElem? (i := 170) rfl)) (by decide +kernel)
theorem tb_1132 : (Jvm.Cond.laysFinal "RetraceDeskModel" "RetraceDeskModel" "callFrom" "[I") ∈ am_tbl := am_in (lw_in5 (List.mem_of_getElem? (i := 172) rfl)) (by decide +kernel)
theorem tb_1134 : (Jvm.Cond.laysFinal "RetraceDeskModel" "RetraceDeskModel" "callTo" "[I") ∈ am_tbl := am_in (lw_in5 (List.mem_of_getElem? (i := 174) rfl)) (by decide +kernel)
theorem tb_1136 : (Jvm.Cond.laysFinal "RetraceDeskModel" "RetraceDeskModel" "nickFrom" "[I") ∈ am_tbl := am_in (lw_in5 (List.mem_of_getElem? (i := 176) rfl)) (by decide +kernel)
theorem tb_1138 : (Jvm.Cond.laysFinal "RetraceDeskModel" "RetraceDeskModel" "nickTo" "[I") ∈ am_tbl := am_in (lw_in5 (List.mem_of_getElem? (i := 178) rfl)) (by decide +kernel)
theorem tb_1140 : (Jvm.Cond.laysFinal "RetraceDeskModel" "RetraceDeskModel" "low" "[I") ∈ am_tbl := am_in (lw_in5 (List.mem_of_getElem? (i := 180) rfl)) (by decide +kernel)
theorem tb_1142 : (Jvm.Cond.laysFinal "RetraceDeskModel" "RetraceDeskModel" "high" "[I") ∈ am_tbl := am_in (lw_in5 (List.mem_of_getElem? (i := 182) rfl)) (by decide +kernel)
theorem tb_1144 : (Jvm.Cond.laysFinal "RetraceDeskModel" "RetraceDeskModel" "first" "[I") ∈ am_tbl := am_in (lw_in5 (List.mem_of_getElem? (i := 184) rfl)) (by decide +kernel)
theorem tb_1146 : (Jvm.Cond.laysFinal "RetraceDeskModel" "RetraceDeskModel" "last" "[I") ∈ am_tbl := am_in (lw_in5 (List.mem_of_getElem? (i := 186) rfl)) (by decide +kernel)
theorem tb_1148 : (Jvm.Cond.laysFinal "RetraceDeskModel" "RetraceDeskModel" "classOf" "[I") ∈ am_tbl := am_in (lw_in5 (List.mem_of_getElem? (i := 188) rfl)) (by decide +kernel)
theorem tb_1150 : (Jvm.Cond.laysFinal "RetraceDeskModel" "RetraceDeskModel" "groupOf" "[I") ∈ am_tbl := am_in (lw_in5 (List.mem_of_getElem? (i := 190) rfl)) (by decide +kernel)
theorem tb_1152 : (Jvm.Cond.lays "RetraceDeskModel" "RetraceDeskModel" "groups" "I") ∈ am_tbl := am_in (lw_in5 (List.mem_of_getElem? (i := 192) rfl)) (by decide +kernel)
theorem tb_1154 : (Jvm.Cond.lays "RetraceDeskModel" "RetraceDeskModel" "value" "I") ∈ am_tbl := am_in (lw_in5 (List.mem_of_getElem? (i := 194) rfl)) (by decide +kernel)
theorem tb_1156 : (Jvm.Cond.lays "RetraceDeskModel" "RetraceDeskModel" "parts" "I") ∈ am_tbl := am_in (lw_in5 (List.mem_of_getElem? (i := 196) rfl)) (by decide +kernel)
theorem tb_1158 : (Jvm.Cond.lays "RetraceDeskModel" "RetraceDeskModel" "lastPart" "I") ∈ am_tbl := am_in (lw_in5 (List.mem_of_getElem? (i := 198) rfl)) (by decide +kernel)
theorem tb_1160 : (Jvm.Cond.lays "RetraceDeskModel" "RetraceDeskModel" "lines" "I") ∈ am_tbl := am_in (lw_in5 (List.mem_of_getElem? (i := 200) rfl)) (by decide +kernel)
theorem tb_1162 : (Jvm.Cond.laysFinal "RetraceDeskModel" "RetraceDeskModel" "kind" "[I") ∈ am_tbl := am_in (lw_in5 (List.mem_of_getElem? (i := 202) rfl)) (by decide +kernel)
theorem tb_1164 : (Jvm.Cond.laysFinal "RetraceDeskModel" "RetraceDeskModel" "lineFrom" "[I") ∈ am_tbl := am_in (lw_in5 (List.mem_of_getElem? (i := 204) rfl)) (by decide +kernel)
theorem tb_1166 : (Jvm.Cond.laysFinal "RetraceDeskModel" "RetraceDeskModel" "lineTo" "[I") ∈ am_tbl := am_in (lw_in5 (List.mem_of_getElem? (i := 206) rfl)) (by decide +kernel)
theorem tb_1168 : (Jvm.Cond.laysFinal "RetraceDeskModel" "RetraceDeskModel" "nameFrom" "[I") ∈ am_tbl := am_in (lw_in5 (List.mem_of_getElem? (i := 208) rfl)) (by decide +kernel)
theorem tb_1170 : (Jvm.Cond.laysFinal "RetraceDeskModel" "RetraceDeskModel" "nameTo" "[I") ∈ am_tbl := am_in (lw_in5 (List.mem_of_getElem? (i := 210) rfl)) (by decide +kernel)
theorem tb_1172 : (Jvm.Cond.laysFinal "RetraceDeskModel" "RetraceDeskModel" "methodFrom" "[I") ∈ am_tbl := am_in (lw_in5 (List.mem_of_getElem? (i := 212) rfl)) (by decide +kernel)
theorem tb_1174 : (Jvm.Cond.laysFinal "RetraceDeskModel" "RetraceDeskModel" "fileFrom" "[I") ∈ am_tbl := am_in (lw_in5 (List.mem_of_getElem? (i := 214) rfl)) (by decide +kernel)
theorem tb_1176 : (Jvm.Cond.laysFinal "RetraceDeskModel" "RetraceDeskModel" "fileTo" "[I") ∈ am_tbl := am_in (lw_in5 (List.mem_of_getElem? (i := 216) rfl)) (by decide +kernel)
theorem tb_1178 : (Jvm.Cond.laysFinal "RetraceDeskModel" "RetraceDeskModel" "number" "[I") ∈ am_tbl := am_in (lw_in5 (List.mem_of_getElem? (i := 218) rfl)) (by decide +kernel)
theorem tb_1180 : (Jvm.Cond.laysFinal "RetraceDeskModel" "RetraceDeskModel" "out" "[I") ∈ am_tbl := am_in (lw_in5 (List.mem_of_getElem? (i := 220) rfl)) (by decide +kernel)
theorem tb_1182 : (Jvm.Cond.lays "RetraceDeskModel" "RetraceDeskModel" "outSize" "I") ∈ am_tbl := am_in (lw_in5 (List.mem_of_getElem? (i := 222) rfl)) (by decide +kernel)
theorem tb_1184 : (Jvm.Cond.lays "RetraceDeskModel" "RetraceDeskModel" "overflow" "Z") ∈ am_tbl := am_in (lw_in5 (List.mem_of_getElem? (i := 224) rfl)) (by decide +kernel)
theorem tb_1186 : (Jvm.Cond.lays "RetraceDeskModel" "RetraceDeskModel" "doubts" "I") ∈ am_tbl := am_in (lw_in5 (List.mem_of_getElem? (i := 226) rfl)) (by decide +kernel)
theorem tb_1188 : (Jvm.Cond.laysFinal "RetraceDeskModel" "RetraceDeskModel" "print" "[I") ∈ am_tbl := am_in (lw_in5 (List.mem_of_getElem? (i := 228) rfl)) (by decide +kernel)
theorem tb_1190 : (Jvm.Cond.lays "RetraceDeskModel" "RetraceDeskModel" "printSize" "I") ∈ am_tbl := am_in (lw_in5 (List.mem_of_getElem? (i := 230) rfl)) (by decide +kernel)
theorem tb_1192 : (Jvm.Cond.lays "RetraceDeskModel" "RetraceDeskModel" "doubtsKept" "I") ∈ am_tbl := am_in (lw_in5 (List.mem_of_getElem? (i := 232) rfl)) (by decide +kernel)
theorem tb_1194 : (Jvm.Cond.lays "RetraceDeskModel" "RetraceDeskModel" "wrongLine" "I") ∈ am_tbl := am_in (lw_in5 (List.mem_of_getElem? (i := 234) rfl)) (by decide +kernel)
theorem tb_1196 : (Jvm.Cond.lays "RetraceDeskModel" "RetraceDeskModel" "hash" "J") ∈ am_tbl := am_in (lw_in5 (List.mem_of_getElem? (i := 236) rfl)) (by decide +kernel)
theorem tb_1198 : (Jvm.Cond.lays "RetraceDeskModel" "RetraceDeskModel" "crashCount" "I") ∈ am_tbl := am_in (lw_in5 (List.mem_of_getElem? (i := 238) rfl)) (by decide +kernel)
theorem tb_1200 : (Jvm.Cond.lays "RetraceDeskModel" "RetraceDeskModel" "reportCount" "I") ∈ am_tbl := am_in (lw_in6 (List.mem_of_getElem? (i := 0) rfl)) (by decide +kernel)
theorem tb_1202 : (Jvm.Cond.laysFinal "RetraceDeskModel" "RetraceDeskModel" "keys" "[J") ∈ am_tbl := am_in (lw_in6 (List.mem_of_getElem? (i := 2) rfl)) (by decide +kernel)
theorem tb_1204 : (Jvm.Cond.laysFinal "RetraceDeskModel" "RetraceDeskModel" "times" "[I") ∈ am_tbl := am_in (lw_in6 (List.mem_of_getElem? (i := 4) rfl)) (by decide +kernel)
theorem tb_1206 : (Jvm.Cond.laysFinal "RetraceDeskModel" "RetraceDeskModel" "firsts" "[I") ∈ am_tbl := am_in (lw_in6 (List.mem_of_getElem? (i := 6) rfl)) (by decide +kernel)
theorem tb_1208 : (Jvm.Cond.laysFinal "RetraceDeskModel" "RetraceDeskModel" "lasts" "[I") ∈ am_tbl := am_in (lw_in6 (List.mem_of_getElem? (i := 8) rfl)) (by decide +kernel)
theorem tb_1210 : (Jvm.Cond.lays "RetraceDeskModel" "RetraceDeskModel" "code" "I") ∈ am_tbl := am_in (lw_in6 (List.mem_of_getElem? (i := 10) rfl)) (by decide +kernel)
theorem tb_1213 : (Jvm.Cond.methodLink "RetraceDeskLaw" (66 : Nat) ({ cls := "RetraceDeskModel", name := "thrown", desc := "()I" } : Jvm.MethodName)) ∈ am_tbl := am_in (lw_in6 (List.mem_of_getElem? (i := 13) rfl)) (by decide +kernel)
theorem tb_1214 : (Jvm.Cond.instanceMethod ({ cls := "RetraceDeskModel", name := "thrown", desc := "()I" } : Jvm.MethodName)) ∈ am_tbl := am_in (lw_in6 (List.mem_of_getElem? (i := 14) rfl)) (by decide +kernel)
theorem tb_1215 : (Jvm.Cond.selects "RetraceDeskModel" ({ cls := "RetraceDeskModel", name := "thrown", desc := "()I" } : Jvm.MethodName) ({ cls := "RetraceDeskModel", name := "thrown", desc := "()I" } : Jvm.MethodName)) ∈ am_tbl := am_in (lw_in6 (List.mem_of_getElem? (i := 15) rfl)) (by decide +kernel)
theorem tb_1216 : (Jvm.Cond.code ({ cls := "RetraceDeskModel", name := "thrown", desc := "()I" } : Jvm.MethodName) prog_14_method_2_code (1 : Nat) (Option.some Jvm.ClassFile.FieldType.int)) ∈ am_tbl := am_in (lw_in6 (List.mem_of_getElem? (i := 16) rfl)) (by decide +kernel)
theorem tb_1217 : (Jvm.Cond.methodLink "RetraceDeskLaw" (55 : Nat) ({ cls := "RetraceDeskModel", name := "put", desc := "(IJ)Z" } : Jvm.MethodName)) ∈ am_tbl := am_in (lw_in6 (List.mem_of_getElem? (i := 17) rfl)) (by decide +kernel)
theorem tb_1218 : (Jvm.Cond.instanceMethod ({ cls := "RetraceDeskModel", name := "put", desc := "(IJ)Z" } : Jvm.MethodName)) ∈ am_tbl := am_in (lw_in6 (List.mem_of_getElem? (i := 18) rfl)) (by decide +kernel)
theorem tb_1219 : (Jvm.Cond.selects "RetraceDeskModel" ({ cls := "RetraceDeskModel", name := "put", desc := "(IJ)Z" } : Jvm.MethodName) ({ cls := "RetraceDeskModel", name := "put", desc := "(IJ)Z" } : Jvm.MethodName)) ∈ am_tbl := am_in (lw_in6 (List.mem_of_getElem? (i := 19) rfl)) (by decide +kernel)
theorem tb_1220 : (Jvm.Cond.code ({ cls := "RetraceDeskModel", name := "put", desc := "(IJ)Z" } : Jvm.MethodName) prog_14_method_3_code (7 : Nat) (Option.some Jvm.ClassFile.FieldType.boolean)) ∈ am_tbl := am_in (lw_in6 (List.mem_of_getElem? (i := 20) rfl)) (by decide +kernel)
theorem tb_1221 : (Jvm.Cond.constantLong "RetraceDeskModel" (120 : Nat) (255 : Int64)) ∈ am_tbl := am_in (lw_in6 (List.mem_of_getElem? (i := 21) rfl)) (by decide +kernel)
theorem tb_1222 : (Jvm.Cond.methodLink "RetraceDeskLaw" (59 : Nat) ({ cls := "RetraceDeskModel", name := "scrap", desc := "()V" } : Jvm.MethodName)) ∈ am_tbl := am_in (lw_in6 (List.mem_of_getElem? (i := 22) rfl)) (by decide +kernel)
theorem tb_1223 : (Jvm.Cond.instanceMethod ({ cls := "RetraceDeskModel", name := "scrap", desc := "()V" } : Jvm.MethodName)) ∈ am_tbl := am_in (lw_in6 (List.mem_of_getElem? (i := 23) rfl)) (by decide +kernel)
theorem tb_1224 : (Jvm.Cond.selects "RetraceDeskModel" ({ cls := "RetraceDeskModel", name := "scrap", desc := "()V" } : Jvm.MethodName) ({ cls := "RetraceDeskModel", name := "scrap", desc := "()V" } : Jvm.MethodName)) ∈ am_tbl := am_in (lw_in6 (List.mem_of_getElem? (i := 24) rfl)) (by decide +kernel)
theorem tb_1225 : (Jvm.Cond.code ({ cls := "RetraceDeskModel", name := "scrap", desc := "()V" } : Jvm.MethodName) prog_14_method_4_code (1 : Nat) (Option.none : Option Jvm.ClassFile.FieldType)) ∈ am_tbl := am_in (lw_in6 (List.mem_of_getElem? (i := 25) rfl)) (by decide +kernel)
theorem tb_1226 : (Jvm.Cond.methodLink "RetraceDeskLaw" (65 : Nat) ({ cls := "RetraceDeskModel", name := "load", desc := "()I" } : Jvm.MethodName)) ∈ am_tbl := am_in (lw_in6 (List.mem_of_getElem? (i := 26) rfl)) (by decide +kernel)
theorem tb_1227 : (Jvm.Cond.instanceMethod ({ cls := "RetraceDeskModel", name := "load", desc := "()I" } : Jvm.MethodName)) ∈ am_tbl := am_in (lw_in6 (List.mem_of_getElem? (i := 27) rfl)) (by decide +kernel)
theorem tb_1228 : (Jvm.Cond.selects "RetraceDeskModel" ({ cls := "RetraceDeskModel", name := "load", desc := "()I" } : Jvm.MethodName) ({ cls := "RetraceDeskModel", name := "load", desc := "()I" } : Jvm.MethodName)) ∈ am_tbl := am_in (lw_in6 (List.mem_of_getElem? (i := 28) rfl)) (by decide +kernel)
theorem tb_1229 : (Jvm.Cond.code ({ cls := "RetraceDeskModel", name := "load", desc := "()I" } : Jvm.MethodName) prog_14_method_18_code (4 : Nat) (Option.some Jvm.ClassFile.FieldType.int)) ∈ am_tbl := am_in (lw_in6 (List.mem_of_getElem? (i := 29) rfl)) (by decide +kernel)
theorem tb_1230 : (Jvm.Cond.methodLink "RetraceDeskModel" (185 : Nat) ({ cls := "RetraceDeskModel", name := "lay", desc := "(IIZ)V" } : Jvm.MethodName)) ∈ am_tbl := am_in (lw_in6 (List.mem_of_getElem? (i := 30) rfl)) (by decide +kernel)
theorem tb_1232 : (Jvm.Cond.instanceMethod ({ cls := "RetraceDeskModel", name := "lay", desc := "(IIZ)V" } : Jvm.MethodName)) ∈ am_tbl := am_in (lw_in6 (List.mem_of_getElem? (i := 32) rfl)) (by decide +kernel)
theorem tb_1233 : (Jvm.Cond.code ({ cls := "RetraceDeskModel", name := "lay", desc := "(IIZ)V" } : Jvm.MethodName) prog_14_method_17_code (5 : Nat) (Option.none : Option Jvm.ClassFile.FieldType)) ∈ am_tbl := am_in (lw_in6 (List.mem_of_getElem? (i := 33) rfl)) (by decide +kernel)
theorem tb_1234 : (Jvm.Cond.methodLink "RetraceDeskModel" (189 : Nat) ({ cls := "RetraceDeskModel", name := "readMapping", desc := "(I)I" } : Jvm.MethodName)) ∈ am_tbl := am_in (lw_in6 (List.mem_of_getElem? (i := 34) rfl)) (by decide +kernel)
theorem tb_1236 : (Jvm.Cond.instanceMethod ({ cls := "RetraceDeskModel", name := "readMapping", desc := "(I)I" } : Jvm.MethodName)) ∈ am_tbl := am_in (lw_in6 (List.mem_of_getElem? (i := 36) rfl)) (by decide +kernel)
theorem tb_1237 : (Jvm.Cond.code ({ cls := "RetraceDeskModel", name := "readMapping", desc := "(I)I" } : Jvm.MethodName) prog_14_method_16_code (7 : Nat) (Option.some Jvm.ClassFile.FieldType.int)) ∈ am_tbl := am_in (lw_in6 (List.mem_of_getElem? (i := 37) rfl)) (by decide +kernel)
theorem tb_1238 : (Jvm.Cond.constantLong "RetraceDeskModel" (176 : Nat) (538976288 : Int64)) ∈ am_tbl := am_in (lw_in6 (List.mem_of_getElem? (i := 38) rfl)) (by decide +kernel)
theorem tb_1239 : (Jvm.Cond.methodLink "RetraceDeskModel" (150 : Nat) ({ cls := "RetraceDeskModel", name := "stands", desc := "(IIJI)Z" } : Jvm.MethodName)) ∈ am_tbl := am_in (lw_in6 (List.mem_of_getElem? (i := 39) rfl)) (by decide +kernel)
theorem tb_1241 : (Jvm.Cond.instanceMethod ({ cls := "RetraceDeskModel", name := "stands", desc := "(IIJI)Z" } : Jvm.MethodName)) ∈ am_tbl := am_in (lw_in6 (List.mem_of_getElem? (i := 41) rfl)) (by decide +kernel)
theorem tb_1242 : (Jvm.Cond.code ({ cls := "RetraceDeskModel", name := "stands", desc := "(IIJI)Z" } : Jvm.MethodName) prog_14_method_10_code (8 : Nat) (Option.some Jvm.ClassFile.FieldType.boolean)) ∈ am_tbl := am_in (lw_in6 (List.mem_of_getElem? (i := 42) rfl)) (by decide +kernel)
theorem tb_1243 : (Jvm.Cond.methodLink "RetraceDeskModel" (178 : Nat) ({ cls := "RetraceDeskModel", name := "methodLine", desc := "(II)Z" } : Jvm.MethodName)) ∈ am_tbl := am_in (lw_in6 (List.mem_of_getElem? (i := 43) rfl)) (by decide +kernel)
theorem tb_1245 : (Jvm.Cond.instanceMethod ({ cls := "RetraceDeskModel", name := "methodLine", desc := "(II)Z" } : Jvm.MethodName)) ∈ am_tbl := am_in (lw_in6 (List.mem_of_getElem? (i := 45) rfl)) (by decide +kernel)
theorem tb_1246 : (Jvm.Cond.code ({ cls := "RetraceDeskModel", name := "methodLine", desc := "(II)Z" } : Jvm.MethodName) prog_14_method_14_code (7 : Nat) (Option.some Jvm.ClassFile.FieldType.boolean)) ∈ am_tbl := am_in (lw_in6 (List.mem_of_getElem? (i := 46) rfl)) (by decide +kernel)
theorem tb_1247 : (Jvm.Cond.methodLink "RetraceDeskModel" (126 : Nat) ({ cls := "RetraceDeskModel", name := "isFigure", desc := "(I)Z" } : Jvm.MethodName)) ∈ am_tbl := am_in (lw_in6 (List.mem_of_getElem? (i := 47) rfl)) (by decide +kernel)
theorem tb_1248 : (Jvm.Cond.static ({ cls := "RetraceDeskModel", name := "isFigure", desc := "(I)Z" } : Jvm.MethodName)) ∈ am_tbl := am_in (lw_in6 (List.mem_of_getElem? (i := 48) rfl)) (by decide +kernel)
theorem tb_1249 : (Jvm.Cond.code ({ cls := "RetraceDeskModel", name := "isFigure", desc := "(I)Z" } : Jvm.MethodName) prog_14_method_5_code (1 : Nat) (Option.some Jvm.ClassFile.FieldType.boolean)) ∈ am_tbl := am_in (lw_in6 (List.mem_of_getElem? (i := 49) rfl)) (by decide +kernel)
theorem tb_1250 : (Jvm.Cond.methodLink "RetraceDeskModel" (160 : Nat) ({ cls := "RetraceDeskModel", name := "numberEnd", desc := "(II)I" } : Jvm.MethodName)) ∈ am_tbl := am_in (lw_in6 (List.mem_of_getElem? (i := 50) rfl)) (by decide +kernel)
theorem tb_1252 : (Jvm.Cond.instanceMethod ({ cls := "RetraceDeskModel", name := "numberEnd", desc := "(II)I" } : Jvm.MethodName)) ∈ am_tbl := am_in (lw_in6 (List.mem_of_getElem? (i := 52) rfl)) (by decide +kernel)
theorem tb_1253 : (Jvm.Cond.code ({ cls := "RetraceDeskModel", name := "numberEnd", desc := "(II)I" } : Jvm.MethodName) prog_14_method_9_code (5 : Nat) (Option.some Jvm.ClassFile.FieldType.int)) ∈ am_tbl := am_in (lw_in6 (List.mem_of_getElem? (i := 53) rfl)) (by decide +kernel)
theorem tb_1254 : (Jvm.Cond.constantLong "RetraceDeskModel" (158 : Nat) (58 : Int64)) ∈ am_tbl := am_in (lw_in6 (List.mem_of_getElem? (i := 54) rfl)) (by decide +kernel)
theorem tb_1255 : (Jvm.Cond.methodLink "RetraceDeskModel" (142 : Nat) ({ cls := "RetraceDeskModel", name := "nameEnd", desc := "(II)I" } : Jvm.MethodName)) ∈ am_tbl := am_in (lw_in6 (List.mem_of_getElem? (i := 55) rfl)) (by decide +kernel)
theorem tb_1257 : (Jvm.Cond.instanceMethod ({ cls := "RetraceDeskModel", name := "nameEnd", desc := "(II)I" } : Jvm.MethodName)) ∈ am_tbl := am_in (lw_in6 (List.mem_of_getElem? (i := 57) rfl)) (by decide +kernel)
theorem tb_1258 : (Jvm.Cond.code ({ cls := "RetraceDeskModel", name := "nameEnd", desc := "(II)I" } : Jvm.MethodName) prog_14_method_8_code (5 : Nat) (Option.some Jvm.ClassFile.FieldType.int)) ∈ am_tbl := am_in (lw_in6 (List.mem_of_getElem? (i := 58) rfl)) (by decide +kernel)
theorem tb_1259 : (Jvm.Cond.methodLink "RetraceDeskModel" (135 : Nat) ({ cls := "RetraceDeskModel", name := "partEnd", desc := "(II)I" } : Jvm.MethodName)) ∈ am_tbl := am_in (lw_in6 (List.mem_of_getElem? (i := 59) rfl)) (by decide +kernel)
theorem tb_1261 : (Jvm.Cond.instanceMethod ({ cls := "RetraceDeskModel", name := "partEnd", desc := "(II)I" } : Jvm.MethodName)) ∈ am_tbl := am_in (lw_in6 (List.mem_of_getElem? (i := 61) rfl)) (by decide +kernel)
theorem tb_1262 : (Jvm.Cond.code ({ cls := "RetraceDeskModel", name := "partEnd", desc := "(II)I" } : Jvm.MethodName) prog_14_method_7_code (4 : Nat) (Option.some Jvm.ClassFile.FieldType.int)) ∈ am_tbl := am_in (lw_in6 (List.mem_of_getElem? (i := 62) rfl)) (by decide +kernel)
theorem tb_1263 : (Jvm.Cond.methodLink "RetraceDeskModel" (122 : Nat) ({ cls := "RetraceDeskModel", name := "isLetter", desc := "(I)Z" } : Jvm.MethodName)) ∈ am_tbl := am_in (lw_in6 (List.mem_of_getElem? (i := 63) rfl)) (by decide +kernel)
theorem tb_1264 : (Jvm.Cond.static ({ cls := "RetraceDeskModel", name := "isLetter", desc := "(I)Z" } : Jvm.MethodName)) ∈ am_tbl := am_in (lw_in6 (List.mem_of_getElem? (i := 64) rfl)) (by decide +kernel)
theorem tb_1265 : (Jvm.Cond.code ({ cls := "RetraceDeskModel", name := "isLetter", desc := "(I)Z" } : Jvm.MethodName) prog_14_method_6_code (1 : Nat) (Option.some Jvm.ClassFile.FieldType.boolean)) ∈ am_tbl := am_in (lw_in6 (List.mem_of_getElem? (i := 65) rfl)) (by decide +kernel)
theorem tb_1266 : (Jvm.Cond.methodLink "RetraceDeskModel" (166 : Nat) ({ cls := "RetraceDeskModel", name := "methodRest", desc := "(IIIZ)Z" } : Jvm.MethodName)) ∈ am_tbl := am_in (lw_in6 (List.mem_of_getElem? (i := 66) rfl)) (by decide +kernel)
theorem tb_1268 : (Jvm.Cond.instanceMethod ({ cls := "RetraceDeskModel", name := "methodRest", desc := "(IIIZ)Z" } : Jvm.MethodName)) ∈ am_tbl := am_in (lw_in6 (List.mem_of_getElem? (i := 68) rfl)) (by decide +kernel)
theorem tb_1269 : (Jvm.Cond.code ({ cls := "RetraceDeskModel", name := "methodRest", desc := "(IIIZ)Z" } : Jvm.MethodName) prog_14_method_15_code (8 : Nat) (Option.some Jvm.ClassFile.FieldType.boolean)) ∈ am_tbl := am_in (lw_in6 (List.mem_of_getElem? (i := 69) rfl)) (by decide +kernel)
theorem tb_1270 : (Jvm.Cond.methodLink "RetraceDeskModel" (170 : Nat) ({ cls := "RetraceDeskModel", name := "more", desc := "(II)I" } : Jvm.MethodName)) ∈ am_tbl := am_in (lw_in6 (List.mem_of_getElem? (i := 70) rfl)) (by decide +kernel)
theorem tb_1272 : (Jvm.Cond.instanceMethod ({ cls := "RetraceDeskModel", name := "more", desc := "(II)I" } : Jvm.MethodName)) ∈ am_tbl := am_in (lw_in6 (List.mem_of_getElem? (i := 72) rfl)) (by decide +kernel)
theorem tb_1273 : (Jvm.Cond.code ({ cls := "RetraceDeskModel", name := "more", desc := "(II)I" } : Jvm.MethodName) prog_14_method_13_code (3 : Nat) (Option.some Jvm.ClassFile.FieldType.int)) ∈ am_tbl := am_in (lw_in6 (List.mem_of_getElem? (i := 73) rfl)) (by decide +kernel)
theorem tb_1274 : (Jvm.Cond.constantLong "RetraceDeskModel" (148 : Nat) (539835936 : Int64)) ∈ am_tbl := am_in (lw_in6 (List.mem_of_getElem? (i := 74) rfl)) (by decide +kernel)
theorem tb_1275 : (Jvm.Cond.methodLink "RetraceDeskModel" (154 : Nat) ({ cls := "RetraceDeskModel", name := "same", desc := "(IIII)Z" } : Jvm.MethodName)) ∈ am_tbl := am_in (lw_in6 (List.mem_of_getElem? (i := 75) rfl)) (by decide +kernel)
theorem tb_1277 : (Jvm.Cond.instanceMethod ({ cls := "RetraceDeskModel", name := "same", desc := "(IIII)Z" } : Jvm.MethodName)) ∈ am_tbl := am_in (lw_in6 (List.mem_of_getElem? (i := 77) rfl)) (by decide +kernel)
theorem tb_1278 : (Jvm.Cond.code ({ cls := "RetraceDeskModel", name := "same", desc := "(IIII)Z" } : Jvm.MethodName) prog_14_method_11_code (7 : Nat) (Option.some Jvm.ClassFile.FieldType.boolean)) ∈ am_tbl := am_in (lw_in6 (List.mem_of_getElem? (i := 78) rfl)) (by decide +kernel)
theorem tb_1279 : (Jvm.Cond.methodLink "RetraceDeskModel" (182 : Nat) ({ cls := "RetraceDeskModel", name := "classLine", desc := "(II)Z" } : Jvm.MethodName)) ∈ am_tbl := am_in (lw_in6 (List.mem_of_getElem? (i := 79) rfl)) (by decide +kernel)
theorem tb_1281 : (Jvm.Cond.instanceMethod ({ cls := "RetraceDeskModel", name := "classLine", desc := "(II)Z" } : Jvm.MethodName)) ∈ am_tbl := am_in (lw_in6 (List.mem_of_getElem? (i := 81) rfl)) (by decide +kernel)
theorem tb_1282 : (Jvm.Cond.code ({ cls := "RetraceDeskModel", name := "classLine", desc := "(II)Z" } : Jvm.MethodName) prog_14_method_12_code (6 : Nat) (Option.some Jvm.ClassFile.FieldType.boolean)) ∈ am_tbl := am_in (lw_in6 (List.mem_of_getElem? (i := 82) rfl)) (by decide +kernel)
theorem tb_1283 : (Jvm.Cond.methodLink "RetraceDeskLaw" (71 : Nat) ({ cls := "RetraceDeskModel", name := "retrace", desc := "()I" } : Jvm.MethodName)) ∈ am_tbl := am_in (lw_in6 (List.mem_of_getElem? (i := 83) rfl)) (by decide +kernel)
theorem tb_1284 : (Jvm.Cond.instanceMethod ({ cls := "RetraceDeskModel", name := "retrace", desc := "()I" } : Jvm.MethodName)) ∈ am_tbl := am_in (lw_in6 (List.mem_of_getElem? (i := 84) rfl)) (by decide +kernel)
theorem tb_1285 : (Jvm.Cond.selects "RetraceDeskModel" ({ cls := "RetraceDeskModel", name := "retrace", desc := "()I" } : Jvm.MethodName) ({ cls := "RetraceDeskModel", name := "retrace", desc := "()I" } : Jvm.MethodName)) ∈ am_tbl := am_in (lw_in6 (List.mem_of_getElem? (i := 85) rfl)) (by decide +kernel)
theorem tb_1286 : (Jvm.Cond.code ({ cls := "RetraceDeskModel", name := "retrace", desc := "()I" } : Jvm.MethodName) prog_14_method_53_code (1 : Nat) (Option.some Jvm.ClassFile.FieldType.int)) ∈ am_tbl := am_in (lw_in6 (List.mem_of_getElem? (i := 86) rfl)) (by decide +kernel)
theorem tb_1287 : (Jvm.Cond.methodLink "RetraceDeskModel" (347 : Nat) ({ cls := "RetraceDeskModel", name := "rewrite", desc := "(Z)I" } : Jvm.MethodName)) ∈ am_tbl := am_in (lw_in6 (List.mem_of_getElem? (i := 87) rfl)) (by decide +kernel)
theorem tb_1289 : (Jvm.Cond.instanceMethod ({ cls := "RetraceDeskModel", name := "rewrite", desc := "(Z)I" } : Jvm.MethodName)) ∈ am_tbl := am_in (lw_in6 (List.mem_of_getElem? (i := 89) rfl)) (by decide +kernel)
theorem tb_1290 : (Jvm.Cond.code ({ cls := "RetraceDeskModel", name := "rewrite", desc := "(Z)I" } : Jvm.MethodName) prog_14_method_50_code (4 : Nat) (Option.some Jvm.ClassFile.FieldType.int)) ∈ am_tbl := am_in (lw_in6 (List.mem_of_getElem? (i := 90) rfl)) (by decide +kernel)
theorem tb_1291 : (Jvm.Cond.methodLink "RetraceDeskModel" (332 : Nat) ({ cls := "RetraceDeskModel", name := "readTrace", desc := "(I)I" } : Jvm.MethodName)) ∈ am_tbl := am_in (lw_in6 (List.mem_of_getElem? (i := 91) rfl)) (by decide +kernel)
theorem tb_1293 : (Jvm.Cond.instanceMethod ({ cls := "RetraceDeskModel", name := "readTrace", desc := "(I)I" } : Jvm.MethodName)) ∈ am_tbl := am_in (lw_in6 (List.mem_of_getElem? (i := 93) rfl)) (by decide +kernel)
theorem tb_1294 : (Jvm.Cond.code ({ cls := "RetraceDeskModel", name := "readTrace", desc := "(I)I" } : Jvm.MethodName) prog_14_method_25_code (9 : Nat) (Option.some Jvm.ClassFile.FieldType.int)) ∈ am_tbl := am_in (lw_in6 (List.mem_of_getElem? (i := 94) rfl)) (by decide +kernel)
theorem tb_1295 : (Jvm.Cond.methodLink "RetraceDeskModel" (241 : Nat) ({ cls := "RetraceDeskModel", name := "lineKind", desc := "(III)I" } : Jvm.MethodName)) ∈ am_tbl := am_in (lw_in6 (List.mem_of_getElem? (i := 95) rfl)) (by decide +kernel)
theorem tb_1297 : (Jvm.Cond.instanceMethod ({ cls := "RetraceDeskModel", name := "lineKind", desc := "(III)I" } : Jvm.MethodName)) ∈ am_tbl := am_in (lw_in6 (List.mem_of_getElem? (i := 97) rfl)) (by decide +kernel)
theorem tb_1298 : (Jvm.Cond.code ({ cls := "RetraceDeskModel", name := "lineKind", desc := "(III)I" } : Jvm.MethodName) prog_14_method_24_code (4 : Nat) (Option.some Jvm.ClassFile.FieldType.int)) ∈ am_tbl := am_in (lw_in6 (List.mem_of_getElem? (i := 98) rfl)) (by decide +kernel)
theorem tb_1299 : (Jvm.Cond.methodLink "RetraceDeskModel" (228 : Nat) ({ cls := "RetraceDeskModel", name := "header", desc := "(II)Z" } : Jvm.MethodName)) ∈ am_tbl := am_in (lw_in6 (List.mem_of_getElem? (i := 99) rfl)) (by decide +kernel)
theorem tb_1301 : (Jvm.Cond.instanceMethod ({ cls := "RetraceDeskModel", name := "header", desc := "(II)Z" } : Jvm.MethodName)) ∈ am_tbl := am_in (lw_in6 (List.mem_of_getElem? (i := 101) rfl)) (by decide +kernel)
theorem tb_1302 : (Jvm.Cond.code ({ cls := "RetraceDeskModel", name := "header", desc := "(II)Z" } : Jvm.MethodName) prog_14_method_19_code (4 : Nat) (Option.some Jvm.ClassFile.FieldType.boolean)) ∈ am_tbl := am_in (lw_in6 (List.mem_of_getElem? (i := 102) rfl)) (by decide +kernel)
theorem tb_1303 : (Jvm.Cond.constantLong "RetraceDeskModel" (206 : Nat) (14880 : Int64)) ∈ am_tbl := am_in (lw_in6 (List.mem_of_getElem? (i := 103) rfl)) (by decide +kernel)
theorem tb_1304 : (Jvm.Cond.constantLong "RetraceDeskModel" (231 : Nat) (4855291011764854882 : Int64)) ∈ am_tbl := am_in (lw_in6 (List.mem_of_getElem? (i := 104) rfl)) (by decide +kernel)
theorem tb_1305 : (Jvm.Cond.constantLong "RetraceDeskModel" (233 : Nat) (7944736 : Int64)) ∈ am_tbl := am_in (lw_in6 (List.mem_of_getElem? (i := 105) rfl)) (by decide +kernel)
theorem tb_1306 : (Jvm.Cond.methodLink "RetraceDeskModel" (235 : Nat) ({ cls := "RetraceDeskModel", name := "frame", desc := "(II)Z" } : Jvm.MethodName)) ∈ am_tbl := am_in (lw_in6 (List.mem_of_getElem? (i := 106) rfl)) (by decide +kernel)
theorem tb_1308 : (Jvm.Cond.instanceMethod ({ cls := "RetraceDeskModel", name := "frame", desc := "(II)Z" } : Jvm.MethodName)) ∈ am_tbl := am_in (lw_in6 (List.mem_of_getElem? (i := 108) rfl)) (by decide +kernel)
theorem tb_1309 : (Jvm.Cond.code ({ cls := "RetraceDeskModel", name := "frame", desc := "(II)Z" } : Jvm.MethodName) prog_14_method_23_code (4 : Nat) (Option.some Jvm.ClassFile.FieldType.boolean)) ∈ am_tbl := am_in (lw_in6 (List.mem_of_getElem? (i := 109) rfl)) (by decide +kernel)
theorem tb_1310 : (Jvm.Cond.constantLong "RetraceDeskModel" (223 : Nat) (157381664 : Int64)) ∈ am_tbl := am_in (lw_in6 (List.mem_of_getElem? (i := 110) rfl)) (by decide +kernel)
theorem tb_1311 : (Jvm.Cond.methodLink "RetraceDeskModel" (225 : Nat) ({ cls := "RetraceDeskModel", name := "place", desc := "(II)Z" } : Jvm.MethodName)) ∈ am_tbl := am_in (lw_in6 (List.mem_of_getElem? (i := 111) rfl)) (by decide +kernel)
theorem tb_1313 : (Jvm.Cond.instanceMethod ({ cls := "RetraceDeskModel", name := "place", desc := "(II)Z" } : Jvm.MethodName)) ∈ am_tbl := am_in (lw_in6 (List.mem_of_getElem? (i := 113) rfl)) (by decide +kernel)
theorem tb_1314 : (Jvm.Cond.code ({ cls := "RetraceDeskModel", name := "place", desc := "(II)Z" } : Jvm.MethodName) prog_14_method_22_code (4 : Nat) (Option.some Jvm.ClassFile.FieldType.boolean)) ∈ am_tbl := am_in (lw_in6 (List.mem_of_getElem? (i := 114) rfl)) (by decide +kernel)
theorem tb_1315 : (Jvm.Cond.methodLink "RetraceDeskModel" (220 : Nat) ({ cls := "RetraceDeskModel", name := "isNowhere", desc := "(II)Z" } : Jvm.MethodName)) ∈ am_tbl := am_in (lw_in6 (List.mem_of_getElem? (i := 115) rfl)) (by decide +kernel)
theorem tb_1317 : (Jvm.Cond.instanceMethod ({ cls := "RetraceDeskModel", name := "isNowhere", desc := "(II)Z" } : Jvm.MethodName)) ∈ am_tbl := am_in (lw_in6 (List.mem_of_getElem? (i := 117) rfl)) (by decide +kernel)
theorem tb_1318 : (Jvm.Cond.code ({ cls := "RetraceDeskModel", name := "isNowhere", desc := "(II)Z" } : Jvm.MethodName) prog_14_method_21_code (4 : Nat) (Option.some Jvm.ClassFile.FieldType.boolean)) ∈ am_tbl := am_in (lw_in6 (List.mem_of_getElem? (i := 118) rfl)) (by decide +kernel)
theorem tb_1319 : (Jvm.Cond.constantLong "RetraceDeskModel" (212 : Nat) (6155975862722719264 : Int64)) ∈ am_tbl := am_in (lw_in6 (List.mem_of_getElem? (i := 119) rfl)) (by decide +kernel)
theorem tb_1320 : (Jvm.Cond.constantLong "RetraceDeskModel" (214 : Nat) (91738176906085 : Int64)) ∈ am_tbl := am_in (lw_in6 (List.mem_of_getElem? (i := 120) rfl)) (by decide +kernel)
theorem tb_1321 : (Jvm.Cond.constantLong "RetraceDeskModel" (216 : Nat) (5647923404006039629 : Int64)) ∈ am_tbl := am_in (lw_in6 (List.mem_of_getElem? (i := 121) rfl)) (by decide +kernel)
theorem tb_1322 : (Jvm.Cond.constantLong "RetraceDeskModel" (218 : Nat) (435744698212 : Int64)) ∈ am_tbl := am_in (lw_in6 (List.mem_of_getElem? (i := 122) rfl)) (by decide +kernel)
theorem tb_1323 : (Jvm.Cond.methodLink "RetraceDeskModel" (238 : Nat) ({ cls := "RetraceDeskModel", name := "moreLine", desc := "(II)Z" } : Jvm.MethodName)) ∈ am_tbl := am_in (lw_in6 (List.mem_of_getElem? (i := 123) rfl)) (by decide +kernel)
theorem tb_1325 : (Jvm.Cond.instanceMethod ({ cls := "RetraceDeskModel", name := "moreLine", desc := "(II)Z" } : Jvm.MethodName)) ∈ am_tbl := am_in (lw_in6 (List.mem_of_getElem? (i := 125) rfl)) (by decide +kernel)
theorem tb_1326 : (Jvm.Cond.code ({ cls := "RetraceDeskModel", name := "moreLine", desc := "(II)Z" } : Jvm.MethodName) prog_14_method_20_code (4 : Nat) (Option.some Jvm.ClassFile.FieldType.boolean)) ∈ am_tbl := am_in (lw_in6 (List.mem_of_getElem? (i := 126) rfl)) (by decide +kernel)
theorem tb_1327 : (Jvm.Cond.constantLong "RetraceDeskModel" (208 : Nat) (39429484064 : Int64)) ∈ am_tbl := am_in (lw_in6 (List.mem_of_getElem? (i := 127) rfl)) (by decide +kernel)
theorem tb_1328 : (Jvm.Cond.constantLong "RetraceDeskModel" (210 : Nat) (139274973797 : Int64)) ∈ am_tbl := am_in (lw_in6 (List.mem_of_getElem? (i := 128) rfl)) (by decide +kernel)
theorem tb_1329 : (Jvm.Cond.methodLink "RetraceDeskModel" (335 : Nat) ({ cls := "RetraceDeskModel", name := "retraceAll", desc := "()V" } : Jvm.MethodName)) ∈ am_tbl := am_in (lw_in6 (List.mem_of_getElem? (i := 129) rfl)) (by decide +kernel)
theorem tb_1331 : (Jvm.Cond.instanceMethod ({ cls := "RetraceDeskModel", name := "retraceAll", desc := "()V" } : Jvm.MethodName)) ∈ am_tbl := am_in (lw_in6 (List.mem_of_getElem? (i := 131) rfl)) (by decide +kernel)
theorem tb_1332 : (Jvm.Cond.code ({ cls := "RetraceDeskModel", name := "retraceAll", desc := "()V" } : Jvm.MethodName) prog_14_method_43_code (3 : Nat) (Option.none : Option Jvm.ClassFile.FieldType)) ∈ am_tbl := am_in (lw_in6 (List.mem_of_getElem? (i := 132) rfl)) (by decide +kernel)
theorem tb_1333 : (Jvm.Cond.methodLink "RetraceDeskModel" (284 : Nat) ({ cls := "RetraceDeskModel", name := "classLineOf", desc := "(IIZ)I" } : Jvm.MethodName)) ∈ am_tbl := am_in (lw_in6 (List.mem_of_getElem? (i := 133) rfl)) (by decide +kernel)
theorem tb_1335 : (Jvm.Cond.instanceMethod ({ cls := "RetraceDeskModel", name := "classLineOf", desc := "(IIZ)I" } : Jvm.MethodName)) ∈ am_tbl := am_in (lw_in6 (List.mem_of_getElem? (i := 135) rfl)) (by decide +kernel)
theorem tb_1336 : (Jvm.Cond.code ({ cls := "RetraceDeskModel", name := "classLineOf", desc := "(IIZ)I" } : Jvm.MethodName) prog_14_method_35_code (5 : Nat) (Option.some Jvm.ClassFile.FieldType.int)) ∈ am_tbl := am_in (lw_in6 (List.mem_of_getElem? (i := 136) rfl)) (by decide +kernel)
theorem tb_1337 : (Jvm.Cond.methodLink "RetraceDeskModel" (307 : Nat) ({ cls := "RetraceDeskModel", name := "emitHeader", desc := "(III)V" } : Jvm.MethodName)) ∈ am_tbl := am_in (lw_in6 (List.mem_of_getElem? (i := 137) rfl)) (by decide +kernel)
theorem tb_1339 : (Jvm.Cond.instanceMethod ({ cls := "RetraceDeskModel", name := "emitHeader", desc := "(III)V" } : Jvm.MethodName)) ∈ am_tbl := am_in (lw_in6 (List.mem_of_getElem? (i := 139) rfl)) (by decide +kernel)
theorem tb_1340 : (Jvm.Cond.code ({ cls := "RetraceDeskModel", name := "emitHeader", desc := "(III)V" } : Jvm.MethodName) prog_14_method_31_code (4 : Nat) (Option.none : Option Jvm.ClassFile.FieldType)) ∈ am_tbl := am_in (lw_in6 (List.mem_of_getElem? (i := 140) rfl)) (by decide +kernel)
theorem tb_1341 : (Jvm.Cond.methodLink "RetraceDeskModel" (255 : Nat) ({ cls := "RetraceDeskModel", name := "emitText", desc := "(II)V" } : Jvm.MethodName)) ∈ am_tbl := am_in (lw_in6 (List.mem_of_getElem? (i := 141) rfl)) (by decide +kernel)
theorem tb_1343 : (Jvm.Cond.instanceMethod ({ cls := "RetraceDeskModel", name := "emitText", desc := "(II)V" } : Jvm.MethodName)) ∈ am_tbl := am_in (lw_in6 (List.mem_of_getElem? (i := 143) rfl)) (by decide +kernel)
theorem tb_1344 : (Jvm.Cond.code ({ cls := "RetraceDeskModel", name := "emitText", desc := "(II)V" } : Jvm.MethodName) prog_14_method_27_code (4 : Nat) (Option.none : Option Jvm.ClassFile.FieldType)) ∈ am_tbl := am_in (lw_in6 (List.mem_of_getElem? (i := 144) rfl)) (by decide +kernel)
theorem tb_1345 : (Jvm.Cond.methodLink "RetraceDeskModel" (251 : Nat) ({ cls := "RetraceDeskModel", name := "emit", desc := "(I)V" } : Jvm.MethodName)) ∈ am_tbl := am_in (lw_in6 (List.mem_of_getElem? (i := 145) rfl)) (by decide +kernel)
theorem tb_1347 : (Jvm.Cond.instanceMethod ({ cls := "RetraceDeskModel", name := "emit", desc := "(I)V" } : Jvm.MethodName)) ∈ am_tbl := am_in (lw_in6 (List.mem_of_getElem? (i := 147) rfl)) (by decide +kernel)
theorem tb_1348 : (Jvm.Cond.code ({ cls := "RetraceDeskModel", name := "emit", desc := "(I)V" } : Jvm.MethodName) prog_14_method_26_code (2 : Nat) (Option.none : Option Jvm.ClassFile.FieldType)) ∈ am_tbl := am_in (lw_in6 (List.mem_of_getElem? (i := 148) rfl)) (by decide +kernel)
theorem tb_1349 : (Jvm.Cond.methodLink "RetraceDeskModel" (311 : Nat) ({ cls := "RetraceDeskModel", name := "retraceFrame", desc := "(I)V" } : Jvm.MethodName)) ∈ am_tbl := am_in (lw_in6 (List.mem_of_getElem? (i := 149) rfl)) (by decide +kernel)
theorem tb_1351 : (Jvm.Cond.instanceMethod ({ cls := "RetraceDeskModel", name := "retraceFrame", desc := "(I)V" } : Jvm.MethodName)) ∈ am_tbl := am_in (lw_in6 (List.mem_of_getElem? (i := 151) rfl)) (by decide +kernel)
theorem tb_1352 : (Jvm.Cond.code ({ cls := "RetraceDeskModel", name := "retraceFrame", desc := "(I)V" } : Jvm.MethodName) prog_14_method_42_code (8 : Nat) (Option.none : Option Jvm.ClassFile.FieldType)) ∈ am_tbl := am_in (lw_in6 (List.mem_of_getElem? (i := 152) rfl)) (by decide +kernel)
theorem tb_1353 : (Jvm.Cond.methodLink "RetraceDeskModel" (288 : Nat) ({ cls := "RetraceDeskModel", name := "isFor", desc := "(III)Z" } : Jvm.MethodName)) ∈ am_tbl := am_in (lw_in6 (List.mem_of_getElem? (i := 153) rfl)) (by decide +kernel)
theorem tb_1355 : (Jvm.Cond.instanceMethod ({ cls := "RetraceDeskModel", name := "isFor", desc := "(III)Z" } : Jvm.MethodName)) ∈ am_tbl := am_in (lw_in6 (List.mem_of_getElem? (i := 155) rfl)) (by decide +kernel)
theorem tb_1356 : (Jvm.Cond.code ({ cls := "RetraceDeskModel", name := "isFor", desc := "(III)Z" } : Jvm.MethodName) prog_14_method_38_code (5 : Nat) (Option.some Jvm.ClassFile.FieldType.boolean)) ∈ am_tbl := am_in (lw_in6 (List.mem_of_getElem? (i := 156) rfl)) (by decide +kernel)
theorem tb_1357 : (Jvm.Cond.methodLink "RetraceDeskModel" (269 : Nat) ({ cls := "RetraceDeskModel", name := "lineOf", desc := "(I)I" } : Jvm.MethodName)) ∈ am_tbl := am_in (lw_in6 (List.mem_of_getElem? (i := 157) rfl)) (by decide +kernel)
theorem tb_1359 : (Jvm.Cond.instanceMethod ({ cls := "RetraceDeskModel", name := "lineOf", desc := "(I)I" } : Jvm.MethodName)) ∈ am_tbl := am_in (lw_in6 (List.mem_of_getElem? (i := 159) rfl)) (by decide +kernel)
theorem tb_1360 : (Jvm.Cond.code ({ cls := "RetraceDeskModel", name := "lineOf", desc := "(I)I" } : Jvm.MethodName) prog_14_method_36_code (3 : Nat) (Option.some Jvm.ClassFile.FieldType.int)) ∈ am_tbl := am_in (lw_in6 (List.mem_of_getElem? (i := 160) rfl)) (by decide +kernel)
theorem tb_1361 : (Jvm.Cond.methodLink "RetraceDeskModel" (292 : Nat) ({ cls := "RetraceDeskModel", name := "inlined", desc := "(II)V" } : Jvm.MethodName)) ∈ am_tbl := am_in (lw_in6 (List.mem_of_getElem? (i := 161) rfl)) (by decide +kernel)
theorem tb_1363 : (Jvm.Cond.instanceMethod ({ cls := "RetraceDeskModel", name := "inlined", desc := "(II)V" } : Jvm.MethodName)) ∈ am_tbl := am_in (lw_in6 (List.mem_of_getElem? (i := 163) rfl)) (by decide +kernel)
theorem tb_1364 : (Jvm.Cond.code ({ cls := "RetraceDeskModel", name := "inlined", desc := "(II)V" } : Jvm.MethodName) prog_14_method_40_code (4 : Nat) (Option.none : Option Jvm.ClassFile.FieldType)) ∈ am_tbl := am_in (lw_in6 (List.mem_of_getElem? (i := 164) rfl)) (by decide +kernel)
theorem tb_1365 : (Jvm.Cond.methodLink "RetraceDeskModel" (272 : Nat) ({ cls := "RetraceDeskModel", name := "lastOf", desc := "(I)I" } : Jvm.MethodName)) ∈ am_tbl := am_in (lw_in6 (List.mem_of_getElem? (i := 165) rfl)) (by decide +kernel)
theorem tb_1367 : (Jvm.Cond.instanceMethod ({ cls := "RetraceDeskModel", name := "lastOf", desc := "(I)I" } : Jvm.MethodName)) ∈ am_tbl := am_in (lw_in6 (List.mem_of_getElem? (i := 167) rfl)) (by decide +kernel)
theorem tb_1368 : (Jvm.Cond.code ({ cls := "RetraceDeskModel", name := "lastOf", desc := "(I)I" } : Jvm.MethodName) prog_14_method_37_code (3 : Nat) (Option.some Jvm.ClassFile.FieldType.int)) ∈ am_tbl := am_in (lw_in6 (List.mem_of_getElem? (i := 168) rfl)) (by decide +kernel)
theorem tb_1369 : (Jvm.Cond.methodLink "RetraceDeskModel" (275 : Nat) ({ cls := "RetraceDeskModel", name := "emitCall", desc := "(I)V" } : Jvm.MethodName)) ∈ am_tbl := am_in (lw_in6 (List.mem_of_getElem? (i := 169) rfl)) (by decide +kernel)
theorem tb_1371 : (Jvm.Cond.instanceMethod ({ cls := "RetraceDeskModel", name := "emitCall", desc := "(I)V" } : Jvm.MethodName)) ∈ am_tbl := am_in (lw_in6 (List.mem_of_getElem? (i := 171) rfl)) (by decide +kernel)
theorem tb_1372 : (Jvm.Cond.code ({ cls := "RetraceDeskModel", name := "emitCall", desc := "(I)V" } : Jvm.MethodName) prog_14_method_39_code (2 : Nat) (Option.none : Option Jvm.ClassFile.FieldType)) ∈ am_tbl := am_in (lw_in6 (List.mem_of_getElem? (i := 172) rfl)) (by decide +kernel)
theorem tb_1373 : (Jvm.Cond.methodLink "RetraceDeskModel" (261 : Nat) ({ cls := "RetraceDeskModel", name := "emitWord", desc := "(JI)V" } : Jvm.MethodName)) ∈ am_tbl := am_in (lw_in6 (List.mem_of_getElem? (i := 173) rfl)) (by decide +kernel)
theorem tb_1375 : (Jvm.Cond.instanceMethod ({ cls := "RetraceDeskModel", name := "emitWord", desc := "(JI)V" } : Jvm.MethodName)) ∈ am_tbl := am_in (lw_in6 (List.mem_of_getElem? (i := 175) rfl)) (by decide +kernel)
theorem tb_1376 : (Jvm.Cond.code ({ cls := "RetraceDeskModel", name := "emitWord", desc := "(JI)V" } : Jvm.MethodName) prog_14_method_28_code (5 : Nat) (Option.none : Option Jvm.ClassFile.FieldType)) ∈ am_tbl := am_in (lw_in6 (List.mem_of_getElem? (i := 176) rfl)) (by decide +kernel)
theorem tb_1377 : (Jvm.Cond.methodLink "RetraceDeskModel" (278 : Nat) ({ cls := "RetraceDeskModel", name := "emitFile", desc := "(II)V" } : Jvm.MethodName)) ∈ am_tbl := am_in (lw_in6 (List.mem_of_getElem? (i := 177) rfl)) (by decide +kernel)
theorem tb_1379 : (Jvm.Cond.instanceMethod ({ cls := "RetraceDeskModel", name := "emitFile", desc := "(II)V" } : Jvm.MethodName)) ∈ am_tbl := am_in (lw_in6 (List.mem_of_getElem? (i := 179) rfl)) (by decide +kernel)
theorem tb_1380 : (Jvm.Cond.code ({ cls := "RetraceDeskModel", name := "emitFile", desc := "(II)V" } : Jvm.MethodName) prog_14_method_30_code (5 : Nat) (Option.none : Option Jvm.ClassFile.FieldType)) ∈ am_tbl := am_in (lw_in6 (List.mem_of_getElem? (i := 180) rfl)) (by decide +kernel)
theorem tb_1381 : (Jvm.Cond.constantLong "RetraceDeskModel" (259 : Nat) (199353267809 : Int64)) ∈ am_tbl := am_in (lw_in6 (List.mem_of_getElem? (i := 181) rfl)) (by decide +kernel)
theorem tb_1382 : (Jvm.Cond.methodLink "RetraceDeskModel" (281 : Nat) ({ cls := "RetraceDeskModel", name := "emitNumber", desc := "(I)V" } : Jvm.MethodName)) ∈ am_tbl := am_in (lw_in6 (List.mem_of_getElem? (i := 182) rfl)) (by decide +kernel)
theorem tb_1384 : (Jvm.Cond.instanceMethod ({ cls := "RetraceDeskModel", name := "emitNumber", desc := "(I)V" } : Jvm.MethodName)) ∈ am_tbl := am_in (lw_in6 (List.mem_of_getElem? (i := 184) rfl)) (by decide +kernel)
theorem tb_1385 : (Jvm.Cond.code ({ cls := "RetraceDeskModel", name := "emitNumber", desc := "(I)V" } : Jvm.MethodName) prog_14_method_29_code (3 : Nat) (Option.none : Option Jvm.ClassFile.FieldType)) ∈ am_tbl := am_in (lw_in6 (List.mem_of_getElem? (i := 185) rfl)) (by decide +kernel)
theorem tb_1386 : (Jvm.Cond.methodLink "RetraceDeskModel" (295 : Nat) ({ cls := "RetraceDeskModel", name := "differ", desc := "(II)Z" } : Jvm.MethodName)) ∈ am_tbl := am_in (lw_in6 (List.mem_of_getElem? (i := 186) rfl)) (by decide +kernel)
theorem tb_1388 : (Jvm.Cond.instanceMethod ({ cls := "RetraceDeskModel", name := "differ", desc := "(II)Z" } : Jvm.MethodName)) ∈ am_tbl := am_in (lw_in6 (List.mem_of_getElem? (i := 188) rfl)) (by decide +kernel)
theorem tb_1389 : (Jvm.Cond.code ({ cls := "RetraceDeskModel", name := "differ", desc := "(II)Z" } : Jvm.MethodName) prog_14_method_41_code (5 : Nat) (Option.some Jvm.ClassFile.FieldType.boolean)) ∈ am_tbl := am_in (lw_in6 (List.mem_of_getElem? (i := 189) rfl)) (by decide +kernel)
theorem tb_1390 : (Jvm.Cond.methodLink "RetraceDeskModel" (301 : Nat) ({ cls := "RetraceDeskModel", name := "hasFile", desc := "(I)Z" } : Jvm.MethodName)) ∈ am_tbl := am_in (lw_in6 (List.mem_of_getElem? (i := 190) rfl)) (by decide +kernel)
theorem tb_1392 : (Jvm.Cond.instanceMethod ({ cls := "RetraceDeskModel", name := "hasFile", desc := "(I)Z" } : Jvm.MethodName)) ∈ am_tbl := am_in (lw_in6 (List.mem_of_getElem? (i := 192) rfl)) (by decide +kernel)
theorem tb_1393 : (Jvm.Cond.code ({ cls := "RetraceDeskModel", name := "hasFile", desc := "(I)Z" } : Jvm.MethodName) prog_14_method_32_code (2 : Nat) (Option.some Jvm.ClassFile.FieldType.boolean)) ∈ am_tbl := am_in (lw_in6 (List.mem_of_getElem? (i := 193) rfl)) (by decide +kernel)
theorem tb_1394 : (Jvm.Cond.methodLink "RetraceDeskModel" (304 : Nat) ({ cls := "RetraceDeskModel", name := "emitTail", desc := "(I)V" } : Jvm.MethodName)) ∈ am_tbl := am_in (lw_in6 (List.mem_of_getElem? (i := 194) rfl)) (by decide +kernel)
theorem tb_1396 : (Jvm.Cond.instanceMethod ({ cls := "RetraceDeskModel", name := "emitTail", desc := "(I)V" } : Jvm.MethodName)) ∈ am_tbl := am_in (lw_in6 (List.mem_of_getElem? (i := 196) rfl)) (by decide +kernel)
theorem tb_1397 : (Jvm.Cond.code ({ cls := "RetraceDeskModel", name := "emitTail", desc := "(I)V" } : Jvm.MethodName) prog_14_method_33_code (2 : Nat) (Option.none : Option Jvm.ClassFile.FieldType)) ∈ am_tbl := am_in (lw_in6 (List.mem_of_getElem? (i := 197) rfl)) (by decide +kernel)
theorem tb_1398 : (Jvm.Cond.methodLink "RetraceDeskModel" (338 : Nat) ({ cls := "RetraceDeskModel", name := "shortenAll", desc := "()V" } : Jvm.MethodName)) ∈ am_tbl := am_in (lw_in6 (List.mem_of_getElem? (i := 198) rfl)) (by decide +kernel)
theorem tb_1400 : (Jvm.Cond.instanceMethod ({ cls := "RetraceDeskModel", name := "shortenAll", desc := "()V" } : Jvm.MethodName)) ∈ am_tbl := am_in (lw_in6 (List.mem_of_getElem? (i := 200) rfl)) (by decide +kernel)
theorem tb_1401 : (Jvm.Cond.code ({ cls := "RetraceDeskModel", name := "shortenAll", desc := "()V" } : Jvm.MethodName) prog_14_method_49_code (3 : Nat) (Option.none : Option Jvm.ClassFile.FieldType)) ∈ am_tbl := am_in (lw_in6 (List.mem_of_getElem? (i := 201) rfl)) (by decide +kernel)
theorem tb_1402 : (Jvm.Cond.methodLink "RetraceDeskModel" (329 : Nat) ({ cls := "RetraceDeskModel", name := "shortenFrame", desc := "(I)I" } : Jvm.MethodName)) ∈ am_tbl := am_in (lw_in6 (List.mem_of_getElem? (i := 202) rfl)) (by decide +kernel)
theorem tb_1404 : (Jvm.Cond.instanceMethod ({ cls := "RetraceDeskModel", name := "shortenFrame", desc := "(I)I" } : Jvm.MethodName)) ∈ am_tbl := am_in (lw_in6 (List.mem_of_getElem? (i := 204) rfl)) (by decide +kernel)
theorem tb_1405 : (Jvm.Cond.code ({ cls := "RetraceDeskModel", name := "shortenFrame", desc := "(I)I" } : Jvm.MethodName) prog_14_method_48_code (5 : Nat) (Option.some Jvm.ClassFile.FieldType.int)) ∈ am_tbl := am_in (lw_in6 (List.mem_of_getElem? (i := 205) rfl)) (by decide +kernel)
theorem tb_1406 : (Jvm.Cond.methodLink "RetraceDeskModel" (320 : Nat) ({ cls := "RetraceDeskModel", name := "fit", desc := "(II)I" } : Jvm.MethodName)) ∈ am_tbl := am_in (lw_in6 (List.mem_of_getElem? (i := 206) rfl)) (by decide +kernel)
theorem tb_1408 : (Jvm.Cond.instanceMethod ({ cls := "RetraceDeskModel", name := "fit", desc := "(II)I" } : Jvm.MethodName)) ∈ am_tbl := am_in (lw_in6 (List.mem_of_getElem? (i := 208) rfl)) (by decide +kernel)
theorem tb_1409 : (Jvm.Cond.code ({ cls := "RetraceDeskModel", name := "fit", desc := "(II)I" } : Jvm.MethodName) prog_14_method_45_code (8 : Nat) (Option.some Jvm.ClassFile.FieldType.int)) ∈ am_tbl := am_in (lw_in6 (List.mem_of_getElem? (i := 209) rfl)) (by decide +kernel)
theorem tb_1410 : (Jvm.Cond.methodLink "RetraceDeskModel" (314 : Nat) ({ cls := "RetraceDeskModel", name := "calls", desc := "(II)Z" } : Jvm.MethodName)) ∈ am_tbl := am_in (lw_in6 (List.mem_of_getElem? (i := 210) rfl)) (by decide +kernel)
theorem tb_1412 : (Jvm.Cond.instanceMethod ({ cls := "RetraceDeskModel", name := "calls", desc := "(II)Z" } : Jvm.MethodName)) ∈ am_tbl := am_in (lw_in6 (List.mem_of_getElem? (i := 212) rfl)) (by decide +kernel)
theorem tb_1413 : (Jvm.Cond.code ({ cls := "RetraceDeskModel", name := "calls", desc := "(II)Z" } : Jvm.MethodName) prog_14_method_44_code (3 : Nat) (Option.some Jvm.ClassFile.FieldType.boolean)) ∈ am_tbl := am_in (lw_in6 (List.mem_of_getElem? (i := 213) rfl)) (by decide +kernel)
theorem tb_1414 : (Jvm.Cond.methodLink "RetraceDeskModel" (323 : Nat) ({ cls := "RetraceDeskModel", name := "emitShort", desc := "(III)V" } : Jvm.MethodName)) ∈ am_tbl := am_in (lw_in6 (List.mem_of_getElem? (i := 214) rfl)) (by decide +kernel)
theorem tb_1416 : (Jvm.Cond.instanceMethod ({ cls := "RetraceDeskModel", name := "emitShort", desc := "(III)V" } : Jvm.MethodName)) ∈ am_tbl := am_in (lw_in6 (List.mem_of_getElem? (i := 216) rfl)) (by decide +kernel)
theorem tb_1417 : (Jvm.Cond.code ({ cls := "RetraceDeskModel", name := "emitShort", desc := "(III)V" } : Jvm.MethodName) prog_14_method_46_code (4 : Nat) (Option.none : Option Jvm.ClassFile.FieldType)) ∈ am_tbl := am_in (lw_in6 (List.mem_of_getElem? (i := 217) rfl)) (by decide +kernel)
theorem tb_1418 : (Jvm.Cond.methodLink "RetraceDeskModel" (317 : Nat) ({ cls := "RetraceDeskModel", name := "emitSource", desc := "()V" } : Jvm.MethodName)) ∈ am_tbl := am_in (lw_in6 (List.mem_of_getElem? (i := 218) rfl)) (by decide +kernel)
theorem tb_1420 : (Jvm.Cond.instanceMethod ({ cls := "RetraceDeskModel", name := "emitSource", desc := "()V" } : Jvm.MethodName)) ∈ am_tbl := am_in (lw_in6 (List.mem_of_getElem? (i := 220) rfl)) (by decide +kernel)
theorem tb_1421 : (Jvm.Cond.code ({ cls := "RetraceDeskModel", name := "emitSource", desc := "()V" } : Jvm.MethodName) prog_14_method_34_code (1 : Nat) (Option.none : Option Jvm.ClassFile.FieldType)) ∈ am_tbl := am_in (lw_in6 (List.mem_of_getElem? (i := 221) rfl)) (by decide +kernel)
theorem tb_1422 : (Jvm.Cond.constantLong "RetraceDeskModel" (265 : Nat) (6012153161717204585 : Int64)) ∈ am_tbl := am_in (lw_in6 (List.mem_of_getElem? (i := 222) rfl)) (by decide +kernel)
theorem tb_1423 : (Jvm.Cond.constantLong "RetraceDeskModel" (267 : Nat) (27749 : Int64)) ∈ am_tbl := am_in (lw_in6 (List.mem_of_getElem? (i := 223) rfl)) (by decide +kernel)
theorem tb_1424 : (Jvm.Cond.methodLink "RetraceDeskModel" (326 : Nat) ({ cls := "RetraceDeskModel", name := "emitPlace", desc := "(I)V" } : Jvm.MethodName)) ∈ am_tbl := am_in (lw_in6 (List.mem_of_getElem? (i := 224) rfl)) (by decide +kernel)
theorem tb_1426 : (Jvm.Cond.instanceMethod ({ cls := "RetraceDeskModel", name := "emitPlace", desc := "(I)V" } : Jvm.MethodName)) ∈ am_tbl := am_in (lw_in6 (List.mem_of_getElem? (i := 226) rfl)) (by decide +kernel)
theorem tb_1427 : (Jvm.Cond.code ({ cls := "RetraceDeskModel", name := "emitPlace", desc := "(I)V" } : Jvm.MethodName) prog_14_method_47_code (2 : Nat) (Option.none : Option Jvm.ClassFile.FieldType)) ∈ am_tbl := am_in (lw_in6 (List.mem_of_getElem? (i := 227) rfl)) (by decide +kernel)
theorem tb_1428 : (Jvm.Cond.methodLink "RetraceDeskModel" (354 : Nat) ({ cls := "RetraceDeskModel", name := "keepPrint", desc := "()I" } : Jvm.MethodName)) ∈ am_tbl := am_in (lw_in6 (List.mem_of_getElem? (i := 228) rfl)) (by decide +kernel)
theorem tb_1430 : (Jvm.Cond.instanceMethod ({ cls := "RetraceDeskModel", name := "keepPrint", desc := "()I" } : Jvm.MethodName)) ∈ am_tbl := am_in (lw_in6 (List.mem_of_getElem? (i := 230) rfl)) (by decide +kernel)
theorem tb_1431 : (Jvm.Cond.code ({ cls := "RetraceDeskModel", name := "keepPrint", desc := "()I" } : Jvm.MethodName) prog_14_method_51_code (4 : Nat) (Option.some Jvm.ClassFile.FieldType.int)) ∈ am_tbl := am_in (lw_in6 (List.mem_of_getElem? (i := 231) rfl)) (by decide +kernel)
theorem tb_1432 : (Jvm.Cond.methodLink "RetraceDeskModel" (341 : Nat) ({ cls := "RetraceDeskModel", name := "isFrameAt", desc := "(I)Z" } : Jvm.MethodName)) ∈ am_tbl := am_in (lw_in6 (List.mem_of_getElem? (i := 232) rfl)) (by decide +kernel)
theorem tb_1434 : (Jvm.Cond.instanceMethod ({ cls := "RetraceDeskModel", name := "isFrameAt", desc := "(I)Z" } : Jvm.MethodName)) ∈ am_tbl := am_in (lw_in6 (List.mem_of_getElem? (i := 234) rfl)) (by decide +kernel)
theorem tb_1435 : (Jvm.Cond.code ({ cls := "RetraceDeskModel", name := "isFrameAt", desc := "(I)Z" } : Jvm.MethodName) prog_14_method_52_code (2 : Nat) (Option.some Jvm.ClassFile.FieldType.boolean)) ∈ am_tbl := am_in (lw_in6 (List.mem_of_getElem? (i := 235) rfl)) (by decide +kernel)
theorem tb_1436 : (Jvm.Cond.methodLink "RetraceDeskLaw" (74 : Nat) ({ cls := "RetraceDeskModel", name := "shorten", desc := "()I" } : Jvm.MethodName)) ∈ am_tbl := am_in (lw_in6 (List.mem_of_getElem? (i := 236) rfl)) (by decide +kernel)
theorem tb_1437 : (Jvm.Cond.instanceMethod ({ cls := "RetraceDeskModel", name := "shorten", desc := "()I" } : Jvm.MethodName)) ∈ am_tbl := am_in (lw_in6 (List.mem_of_getElem? (i := 237) rfl)) (by decide +kernel)
theorem tb_1438 : (Jvm.Cond.selects "RetraceDeskModel" ({ cls := "RetraceDeskModel", name := "shorten", desc := "()I" } : Jvm.MethodName) ({ cls := "RetraceDeskModel", name := "shorten", desc := "()I" } : Jvm.MethodName)) ∈ am_tbl := am_in (lw_in6 (List.mem_of_getElem? (i := 238) rfl)) (by decide +kernel)
theorem tb_1439 : (Jvm.Cond.code ({ cls := "RetraceDeskModel", name := "shorten", desc := "()I" } : Jvm.MethodName) prog_14_method_54_code (1 : Nat) (Option.some Jvm.ClassFile.FieldType.int)) ∈ am_tbl := am_in (lw_in6 (List.mem_of_getElem? (i := 239) rfl)) (by decide +kernel)
theorem tb_1440 : (Jvm.Cond.methodLink "RetraceDeskLaw" (77 : Nat) ({ cls := "RetraceDeskModel", name := "report", desc := "()I" } : Jvm.MethodName)) ∈ am_tbl := am_in (lw_in7 (List.mem_of_getElem? (i := 0) rfl)) (by decide +kernel)
theorem tb_1441 : (Jvm.Cond.instanceMethod ({ cls := "RetraceDeskModel", name := "report", desc := "()I" } : Jvm.MethodName)) ∈ am_tbl := am_in (lw_in7 (List.mem_of_getElem? (i := 1) rfl)) (by decide +kernel)
theorem tb_1442 : (Jvm.Cond.selects "RetraceDeskModel" ({ cls := "RetraceDeskModel", name := "report", desc := "()I" } : Jvm.MethodName) ({ cls := "RetraceDeskModel", name := "report", desc := "()I" } : Jvm.MethodName)) ∈ am_tbl := am_in (lw_in7 (List.mem_of_getElem? (i := 2) rfl)) (by decide +kernel)
theorem tb_1443 : (Jvm.Cond.code ({ cls := "RetraceDeskModel", name := "report", desc := "()I" } : Jvm.MethodName) prog_14_method_62_code (5 : Nat) (Option.some Jvm.ClassFile.FieldType.int)) ∈ am_tbl := am_in (lw_in7 (List.mem_of_getElem? (i := 3) rfl)) (by decide +kernel)
theorem tb_1444 : (Jvm.Cond.methodLink "RetraceDeskModel" (384 : Nat) ({ cls := "RetraceDeskModel", name := "keyOf", desc := "()J" } : Jvm.MethodName)) ∈ am_tbl := am_in (lw_in7 (List.mem_of_getElem? (i := 4) rfl)) (by decide +kernel)
theorem tb_1446 : (Jvm.Cond.instanceMethod ({ cls := "RetraceDeskModel", name := "keyOf", desc := "()J" } : Jvm.MethodName)) ∈ am_tbl := am_in (lw_in7 (List.mem_of_getElem? (i := 6) rfl)) (by decide +kernel)
theorem tb_1447 : (Jvm.Cond.code ({ cls := "RetraceDeskModel", name := "keyOf", desc := "()J" } : Jvm.MethodName) prog_14_method_61_code (7 : Nat) (Option.some Jvm.ClassFile.FieldType.long)) ∈ am_tbl := am_in (lw_in7 (List.mem_of_getElem? (i := 7) rfl)) (by decide +kernel)
theorem tb_1448 : (Jvm.Cond.constantLong "RetraceDeskModel" (373 : Nat) (-3750763034362895579 : Int64)) ∈ am_tbl := am_in (lw_in7 (List.mem_of_getElem? (i := 8) rfl)) (by decide +kernel)
theorem tb_1449 : (Jvm.Cond.methodLink "RetraceDeskModel" (375 : Nat) ({ cls := "RetraceDeskModel", name := "endOfLine", desc := "(I)I" } : Jvm.MethodName)) ∈ am_tbl := am_in (lw_in7 (List.mem_of_getElem? (i := 9) rfl)) (by decide +kernel)
theorem tb_1451 : (Jvm.Cond.instanceMethod ({ cls := "RetraceDeskModel", name := "endOfLine", desc := "(I)I" } : Jvm.MethodName)) ∈ am_tbl := am_in (lw_in7 (List.mem_of_getElem? (i := 11) rfl)) (by decide +kernel)
theorem tb_1452 : (Jvm.Cond.code ({ cls := "RetraceDeskModel", name := "endOfLine", desc := "(I)I" } : Jvm.MethodName) prog_14_method_56_code (3 : Nat) (Option.some Jvm.ClassFile.FieldType.int)) ∈ am_tbl := am_in (lw_in7 (List.mem_of_getElem? (i := 12) rfl)) (by decide +kernel)
theorem tb_1453 : (Jvm.Cond.methodLink "RetraceDeskModel" (378 : Nat) ({ cls := "RetraceDeskModel", name := "sameCalls", desc := "(II)Z" } : Jvm.MethodName)) ∈ am_tbl := am_in (lw_in7 (List.mem_of_getElem? (i := 13) rfl)) (by decide +kernel)
theorem tb_1455 : (Jvm.Cond.instanceMethod ({ cls := "RetraceDeskModel", name := "sameCalls", desc := "(II)Z" } : Jvm.MethodName)) ∈ am_tbl := am_in (lw_in7 (List.mem_of_getElem? (i := 15) rfl)) (by decide +kernel)
theorem tb_1456 : (Jvm.Cond.code ({ cls := "RetraceDeskModel", name := "sameCalls", desc := "(II)Z" } : Jvm.MethodName) prog_14_method_60_code (6 : Nat) (Option.some Jvm.ClassFile.FieldType.boolean)) ∈ am_tbl := am_in (lw_in7 (List.mem_of_getElem? (i := 16) rfl)) (by decide +kernel)
theorem tb_1457 : (Jvm.Cond.methodLink "RetraceDeskModel" (370 : Nat) ({ cls := "RetraceDeskModel", name := "bracket", desc := "(I)I" } : Jvm.MethodName)) ∈ am_tbl := am_in (lw_in7 (List.mem_of_getElem? (i := 17) rfl)) (by decide +kernel)
theorem tb_1459 : (Jvm.Cond.instanceMethod ({ cls := "RetraceDeskModel", name := "bracket", desc := "(I)I" } : Jvm.MethodName)) ∈ am_tbl := am_in (lw_in7 (List.mem_of_getElem? (i := 19) rfl)) (by decide +kernel)
theorem tb_1460 : (Jvm.Cond.code ({ cls := "RetraceDeskModel", name := "bracket", desc := "(I)I" } : Jvm.MethodName) prog_14_method_59_code (3 : Nat) (Option.some Jvm.ClassFile.FieldType.int)) ∈ am_tbl := am_in (lw_in7 (List.mem_of_getElem? (i := 20) rfl)) (by decide +kernel)
theorem tb_1461 : (Jvm.Cond.methodLink "RetraceDeskModel" (364 : Nat) ({ cls := "RetraceDeskModel", name := "mix", desc := "(I)V" } : Jvm.MethodName)) ∈ am_tbl := am_in (lw_in7 (List.mem_of_getElem? (i := 21) rfl)) (by decide +kernel)
theorem tb_1463 : (Jvm.Cond.instanceMethod ({ cls := "RetraceDeskModel", name := "mix", desc := "(I)V" } : Jvm.MethodName)) ∈ am_tbl := am_in (lw_in7 (List.mem_of_getElem? (i := 23) rfl)) (by decide +kernel)
theorem tb_1464 : (Jvm.Cond.code ({ cls := "RetraceDeskModel", name := "mix", desc := "(I)V" } : Jvm.MethodName) prog_14_method_55_code (2 : Nat) (Option.none : Option Jvm.ClassFile.FieldType)) ∈ am_tbl := am_in (lw_in7 (List.mem_of_getElem? (i := 24) rfl)) (by decide +kernel)
theorem tb_1465 : (Jvm.Cond.constantLong "RetraceDeskModel" (362 : Nat) (1099511628211 : Int64)) ∈ am_tbl := am_in (lw_in7 (List.mem_of_getElem? (i := 25) rfl)) (by decide +kernel)
theorem tb_1466 : (Jvm.Cond.methodLink "RetraceDeskModel" (381 : Nat) ({ cls := "RetraceDeskModel", name := "mixHeader", desc := "(II)V" } : Jvm.MethodName)) ∈ am_tbl := am_in (lw_in7 (List.mem_of_getElem? (i := 26) rfl)) (by decide +kernel)
theorem tb_1468 : (Jvm.Cond.instanceMethod ({ cls := "RetraceDeskModel", name := "mixHeader", desc := "(II)V" } : Jvm.MethodName)) ∈ am_tbl := am_in (lw_in7 (List.mem_of_getElem? (i := 28) rfl)) (by decide +kernel)
theorem tb_1469 : (Jvm.Cond.code ({ cls := "RetraceDeskModel", name := "mixHeader", desc := "(II)V" } : Jvm.MethodName) prog_14_method_58_code (6 : Nat) (Option.none : Option Jvm.ClassFile.FieldType)) ∈ am_tbl := am_in (lw_in7 (List.mem_of_getElem? (i := 29) rfl)) (by decide +kernel)
theorem tb_1470 : (Jvm.Cond.methodLink "RetraceDeskModel" (367 : Nat) ({ cls := "RetraceDeskModel", name := "mixHead", desc := "(II)V" } : Jvm.MethodName)) ∈ am_tbl := am_in (lw_in7 (List.mem_of_getElem? (i := 30) rfl)) (by decide +kernel)
theorem tb_1472 : (Jvm.Cond.instanceMethod ({ cls := "RetraceDeskModel", name := "mixHead", desc := "(II)V" } : Jvm.MethodName)) ∈ am_tbl := am_in (lw_in7 (List.mem_of_getElem? (i := 32) rfl)) (by decide +kernel)
theorem tb_1473 : (Jvm.Cond.code ({ cls := "RetraceDeskModel", name := "mixHead", desc := "(II)V" } : Jvm.MethodName) prog_14_method_57_code (5 : Nat) (Option.none : Option Jvm.ClassFile.FieldType)) ∈ am_tbl := am_in (lw_in7 (List.mem_of_getElem? (i := 33) rfl)) (by decide +kernel)
theorem tb_1474 : (Jvm.Cond.methodLink "RetraceDeskLaw" (81 : Nat) ({ cls := "RetraceDeskModel", name := "wrong", desc := "()I" } : Jvm.MethodName)) ∈ am_tbl := am_in (lw_in7 (List.mem_of_getElem? (i := 34) rfl)) (by decide +kernel)
theorem tb_1475 : (Jvm.Cond.instanceMethod ({ cls := "RetraceDeskModel", name := "wrong", desc := "()I" } : Jvm.MethodName)) ∈ am_tbl := am_in (lw_in7 (List.mem_of_getElem? (i := 35) rfl)) (by decide +kernel)
theorem tb_1476 : (Jvm.Cond.selects "RetraceDeskModel" ({ cls := "RetraceDeskModel", name := "wrong", desc := "()I" } : Jvm.MethodName) ({ cls := "RetraceDeskModel", name := "wrong", desc := "()I" } : Jvm.MethodName)) ∈ am_tbl := am_in (lw_in7 (List.mem_of_getElem? (i := 36) rfl)) (by decide +kernel)
theorem tb_1477 : (Jvm.Cond.code ({ cls := "RetraceDeskModel", name := "wrong", desc := "()I" } : Jvm.MethodName) prog_14_method_63_code (1 : Nat) (Option.some Jvm.ClassFile.FieldType.int)) ∈ am_tbl := am_in (lw_in7 (List.mem_of_getElem? (i := 37) rfl)) (by decide +kernel)
theorem tb_1478 : (Jvm.Cond.methodLink "RetraceDeskLaw" (85 : Nat) ({ cls := "RetraceDeskModel", name := "length", desc := "()I" } : Jvm.MethodName)) ∈ am_tbl := am_in (lw_in7 (List.mem_of_getElem? (i := 38) rfl)) (by decide +kernel)
theorem tb_1479 : (Jvm.Cond.instanceMethod ({ cls := "RetraceDeskModel", name := "length", desc := "()I" } : Jvm.MethodName)) ∈ am_tbl := am_in (lw_in7 (List.mem_of_getElem? (i := 39) rfl)) (by decide +kernel)
theorem tb_1480 : (Jvm.Cond.selects "RetraceDeskModel" ({ cls := "RetraceDeskModel", name := "length", desc := "()I" } : Jvm.MethodName) ({ cls := "RetraceDeskModel", name := "length", desc := "()I" } : Jvm.MethodName)) ∈ am_tbl := am_in (lw_in7 (List.mem_of_getElem? (i := 40) rfl)) (by decide +kernel)
theorem tb_1481 : (Jvm.Cond.code ({ cls := "RetraceDeskModel", name := "length", desc := "()I" } : Jvm.MethodName) prog_14_method_64_code (1 : Nat) (Option.some Jvm.ClassFile.FieldType.int)) ∈ am_tbl := am_in (lw_in7 (List.mem_of_getElem? (i := 41) rfl)) (by decide +kernel)
theorem tb_1482 : (Jvm.Cond.methodLink "RetraceDeskLaw" (89 : Nat) ({ cls := "RetraceDeskModel", name := "at", desc := "(I)I" } : Jvm.MethodName)) ∈ am_tbl := am_in (lw_in7 (List.mem_of_getElem? (i := 42) rfl)) (by decide +kernel)
theorem tb_1483 : (Jvm.Cond.instanceMethod ({ cls := "RetraceDeskModel", name := "at", desc := "(I)I" } : Jvm.MethodName)) ∈ am_tbl := am_in (lw_in7 (List.mem_of_getElem? (i := 43) rfl)) (by decide +kernel)
theorem tb_1484 : (Jvm.Cond.selects "RetraceDeskModel" ({ cls := "RetraceDeskModel", name := "at", desc := "(I)I" } : Jvm.MethodName) ({ cls := "RetraceDeskModel", name := "at", desc := "(I)I" } : Jvm.MethodName)) ∈ am_tbl := am_in (lw_in7 (List.mem_of_getElem? (i := 44) rfl)) (by decide +kernel)
theorem tb_1485 : (Jvm.Cond.code ({ cls := "RetraceDeskModel", name := "at", desc := "(I)I" } : Jvm.MethodName) prog_14_method_65_code (2 : Nat) (Option.some Jvm.ClassFile.FieldType.int)) ∈ am_tbl := am_in (lw_in7 (List.mem_of_getElem? (i := 45) rfl)) (by decide +kernel)
theorem tb_1486 : (Jvm.Cond.methodLink "RetraceDeskLaw" (93 : Nat) ({ cls := "RetraceDeskModel", name := "doubtful", desc := "()I" } : Jvm.MethodName)) ∈ am_tbl := am_in (lw_in7 (List.mem_of_getElem? (i := 46) rfl)) (by decide +kernel)
theorem tb_1487 : (Jvm.Cond.instanceMethod ({ cls := "RetraceDeskModel", name := "doubtful", desc := "()I" } : Jvm.MethodName)) ∈ am_tbl := am_in (lw_in7 (List.mem_of_getElem? (i := 47) rfl)) (by decide +kernel)
theorem tb_1488 : (Jvm.Cond.selects "RetraceDeskModel" ({ cls := "RetraceDeskModel", name := "doubtful", desc := "()I" } : Jvm.MethodName) ({ cls := "RetraceDeskModel", name := "doubtful", desc := "()I" } : Jvm.MethodName)) ∈ am_tbl := am_in (lw_in7 (List.mem_of_getElem? (i := 48) rfl)) (by decide +kernel)
theorem tb_1489 : (Jvm.Cond.code ({ cls := "RetraceDeskModel", name := "doubtful", desc := "()I" } : Jvm.MethodName) prog_14_method_66_code (1 : Nat) (Option.some Jvm.ClassFile.FieldType.int)) ∈ am_tbl := am_in (lw_in7 (List.mem_of_getElem? (i := 49) rfl)) (by decide +kernel)
theorem tb_1490 : (Jvm.Cond.methodLink "RetraceDeskLaw" (96 : Nat) ({ cls := "RetraceDeskModel", name := "groups", desc := "(I)I" } : Jvm.MethodName)) ∈ am_tbl := am_in (lw_in7 (List.mem_of_getElem? (i := 50) rfl)) (by decide +kernel)
theorem tb_1491 : (Jvm.Cond.instanceMethod ({ cls := "RetraceDeskModel", name := "groups", desc := "(I)I" } : Jvm.MethodName)) ∈ am_tbl := am_in (lw_in7 (List.mem_of_getElem? (i := 51) rfl)) (by decide +kernel)
theorem tb_1492 : (Jvm.Cond.selects "RetraceDeskModel" ({ cls := "RetraceDeskModel", name := "groups", desc := "(I)I" } : Jvm.MethodName) ({ cls := "RetraceDeskModel", name := "groups", desc := "(I)I" } : Jvm.MethodName)) ∈ am_tbl := am_in (lw_in7 (List.mem_of_getElem? (i := 52) rfl)) (by decide +kernel)
theorem tb_1493 : (Jvm.Cond.code ({ cls := "RetraceDeskModel", name := "groups", desc := "(I)I" } : Jvm.MethodName) prog_14_method_67_code (4 : Nat) (Option.some Jvm.ClassFile.FieldType.int)) ∈ am_tbl := am_in (lw_in7 (List.mem_of_getElem? (i := 53) rfl)) (by decide +kernel)
theorem tb_1494 : (Jvm.Cond.methodLink "RetraceDeskLaw" (100 : Nat) ({ cls := "RetraceDeskModel", name := "crashes", desc := "()I" } : Jvm.MethodName)) ∈ am_tbl := am_in (lw_in7 (List.mem_of_getElem? (i := 54) rfl)) (by decide +kernel)
theorem tb_1495 : (Jvm.Cond.instanceMethod ({ cls := "RetraceDeskModel", name := "crashes", desc := "()I" } : Jvm.MethodName)) ∈ am_tbl := am_in (lw_in7 (List.mem_of_getElem? (i := 55) rfl)) (by decide +kernel)
theorem tb_1496 : (Jvm.Cond.selects "RetraceDeskModel" ({ cls := "RetraceDeskModel", name := "crashes", desc := "()I" } : Jvm.MethodName) ({ cls := "RetraceDeskModel", name := "crashes", desc := "()I" } : Jvm.MethodName)) ∈ am_tbl := am_in (lw_in7 (List.mem_of_getElem? (i := 56) rfl)) (by decide +kernel)
theorem tb_1497 : (Jvm.Cond.code ({ cls := "RetraceDeskModel", name := "crashes", desc := "()I" } : Jvm.MethodName) prog_14_method_68_code (1 : Nat) (Option.some Jvm.ClassFile.FieldType.int)) ∈ am_tbl := am_in (lw_in7 (List.mem_of_getElem? (i := 57) rfl)) (by decide +kernel)
theorem tb_1498 : (Jvm.Cond.methodLink "RetraceDeskLaw" (103 : Nat) ({ cls := "RetraceDeskModel", name := "key", desc := "(I)J" } : Jvm.MethodName)) ∈ am_tbl := am_in (lw_in7 (List.mem_of_getElem? (i := 58) rfl)) (by decide +kernel)
theorem tb_1499 : (Jvm.Cond.instanceMethod ({ cls := "RetraceDeskModel", name := "key", desc := "(I)J" } : Jvm.MethodName)) ∈ am_tbl := am_in (lw_in7 (List.mem_of_getElem? (i := 59) rfl)) (by decide +kernel)
theorem tb_1500 : (Jvm.Cond.selects "RetraceDeskModel" ({ cls := "RetraceDeskModel", name := "key", desc := "(I)J" } : Jvm.MethodName) ({ cls := "RetraceDeskModel", name := "key", desc := "(I)J" } : Jvm.MethodName)) ∈ am_tbl := am_in (lw_in7 (List.mem_of_getElem? (i := 60) rfl)) (by decide +kernel)
theorem tb_1501 : (Jvm.Cond.code ({ cls := "RetraceDeskModel", name := "key", desc := "(I)J" } : Jvm.MethodName) prog_14_method_69_code (2 : Nat) (Option.some Jvm.ClassFile.FieldType.long)) ∈ am_tbl := am_in (lw_in7 (List.mem_of_getElem? (i := 61) rfl)) (by decide +kernel)
theorem tb_1502 : (Jvm.Cond.methodLink "RetraceDeskLaw" (107 : Nat) ({ cls := "RetraceDeskModel", name := "reports", desc := "(II)I" } : Jvm.MethodName)) ∈ am_tbl := am_in (lw_in7 (List.mem_of_getElem? (i := 62) rfl)) (by decide +kernel)
theorem tb_1503 : (Jvm.Cond.instanceMethod ({ cls := "RetraceDeskModel", name := "reports", desc := "(II)I" } : Jvm.MethodName)) ∈ am_tbl := am_in (lw_in7 (List.mem_of_getElem? (i := 63) rfl)) (by decide +kernel)
theorem tb_1504 : (Jvm.Cond.selects "RetraceDeskModel" ({ cls := "RetraceDeskModel", name := "reports", desc := "(II)I" } : Jvm.MethodName) ({ cls := "RetraceDeskModel", name := "reports", desc := "(II)I" } : Jvm.MethodName)) ∈ am_tbl := am_in (lw_in7 (List.mem_of_getElem? (i := 64) rfl)) (by decide +kernel)
theorem tb_1505 : (Jvm.Cond.code ({ cls := "RetraceDeskModel", name := "reports", desc := "(II)I" } : Jvm.MethodName) prog_14_method_70_code (3 : Nat) (Option.some Jvm.ClassFile.FieldType.int)) ∈ am_tbl := am_in (lw_in7 (List.mem_of_getElem? (i := 65) rfl)) (by decide +kernel)
theorem tb_1506 : (Jvm.Cond.constantLong "RetraceDeskLaw" (49 : Nat) (4294967295 : Int64)) ∈ am_tbl := am_in (lw_in7 (List.mem_of_getElem? (i := 66) rfl)) (by decide +kernel)
theorem tb_1507 : (Jvm.Cond.sameMethod "RetraceDesk$Form" "RetraceDesk$Form" "takeWord" "(Ljava/lang/String;)Z") ∈ am_tbl := am_in (lw_in7 (List.mem_of_getElem? (i := 67) rfl)) (by decide +kernel)
theorem tb_1508 : (Jvm.Cond.selects "RetraceDesk$Mapping" ({ cls := "RetraceDesk$Form", name := "takeWord", desc := "(Ljava/lang/String;)Z" } : Jvm.MethodName) ({ cls := "RetraceDesk$Form", name := "takeWord", desc := "(Ljava/lang/String;)Z" } : Jvm.MethodName)) ∈ am_tbl := am_in (lw_in7 (List.mem_of_getElem? (i := 68) rfl)) (by decide +kernel)
theorem tb_1509 : (Jvm.Cond.selects "RetraceDesk$Trace" ({ cls := "RetraceDesk$Form", name := "takeWord", desc := "(Ljava/lang/String;)Z" } : Jvm.MethodName) ({ cls := "RetraceDesk$Form", name := "takeWord", desc := "(Ljava/lang/String;)Z" } : Jvm.MethodName)) ∈ am_tbl := am_in (lw_in7 (List.mem_of_getElem? (i := 69) rfl)) (by decide +kernel)
theorem tb_1511 : (Jvm.Cond.fieldLink "java/lang/String" (9 : Nat) "java/lang/String" "value" "[B") ∈ am_tbl := am_in (lw_in7 (List.mem_of_getElem? (i := 71) rfl)) (by decide +kernel)
theorem tb_1512 : (Jvm.Cond.fieldLink "java/lang/String" (15 : Nat) "java/lang/String" "coder" "B") ∈ am_tbl := am_in (lw_in7 (List.mem_of_getElem? (i := 72) rfl)) (by decide +kernel)
theorem lw_sel {w : Cond} (h : w ∈ k2_sels lw_privs) : w ∈ lw_tbl := List.mem_append_left _ h
theorem us_CL : ∀ w ∈ u_ws R_CL T_CL 5, w ∈ am_tbl := by
  show ∀ w ∈ ([(Jvm.Cond.laysFinal "RetraceDesk$ClassLine" "RetraceDesk$ClassLine" "real" "LRetraceDesk$Slice;"), (Jvm.Cond.laysFinal "RetraceDesk$ClassLine" "RetraceDesk$ClassLine" "brief" "LRetraceDesk$Slice;"), (Jvm.Cond.lays "RetraceDesk$ClassLine" "RetraceDesk$ClassLine" "firstMethod" "I"), (Jvm.Cond.lays "RetraceDesk$ClassLine" "RetraceDesk$ClassLine" "endMethod" "I"), (Jvm.Cond.lays "RetraceDesk$ClassLine" "RetraceDesk$ClassLine" "groupCount" "I")] : List Cond), w ∈ am_tbl
  exact List.forall_mem_cons.mpr ⟨tb_249, List.forall_mem_cons.mpr ⟨tb_251, List.forall_mem_cons.mpr ⟨tb_253, List.forall_mem_cons.mpr ⟨tb_255, List.forall_mem_cons.mpr ⟨tb_257, fun _ h => absurd h List.not_mem_nil⟩⟩⟩⟩⟩
theorem us_CB : ∀ w ∈ u_ws R_CB T_CB 6, w ∈ am_tbl := by
  show ∀ w ∈ ([(Jvm.Cond.laysFinal "RetraceDesk$CrashBook" "RetraceDesk$CrashBook" "keys" "[J"), (Jvm.Cond.laysFinal "RetraceDesk$CrashBook" "RetraceDesk$CrashBook" "times" "[I"), (Jvm.Cond.laysFinal "RetraceDesk$CrashBook" "RetraceDesk$CrashBook" "firsts" "[I"), (Jvm.Cond.laysFinal "RetraceDesk$CrashBook" "RetraceDesk$CrashBook" "lasts" "[I"), (Jvm.Cond.lays "RetraceDesk$CrashBook" "RetraceDesk$CrashBook" "size" "I"), (Jvm.Cond.lays "RetraceDesk$CrashBook" "RetraceDesk$CrashBook" "reportCount" "I")] : List Cond), w ∈ am_tbl
  exact List.forall_mem_cons.mpr ⟨tb_207, List.forall_mem_cons.mpr ⟨tb_209, List.forall_mem_cons.mpr ⟨tb_211, List.forall_mem_cons.mpr ⟨tb_213, List.forall_mem_cons.mpr ⟨tb_215, List.forall_mem_cons.mpr ⟨tb_217, fun _ h => absurd h List.not_mem_nil⟩⟩⟩⟩⟩⟩
theorem us_FR : ∀ w ∈ u_ws R_FR T_FR 5, w ∈ am_tbl := by
  show ∀ w ∈ ([(Jvm.Cond.laysFinal "RetraceDesk$Frame" "RetraceDesk$Frame" "owner" "LRetraceDesk$Slice;"), (Jvm.Cond.laysFinal "RetraceDesk$Frame" "RetraceDesk$Frame" "method" "LRetraceDesk$Slice;"), (Jvm.Cond.laysFinal "RetraceDesk$Frame" "RetraceDesk$Frame" "place" "LRetraceDesk$Slice;"), (Jvm.Cond.lays "RetraceDesk$Frame" "RetraceDesk$Frame" "hasFile" "Z"), (Jvm.Cond.lays "RetraceDesk$Frame" "RetraceDesk$Frame" "line" "I")] : List Cond), w ∈ am_tbl
  exact List.forall_mem_cons.mpr ⟨tb_149, List.forall_mem_cons.mpr ⟨tb_151, List.forall_mem_cons.mpr ⟨tb_153, List.forall_mem_cons.mpr ⟨tb_155, List.forall_mem_cons.mpr ⟨tb_157, fun _ h => absurd h List.not_mem_nil⟩⟩⟩⟩⟩
theorem us_HE : ∀ w ∈ u_ws R_HE T_HE 6, w ∈ am_tbl := by
  show ∀ w ∈ ([(Jvm.Cond.laysFinal "RetraceDesk$Header" "RetraceDesk$Header" "type" "LRetraceDesk$Slice;"), (Jvm.Cond.laysFinal "RetraceDesk$Header" "RetraceDesk$Header" "message" "LRetraceDesk$Slice;"), (Jvm.Cond.lays "RetraceDesk$Header" "RetraceDesk$Header" "hasMessage" "Z"), (Jvm.Cond.lays "RetraceDesk$Header" "RetraceDesk$Header" "more" "I"), (Jvm.Cond.lays "RetraceDesk$Header" "RetraceDesk$Header" "firstFrame" "I"), (Jvm.Cond.lays "RetraceDesk$Header" "RetraceDesk$Header" "endFrame" "I")] : List Cond), w ∈ am_tbl
  exact List.forall_mem_cons.mpr ⟨tb_114, List.forall_mem_cons.mpr ⟨tb_116, List.forall_mem_cons.mpr ⟨tb_118, List.forall_mem_cons.mpr ⟨tb_120, List.forall_mem_cons.mpr ⟨tb_122, List.forall_mem_cons.mpr ⟨tb_124, fun _ h => absurd h List.not_mem_nil⟩⟩⟩⟩⟩⟩
theorem us_MA : ∀ w ∈ u_ws R_MA T_MA 10, w ∈ am_tbl := by
  show ∀ w ∈ ([(Jvm.Cond.laysFinal "RetraceDesk$Mapping" "RetraceDesk$Form" "codes" "[C"), (Jvm.Cond.lays "RetraceDesk$Mapping" "RetraceDesk$Form" "here" "I"), (Jvm.Cond.lays "RetraceDesk$Mapping" "RetraceDesk$Form" "end" "I"), (Jvm.Cond.laysFinal "RetraceDesk$Mapping" "RetraceDesk$Mapping" "classLines" "[LRetraceDesk$ClassLine;"), (Jvm.Cond.laysFinal "RetraceDesk$Mapping" "RetraceDesk$Mapping" "methodLines" "[LRetraceDesk$MethodLine;"), (Jvm.Cond.lays "RetraceDesk$Mapping" "RetraceDesk$Mapping" "classCount" "I"), (Jvm.Cond.lays "RetraceDesk$Mapping" "RetraceDesk$Mapping" "methodCount" "I"), (Jvm.Cond.lays "RetraceDesk$Mapping" "RetraceDesk$Mapping" "groupCount" "I"), (Jvm.Cond.lays "RetraceDesk$Mapping" "RetraceDesk$Mapping" "latestGroup" "I"), (Jvm.Cond.laysFinal "RetraceDesk$Mapping" "RetraceDesk$Mapping" "call" "LRetraceDesk$Slice;")] : List Cond), w ∈ am_tbl
  exact List.forall_mem_cons.mpr ⟨tb_338, List.forall_mem_cons.mpr ⟨tb_339, List.forall_mem_cons.mpr ⟨tb_340, List.forall_mem_cons.mpr ⟨tb_324, List.forall_mem_cons.mpr ⟨tb_326, List.forall_mem_cons.mpr ⟨tb_328, List.forall_mem_cons.mpr ⟨tb_330, List.forall_mem_cons.mpr ⟨tb_332, List.forall_mem_cons.mpr ⟨tb_334, List.forall_mem_cons.mpr ⟨tb_336, fun _ h => absurd h List.not_mem_nil⟩⟩⟩⟩⟩⟩⟩⟩⟩⟩
theorem us_ML : ∀ w ∈ u_ws R_ML T_ML 9, w ∈ am_tbl := by
  show ∀ w ∈ ([(Jvm.Cond.laysFinal "RetraceDesk$MethodLine" "RetraceDesk$MethodLine" "owner" "LRetraceDesk$Slice;"), (Jvm.Cond.laysFinal "RetraceDesk$MethodLine" "RetraceDesk$MethodLine" "method" "LRetraceDesk$Slice;"), (Jvm.Cond.laysFinal "RetraceDesk$MethodLine" "RetraceDesk$MethodLine" "brief" "LRetraceDesk$Slice;"), (Jvm.Cond.lays "RetraceDesk$MethodLine" "RetraceDesk$MethodLine" "classPlace" "I"), (Jvm.Cond.lays "RetraceDesk$MethodLine" "RetraceDesk$MethodLine" "groupSize" "I"), (Jvm.Cond.lays "RetraceDesk$MethodLine" "RetraceDesk$MethodLine" "first" "I"), (Jvm.Cond.lays "RetraceDesk$MethodLine" "RetraceDesk$MethodLine" "last" "I"), (Jvm.Cond.lays "RetraceDesk$MethodLine" "RetraceDesk$MethodLine" "realFirst" "I"), (Jvm.Cond.lays "RetraceDesk$MethodLine" "RetraceDesk$MethodLine" "realLast" "I")] : List Cond), w ∈ am_tbl
  exact List.forall_mem_cons.mpr ⟨tb_293, List.forall_mem_cons.mpr ⟨tb_295, List.forall_mem_cons.mpr ⟨tb_297, List.forall_mem_cons.mpr ⟨tb_299, List.forall_mem_cons.mpr ⟨tb_301, List.forall_mem_cons.mpr ⟨tb_303, List.forall_mem_cons.mpr ⟨tb_305, List.forall_mem_cons.mpr ⟨tb_307, List.forall_mem_cons.mpr ⟨tb_309, fun _ h => absurd h List.not_mem_nil⟩⟩⟩⟩⟩⟩⟩⟩⟩
theorem us_RW : ∀ w ∈ u_ws R_RW T_RW 5, w ∈ am_tbl := by
  show ∀ w ∈ ([(Jvm.Cond.laysFinal "RetraceDesk$Rewriter" "RetraceDesk$Rewriter" "trace" "LRetraceDesk$Trace;"), (Jvm.Cond.laysFinal "RetraceDesk$Rewriter" "RetraceDesk$Rewriter" "mapping" "LRetraceDesk$Mapping;"), (Jvm.Cond.laysFinal "RetraceDesk$Rewriter" "RetraceDesk$Rewriter" "print" "LRetraceDesk$Text;"), (Jvm.Cond.lays "RetraceDesk$Rewriter" "RetraceDesk$Rewriter" "frameCount" "I"), (Jvm.Cond.lays "RetraceDesk$Rewriter" "RetraceDesk$Rewriter" "doubtfulCount" "I")] : List Cond), w ∈ am_tbl
  exact List.forall_mem_cons.mpr ⟨tb_770, List.forall_mem_cons.mpr ⟨tb_772, List.forall_mem_cons.mpr ⟨tb_774, List.forall_mem_cons.mpr ⟨tb_776, List.forall_mem_cons.mpr ⟨tb_778, fun _ h => absurd h List.not_mem_nil⟩⟩⟩⟩⟩
theorem us_SL : ∀ w ∈ u_ws R_SL T_SL 3, w ∈ am_tbl := by
  show ∀ w ∈ ([(Jvm.Cond.laysFinal "RetraceDesk$Slice" "RetraceDesk$Slice" "codes" "[C"), (Jvm.Cond.lays "RetraceDesk$Slice" "RetraceDesk$Slice" "from" "I"), (Jvm.Cond.lays "RetraceDesk$Slice" "RetraceDesk$Slice" "to" "I")] : List Cond), w ∈ am_tbl
  exact List.forall_mem_cons.mpr ⟨tb_84, List.forall_mem_cons.mpr ⟨tb_86, List.forall_mem_cons.mpr ⟨tb_88, fun _ h => absurd h List.not_mem_nil⟩⟩⟩
theorem us_TX : ∀ w ∈ u_ws R_TX T_TX 3, w ∈ am_tbl := by
  show ∀ w ∈ ([(Jvm.Cond.laysFinal "RetraceDesk$Text" "RetraceDesk$Text" "codes" "[C"), (Jvm.Cond.lays "RetraceDesk$Text" "RetraceDesk$Text" "size" "I"), (Jvm.Cond.lays "RetraceDesk$Text" "RetraceDesk$Text" "isOverfull" "Z")] : List Cond), w ∈ am_tbl
  exact List.forall_mem_cons.mpr ⟨tb_51, List.forall_mem_cons.mpr ⟨tb_53, List.forall_mem_cons.mpr ⟨tb_55, fun _ h => absurd h List.not_mem_nil⟩⟩⟩
theorem us_TR : ∀ w ∈ u_ws R_TR T_TR 8, w ∈ am_tbl := by
  show ∀ w ∈ ([(Jvm.Cond.laysFinal "RetraceDesk$Trace" "RetraceDesk$Form" "codes" "[C"), (Jvm.Cond.lays "RetraceDesk$Trace" "RetraceDesk$Form" "here" "I"), (Jvm.Cond.lays "RetraceDesk$Trace" "RetraceDesk$Form" "end" "I"), (Jvm.Cond.laysFinal "RetraceDesk$Trace" "RetraceDesk$Trace" "headers" "[LRetraceDesk$Header;"), (Jvm.Cond.laysFinal "RetraceDesk$Trace" "RetraceDesk$Trace" "frames" "[LRetraceDesk$Frame;"), (Jvm.Cond.lays "RetraceDesk$Trace" "RetraceDesk$Trace" "headerCount" "I"), (Jvm.Cond.lays "RetraceDesk$Trace" "RetraceDesk$Trace" "frameCount" "I"), (Jvm.Cond.laysFinal "RetraceDesk$Trace" "RetraceDesk$Trace" "call" "LRetraceDesk$Slice;")] : List Cond), w ∈ am_tbl
  exact List.forall_mem_cons.mpr ⟨tb_183, List.forall_mem_cons.mpr ⟨tb_185, List.forall_mem_cons.mpr ⟨tb_187, List.forall_mem_cons.mpr ⟨tb_173, List.forall_mem_cons.mpr ⟨tb_175, List.forall_mem_cons.mpr ⟨tb_177, List.forall_mem_cons.mpr ⟨tb_179, List.forall_mem_cons.mpr ⟨tb_181, fun _ h => absurd h List.not_mem_nil⟩⟩⟩⟩⟩⟩⟩⟩
theorem us_RD : ∀ w ∈ u_ws R_RD T_RD 10, w ∈ am_tbl := by
  show ∀ w ∈ ([(Jvm.Cond.laysFinal "RetraceDesk" "RetraceDesk" "draft" "LRetraceDesk$Text;"), (Jvm.Cond.laysFinal "RetraceDesk" "RetraceDesk" "trace" "LRetraceDesk$Trace;"), (Jvm.Cond.laysFinal "RetraceDesk" "RetraceDesk" "book" "LRetraceDesk$CrashBook;"), (Jvm.Cond.lays "RetraceDesk" "RetraceDesk" "mapping" "LRetraceDesk$Mapping;"), (Jvm.Cond.lays "RetraceDesk" "RetraceDesk" "spareMapping" "LRetraceDesk$Mapping;"), (Jvm.Cond.lays "RetraceDesk" "RetraceDesk" "print" "LRetraceDesk$Text;"), (Jvm.Cond.lays "RetraceDesk" "RetraceDesk" "sparePrint" "LRetraceDesk$Text;"), (Jvm.Cond.lays "RetraceDesk" "RetraceDesk" "isLoaded" "Z"), (Jvm.Cond.lays "RetraceDesk" "RetraceDesk" "wrongLine" "I"), (Jvm.Cond.lays "RetraceDesk" "RetraceDesk" "doubtfulFrames" "I")] : List Cond), w ∈ am_tbl
  exact List.forall_mem_cons.mpr ⟨tb_352, List.forall_mem_cons.mpr ⟨tb_354, List.forall_mem_cons.mpr ⟨tb_356, List.forall_mem_cons.mpr ⟨tb_358, List.forall_mem_cons.mpr ⟨tb_360, List.forall_mem_cons.mpr ⟨tb_362, List.forall_mem_cons.mpr ⟨tb_364, List.forall_mem_cons.mpr ⟨tb_366, List.forall_mem_cons.mpr ⟨tb_368, List.forall_mem_cons.mpr ⟨tb_370, fun _ h => absurd h List.not_mem_nil⟩⟩⟩⟩⟩⟩⟩⟩⟩⟩
theorem us_MO : ∀ w ∈ u_ws R_MO T_MO 54, w ∈ am_tbl := by
  show ∀ w ∈ ([(Jvm.Cond.laysFinal "RetraceDeskModel" "RetraceDeskModel" "draft" "[I"), (Jvm.Cond.lays "RetraceDeskModel" "RetraceDeskModel" "size" "I"), (Jvm.Cond.laysFinal "RetraceDeskModel" "RetraceDeskModel" "all" "[I"), (Jvm.Cond.laysFinal "RetraceDeskModel" "RetraceDeskModel" "kept" "[I"), (Jvm.Cond.lays "RetraceDeskModel" "RetraceDeskModel" "keptSize" "I"), (Jvm.Cond.lays "RetraceDeskModel" "RetraceDeskModel" "loaded" "Z"), (Jvm.Cond.lays "RetraceDeskModel" "RetraceDeskModel" "classes" "I"), (Jvm.Cond.laysFinal "RetraceDeskModel" "RetraceDeskModel" "realFrom" "[I"), (Jvm.Cond.laysFinal "RetraceDeskModel" "RetraceDeskModel" "realTo" "[I"), (Jvm.Cond.laysFinal "RetraceDeskModel" "RetraceDeskModel" "shortFrom" "[I"), (Jvm.Cond.laysFinal "RetraceDeskModel" "RetraceDeskModel" "shortTo" "[I"), (Jvm.Cond.lays "RetraceDeskModel" "RetraceDeskModel" "methods" "I"), (Jvm.Cond.laysFinal "RetraceDeskModel" "RetraceDeskModel" "ownFrom" "[I"), (Jvm.Cond.laysFinal "RetraceDeskModel" "RetraceDeskModel" "ownTo" "[I"), (Jvm.Cond.laysFinal "RetraceDeskModel" "RetraceDeskModel" "callFrom" "[I"), (Jvm.Cond.laysFinal "RetraceDeskModel" "RetraceDeskModel" "callTo" "[I"), (Jvm.Cond.laysFinal "RetraceDeskModel" "RetraceDeskModel" "nickFrom" "[I"), (Jvm.Cond.laysFinal "RetraceDeskModel" "RetraceDeskModel" "nickTo" "[I"), (Jvm.Cond.laysFinal "RetraceDeskModel" "RetraceDeskModel" "low" "[I"), (Jvm.Cond.laysFinal "RetraceDeskModel" "RetraceDeskModel" "high" "[I"), (Jvm.Cond.laysFinal "RetraceDeskModel" "RetraceDeskModel" "first" "[I"), (Jvm.Cond.laysFinal "RetraceDeskModel" "RetraceDeskModel" "last" "[I"), (Jvm.Cond.laysFinal "RetraceDeskModel" "RetraceDeskModel" "classOf" "[I"), (Jvm.Cond.laysFinal "RetraceDeskModel" "RetraceDeskModel" "groupOf" "[I"), (Jvm.Cond.lays "RetraceDeskModel" "RetraceDeskModel" "groups" "I"), (Jvm.Cond.lays "RetraceDeskModel" "RetraceDeskModel" "value" "I"), (Jvm.Cond.lays "RetraceDeskModel" "RetraceDeskModel" "parts" "I"), (Jvm.Cond.lays "RetraceDeskModel" "RetraceDeskModel" "lastPart" "I"), (Jvm.Cond.lays "RetraceDeskModel" "RetraceDeskModel" "lines" "I"), (Jvm.Cond.laysFinal "RetraceDeskModel" "RetraceDeskModel" "kind" "[I"), (Jvm.Cond.laysFinal "RetraceDeskModel" "RetraceDeskModel" "lineFrom" "[I"), (Jvm.Cond.laysFinal "RetraceDeskModel" "RetraceDeskModel" "lineTo" "[I"), (Jvm.Cond.laysFinal "RetraceDeskModel" "RetraceDeskModel" "nameFrom" "[I"), (Jvm.Cond.laysFinal "RetraceDeskModel" "RetraceDeskModel" "nameTo" "[I"), (Jvm.Cond.laysFinal "RetraceDeskModel" "RetraceDeskModel" "methodFrom" "[I"), (Jvm.Cond.laysFinal "RetraceDeskModel" "RetraceDeskModel" "fileFrom" "[I"), (Jvm.Cond.laysFinal "RetraceDeskModel" "RetraceDeskModel" "fileTo" "[I"), (Jvm.Cond.laysFinal "RetraceDeskModel" "RetraceDeskModel" "number" "[I"), (Jvm.Cond.laysFinal "RetraceDeskModel" "RetraceDeskModel" "out" "[I"), (Jvm.Cond.lays "RetraceDeskModel" "RetraceDeskModel" "outSize" "I"), (Jvm.Cond.lays "RetraceDeskModel" "RetraceDeskModel" "overflow" "Z"), (Jvm.Cond.lays "RetraceDeskModel" "RetraceDeskModel" "doubts" "I"), (Jvm.Cond.laysFinal "RetraceDeskModel" "RetraceDeskModel" "print" "[I"), (Jvm.Cond.lays "RetraceDeskModel" "RetraceDeskModel" "printSize" "I"), (Jvm.Cond.lays "RetraceDeskModel" "RetraceDeskModel" "doubtsKept" "I"), (Jvm.Cond.lays "RetraceDeskModel" "RetraceDeskModel" "wrongLine" "I"), (Jvm.Cond.lays "RetraceDeskModel" "RetraceDeskModel" "hash" "J"), (Jvm.Cond.lays "RetraceDeskModel" "RetraceDeskModel" "crashCount" "I"), (Jvm.Cond.lays "RetraceDeskModel" "RetraceDeskModel" "reportCount" "I"), (Jvm.Cond.laysFinal "RetraceDeskModel" "RetraceDeskModel" "keys" "[J"), (Jvm.Cond.laysFinal "RetraceDeskModel" "RetraceDeskModel" "times" "[I"), (Jvm.Cond.laysFinal "RetraceDeskModel" "RetraceDeskModel" "firsts" "[I"), (Jvm.Cond.laysFinal "RetraceDeskModel" "RetraceDeskModel" "lasts" "[I"), (Jvm.Cond.lays "RetraceDeskModel" "RetraceDeskModel" "code" "I")] : List Cond), w ∈ am_tbl
  exact List.forall_mem_cons.mpr ⟨tb_1104, List.forall_mem_cons.mpr ⟨tb_1106, List.forall_mem_cons.mpr ⟨tb_1108, List.forall_mem_cons.mpr ⟨tb_1110, List.forall_mem_cons.mpr ⟨tb_1112, List.forall_mem_cons.mpr ⟨tb_1114, List.forall_mem_cons.mpr ⟨tb_1116, List.forall_mem_cons.mpr ⟨tb_1118, List.forall_mem_cons.mpr ⟨tb_1120, List.forall_mem_cons.mpr ⟨tb_1122, List.forall_mem_cons.mpr ⟨tb_1124, List.forall_mem_cons.mpr ⟨tb_1126, List.forall_mem_cons.mpr ⟨tb_1128, List.forall_mem_cons.mpr ⟨tb_1130, List.forall_mem_cons.mpr ⟨tb_1132, List.forall_mem_cons.mpr ⟨tb_1134, List.forall_mem_cons.mpr ⟨tb_1136, List.forall_mem_cons.mpr ⟨tb_1138, List.forall_mem_cons.mpr ⟨tb_1140, List.forall_mem_cons.mpr ⟨tb_1142, List.forall_mem_cons.mpr ⟨tb_1144, List.forall_mem_cons.mpr ⟨tb_1146, List.forall_mem_cons.mpr ⟨tb_1148, List.forall_mem_cons.mpr ⟨tb_1150, List.forall_mem_cons.mpr ⟨tb_1152, List.forall_mem_cons.mpr ⟨tb_1154, List.forall_mem_cons.mpr ⟨tb_1156, List.forall_mem_cons.mpr ⟨tb_1158, List.forall_mem_cons.mpr ⟨tb_1160, List.forall_mem_cons.mpr ⟨tb_1162, List.forall_mem_cons.mpr ⟨tb_1164, List.forall_mem_cons.mpr ⟨tb_1166, List.forall_mem_cons.mpr ⟨tb_1168, List.forall_mem_cons.mpr ⟨tb_1170, List.forall_mem_cons.mpr ⟨tb_1172, List.forall_mem_cons.mpr ⟨tb_1174, List.forall_mem_cons.mpr ⟨tb_1176, List.forall_mem_cons.mpr ⟨tb_1178, List.forall_mem_cons.mpr ⟨tb_1180, List.forall_mem_cons.mpr ⟨tb_1182, List.forall_mem_cons.mpr ⟨tb_1184, List.forall_mem_cons.mpr ⟨tb_1186, List.forall_mem_cons.mpr ⟨tb_1188, List.forall_mem_cons.mpr ⟨tb_1190, List.forall_mem_cons.mpr ⟨tb_1192, List.forall_mem_cons.mpr ⟨tb_1194, List.forall_mem_cons.mpr ⟨tb_1196, List.forall_mem_cons.mpr ⟨tb_1198, List.forall_mem_cons.mpr ⟨tb_1200, List.forall_mem_cons.mpr ⟨tb_1202, List.forall_mem_cons.mpr ⟨tb_1204, List.forall_mem_cons.mpr ⟨tb_1206, List.forall_mem_cons.mpr ⟨tb_1208, List.forall_mem_cons.mpr ⟨tb_1210, fun _ h => absurd h List.not_mem_nil⟩⟩⟩⟩⟩⟩⟩⟩⟩⟩⟩⟩⟩⟩⟩⟩⟩⟩⟩⟩⟩⟩⟩⟩⟩⟩⟩⟩⟩⟩⟩⟩⟩⟩⟩⟩⟩⟩⟩⟩⟩⟩⟩⟩⟩⟩⟩⟩⟩⟩⟩⟩⟩⟩
end
section
/-! what a run knows all along: the array classes, the strings, a static of String, words that are no table words -/
abbrev am_H : Type := List va_E
/-- where classes and slots lie, the array classes by kind, the strings' cells, the script's cell, the floor: nothing below it is written -/
abbrev am_G : Type := va_G × (Nat → ClassId) × (Nat → Nat) × Nat × Nat
def am_tys (G : am_G) : List (ClassId × FieldType) := [(G.2.1 0, .char), (G.2.1 1, .int), (G.2.1 2, .long), (G.2.1 3, .object "RetraceDesk$ClassLine"), (G.2.1 4, .object "RetraceDesk$MethodLine"), (G.2.1 5, .object "RetraceDesk$Header"), (G.2.1 6, .object "RetraceDesk$Frame")]
def am_A (G : am_G) : Nat → Prop := fun q => G.2.2.2.2 ≤ q
def am_len : List Nat := [4, 1, 4, 11, 2, 4, 5, 5, 1, 14, 13, 1, 2, 5, 10]
def am_byt : List (List Int32) := [[32, 32, 32, 32], [58], [32, 45, 62, 32], [67, 97, 117, 115, 101, 100, 32, 98, 121, 58, 32], [58, 32], [9, 97, 116, 32], [9, 46, 46, 46, 32], [32, 109, 111, 114, 101], [40], [85, 110, 107, 110, 111, 119, 110, 32, 83, 111, 117, 114, 99, 101], [78, 97, 116, 105, 118, 101, 32, 77, 101, 116, 104, 111, 100], [41], [41, 10], [46, 106, 97, 118, 97], [83, 111, 117, 114, 99, 101, 70, 105, 108, 101]]
def am_strs : List (String × Nat × String × Nat) := [("RetraceDesk$Mapping", 68, "    ", 0), ("RetraceDesk$Mapping", 92, ":", 1), ("RetraceDesk$Mapping", 87, " -> ", 2), ("RetraceDesk$Trace", 39, "Caused by: ", 3), ("RetraceDesk$Trace", 78, ": ", 4), ("RetraceDesk$Trace", 52, "\tat ", 5), ("RetraceDesk$Trace", 140, "\t... ", 6), ("RetraceDesk$Trace", 142, " more", 7), ("RetraceDesk$Trace", 120, "(", 8), ("RetraceDesk$Trace", 122, "Unknown Source", 9), ("RetraceDesk$Trace", 131, "Native Method", 10), ("RetraceDesk$Trace", 133, ")", 11), ("RetraceDesk$Trace", 135, ":", 1), ("RetraceDesk$Rewriter", 196, "Caused by: ", 3), ("RetraceDesk$Rewriter", 205, ": ", 4), ("RetraceDesk$Rewriter", 230, "\tat ", 5), ("RetraceDesk$Rewriter", 235, ")\n", 12), ("RetraceDesk$Text", 59, ".java", 13), ("RetraceDesk$Rewriter", 217, "\t... ", 6), ("RetraceDesk$Rewriter", 222, " more", 7), ("RetraceDesk$Rewriter", 173, "SourceFile", 14), ("RetraceDesk$CrashBook", 41, "\tat ", 5), ("RetraceDesk$CrashBook", 61, "\t... ", 6), ("RetraceDesk$CrashBook", 63, "Caused by: ", 3)]
def am_K (G : am_G) (U : State) : Prop :=
  (∀ q ∈ am_strs, vk_R q.1 q.2.1 q.2.2.1 (G.2.2.1 q.2.2.2) U) ∧ (∃ adV, vk_S 15 am_len am_byt G.2.2.1 adV (am_A G) U U.heap) ∧ va_Z "java/lang/String" "COMPACT_STRINGS" "Z" (.int 1) (am_A G) U U.heap ∧
  (va_Nw (Jvm.Cond.methodLinkNest "RetraceDesk$Form" (26 : Nat) ({ cls := "RetraceDesk", name := "isFigure", desc := "(C)Z" } : Jvm.MethodName) "RetraceDesk") U ∧ va_Nw (Jvm.Cond.methodLinkNest "RetraceDesk$Form" (56 : Nat) ({ cls := "RetraceDesk", name := "isLetter", desc := "(C)Z" } : Jvm.MethodName) "RetraceDesk") U ∧ va_Nw (Jvm.Cond.methodLinkNest "RetraceDesk$CrashBook" (86 : Nat) ({ cls := "RetraceDesk", name := "isFigure", desc := "(C)Z" } : Jvm.MethodName) "RetraceDesk") U) ∧
  va_Nw (.declares ⟨"RetraceDesk$Form", "takesLine", "()Z"⟩) U ∧ (va_AO "RetraceDesk$ClassLine" U ∧ va_AO "RetraceDesk$MethodLine" U ∧ va_AO "RetraceDesk$Header" U ∧ va_AO "RetraceDesk$Frame" U)
theorem am_K.same {G : am_G} {u U : State} (hv : U.vm = u.vm) (hh : U.heap = u.heap) (h : am_K G u) : am_K G U := by
  obtain ⟨h1, ⟨adV, h2⟩, h3, ⟨n1, n2, n3⟩, h5, a1, a2, a3, a4⟩ := h
  have ha : u.vm.Alike U.vm := by rw [hv]; exact Vm.Alike.refl u.vm
  refine ⟨fun q hq => vk_R.same hv (h1 q hq), ⟨adV, ?_⟩, ?_, ⟨va_Nw.same rfl hv.symm n1, va_Nw.same rfl hv.symm n2, va_Nw.same rfl hv.symm n3⟩, va_Nw.same rfl hv.symm h5, a1.moved ha, a2.moved ha, a3.moved ha, a4.moved ha⟩
  · rw [hh]; exact h2.moved ha
  · rw [hh]; exact h3.moved ha
theorem am_K.calling {G : am_G} {U : State} {g : JFrame} {mk : MethodId} {a : Array Value} (h : am_K G U) : am_K G (U.calling g mk a) := am_K.same rfl rfl h
theorem am_K.warm {G : am_G} {s U : State} {locs : List Loc} (hW : s.WarmedH U.vm) (hS : va_S (am_A G) s.heap U.heap locs) (h : am_K G s) : am_K G U := by
  obtain ⟨h1, ⟨adV, h2⟩, h3, ⟨n1, n2, n3⟩, h5, a1, a2, a3, a4⟩ := h
  have ha := hW.alike
  exact ⟨fun q hq => vk_R.warm hW (h1 q hq), ⟨adV, (h2.moved ha).kept hS.2.1⟩, (h3.moved ha).kept hS.2.1, ⟨va_Nw.warmM hW n1, va_Nw.warmM hW n2, va_Nw.warmM hW n3⟩, va_Nw.warmD hW h5, a1.moved ha, a2.moved ha, a3.moved ha, a4.moved ha⟩
theorem am_aoCL (G : am_G) (U : State) (h : am_K G U) : va_AO "RetraceDesk$ClassLine" U := h.2.2.2.2.2.1
theorem am_aoML (G : am_G) (U : State) (h : am_K G U) : va_AO "RetraceDesk$MethodLine" U := h.2.2.2.2.2.2.1
theorem am_aoHE (G : am_G) (U : State) (h : am_K G U) : va_AO "RetraceDesk$Header" U := h.2.2.2.2.2.2.2.1
theorem am_aoFR (G : am_G) (U : State) (h : am_K G U) : va_AO "RetraceDesk$Frame" U := h.2.2.2.2.2.2.2.2
end
section
/-! the machine told by places: a heap is a list of cells, a reference is a place in it; 'ad' says where each place lies -/
def am_X (ad ad' : List Nat) : Prop := ∃ x, ad' = ad ++ x
theorem am_X.rf {ad : List Nat} : am_X ad ad := ⟨[], (List.append_nil ad).symm⟩
theorem am_X.tr {a b c : List Nat} (h : am_X a b) (k : am_X b c) : am_X a c := by
  obtain ⟨x, rfl⟩ := h
  obtain ⟨y, rfl⟩ := k
  exact ⟨x ++ y, by rw [List.append_assoc]⟩
theorem am_X.get {ad ad' : List Nat} (h : am_X ad ad') {k a : Nat} (hk : ad[k]? = some a) : ad'[k]? = some a := by
  obtain ⟨x, rfl⟩ := h
  rw [List.getElem?_append_left (List.getElem?_eq_some_iff.mp hk).1]
  exact hk
/-- a value and what it is in the machine: .retAddr k is the k-th string, .float _ the script, .double _ a reference that nobody looks into -/
def am_V (G : am_G) (ad : List Nat) (v w : Value) : Prop := match v with
  | .int x => w = .int x
  | .long x => w = .long x
  | .null => w = .null
  | .ref k => ∃ a, ad[k]? = some a ∧ w = .ref a
  | .retAddr k => w = .ref (G.2.2.1 k)
  | .float _ => w = .ref G.2.2.2.1
  | .double _ => ∃ q, w = .ref q
theorem am_V.mono {G : am_G} {ad ad' : List Nat} (h : am_X ad ad') {v w : Value} (hv : am_V G ad v w) : am_V G ad' v w := by
  cases v <;> first | exact hv | (obtain ⟨a, h1, h2⟩ := hv; exact ⟨a, h.get h1, h2⟩)
def am_S (G : am_G) (ad : List Nat) : List Value → List Value → Prop
  | [], ws => ws = []
  | v :: vs, ws => ∃ x xs, ws = x :: xs ∧ am_V G ad v x ∧ am_S G ad vs xs
theorem am_S.mono {G : am_G} {ad ad' : List Nat} (h : am_X ad ad') : ∀ {vs ws : List Value}, am_S G ad vs ws → am_S G ad' vs ws
  | [], _, hs => hs
  | _ :: _, _, ⟨x, xs, e, hv, hs⟩ => ⟨x, xs, e, hv.mono h, am_S.mono h hs⟩
theorem am_S.len {G : am_G} {ad : List Nat} : ∀ {vs ws : List Value}, am_S G ad vs ws → ws.length = vs.length
  | [], _, hs => by rw [show _ = [] from hs]
  | _ :: _, _, ⟨x, xs, e, _, hs⟩ => by rw [e, List.length_cons, List.length_cons, am_S.len hs]
theorem am_S.get {G : am_G} {ad : List Nat} : ∀ {vs ws : List Value} {k : Nat} {v : Value}, am_S G ad vs ws → vs[k]? = some v → ∃ w, ws[k]? = some w ∧ am_V G ad v w
  | [], _, _, _, _, h => by simp at h
  | _ :: _, _, 0, _, ⟨x, xs, e, hv, _⟩, h => by
    rw [List.getElem?_cons_zero] at h
    cases h
    exact ⟨x, by rw [e, List.getElem?_cons_zero], hv⟩
  | _ :: _, _, k + 1, _, ⟨x, xs, e, _, hs⟩, h => by
    rw [List.getElem?_cons_succ] at h
    obtain ⟨w, h1, h2⟩ := am_S.get hs h
    exact ⟨w, by rw [e, List.getElem?_cons_succ]; exact h1, h2⟩
theorem am_S.set {G : am_G} {ad : List Nat} {v w : Value} (hvw : am_V G ad v w) : ∀ {vs ws : List Value} {k : Nat}, am_S G ad vs ws → am_S G ad (vs.set k v) (ws.set k w)
  | [], _, _, hs => by rw [show _ = [] from hs]; rfl
  | _ :: _, _, 0, ⟨x, xs, e, _, hs⟩ => by rw [e]; exact ⟨w, xs, rfl, hvw, hs⟩
  | _ :: _, _, k + 1, ⟨x, xs, e, hv, hs⟩ => by rw [e]; exact ⟨x, _, rfl, hv, am_S.set hvw hs⟩
theorem am_S.app {G : am_G} {ad : List Nat} : ∀ {vs ws vs' ws' : List Value}, am_S G ad vs ws → am_S G ad vs' ws' → am_S G ad (vs ++ vs') (ws ++ ws')
  | [], _, _, _, hs, h' => by rw [show _ = [] from hs]; exact h'
  | _ :: _, _, _, _, ⟨x, xs, e, hv, hs⟩, h' => by rw [e]; exact ⟨x, _, rfl, hv, am_S.app hs h'⟩
theorem am_S.rev {G : am_G} {ad : List Nat} : ∀ {vs ws : List Value}, am_S G ad vs ws → am_S G ad vs.reverse ws.reverse
  | [], _, hs => by rw [show _ = [] from hs]; rfl
  | _ :: _, _, ⟨x, xs, e, hv, hs⟩ => by
    rw [e, List.reverse_cons, List.reverse_cons]
    exact am_S.app (am_S.rev hs) ⟨x, [], rfl, hv, rfl⟩
theorem am_S.split {G : am_G} {ad : List Nat} : ∀ {vs vs' ws : List Value}, am_S G ad (vs ++ vs') ws → ∃ a b, ws = a ++ b ∧ am_S G ad vs a ∧ am_S G ad vs' b
  | [], _, ws, h => ⟨[], ws, rfl, rfl, h⟩
  | _ :: _, _, _, ⟨x, xs, e, hv, hs⟩ => by
    obtain ⟨a, b, h1, h2, h3⟩ := am_S.split hs
    exact ⟨x :: a, b, by rw [e, h1]; rfl, ⟨x, a, rfl, hv, h2⟩, h3⟩
def am_O (ad : List Nat) (x y : Option Nat) : Prop := match x with
  | none => y = none
  | some k => ∃ a, ad[k]? = some a ∧ y = some a
theorem am_O.mono {ad ad' : List Nat} (h : am_X ad ad') {x y : Option Nat} (hv : am_O ad x y) : am_O ad' x y := by
  cases x with
  | none => exact hv
  | some k => obtain ⟨a, h1, h2⟩ := hv; exact ⟨a, h.get h1, h2⟩
/-- a cell and what it is in the machine -/
def am_E (G : am_G) (ad : List Nat) (e e' : va_E) : Prop := match e with
  | .inr o => ∃ fs, e' = .inr (o.1, fs) ∧ am_S G ad o.2 fs
  | .inl (k, n, .inr (.inr (.inr (.inr f)))) => ∃ f', e' = .inl (G.2.1 k, n, .inr (.inr (.inr (.inr f')))) ∧ ∀ j, am_O ad (f j) (f' j)
  | .inl (k, n, .inl f) => e' = .inl (G.2.1 k, n, .inl f)
  | .inl (k, n, .inr (.inl f)) => e' = .inl (G.2.1 k, n, .inr (.inl f))
  | .inl (_, _, .inr (.inr (.inl _))) => False
  | .inl (_, _, .inr (.inr (.inr (.inl _)))) => False
theorem am_E.mono {G : am_G} {ad ad' : List Nat} (h : am_X ad ad') {e e' : va_E} (hv : am_E G ad e e') : am_E G ad' e e' := by
  rcases e with ⟨k, n, f | f | f | f | f⟩ | o
  · exact hv
  · exact hv
  · exact hv
  · exact hv
  · obtain ⟨f', h1, h2⟩ := hv
    exact ⟨f', h1, fun j => (h2 j).mono h⟩
  · obtain ⟨fs, h1, h2⟩ := hv
    exact ⟨fs, h1, h2.mono h⟩
/-- the heap holds these cells, and they lie apart, above the floor -/
def am_W (G : am_G) (ad : List Nat) (h : am_H) (H : Heap) : Prop := ∃ ws : va_W, ws.length = h.length ∧ ad.length = h.length ∧ (∀ (k : Nat) (e : va_E), h[k]? = some e → ∃ a e', ad[k]? = some a ∧ ws[k]? = some (a, e') ∧ am_E G ad e e') ∧ va_P G.1 vwCl ws H ∧ va_D (am_A G) ws
theorem am_lt {α : Type} {l : List α} {k : Nat} {x : α} (h : l[k]? = some x) : k < l.length := (List.getElem?_eq_some_iff.mp h).1
/-- one cell is written -/
theorem am_W.set {G : am_G} {ad : List Nat} {h : am_H} {ws : va_W} {k a : Nat} {e e' : va_E} {H1 : Heap} (h1 : ws.length = h.length) (h2 : ad.length = h.length) (h3 : ∀ (k : Nat) (e : va_E), h[k]? = some e → ∃ a e', ad[k]? = some a ∧ ws[k]? = some (a, e') ∧ am_E G ad e e') (ha : ad[k]? = some a) (hE : am_E G ad e e') (hP : va_P G.1 vwCl (ws.set k (a, e')) H1) (hD : va_D (am_A G) (ws.set k (a, e'))) : am_W G ad (h.set k e) H1 := by
  refine ⟨ws.set k (a, e'), by rw [List.length_set, List.length_set]; exact h1, by rw [List.length_set]; exact h2, fun j x hj => ?_, hP, hD⟩
  have hl : k < h.length := by rw [← h2]; exact am_lt ha
  by_cases hjk : j = k
  · subst hjk
    rw [List.getElem?_set_self hl] at hj
    cases hj
    exact ⟨a, e', ha, List.getElem?_set_self (by rw [h1]; exact hl), hE⟩
  · rw [List.getElem?_set_ne (Ne.symm hjk)] at hj
    obtain ⟨b, f, g1, g2, g3⟩ := h3 j x hj
    exact ⟨b, f, g1, by rw [List.getElem?_set_ne (Ne.symm hjk)]; exact g2, g3⟩
/-- one cell is new -/
theorem am_W.push {G : am_G} {ad : List Nat} {h : am_H} {ws : va_W} {q : Nat} {e e' : va_E} {H1 : Heap} (h1 : ws.length = h.length) (h2 : ad.length = h.length) (h3 : ∀ (k : Nat) (e : va_E), h[k]? = some e → ∃ a e', ad[k]? = some a ∧ ws[k]? = some (a, e') ∧ am_E G ad e e') (hE : am_E G (ad ++ [q]) e e') (hP : va_P G.1 vwCl (ws ++ [(q, e')]) H1) (hD : va_D (am_A G) (ws ++ [(q, e')])) : am_W G (ad ++ [q]) (h ++ [e]) H1 := by
  refine ⟨ws ++ [(q, e')], by simp [h1], by simp [h2], fun j x hj => ?_, hP, hD⟩
  by_cases hjk : j < h.length
  · rw [List.getElem?_append_left hjk] at hj
    obtain ⟨b, f, g1, g2, g3⟩ := h3 j x hj
    have hX : am_X ad (ad ++ [q]) := ⟨[q], rfl⟩
    exact ⟨b, f, hX.get g1, by rw [List.getElem?_append_left (by rw [h1]; exact hjk)]; exact g2, g3.mono hX⟩
  · rw [List.getElem?_append_right (by omega)] at hj
    have hz : j - h.length = 0 := by
      have := am_lt hj
      simp at this
      omega
    rw [hz] at hj
    cases hj
    have hj2 : j = h.length := by omega
    subst hj2
    refine ⟨q, e', ?_, ?_, hE⟩
    · rw [← h2, List.getElem?_append_right (Nat.le_refl _), Nat.sub_self]
      rfl
    · rw [← h1, List.getElem?_append_right (Nat.le_refl _), Nat.sub_self]
      rfl
/-- the locals: .double 0 is a local that nobody reads -/
abbrev am_u : Value := .double 0
def am_L (G : am_G) (ad : List Nat) (L : List Value) (ls : Array Slot) (nL : Nat) : Prop := ls.size = nL ∧ lv_wf ls ∧ ∀ (i : Nat) (v : Value), L[i]? = some v → v ≠ am_u → ∃ w, am_V G ad v w ∧ ls[i]? = some (.val w)
theorem am_L.mono {G : am_G} {ad ad' : List Nat} (h : am_X ad ad') {L : List Value} {ls : Array Slot} {nL : Nat} (hL : am_L G ad L ls nL) : am_L G ad' L ls nL :=
  ⟨hL.1, hL.2.1, fun i v h1 h2 => by obtain ⟨w, h3, h4⟩ := hL.2.2 i v h1 h2; exact ⟨w, h3.mono h, h4⟩⟩
def am_long (v : Value) : Bool := match v with
  | .long _ => true
  | _ => false
def am_clr (L : List Value) : Nat → List Value
  | 0 => L
  | j + 1 => match L[j]? with
    | some v => if am_long v then L.set j am_u else L
    | none => L
def am_st (L : List Value) (i : Nat) (v : Value) : List Value := (am_clr L i).set i v
def am_st2 (L : List Value) (i : Nat) (v : Value) : List Value := ((am_clr L i).set i v).set (i + 1) am_u
theorem am_clr_get {L : List Value} {i j : Nat} {v : Value} (h : (am_clr L i)[j]? = some v) (hv : v ≠ am_u) : L[j]? = some v ∧ (j + 1 = i → am_long v = false) := by
  cases i with
  | zero => exact ⟨h, fun z => by omega⟩
  | succ i =>
    simp only [am_clr] at h
    cases hL : L[i]? with
    | none =>
      rw [hL] at h
      refine ⟨h, fun z => ?_⟩
      have : j = i := by omega
      subst this
      rw [hL] at h
      cases h
    | some x =>
      rw [hL] at h
      dsimp only at h
      by_cases hx : am_long x = true
      · rw [if_pos hx] at h
        by_cases hj : j = i
        · subst hj
          rw [List.getElem?_set_self (am_lt hL)] at h
          cases h
          exact absurd rfl hv
        · rw [List.getElem?_set_ne (Ne.symm hj)] at h
          exact ⟨h, fun z => absurd (by omega) hj⟩
      · rw [if_neg hx] at h
        refine ⟨h, fun z => ?_⟩
        have : j = i := by omega
        subst this
        rw [hL] at h
        cases h
        simpa using hx
theorem am_V.cat {G : am_G} {ad : List Nat} {v w : Value} (h : am_V G ad v w) (hv : am_long v = false) : w.category = 1 := by
  cases v with
  | int x => rw [show w = _ from h]; rfl
  | long x => cases hv
  | null => rw [show w = _ from h]; rfl
  | ref k => obtain ⟨a, -, e⟩ := h; rw [e]; rfl
  | retAddr k => rw [show w = _ from h]; rfl
  | float b => rw [show w = _ from h]; rfl
  | double b => obtain ⟨a, e⟩ := h; rw [e]; rfl
theorem am_V.cat2 {G : am_G} {ad : List Nat} {v w : Value} (h : am_V G ad v w) (hv : am_long v = true) : w.category = 2 := by
  cases v with
  | long x => rw [show w = _ from h]; rfl
  | _ => cases hv
theorem am_store1 {G : am_G} {ad : List Nat} {L : List Value} {ls : Array Slot} {nL i : Nat} {v w : Value} (h : am_L G ad L ls nL) (hi : i < nL) (hvw : am_V G ad v w) (hv : am_long v = false) :
    ∃ ls', storeLocals ls i w = some ls' ∧ am_L G ad (am_st L i v) ls' nL := by
  obtain ⟨hs, hwf, hg⟩ := h
  have hc := hvw.cat hv
  obtain ⟨ls', e', h'⟩ := lv_store1 (l := []) (v := w) ⟨hs, hwf, fun q hq => by cases hq⟩ hi hc
  refine ⟨ls', e', h'.1, h'.2.1, fun j u hj hu => ?_⟩
  by_cases hji : j = i
  · subst hji
    have hl : j < (am_clr L j).length := by
      have := am_lt hj
      unfold am_st at this
      rw [List.length_set] at this
      exact this
    unfold am_st at hj
    rw [List.getElem?_set_self hl] at hj
    cases hj
    exact ⟨w, hvw, h'.2.2 (j, w) (by simp)⟩
  · unfold am_st at hj
    rw [List.getElem?_set_ne (Ne.symm hji)] at hj
    obtain ⟨g1, g2⟩ := am_clr_get hj hu
    obtain ⟨x, x1, x2⟩ := hg j u g1 hu
    obtain ⟨ls2, e2, k2⟩ := lv_store1 (l := [(j, x)]) (v := w) ⟨hs, hwf, fun q hq => by rw [List.mem_singleton] at hq; subst hq; exact x2⟩ hi hc
    have hee : ls2 = ls' := Option.some.inj (e2.symm.trans e')
    subst hee
    refine ⟨x, x1, k2.2.2 (j, x) (List.mem_cons_of_mem _ (List.mem_filter.mpr ⟨by simp, ?_⟩))⟩
    by_cases hq : j + 1 = i
    · have := x1.cat (g2 hq)
      simp [hji, this]
    · simp [hji, hq]
theorem am_store2 {G : am_G} {ad : List Nat} {L : List Value} {ls : Array Slot} {nL i : Nat} {v w : Value} (h : am_L G ad L ls nL) (hi : i + 1 < nL) (hvw : am_V G ad v w) (hv : am_long v = true) :
    ∃ ls', storeLocals ls i w = some ls' ∧ am_L G ad (am_st2 L i v) ls' nL := by
  obtain ⟨hs, hwf, hg⟩ := h
  have hc := hvw.cat2 hv
  obtain ⟨ls', e', h'⟩ := lv_store2 (l := []) (v := w) ⟨hs, hwf, fun q hq => by cases hq⟩ hi hc
  refine ⟨ls', e', h'.1, h'.2.1, fun j u hj hu => ?_⟩
  unfold am_st2 at hj
  by_cases hj1 : j = i + 1
  · subst hj1
    have hl : i + 1 < ((am_clr L i).set i v).length := by
      have := am_lt hj
      rw [List.length_set] at this
      exact this
    rw [List.getElem?_set_self hl] at hj
    cases hj
    exact absurd rfl hu
  · rw [List.getElem?_set_ne (Ne.symm hj1)] at hj
    by_cases hji : j = i
    · subst hji
      have hl : j < (am_clr L j).length := by
        have := am_lt hj
        rw [List.length_set] at this
        exact this
      rw [List.getElem?_set_self hl] at hj
      cases hj
      exact ⟨w, hvw, h'.2.2 (j, w) (by simp)⟩
    · rw [List.getElem?_set_ne (Ne.symm hji)] at hj
      obtain ⟨g1, g2⟩ := am_clr_get hj hu
      obtain ⟨x, x1, x2⟩ := hg j u g1 hu
      obtain ⟨ls2, e2, k2⟩ := lv_store2 (l := [(j, x)]) (v := w) ⟨hs, hwf, fun q hq => by rw [List.mem_singleton] at hq; subst hq; exact x2⟩ hi hc
      have hee : ls2 = ls' := Option.some.inj (e2.symm.trans e')
      subst hee
      refine ⟨x, x1, k2.2.2 (j, x) (List.mem_cons_of_mem _ (List.mem_filter.mpr ⟨by simp, ?_⟩))⟩
      by_cases hq : j + 1 = i
      · have := x1.cat (g2 hq)
        simp [hji, hj1, this]
      · simp [hji, hj1, hq]

/-- a method's walk: the machine, the launch, the start, the frame, what is owed, where things lie, the places at the start, how many locals -/
abbrev am_C : Type := Program × Launch × Env × Room × State × MethodId × Array Value × List Frame × Method × Code × (State → Prop) × am_G × List Nat × Nat
def am_Z (X : am_C) (pc : Nat) (L st : List Value) (h : am_H) (cs sl : Nat) : Prop := match X with
  | (p, l, e, R, s, m, args, below, meth, c, Q, G, ad0, nL) => ∀ (H : Heap) (locs : List Loc) (ad : List Nat) (ls : Array Slot) (st' : List Value), am_X ad0 ad → am_W G ad h H → va_S (am_A G) s.heap H locs → am_L G ad L ls nL → am_S G ad st st' → W p l e R s m args below meth c H locs cs sl Q (F0 m pc ls st')
def am_B (X : am_C) (own : String) (cc : ByteArray) : Prop := match X with
  | (p, _, _, _, s, m, args, _, _, c, _, G, _, nL) => p.tables.exec = Jvm.exec ∧ c.code = cc ∧ c.maxLocals = nL ∧ s.vm.findClass own = some m.cls ∧ (∀ w ∈ am_tbl, w.before args s = true) ∧ va_K G.1 vwCl (am_tys G) s ∧ G.2.2.2.2 ≤ s.heap.size ∧ am_K G s
section AmRows
variable {X : am_C} {own : String} {cc : ByteArray} {pc : Nat} {L st : List Value} {h : am_H} {cs sl : Nat}
theorem am_at {pc' : Nat} (e : pc' = pc) (k : am_Z X pc L st h cs sl) : am_Z X pc' L st h cs sl := e ▸ k
theorem am_wide {k n : Nat} (h1 : cs ≤ k) (h2 : sl ≤ n) (kk : am_Z X pc L st h k n) : am_Z X pc L st h cs sl := by
  obtain ⟨p, l, e, R, s, m, args, below, meth, c, Q, G, ad0, nL⟩ := X
  exact fun H locs ad ls st' a1 a2 a3 a4 a5 => W.widen h1 h2 (kk H locs ad ls st' a1 a2 a3 a4 a5)
theorem am_iconst (hB : am_B X own cc) {n : Int} {v : Int32} (hdg : decode cc pc = .ok (.iconst n, 1)) (hv : Int32.ofInt n = v) (k : am_Z X (pc + 1) L (.int v :: st) h cs sl) : am_Z X pc L (st) h cs sl := by
  obtain ⟨p, l, e, R, s, m, args, below, meth, c, Q, G, ad0, nL⟩ := X
  obtain ⟨hx, hb, -⟩ := hB
  intro H locs ad ls st' a1 a2 a3 a4 a5
  exact lv_iconst hx hb hdg hv (k H locs ad ls _ a1 a2 a3 a4 ⟨_, _, rfl, rfl, a5⟩)
theorem am_bipush (hB : am_B X own cc) {n : Int} {v : Int32} (hdg : decode cc pc = .ok (.bipush n, 2)) (hv : (Int8.ofInt n).toInt32 = v) (k : am_Z X (pc + 2) L (.int v :: st) h cs sl) : am_Z X pc L (st) h cs sl := by
  obtain ⟨p, l, e, R, s, m, args, below, meth, c, Q, G, ad0, nL⟩ := X
  obtain ⟨hx, hb, -⟩ := hB
  intro H locs ad ls st' a1 a2 a3 a4 a5
  exact lv_bipush hx hb hdg hv (k H locs ad ls _ a1 a2 a3 a4 ⟨_, _, rfl, rfl, a5⟩)
theorem am_sipush (hB : am_B X own cc) {n : Int} {v : Int32} (hdg : decode cc pc = .ok (.sipush n, 3)) (hv : (Int16.ofInt n).toInt32 = v) (k : am_Z X (pc + 3) L (.int v :: st) h cs sl) : am_Z X pc L (st) h cs sl := by
  obtain ⟨p, l, e, R, s, m, args, below, meth, c, Q, G, ad0, nL⟩ := X
  obtain ⟨hx, hb, -⟩ := hB
  intro H locs ad ls st' a1 a2 a3 a4 a5
  exact lv_sipush hx hb hdg hv (k H locs ad ls _ a1 a2 a3 a4 ⟨_, _, rfl, rfl, a5⟩)
theorem am_lconst (hB : am_B X own cc) {n : Fin 2} {v : Int64} (hdg : decode cc pc = .ok (.lconst n, 1)) (hv : Int64.ofNat (n : Nat) = v) (k : am_Z X (pc + 1) L (.long v :: st) h cs sl) : am_Z X pc L (st) h cs sl := by
  obtain ⟨p, l, e, R, s, m, args, below, meth, c, Q, G, ad0, nL⟩ := X
  obtain ⟨hx, hb, -⟩ := hB
  intro H locs ad ls st' a1 a2 a3 a4 a5
  exact lv_lconst hx hb hdg hv (k H locs ad ls _ a1 a2 a3 a4 ⟨_, _, rfl, rfl, a5⟩)
theorem am_null (hB : am_B X own cc) (hdg : decode cc pc = .ok (.aconst_null, 1)) (k : am_Z X (pc + 1) L (.null :: st) h cs sl) : am_Z X pc L (st) h cs sl := by
  obtain ⟨p, l, e, R, s, m, args, below, meth, c, Q, G, ad0, nL⟩ := X
  obtain ⟨hx, hb, -⟩ := hB
  intro H locs ad ls st' a1 a2 a3 a4 a5
  exact lv_null hx hb hdg (k H locs ad ls _ a1 a2 a3 a4 ⟨_, _, rfl, rfl, a5⟩)
theorem am_iadd (hB : am_B X own cc) {x y : Int32} (hdg : decode cc pc = .ok (.iadd, 1)) (k : am_Z X (pc + 1) L (.int (x + y) :: st) h cs sl) : am_Z X pc L (.int y :: .int x :: st) h cs sl := by
  obtain ⟨p, l, e, R, s, m, args, below, meth, c, Q, G, ad0, nL⟩ := X
  obtain ⟨hx, hb, -⟩ := hB
  intro H locs ad ls st' a1 a2 a3 a4 a5
  obtain ⟨_, _, rfl, rfl, ⟨_, _, rfl, rfl, a5⟩⟩ := a5
  exact lv_iadd hx hb hdg (k H locs ad ls _ a1 a2 a3 a4 ⟨_, _, rfl, rfl, a5⟩)
theorem am_isub (hB : am_B X own cc) {x y : Int32} (hdg : decode cc pc = .ok (.isub, 1)) (k : am_Z X (pc + 1) L (.int (x - y) :: st) h cs sl) : am_Z X pc L (.int y :: .int x :: st) h cs sl := by
  obtain ⟨p, l, e, R, s, m, args, below, meth, c, Q, G, ad0, nL⟩ := X
  obtain ⟨hx, hb, -⟩ := hB
  intro H locs ad ls st' a1 a2 a3 a4 a5
  obtain ⟨_, _, rfl, rfl, ⟨_, _, rfl, rfl, a5⟩⟩ := a5
  exact lv_isub hx hb hdg (k H locs ad ls _ a1 a2 a3 a4 ⟨_, _, rfl, rfl, a5⟩)
theorem am_imul (hB : am_B X own cc) {x y : Int32} (hdg : decode cc pc = .ok (.imul, 1)) (k : am_Z X (pc + 1) L (.int (x * y) :: st) h cs sl) : am_Z X pc L (.int y :: .int x :: st) h cs sl := by
  obtain ⟨p, l, e, R, s, m, args, below, meth, c, Q, G, ad0, nL⟩ := X
  obtain ⟨hx, hb, -⟩ := hB
  intro H locs ad ls st' a1 a2 a3 a4 a5
  obtain ⟨_, _, rfl, rfl, ⟨_, _, rfl, rfl, a5⟩⟩ := a5
  exact lv_imul hx hb hdg (k H locs ad ls _ a1 a2 a3 a4 ⟨_, _, rfl, rfl, a5⟩)
theorem am_iand (hB : am_B X own cc) {x y : Int32} (hdg : decode cc pc = .ok (.iand, 1)) (k : am_Z X (pc + 1) L (.int (x &&& y) :: st) h cs sl) : am_Z X pc L (.int y :: .int x :: st) h cs sl := by
  obtain ⟨p, l, e, R, s, m, args, below, meth, c, Q, G, ad0, nL⟩ := X
  obtain ⟨hx, hb, -⟩ := hB
  intro H locs ad ls st' a1 a2 a3 a4 a5
  obtain ⟨_, _, rfl, rfl, ⟨_, _, rfl, rfl, a5⟩⟩ := a5
  exact lv_iand hx hb hdg (k H locs ad ls _ a1 a2 a3 a4 ⟨_, _, rfl, rfl, a5⟩)
theorem am_ior (hB : am_B X own cc) {x y : Int32} (hdg : decode cc pc = .ok (.ior, 1)) (k : am_Z X (pc + 1) L (.int (x ||| y) :: st) h cs sl) : am_Z X pc L (.int y :: .int x :: st) h cs sl := by
  obtain ⟨p, l, e, R, s, m, args, below, meth, c, Q, G, ad0, nL⟩ := X
  obtain ⟨hx, hb, -⟩ := hB
  intro H locs ad ls st' a1 a2 a3 a4 a5
  obtain ⟨_, _, rfl, rfl, ⟨_, _, rfl, rfl, a5⟩⟩ := a5
  exact lv_ior hx hb hdg (k H locs ad ls _ a1 a2 a3 a4 ⟨_, _, rfl, rfl, a5⟩)
theorem am_ixor (hB : am_B X own cc) {x y : Int32} (hdg : decode cc pc = .ok (.ixor, 1)) (k : am_Z X (pc + 1) L (.int (x ^^^ y) :: st) h cs sl) : am_Z X pc L (.int y :: .int x :: st) h cs sl := by
  obtain ⟨p, l, e, R, s, m, args, below, meth, c, Q, G, ad0, nL⟩ := X
  obtain ⟨hx, hb, -⟩ := hB
  intro H locs ad ls st' a1 a2 a3 a4 a5
  obtain ⟨_, _, rfl, rfl, ⟨_, _, rfl, rfl, a5⟩⟩ := a5
  exact lv_ixor hx hb hdg (k H locs ad ls _ a1 a2 a3 a4 ⟨_, _, rfl, rfl, a5⟩)
theorem am_ishl (hB : am_B X own cc) {x y : Int32} (hdg : decode cc pc = .ok (.ishl, 1)) (k : am_Z X (pc + 1) L (.int (x <<< (y &&& 31)) :: st) h cs sl) : am_Z X pc L (.int y :: .int x :: st) h cs sl := by
  obtain ⟨p, l, e, R, s, m, args, below, meth, c, Q, G, ad0, nL⟩ := X
  obtain ⟨hx, hb, -⟩ := hB
  intro H locs ad ls st' a1 a2 a3 a4 a5
  obtain ⟨_, _, rfl, rfl, ⟨_, _, rfl, rfl, a5⟩⟩ := a5
  exact lv_ishl hx hb hdg (k H locs ad ls _ a1 a2 a3 a4 ⟨_, _, rfl, rfl, a5⟩)
theorem am_ishr (hB : am_B X own cc) {x y : Int32} (hdg : decode cc pc = .ok (.ishr, 1)) (k : am_Z X (pc + 1) L (.int (x >>> (y &&& 31)) :: st) h cs sl) : am_Z X pc L (.int y :: .int x :: st) h cs sl := by
  obtain ⟨p, l, e, R, s, m, args, below, meth, c, Q, G, ad0, nL⟩ := X
  obtain ⟨hx, hb, -⟩ := hB
  intro H locs ad ls st' a1 a2 a3 a4 a5
  obtain ⟨_, _, rfl, rfl, ⟨_, _, rfl, rfl, a5⟩⟩ := a5
  exact lv_ishr hx hb hdg (k H locs ad ls _ a1 a2 a3 a4 ⟨_, _, rfl, rfl, a5⟩)
theorem am_idiv (hB : am_B X own cc) {x y : Int32} (hdg : decode cc pc = .ok (.idiv, 1)) (hne : ¬ y = 0) (k : am_Z X (pc + 1) L (.int (x / y) :: st) h cs sl) : am_Z X pc L (.int y :: .int x :: st) h cs sl := by
  obtain ⟨p, l, e, R, s, m, args, below, meth, c, Q, G, ad0, nL⟩ := X
  obtain ⟨hx, hb, -⟩ := hB
  intro H locs ad ls st' a1 a2 a3 a4 a5
  obtain ⟨_, _, rfl, rfl, ⟨_, _, rfl, rfl, a5⟩⟩ := a5
  exact lv_idiv hx hb hdg hne (k H locs ad ls _ a1 a2 a3 a4 ⟨_, _, rfl, rfl, a5⟩)
theorem am_irem (hB : am_B X own cc) {x y : Int32} (hdg : decode cc pc = .ok (.irem, 1)) (hne : ¬ y = 0) (k : am_Z X (pc + 1) L (.int (x - x / y * y) :: st) h cs sl) : am_Z X pc L (.int y :: .int x :: st) h cs sl := by
  obtain ⟨p, l, e, R, s, m, args, below, meth, c, Q, G, ad0, nL⟩ := X
  obtain ⟨hx, hb, -⟩ := hB
  intro H locs ad ls st' a1 a2 a3 a4 a5
  obtain ⟨_, _, rfl, rfl, ⟨_, _, rfl, rfl, a5⟩⟩ := a5
  exact lv_irem hx hb hdg hne (k H locs ad ls _ a1 a2 a3 a4 ⟨_, _, rfl, rfl, a5⟩)
theorem am_ladd (hB : am_B X own cc) {x y : Int64} (hdg : decode cc pc = .ok (.ladd, 1)) (k : am_Z X (pc + 1) L (.long (x + y) :: st) h cs sl) : am_Z X pc L (.long y :: .long x :: st) h cs sl := by
  obtain ⟨p, l, e, R, s, m, args, below, meth, c, Q, G, ad0, nL⟩ := X
  obtain ⟨hx, hb, -⟩ := hB
  intro H locs ad ls st' a1 a2 a3 a4 a5
  obtain ⟨_, _, rfl, rfl, ⟨_, _, rfl, rfl, a5⟩⟩ := a5
  exact lv_ladd hx hb hdg (k H locs ad ls _ a1 a2 a3 a4 ⟨_, _, rfl, rfl, a5⟩)
theorem am_lsub (hB : am_B X own cc) {x y : Int64} (hdg : decode cc pc = .ok (.lsub, 1)) (k : am_Z X (pc + 1) L (.long (x - y) :: st) h cs sl) : am_Z X pc L (.long y :: .long x :: st) h cs sl := by
  obtain ⟨p, l, e, R, s, m, args, below, meth, c, Q, G, ad0, nL⟩ := X
  obtain ⟨hx, hb, -⟩ := hB
  intro H locs ad ls st' a1 a2 a3 a4 a5
  obtain ⟨_, _, rfl, rfl, ⟨_, _, rfl, rfl, a5⟩⟩ := a5
  exact lv_lsub hx hb hdg (k H locs ad ls _ a1 a2 a3 a4 ⟨_, _, rfl, rfl, a5⟩)
theorem am_lmul (hB : am_B X own cc) {x y : Int64} (hdg : decode cc pc = .ok (.lmul, 1)) (k : am_Z X (pc + 1) L (.long (x * y) :: st) h cs sl) : am_Z X pc L (.long y :: .long x :: st) h cs sl := by
  obtain ⟨p, l, e, R, s, m, args, below, meth, c, Q, G, ad0, nL⟩ := X
  obtain ⟨hx, hb, -⟩ := hB
  intro H locs ad ls st' a1 a2 a3 a4 a5
  obtain ⟨_, _, rfl, rfl, ⟨_, _, rfl, rfl, a5⟩⟩ := a5
  exact lv_lmul hx hb hdg (k H locs ad ls _ a1 a2 a3 a4 ⟨_, _, rfl, rfl, a5⟩)
theorem am_land (hB : am_B X own cc) {x y : Int64} (hdg : decode cc pc = .ok (.land, 1)) (k : am_Z X (pc + 1) L (.long (x &&& y) :: st) h cs sl) : am_Z X pc L (.long y :: .long x :: st) h cs sl := by
  obtain ⟨p, l, e, R, s, m, args, below, meth, c, Q, G, ad0, nL⟩ := X
  obtain ⟨hx, hb, -⟩ := hB
  intro H locs ad ls st' a1 a2 a3 a4 a5
  obtain ⟨_, _, rfl, rfl, ⟨_, _, rfl, rfl, a5⟩⟩ := a5
  exact lv_land hx hb hdg (k H locs ad ls _ a1 a2 a3 a4 ⟨_, _, rfl, rfl, a5⟩)
theorem am_lor (hB : am_B X own cc) {x y : Int64} (hdg : decode cc pc = .ok (.lor, 1)) (k : am_Z X (pc + 1) L (.long (x ||| y) :: st) h cs sl) : am_Z X pc L (.long y :: .long x :: st) h cs sl := by
  obtain ⟨p, l, e, R, s, m, args, below, meth, c, Q, G, ad0, nL⟩ := X
  obtain ⟨hx, hb, -⟩ := hB
  intro H locs ad ls st' a1 a2 a3 a4 a5
  obtain ⟨_, _, rfl, rfl, ⟨_, _, rfl, rfl, a5⟩⟩ := a5
  exact lv_lor hx hb hdg (k H locs ad ls _ a1 a2 a3 a4 ⟨_, _, rfl, rfl, a5⟩)
theorem am_lxor (hB : am_B X own cc) {x y : Int64} (hdg : decode cc pc = .ok (.lxor, 1)) (k : am_Z X (pc + 1) L (.long (x ^^^ y) :: st) h cs sl) : am_Z X pc L (.long y :: .long x :: st) h cs sl := by
  obtain ⟨p, l, e, R, s, m, args, below, meth, c, Q, G, ad0, nL⟩ := X
  obtain ⟨hx, hb, -⟩ := hB
  intro H locs ad ls st' a1 a2 a3 a4 a5
  obtain ⟨_, _, rfl, rfl, ⟨_, _, rfl, rfl, a5⟩⟩ := a5
  exact lv_lxor hx hb hdg (k H locs ad ls _ a1 a2 a3 a4 ⟨_, _, rfl, rfl, a5⟩)
theorem am_i2l (hB : am_B X own cc) {x : Int32} (hdg : decode cc pc = .ok (.i2l, 1)) (k : am_Z X (pc + 1) L (.long x.toInt64 :: st) h cs sl) : am_Z X pc L (.int x :: st) h cs sl := by
  obtain ⟨p, l, e, R, s, m, args, below, meth, c, Q, G, ad0, nL⟩ := X
  obtain ⟨hx, hb, -⟩ := hB
  intro H locs ad ls st' a1 a2 a3 a4 a5
  obtain ⟨_, _, rfl, rfl, a5⟩ := a5
  exact lv_i2l hx hb hdg rfl (k H locs ad ls _ a1 a2 a3 a4 ⟨_, _, rfl, rfl, a5⟩)
theorem am_l2i (hB : am_B X own cc) {x : Int64} (hdg : decode cc pc = .ok (.l2i, 1)) (k : am_Z X (pc + 1) L (.int x.toInt32 :: st) h cs sl) : am_Z X pc L (.long x :: st) h cs sl := by
  obtain ⟨p, l, e, R, s, m, args, below, meth, c, Q, G, ad0, nL⟩ := X
  obtain ⟨hx, hb, -⟩ := hB
  intro H locs ad ls st' a1 a2 a3 a4 a5
  obtain ⟨_, _, rfl, rfl, a5⟩ := a5
  exact lv_l2i hx hb hdg rfl (k H locs ad ls _ a1 a2 a3 a4 ⟨_, _, rfl, rfl, a5⟩)
theorem am_i2c (hB : am_B X own cc) {x : Int32} (hdg : decode cc pc = .ok (.i2c, 1)) (k : am_Z X (pc + 1) L (.int (x.toUInt32 % 65536).toInt32 :: st) h cs sl) : am_Z X pc L (.int x :: st) h cs sl := by
  obtain ⟨p, l, e, R, s, m, args, below, meth, c, Q, G, ad0, nL⟩ := X
  obtain ⟨hx, hb, -⟩ := hB
  intro H locs ad ls st' a1 a2 a3 a4 a5
  obtain ⟨_, _, rfl, rfl, a5⟩ := a5
  exact lv_i2c hx hb hdg rfl (k H locs ad ls _ a1 a2 a3 a4 ⟨_, _, rfl, rfl, a5⟩)
theorem am_lushr (hB : am_B X own cc) {x : Int64} {y : Int32} (hdg : decode cc pc = .ok (.lushr, 1)) (k : am_Z X (pc + 1) L (.long (x.toUInt64 >>> (y.toInt64.toUInt64 &&& Int64.toUInt64 63)).toInt64 :: st) h cs sl) : am_Z X pc L (.int y :: .long x :: st) h cs sl := by
  obtain ⟨p, l, e, R, s, m, args, below, meth, c, Q, G, ad0, nL⟩ := X
  obtain ⟨hx, hb, -⟩ := hB
  intro H locs ad ls st' a1 a2 a3 a4 a5
  obtain ⟨_, _, rfl, rfl, ⟨_, _, rfl, rfl, a5⟩⟩ := a5
  exact lv_lushr hx hb hdg rfl (k H locs ad ls _ a1 a2 a3 a4 ⟨_, _, rfl, rfl, a5⟩)
theorem am_lshr (hB : am_B X own cc) {x : Int64} {y : Int32} (hdg : decode cc pc = .ok (.lshr, 1)) (k : am_Z X (pc + 1) L (.long (x >>> (y.toInt64 &&& 63)) :: st) h cs sl) : am_Z X pc L (.int y :: .long x :: st) h cs sl := by
  obtain ⟨p, l, e, R, s, m, args, below, meth, c, Q, G, ad0, nL⟩ := X
  obtain ⟨hx, hb, -⟩ := hB
  intro H locs ad ls st' a1 a2 a3 a4 a5
  obtain ⟨_, _, rfl, rfl, ⟨_, _, rfl, rfl, a5⟩⟩ := a5
  exact lv_lshr hx hb hdg rfl (k H locs ad ls _ a1 a2 a3 a4 ⟨_, _, rfl, rfl, a5⟩)
theorem am_lshl (hB : am_B X own cc) {x : Int64} {y : Int32} (hdg : decode cc pc = .ok (.lshl, 1)) (k : am_Z X (pc + 1) L (.long (x <<< (y.toInt64 &&& 63)) :: st) h cs sl) : am_Z X pc L (.int y :: .long x :: st) h cs sl := by
  obtain ⟨p, l, e, R, s, m, args, below, meth, c, Q, G, ad0, nL⟩ := X
  obtain ⟨hx, hb, -⟩ := hB
  intro H locs ad ls st' a1 a2 a3 a4 a5
  obtain ⟨_, _, rfl, rfl, ⟨_, _, rfl, rfl, a5⟩⟩ := a5
  exact lv_lshl hx hb hdg rfl (k H locs ad ls _ a1 a2 a3 a4 ⟨_, _, rfl, rfl, a5⟩)
theorem am_ineg (hB : am_B X own cc) {x : Int32} (hdg : decode cc pc = .ok (.ineg, 1)) (k : am_Z X (pc + 1) L (.int (-x) :: st) h cs sl) : am_Z X pc L (.int x :: st) h cs sl := by
  obtain ⟨p, l, e, R, s, m, args, below, meth, c, Q, G, ad0, nL⟩ := X
  obtain ⟨hx, hb, -⟩ := hB
  intro H locs ad ls st' a1 a2 a3 a4 a5
  obtain ⟨_, _, rfl, rfl, a5⟩ := a5
  exact lv_ineg hx hb hdg (k H locs ad ls _ a1 a2 a3 a4 ⟨_, _, rfl, rfl, a5⟩)
theorem am_lcmp (hB : am_B X own cc) {x y : Int64} (hdg : decode cc pc = .ok (.lcmp, 1)) (k : am_Z X (pc + 1) L (.int (lg_cmp x y) :: st) h cs sl) : am_Z X pc L (.long y :: .long x :: st) h cs sl := by
  obtain ⟨p, l, e, R, s, m, args, below, meth, c, Q, G, ad0, nL⟩ := X
  obtain ⟨hx, hb, -⟩ := hB
  intro H locs ad ls st' a1 a2 a3 a4 a5
  obtain ⟨_, _, rfl, rfl, ⟨_, _, rfl, rfl, a5⟩⟩ := a5
  exact W.lcmp hx hb hdg (k H locs ad ls _ a1 a2 a3 a4 ⟨_, _, rfl, rfl, a5⟩)
theorem am_dup (hB : am_B X own cc) {v : Value} (hdg : decode cc pc = .ok (.dup, 1)) (hv : am_long v = false) (k : am_Z X (pc + 1) L (v :: v :: st) h cs sl) : am_Z X pc L (v :: st) h cs sl := by
  obtain ⟨p, l, e, R, s, m, args, below, meth, c, Q, G, ad0, nL⟩ := X
  obtain ⟨hx, hb, -⟩ := hB
  intro H locs ad ls st' a1 a2 a3 a4 a5
  obtain ⟨w0, _, rfl, hw0, a5⟩ := a5
  exact lv_dup hx hb hdg (hw0.cat hv) (k H locs ad ls _ a1 a2 a3 a4 ⟨_, _, rfl, hw0, _, _, rfl, hw0, a5⟩)
theorem am_pop (hB : am_B X own cc) {v : Value} (hdg : decode cc pc = .ok (.pop, 1)) (hv : am_long v = false) (k : am_Z X (pc + 1) L (st) h cs sl) : am_Z X pc L (v :: st) h cs sl := by
  obtain ⟨p, l, e, R, s, m, args, below, meth, c, Q, G, ad0, nL⟩ := X
  obtain ⟨hx, hb, -⟩ := hB
  intro H locs ad ls st' a1 a2 a3 a4 a5
  obtain ⟨w0, _, rfl, hw0, a5⟩ := a5
  exact lv_pop hx hb hdg (hw0.cat hv) (k H locs ad ls _ a1 a2 a3 a4 a5)
theorem am_dup_x1 (hB : am_B X own cc) {v u : Value} (hdg : decode cc pc = .ok (.dup_x1, 1)) (hv : am_long v = false) (hu : am_long u = false) (k : am_Z X (pc + 1) L (v :: u :: v :: st) h cs sl) : am_Z X pc L (v :: u :: st) h cs sl := by
  obtain ⟨p, l, e, R, s, m, args, below, meth, c, Q, G, ad0, nL⟩ := X
  obtain ⟨hx, hb, -⟩ := hB
  intro H locs ad ls st' a1 a2 a3 a4 a5
  obtain ⟨w0, _, rfl, hw0, ⟨w1, _, rfl, hw1, a5⟩⟩ := a5
  exact lv_dup_x1 hx hb hdg (hw0.cat hv) (hw1.cat hu) (k H locs ad ls _ a1 a2 a3 a4 ⟨_, _, rfl, hw0, _, _, rfl, hw1, _, _, rfl, hw0, a5⟩)
theorem am_dup_x2 (hB : am_B X own cc) {v u t : Value} (hdg : decode cc pc = .ok (.dup_x2, 1)) (hv : am_long v = false) (hu : am_long u = false) (ht : am_long t = false) (k : am_Z X (pc + 1) L (v :: u :: t :: v :: st) h cs sl) : am_Z X pc L (v :: u :: t :: st) h cs sl := by
  obtain ⟨p, l, e, R, s, m, args, below, meth, c, Q, G, ad0, nL⟩ := X
  obtain ⟨hx, hb, -⟩ := hB
  intro H locs ad ls st' a1 a2 a3 a4 a5
  obtain ⟨w0, _, rfl, hw0, ⟨w1, _, rfl, hw1, ⟨w2, _, rfl, hw2, a5⟩⟩⟩ := a5
  exact lv_dup_x2 hx hb hdg (hw0.cat hv) (hw1.cat hu) (hw2.cat ht) (k H locs ad ls _ a1 a2 a3 a4 ⟨_, _, rfl, hw0, _, _, rfl, hw1, _, _, rfl, hw2, _, _, rfl, hw0, a5⟩)
theorem am_dup2 (hB : am_B X own cc) {v u : Value} (hdg : decode cc pc = .ok (.dup2, 1)) (hv : am_long v = false) (hu : am_long u = false) (k : am_Z X (pc + 1) L (v :: u :: v :: u :: st) h cs sl) : am_Z X pc L (v :: u :: st) h cs sl := by
  obtain ⟨p, l, e, R, s, m, args, below, meth, c, Q, G, ad0, nL⟩ := X
  obtain ⟨hx, hb, -⟩ := hB
  intro H locs ad ls st' a1 a2 a3 a4 a5
  obtain ⟨w0, _, rfl, hw0, ⟨w1, _, rfl, hw1, a5⟩⟩ := a5
  exact lv_dup2_11 hx hb hdg (hw0.cat hv) (hw1.cat hu) (k H locs ad ls _ a1 a2 a3 a4 ⟨_, _, rfl, hw0, _, _, rfl, hw1, _, _, rfl, hw0, _, _, rfl, hw1, a5⟩)
theorem am_iload_n (hB : am_B X own cc) {k : Fin 4} {i : Nat} {x : Int32} (hdg : decode cc pc = .ok (.iload_n k, 1)) (hi : (k : Nat) = i) (hl : L[i]? = some (.int x)) (k : am_Z X (pc + 1) L (.int x :: st) h cs sl) : am_Z X pc L st h cs sl := by
  obtain ⟨p, l, e, R, s, m, args, below, meth, c, Q, G, ad0, nL⟩ := X
  obtain ⟨hx, hb, -⟩ := hB
  intro H locs ad ls st' a1 a2 a3 a4 a5
  obtain ⟨_, rfl, g⟩ := a4.2.2 i _ hl (fun z => by cases z)
  exact lv_iload_n hx hb hdg hi g (k H locs ad ls _ a1 a2 a3 a4 ⟨_, _, rfl, rfl, a5⟩)
theorem am_iload (hB : am_B X own cc) {i : Nat} {x : Int32} (hdg : decode cc pc = .ok (.iload i, 2)) (hl : L[i]? = some (.int x)) (k : am_Z X (pc + 2) L (.int x :: st) h cs sl) : am_Z X pc L st h cs sl := by
  obtain ⟨p, l, e, R, s, m, args, below, meth, c, Q, G, ad0, nL⟩ := X
  obtain ⟨hx, hb, -⟩ := hB
  intro H locs ad ls st' a1 a2 a3 a4 a5
  obtain ⟨_, rfl, g⟩ := a4.2.2 i _ hl (fun z => by cases z)
  exact lv_iload hx hb hdg g (k H locs ad ls _ a1 a2 a3 a4 ⟨_, _, rfl, rfl, a5⟩)
theorem am_lload_n (hB : am_B X own cc) {k : Fin 4} {i : Nat} {x : Int64} (hdg : decode cc pc = .ok (.lload_n k, 1)) (hi : (k : Nat) = i) (hl : L[i]? = some (.long x)) (k : am_Z X (pc + 1) L (.long x :: st) h cs sl) : am_Z X pc L st h cs sl := by
  obtain ⟨p, l, e, R, s, m, args, below, meth, c, Q, G, ad0, nL⟩ := X
  obtain ⟨hx, hb, -⟩ := hB
  intro H locs ad ls st' a1 a2 a3 a4 a5
  obtain ⟨_, rfl, g⟩ := a4.2.2 i _ hl (fun z => by cases z)
  exact lv_lload_n hx hb hdg hi g (k H locs ad ls _ a1 a2 a3 a4 ⟨_, _, rfl, rfl, a5⟩)
theorem am_lload (hB : am_B X own cc) {i : Nat} {x : Int64} (hdg : decode cc pc = .ok (.lload i, 2)) (hl : L[i]? = some (.long x)) (k : am_Z X (pc + 2) L (.long x :: st) h cs sl) : am_Z X pc L st h cs sl := by
  obtain ⟨p, l, e, R, s, m, args, below, meth, c, Q, G, ad0, nL⟩ := X
  obtain ⟨hx, hb, -⟩ := hB
  intro H locs ad ls st' a1 a2 a3 a4 a5
  obtain ⟨_, rfl, g⟩ := a4.2.2 i _ hl (fun z => by cases z)
  exact lv_lload hx hb hdg g (k H locs ad ls _ a1 a2 a3 a4 ⟨_, _, rfl, rfl, a5⟩)
def am_ref (v : Value) : Bool := match v with
  | .int _ => false
  | .long _ => false
  | _ => true
theorem am_V.isr {G : am_G} {ad : List Nat} {v w : Value} (hv : am_V G ad v w) (hr : am_ref v = true) : w = .null ∨ ∃ a, w = .ref a := by
  cases v with
  | int x => cases hr
  | long x => cases hr
  | null => exact Or.inl hv
  | ref k => obtain ⟨a, -, e⟩ := hv; exact Or.inr ⟨a, e⟩
  | retAddr k => exact Or.inr ⟨_, hv⟩
  | float b => exact Or.inr ⟨_, hv⟩
  | double b => obtain ⟨a, e⟩ := hv; exact Or.inr ⟨a, e⟩
def am_ld (v : Value) : Bool := match v with
  | .null => true
  | .ref _ => true
  | .retAddr _ => true
  | .float _ => true
  | _ => false
theorem am_ld_ref {v : Value} (h : am_ld v = true) : am_ref v = true := by
  cases v <;> first | rfl | cases h
theorem am_ld_u {v : Value} (h : am_ld v = true) : v ≠ am_u := fun z => by
  subst z
  cases h
theorem am_ref_long {v : Value} (h : am_ref v = true) : am_long v = false := by
  cases v <;> first | rfl | cases h
theorem am_aload_n (hB : am_B X own cc) {k : Fin 4} {i : Nat} {v : Value} (hdg : decode cc pc = .ok (.aload_n k, 1)) (hi : (k : Nat) = i) (hl : L[i]? = some v) (hr : am_ld v = true) (k : am_Z X (pc + 1) L (v :: st) h cs sl) : am_Z X pc L st h cs sl := by
  obtain ⟨p, l, e, R, s, m, args, below, meth, c, Q, G, ad0, nL⟩ := X
  obtain ⟨hx, hb, -⟩ := hB
  intro H locs ad ls st' a1 a2 a3 a4 a5
  obtain ⟨w0, hw0, g⟩ := a4.2.2 i _ hl (am_ld_u hr)
  rcases hw0.isr (am_ld_ref hr) with rfl | ⟨a, rfl⟩
  · exact lv_aload_nN hx hb hdg hi g (k H locs ad ls _ a1 a2 a3 a4 ⟨_, _, rfl, hw0, a5⟩)
  · exact lv_aload_n hx hb hdg hi g (k H locs ad ls _ a1 a2 a3 a4 ⟨_, _, rfl, hw0, a5⟩)
theorem am_aload (hB : am_B X own cc) {i : Nat} {v : Value} (hdg : decode cc pc = .ok (.aload i, 2)) (hl : L[i]? = some v) (hr : am_ld v = true) (k : am_Z X (pc + 2) L (v :: st) h cs sl) : am_Z X pc L st h cs sl := by
  obtain ⟨p, l, e, R, s, m, args, below, meth, c, Q, G, ad0, nL⟩ := X
  obtain ⟨hx, hb, -⟩ := hB
  intro H locs ad ls st' a1 a2 a3 a4 a5
  obtain ⟨w0, hw0, g⟩ := a4.2.2 i _ hl (am_ld_u hr)
  rcases hw0.isr (am_ld_ref hr) with rfl | ⟨a, rfl⟩
  · exact lv_aloadN hx hb hdg g (k H locs ad ls _ a1 a2 a3 a4 ⟨_, _, rfl, hw0, a5⟩)
  · exact lv_aload hx hb hdg g (k H locs ad ls _ a1 a2 a3 a4 ⟨_, _, rfl, hw0, a5⟩)
theorem am_istore_n (hB : am_B X own cc) {k : Fin 4} {i : Nat} {x : Int32} {L' : List Value} (hdg : decode cc pc = .ok (.istore_n k, 1)) (hi : (k : Nat) = i) (hn : i < X.2.2.2.2.2.2.2.2.2.2.2.2.2) (hL : am_st L i (.int x) = L') (k : am_Z X (pc + 1) L' st h cs sl) : am_Z X pc L (.int x :: st) h cs sl := by
  obtain ⟨p, l, e, R, s, m, args, below, meth, c, Q, G, ad0, nL⟩ := X
  obtain ⟨hx, hb, -⟩ := hB
  intro H locs ad ls st' a1 a2 a3 a4 a5
  obtain ⟨_, _, rfl, rfl, a5⟩ := a5
  subst hL
  subst hi
  obtain ⟨ls', e', g⟩ := am_store1 (v := .int x) a4 hn rfl rfl
  intro T hT Y
  obtain ⟨t, b1, b2⟩ := k H locs ad ls' _ a1 a2 a3 g a5 T hT Y
  refine ⟨t, ?_, b2⟩
  jvm_step Y.here [Y.here.top, ↓top_set Y.here.top, hx, hb, hdg, e']
  exact b1
theorem am_istore (hB : am_B X own cc) {i : Nat} {x : Int32} {L' : List Value} (hdg : decode cc pc = .ok (.istore i, 2)) (hn : i < X.2.2.2.2.2.2.2.2.2.2.2.2.2) (hL : am_st L i (.int x) = L') (k : am_Z X (pc + 2) L' st h cs sl) : am_Z X pc L (.int x :: st) h cs sl := by
  obtain ⟨p, l, e, R, s, m, args, below, meth, c, Q, G, ad0, nL⟩ := X
  obtain ⟨hx, hb, -⟩ := hB
  intro H locs ad ls st' a1 a2 a3 a4 a5
  obtain ⟨_, _, rfl, rfl, a5⟩ := a5
  subst hL
  obtain ⟨ls', e', g⟩ := am_store1 (v := .int x) a4 hn rfl rfl
  intro T hT Y
  obtain ⟨t, b1, b2⟩ := k H locs ad ls' _ a1 a2 a3 g a5 T hT Y
  refine ⟨t, ?_, b2⟩
  jvm_step Y.here [Y.here.top, ↓top_set Y.here.top, hx, hb, hdg, e']
  exact b1
theorem am_lstore_n (hB : am_B X own cc) {k : Fin 4} {i : Nat} {x : Int64} {L' : List Value} (hdg : decode cc pc = .ok (.lstore_n k, 1)) (hi : (k : Nat) = i) (hn : i + 1 < X.2.2.2.2.2.2.2.2.2.2.2.2.2) (hL : am_st2 L i (.long x) = L') (k : am_Z X (pc + 1) L' st h cs sl) : am_Z X pc L (.long x :: st) h cs sl := by
  obtain ⟨p, l, e, R, s, m, args, below, meth, c, Q, G, ad0, nL⟩ := X
  obtain ⟨hx, hb, -⟩ := hB
  intro H locs ad ls st' a1 a2 a3 a4 a5
  obtain ⟨_, _, rfl, rfl, a5⟩ := a5
  subst hL
  subst hi
  obtain ⟨ls', e', g⟩ := am_store2 (v := .long x) a4 hn rfl rfl
  intro T hT Y
  obtain ⟨t, b1, b2⟩ := k H locs ad ls' _ a1 a2 a3 g a5 T hT Y
  refine ⟨t, ?_, b2⟩
  jvm_step Y.here [Y.here.top, ↓top_set Y.here.top, hx, hb, hdg, e']
  exact b1
theorem am_lstore (hB : am_B X own cc) {i : Nat} {x : Int64} {L' : List Value} (hdg : decode cc pc = .ok (.lstore i, 2)) (hn : i + 1 < X.2.2.2.2.2.2.2.2.2.2.2.2.2) (hL : am_st2 L i (.long x) = L') (k : am_Z X (pc + 2) L' st h cs sl) : am_Z X pc L (.long x :: st) h cs sl := by
  obtain ⟨p, l, e, R, s, m, args, below, meth, c, Q, G, ad0, nL⟩ := X
  obtain ⟨hx, hb, -⟩ := hB
  intro H locs ad ls st' a1 a2 a3 a4 a5
  obtain ⟨_, _, rfl, rfl, a5⟩ := a5
  subst hL
  obtain ⟨ls', e', g⟩ := am_store2 (v := .long x) a4 hn rfl rfl
  intro T hT Y
  obtain ⟨t, b1, b2⟩ := k H locs ad ls' _ a1 a2 a3 g a5 T hT Y
  refine ⟨t, ?_, b2⟩
  jvm_step Y.here [Y.here.top, ↓top_set Y.here.top, hx, hb, hdg, e']
  exact b1
theorem am_astore_n (hB : am_B X own cc) {k : Fin 4} {i : Nat} {v : Value} {L' : List Value} (hdg : decode cc pc = .ok (.astore_n k, 1)) (hi : (k : Nat) = i) (hn : i < X.2.2.2.2.2.2.2.2.2.2.2.2.2) (hr : am_ref v = true) (hL : am_st L i v = L') (k : am_Z X (pc + 1) L' st h cs sl) : am_Z X pc L (v :: st) h cs sl := by
  obtain ⟨p, l, e, R, s, m, args, below, meth, c, Q, G, ad0, nL⟩ := X
  obtain ⟨hx, hb, -⟩ := hB
  intro H locs ad ls st' a1 a2 a3 a4 a5
  obtain ⟨w0, _, rfl, hw0, a5⟩ := a5
  subst hL
  subst hi
  obtain ⟨ls', e', g⟩ := am_store1 a4 hn hw0 (am_ref_long hr)
  intro T hT Y
  obtain ⟨t, b1, b2⟩ := k H locs ad ls' _ a1 a2 a3 g a5 T hT Y
  refine ⟨t, ?_, b2⟩
  rcases hw0.isr hr with rfl | ⟨a, rfl⟩
  · jvm_step Y.here [Y.here.top, ↓top_set Y.here.top, hx, hb, hdg, e', Value.isRef]
    exact b1
  · jvm_step Y.here [Y.here.top, ↓top_set Y.here.top, hx, hb, hdg, e', Value.isRef]
    exact b1
theorem am_astore (hB : am_B X own cc) {i : Nat} {v : Value} {L' : List Value} (hdg : decode cc pc = .ok (.astore i, 2)) (hn : i < X.2.2.2.2.2.2.2.2.2.2.2.2.2) (hr : am_ref v = true) (hL : am_st L i v = L') (k : am_Z X (pc + 2) L' st h cs sl) : am_Z X pc L (v :: st) h cs sl := by
  obtain ⟨p, l, e, R, s, m, args, below, meth, c, Q, G, ad0, nL⟩ := X
  obtain ⟨hx, hb, -⟩ := hB
  intro H locs ad ls st' a1 a2 a3 a4 a5
  obtain ⟨w0, _, rfl, hw0, a5⟩ := a5
  subst hL
  obtain ⟨ls', e', g⟩ := am_store1 a4 hn hw0 (am_ref_long hr)
  intro T hT Y
  obtain ⟨t, b1, b2⟩ := k H locs ad ls' _ a1 a2 a3 g a5 T hT Y
  refine ⟨t, ?_, b2⟩
  rcases hw0.isr hr with rfl | ⟨a, rfl⟩
  · jvm_step Y.here [Y.here.top, ↓top_set Y.here.top, hx, hb, hdg, e', Value.isRef]
    exact b1
  · jvm_step Y.here [Y.here.top, ↓top_set Y.here.top, hx, hb, hdg, e', Value.isRef]
    exact b1
theorem am_iinc (hB : am_B X own cc) {i : Nat} {n : Int} {x v : Int32} {L' : List Value} (hdg : decode cc pc = .ok (.iinc i n, 3)) (hl : L[i]? = some (.int x)) (hv : x + Int32.ofInt n = v) (hn : i < X.2.2.2.2.2.2.2.2.2.2.2.2.2) (hL : am_st L i (.int v) = L') (k : am_Z X (pc + 3) L' st h cs sl) : am_Z X pc L st h cs sl := by
  obtain ⟨p, l, e, R, s, m, args, below, meth, c, Q, G, ad0, nL⟩ := X
  obtain ⟨hx, hb, -⟩ := hB
  intro H locs ad ls st' a1 a2 a3 a4 a5
  obtain ⟨_, rfl, hg⟩ := a4.2.2 i _ hl (fun z => by cases z)
  subst hL
  subst hv
  obtain ⟨ls', e', g⟩ := am_store1 (v := .int (x + Int32.ofInt n)) a4 hn rfl rfl
  intro T hT Y
  obtain ⟨t, b1, b2⟩ := k H locs ad ls' _ a1 a2 a3 g a5 T hT Y
  refine ⟨t, ?_, b2⟩
  jvm_step Y.here [Y.here.top, ↓top_set Y.here.top, hx, hb, hdg, hg, e']
  exact b1
theorem am_if_eq (hB : am_B X own cc) {x : Int32} {off : Int} {tgt : Nat} (hdg : decode cc pc = .ok (.ifCond .eq off, 3)) (ht : (pc : Int) + off = (tgt : Int)) (kt : x = 0 → am_Z X tgt L st h cs sl) (kf : ¬ x = 0 → am_Z X (pc + 3) L st h cs sl) : am_Z X pc L (.int x :: st) h cs sl := by
  obtain ⟨p, l, e, R, s, m, args, below, meth, c, Q, G, ad0, nL⟩ := X
  obtain ⟨hx, hb, -⟩ := hB
  intro H locs ad ls st' a1 a2 a3 a4 a5
  obtain ⟨_, _, rfl, rfl, a5⟩ := a5
  exact lv_if_eq hx hb hdg ht (fun z => kt z H locs ad ls _ a1 a2 a3 a4 a5) (fun z => kf z H locs ad ls _ a1 a2 a3 a4 a5)
theorem am_icmp_eq (hB : am_B X own cc) {x y : Int32} {off : Int} {tgt : Nat} (hdg : decode cc pc = .ok (.if_icmp .eq off, 3)) (ht : (pc : Int) + off = (tgt : Int)) (kt : x = y → am_Z X tgt L st h cs sl) (kf : ¬ x = y → am_Z X (pc + 3) L st h cs sl) : am_Z X pc L (.int y :: .int x :: st) h cs sl := by
  obtain ⟨p, l, e, R, s, m, args, below, meth, c, Q, G, ad0, nL⟩ := X
  obtain ⟨hx, hb, -⟩ := hB
  intro H locs ad ls st' a1 a2 a3 a4 a5
  obtain ⟨_, _, rfl, rfl, ⟨_, _, rfl, rfl, a5⟩⟩ := a5
  exact lv_icmp_eq hx hb hdg ht (fun z => kt z H locs ad ls _ a1 a2 a3 a4 a5) (fun z => kf z H locs ad ls _ a1 a2 a3 a4 a5)
theorem am_if_ne (hB : am_B X own cc) {x : Int32} {off : Int} {tgt : Nat} (hdg : decode cc pc = .ok (.ifCond .ne off, 3)) (ht : (pc : Int) + off = (tgt : Int)) (kt : ¬ x = 0 → am_Z X tgt L st h cs sl) (kf : x = 0 → am_Z X (pc + 3) L st h cs sl) : am_Z X pc L (.int x :: st) h cs sl := by
  obtain ⟨p, l, e, R, s, m, args, below, meth, c, Q, G, ad0, nL⟩ := X
  obtain ⟨hx, hb, -⟩ := hB
  intro H locs ad ls st' a1 a2 a3 a4 a5
  obtain ⟨_, _, rfl, rfl, a5⟩ := a5
  exact lv_if_ne hx hb hdg ht (fun z => kt z H locs ad ls _ a1 a2 a3 a4 a5) (fun z => kf z H locs ad ls _ a1 a2 a3 a4 a5)
theorem am_icmp_ne (hB : am_B X own cc) {x y : Int32} {off : Int} {tgt : Nat} (hdg : decode cc pc = .ok (.if_icmp .ne off, 3)) (ht : (pc : Int) + off = (tgt : Int)) (kt : ¬ x = y → am_Z X tgt L st h cs sl) (kf : x = y → am_Z X (pc + 3) L st h cs sl) : am_Z X pc L (.int y :: .int x :: st) h cs sl := by
  obtain ⟨p, l, e, R, s, m, args, below, meth, c, Q, G, ad0, nL⟩ := X
  obtain ⟨hx, hb, -⟩ := hB
  intro H locs ad ls st' a1 a2 a3 a4 a5
  obtain ⟨_, _, rfl, rfl, ⟨_, _, rfl, rfl, a5⟩⟩ := a5
  exact lv_icmp_ne hx hb hdg ht (fun z => kt z H locs ad ls _ a1 a2 a3 a4 a5) (fun z => kf z H locs ad ls _ a1 a2 a3 a4 a5)
theorem am_if_lt (hB : am_B X own cc) {x : Int32} {off : Int} {tgt : Nat} (hdg : decode cc pc = .ok (.ifCond .lt off, 3)) (ht : (pc : Int) + off = (tgt : Int)) (kt : x < 0 → am_Z X tgt L st h cs sl) (kf : ¬ x < 0 → am_Z X (pc + 3) L st h cs sl) : am_Z X pc L (.int x :: st) h cs sl := by
  obtain ⟨p, l, e, R, s, m, args, below, meth, c, Q, G, ad0, nL⟩ := X
  obtain ⟨hx, hb, -⟩ := hB
  intro H locs ad ls st' a1 a2 a3 a4 a5
  obtain ⟨_, _, rfl, rfl, a5⟩ := a5
  exact lv_if_lt hx hb hdg ht (fun z => kt z H locs ad ls _ a1 a2 a3 a4 a5) (fun z => kf z H locs ad ls _ a1 a2 a3 a4 a5)
theorem am_icmp_lt (hB : am_B X own cc) {x y : Int32} {off : Int} {tgt : Nat} (hdg : decode cc pc = .ok (.if_icmp .lt off, 3)) (ht : (pc : Int) + off = (tgt : Int)) (kt : x < y → am_Z X tgt L st h cs sl) (kf : ¬ x < y → am_Z X (pc + 3) L st h cs sl) : am_Z X pc L (.int y :: .int x :: st) h cs sl := by
  obtain ⟨p, l, e, R, s, m, args, below, meth, c, Q, G, ad0, nL⟩ := X
  obtain ⟨hx, hb, -⟩ := hB
  intro H locs ad ls st' a1 a2 a3 a4 a5
  obtain ⟨_, _, rfl, rfl, ⟨_, _, rfl, rfl, a5⟩⟩ := a5
  exact lv_icmp_lt hx hb hdg ht (fun z => kt z H locs ad ls _ a1 a2 a3 a4 a5) (fun z => kf z H locs ad ls _ a1 a2 a3 a4 a5)
theorem am_if_ge (hB : am_B X own cc) {x : Int32} {off : Int} {tgt : Nat} (hdg : decode cc pc = .ok (.ifCond .ge off, 3)) (ht : (pc : Int) + off = (tgt : Int)) (kt : 0 ≤ x → am_Z X tgt L st h cs sl) (kf : ¬ 0 ≤ x → am_Z X (pc + 3) L st h cs sl) : am_Z X pc L (.int x :: st) h cs sl := by
  obtain ⟨p, l, e, R, s, m, args, below, meth, c, Q, G, ad0, nL⟩ := X
  obtain ⟨hx, hb, -⟩ := hB
  intro H locs ad ls st' a1 a2 a3 a4 a5
  obtain ⟨_, _, rfl, rfl, a5⟩ := a5
  exact lv_if_ge hx hb hdg ht (fun z => kt z H locs ad ls _ a1 a2 a3 a4 a5) (fun z => kf z H locs ad ls _ a1 a2 a3 a4 a5)
theorem am_icmp_ge (hB : am_B X own cc) {x y : Int32} {off : Int} {tgt : Nat} (hdg : decode cc pc = .ok (.if_icmp .ge off, 3)) (ht : (pc : Int) + off = (tgt : Int)) (kt : y ≤ x → am_Z X tgt L st h cs sl) (kf : ¬ y ≤ x → am_Z X (pc + 3) L st h cs sl) : am_Z X pc L (.int y :: .int x :: st) h cs sl := by
  obtain ⟨p, l, e, R, s, m, args, below, meth, c, Q, G, ad0, nL⟩ := X
  obtain ⟨hx, hb, -⟩ := hB
  intro H locs ad ls st' a1 a2 a3 a4 a5
  obtain ⟨_, _, rfl, rfl, ⟨_, _, rfl, rfl, a5⟩⟩ := a5
  exact lv_icmp_ge hx hb hdg ht (fun z => kt z H locs ad ls _ a1 a2 a3 a4 a5) (fun z => kf z H locs ad ls _ a1 a2 a3 a4 a5)
theorem am_if_gt (hB : am_B X own cc) {x : Int32} {off : Int} {tgt : Nat} (hdg : decode cc pc = .ok (.ifCond .gt off, 3)) (ht : (pc : Int) + off = (tgt : Int)) (kt : 0 < x → am_Z X tgt L st h cs sl) (kf : ¬ 0 < x → am_Z X (pc + 3) L st h cs sl) : am_Z X pc L (.int x :: st) h cs sl := by
  obtain ⟨p, l, e, R, s, m, args, below, meth, c, Q, G, ad0, nL⟩ := X
  obtain ⟨hx, hb, -⟩ := hB
  intro H locs ad ls st' a1 a2 a3 a4 a5
  obtain ⟨_, _, rfl, rfl, a5⟩ := a5
  exact lv_if_gt hx hb hdg ht (fun z => kt z H locs ad ls _ a1 a2 a3 a4 a5) (fun z => kf z H locs ad ls _ a1 a2 a3 a4 a5)
theorem am_icmp_gt (hB : am_B X own cc) {x y : Int32} {off : Int} {tgt : Nat} (hdg : decode cc pc = .ok (.if_icmp .gt off, 3)) (ht : (pc : Int) + off = (tgt : Int)) (kt : y < x → am_Z X tgt L st h cs sl) (kf : ¬ y < x → am_Z X (pc + 3) L st h cs sl) : am_Z X pc L (.int y :: .int x :: st) h cs sl := by
  obtain ⟨p, l, e, R, s, m, args, below, meth, c, Q, G, ad0, nL⟩ := X
  obtain ⟨hx, hb, -⟩ := hB
  intro H locs ad ls st' a1 a2 a3 a4 a5
  obtain ⟨_, _, rfl, rfl, ⟨_, _, rfl, rfl, a5⟩⟩ := a5
  exact lv_icmp_gt hx hb hdg ht (fun z => kt z H locs ad ls _ a1 a2 a3 a4 a5) (fun z => kf z H locs ad ls _ a1 a2 a3 a4 a5)
theorem am_if_le (hB : am_B X own cc) {x : Int32} {off : Int} {tgt : Nat} (hdg : decode cc pc = .ok (.ifCond .le off, 3)) (ht : (pc : Int) + off = (tgt : Int)) (kt : x ≤ 0 → am_Z X tgt L st h cs sl) (kf : ¬ x ≤ 0 → am_Z X (pc + 3) L st h cs sl) : am_Z X pc L (.int x :: st) h cs sl := by
  obtain ⟨p, l, e, R, s, m, args, below, meth, c, Q, G, ad0, nL⟩ := X
  obtain ⟨hx, hb, -⟩ := hB
  intro H locs ad ls st' a1 a2 a3 a4 a5
  obtain ⟨_, _, rfl, rfl, a5⟩ := a5
  exact lv_if_le hx hb hdg ht (fun z => kt z H locs ad ls _ a1 a2 a3 a4 a5) (fun z => kf z H locs ad ls _ a1 a2 a3 a4 a5)
theorem am_icmp_le (hB : am_B X own cc) {x y : Int32} {off : Int} {tgt : Nat} (hdg : decode cc pc = .ok (.if_icmp .le off, 3)) (ht : (pc : Int) + off = (tgt : Int)) (kt : x ≤ y → am_Z X tgt L st h cs sl) (kf : ¬ x ≤ y → am_Z X (pc + 3) L st h cs sl) : am_Z X pc L (.int y :: .int x :: st) h cs sl := by
  obtain ⟨p, l, e, R, s, m, args, below, meth, c, Q, G, ad0, nL⟩ := X
  obtain ⟨hx, hb, -⟩ := hB
  intro H locs ad ls st' a1 a2 a3 a4 a5
  obtain ⟨_, _, rfl, rfl, ⟨_, _, rfl, rfl, a5⟩⟩ := a5
  exact lv_icmp_le hx hb hdg ht (fun z => kt z H locs ad ls _ a1 a2 a3 a4 a5) (fun z => kf z H locs ad ls _ a1 a2 a3 a4 a5)
theorem am_goto (hB : am_B X own cc) {off : Int} {tgt : Nat} (hdg : decode cc pc = .ok (.goto off, 3)) (ht : (pc : Int) + off = (tgt : Int)) (k : am_Z X tgt L st h cs sl) : am_Z X pc L st h cs sl := by
  obtain ⟨p, l, e, R, s, m, args, below, meth, c, Q, G, ad0, nL⟩ := X
  obtain ⟨hx, hb, -⟩ := hB
  intro H locs ad ls st' a1 a2 a3 a4 a5
  exact lv_goto hx hb hdg ht (k H locs ad ls _ a1 a2 a3 a4 a5)
theorem am_ifnullN (hB : am_B X own cc) {off : Int} {tgt : Nat} (hdg : decode cc pc = .ok (.ifnull off, 3)) (ht : (pc : Int) + off = (tgt : Int)) (k : am_Z X tgt L st h cs sl) : am_Z X pc L (.null :: st) h cs sl := by
  obtain ⟨p, l, e, R, s, m, args, below, meth, c, Q, G, ad0, nL⟩ := X
  obtain ⟨hx, hb, -⟩ := hB
  intro H locs ad ls st' a1 a2 a3 a4 a5
  obtain ⟨_, _, rfl, rfl, a5⟩ := a5
  exact lv_ifnullN hx hb hdg ht (k H locs ad ls _ a1 a2 a3 a4 a5)
theorem am_ifnullR (hB : am_B X own cc) {off : Int} {z : Nat} (hdg : decode cc pc = .ok (.ifnull off, 3)) (k : am_Z X (pc + 3) L st h cs sl) : am_Z X pc L (.ref z :: st) h cs sl := by
  obtain ⟨p, l, e, R, s, m, args, below, meth, c, Q, G, ad0, nL⟩ := X
  obtain ⟨hx, hb, -⟩ := hB
  intro H locs ad ls st' a1 a2 a3 a4 a5
  obtain ⟨_, _, rfl, ⟨a, -, rfl⟩, a5⟩ := a5
  exact lv_ifnull hx hb hdg (k H locs ad ls _ a1 a2 a3 a4 a5)
theorem am_ifnonnullN (hB : am_B X own cc) {off : Int} (hdg : decode cc pc = .ok (.ifnonnull off, 3)) (k : am_Z X (pc + 3) L st h cs sl) : am_Z X pc L (.null :: st) h cs sl := by
  obtain ⟨p, l, e, R, s, m, args, below, meth, c, Q, G, ad0, nL⟩ := X
  obtain ⟨hx, hb, -⟩ := hB
  intro H locs ad ls st' a1 a2 a3 a4 a5
  obtain ⟨_, _, rfl, rfl, a5⟩ := a5
  exact lv_ifnonnullN hx hb hdg (k H locs ad ls _ a1 a2 a3 a4 a5)
theorem am_ifnonnullR (hB : am_B X own cc) {off : Int} {z : Nat} {tgt : Nat} (hdg : decode cc pc = .ok (.ifnonnull off, 3)) (ht : (pc : Int) + off = (tgt : Int)) (k : am_Z X tgt L st h cs sl) : am_Z X pc L (.ref z :: st) h cs sl := by
  obtain ⟨p, l, e, R, s, m, args, below, meth, c, Q, G, ad0, nL⟩ := X
  obtain ⟨hx, hb, -⟩ := hB
  intro H locs ad ls st' a1 a2 a3 a4 a5
  obtain ⟨_, _, rfl, ⟨a, -, rfl⟩, a5⟩ := a5
  exact lv_ifnonnull hx hb hdg ht (k H locs ad ls _ a1 a2 a3 a4 a5)
theorem am_tableOut (hB : am_B X own cc) {dflt lo hi : Int} {offs : Array Int} {len : Nat} {x : Int32} {tgt : Nat} (hdg : decode cc pc = .ok (.tableswitch dflt lo hi offs, len)) (hh : x.toInt < lo ∨ hi < x.toInt) (ht : (pc : Int) + dflt = (tgt : Int)) (k : am_Z X tgt L st h cs sl) : am_Z X pc L (.int x :: st) h cs sl := by
  obtain ⟨p, l, e, R, s, m, args, below, meth, c, Q, G, ad0, nL⟩ := X
  obtain ⟨hx, hb, -⟩ := hB
  intro H locs ad ls st' a1 a2 a3 a4 a5
  obtain ⟨_, _, rfl, rfl, a5⟩ := a5
  exact lv_tableOut hx hb hdg hh ht (k H locs ad ls _ a1 a2 a3 a4 a5)
theorem am_tableIn (hB : am_B X own cc) {dflt lo hi : Int} {offs : Array Int} {len : Nat} {x : Int32} {off : Int} {tgt : Nat} (hdg : decode cc pc = .ok (.tableswitch dflt lo hi offs, len)) (h1 : ¬ x.toInt < lo) (h2 : ¬ hi < x.toInt) (ho : offs[(x.toInt - lo).toNat]? = some off) (ht : (pc : Int) + off = (tgt : Int)) (k : am_Z X tgt L st h cs sl) : am_Z X pc L (.int x :: st) h cs sl := by
  obtain ⟨p, l, e, R, s, m, args, below, meth, c, Q, G, ad0, nL⟩ := X
  obtain ⟨hx, hb, -⟩ := hB
  intro H locs ad ls st' a1 a2 a3 a4 a5
  obtain ⟨_, _, rfl, rfl, a5⟩ := a5
  exact lv_tableIn hx hb hdg h1 h2 ho ht (k H locs ad ls _ a1 a2 a3 a4 a5)
end AmRows
/-- a field as a method of 'own' names it, of an object of class ci: its place j -/
def am_F (own : String) (index ci j : Nat) : Prop := ∃ (C : String) (T : u_T) (N : Nat) (ref : String), vwCl[ci]? = some (C, T, N) ∧ j < N ∧ Cond.fieldLink own index ref (T j).2.1 (T j).2.2.1 ∈ am_tbl ∧ (∀ w ∈ u_ws C T N, w ∈ am_tbl) ∧ (ref = (T j).1 ∨ Cond.sameField ref (T j).1 (T j).2.1 (T j).2.2.1 ∈ am_tbl)
/-- .. to be written: its type, and whether it is final -/
def am_P (own : String) (index ci j : Nat) (ty : FieldType) (fin : Bool) : Prop := ∃ (C : String) (T : u_T) (N : Nat) (ref : String) (ty0 : Nat → FieldType), vwCl[ci]? = some (C, T, N) ∧ j < N ∧ Cond.fieldLink own index ref (T j).2.1 (T j).2.2.1 ∈ am_tbl ∧ (∀ w ∈ u_ws C T N, w ∈ am_tbl) ∧ (ref = (T j).1 ∨ Cond.sameField ref (T j).1 (T j).2.1 (T j).2.2.1 ∈ am_tbl) ∧ (∀ k, k < N → parseFieldDescriptor (T k).2.2.1 = some (ty0 k)) ∧ (∀ a, a < N → ∀ b, b < N → a ≠ b → (T a).2.1 ≠ (T b).2.1) ∧ (T j).2.2.2 = fin ∧ parseFieldDescriptor (T j).2.2.1 = some ty ∧ (fin = true → (T j).1 = own)
theorem am_same {s : State} {args : Array Value} (hts : ∀ w ∈ am_tbl, w.before args s = true) {ref o n d : String} (h : ref = o ∨ Cond.sameField ref o n d ∈ am_tbl) : ∀ x, s.fieldFound? o n d = some x → s.fieldFound? ref n d = some x := by
  rcases h with rfl | h
  · exact fun _ q => q
  · exact u_same (hts _ h)
section AmRows2
variable {X : am_C} {own : String} {cc : ByteArray} {pc : Nat} {L st : List Value} {h : am_H} {cs sl : Nat}
theorem am_getf (hB : am_B X own cc) {k ci j index : Nat} {fs : List Value} {v : Value} (hdg : decode cc pc = .ok (.getfield index, 3)) (hF : am_F own index ci j) (hr : h[k]? = some (.inr (ci, fs))) (hv : fs[j]? = some v) (kk : am_Z X (pc + 3) L (v :: st) h cs sl) : am_Z X pc L (.ref k :: st) h cs sl := by
  obtain ⟨p, l, e, R, s, m, args, below, meth, c, Q, G, ad0, nL⟩ := X
  obtain ⟨hx, hb, hml, ho, hts, hK, hfl, hG⟩ := hB
  obtain ⟨C, T, N, ref, hc, hj, hlk, hus, hsm⟩ := hF
  intro H locs ad ls st' a1 a2 a3 a4 a5
  obtain ⟨_, _, rfl, ⟨a, ha, rfl⟩, a5⟩ := a5
  have a2' := a2
  obtain ⟨ws, w1, w2, w3, hP, hD⟩ := a2'
  obtain ⟨a', e', g1, g2, fs', rfl, g3⟩ := w3 k _ hr
  have haa : a' = a := Option.some.inj (g1.symm.trans ha)
  subst haa
  obtain ⟨v', v1, v2⟩ := g3.get hv
  exact va_get hx hb hts hus ho hK hP k g2 hc j hj (hts _ hlk) (am_same hts hsm) v1 hdg (kk H locs ad ls _ a1 a2 a3 a4 ⟨_, _, rfl, v2, a5⟩)
/-- what may be stored -/
def am_fit (ty : FieldType) (v : Value) : Prop := ∀ (G : am_G) (ad : List Nat) (w : Value), am_V G ad v w → narrow ty w = w ∧ fits ty w = true
theorem am_fit.i {x : Int32} : am_fit .int (.int x) := fun _ _ w hw => by rw [show w = _ from hw]; exact ⟨rfl, rfl⟩
theorem am_fit.j {x : Int64} : am_fit .long (.long x) := fun _ _ w hw => by rw [show w = _ from hw]; exact ⟨rfl, rfl⟩
theorem am_fit.z {x : Int32} (hx : x = 0 ∨ x = 1) : am_fit .boolean (.int x) := fun _ _ w hw => by
  rw [show w = _ from hw]
  rcases hx with rfl | rfl
  · exact ⟨by decide +kernel, by decide +kernel⟩
  · exact ⟨by decide +kernel, by decide +kernel⟩
theorem am_fit.r {v : Value} (hr : am_ref v = true) {ty : FieldType} (ht : (∃ n, ty = .object n) ∨ ∃ t, ty = .array t) : am_fit ty v := fun _ _ w hw => by
  rcases ht with ⟨n, rfl⟩ | ⟨t, rfl⟩ <;> rcases hw.isr hr with rfl | ⟨a, rfl⟩ <;> exact ⟨rfl, rfl⟩
theorem am_putf (hB : am_B X own cc) {k ci j index : Nat} {fs : List Value} {v : Value} {ty : FieldType} {h' : am_H} (hdg : decode cc pc = .ok (.putfield index, 3)) (hF : am_P own index ci j ty false) (hr : h[k]? = some (.inr (ci, fs))) (hl : j < fs.length) (hv : am_fit ty v) (hh : h.set k (.inr (ci, fs.set j v)) = h') (kk : am_Z X (pc + 3) L st h' cs sl) : am_Z X pc L (v :: .ref k :: st) h cs sl := by
  subst hh
  obtain ⟨p, l, e, R, s, m, args, below, meth, c, Q, G, ad0, nL⟩ := X
  obtain ⟨hx, hb, hml, ho, hts, hK, hfl, hG⟩ := hB
  obtain ⟨C, T, N, ref, ty0, hc, hj, hlk, hus, hsm, hty, hnm, hfin, hd, -⟩ := hF
  intro H locs ad ls st' a1 a2 a3 a4 a5
  obtain ⟨_, _, rfl, hw, _, _, rfl, ⟨a, ha, rfl⟩, a5⟩ := a5
  obtain ⟨ws, w1, w2, w3, hP, hD⟩ := a2
  obtain ⟨a', e', g1, g2, fs', rfl, g3⟩ := w3 k _ hr
  have haa : a' = a := Option.some.inj (g1.symm.trans ha)
  subst haa
  obtain ⟨n1, n2⟩ := hv G ad _ hw
  exact va_put hx hb hts hus ty0 hty hnm ho hK hP hD a3 k g2 hc j hj (hts _ hlk) (am_same hts hsm) hfin hd n1 n2 (by rw [g3.len]; exact hl) hdg (fun H1 locs1 hP1 hD1 hS1 => kk H1 locs1 ad ls _ a1 (am_W.set w1 w2 w3 ha ⟨_, rfl, g3.set hw⟩ hP1 hD1) hS1 a4 a5)
theorem am_putF (hB : am_B X own cc) {k ci j index : Nat} {fs : List Value} {v : Value} {ty : FieldType} {h' : am_H} (hdg : decode cc pc = .ok (.putfield index, 3)) (hF : am_P own index ci j ty true) (hi : X.2.2.2.2.2.2.2.2.1.name = "<init>") (hr : h[k]? = some (.inr (ci, fs))) (hl : j < fs.length) (hv : am_fit ty v) (hh : h.set k (.inr (ci, fs.set j v)) = h') (kk : am_Z X (pc + 3) L st h' cs sl) : am_Z X pc L (v :: .ref k :: st) h cs sl := by
  subst hh
  obtain ⟨p, l, e, R, s, m, args, below, meth, c, Q, G, ad0, nL⟩ := X
  obtain ⟨hx, hb, hml, ho, hts, hK, hfl, hG⟩ := hB
  obtain ⟨C, T, N, ref, ty0, hc, hj, hlk, hus, hsm, hty, hnm, hfin, hd, hdc⟩ := hF
  intro H locs ad ls st' a1 a2 a3 a4 a5
  obtain ⟨_, _, rfl, hw, _, _, rfl, ⟨a, ha, rfl⟩, a5⟩ := a5
  obtain ⟨ws, w1, w2, w3, hP, hD⟩ := a2
  obtain ⟨a', e', g1, g2, fs', rfl, g3⟩ := w3 k _ hr
  have haa : a' = a := Option.some.inj (g1.symm.trans ha)
  subst haa
  obtain ⟨n1, n2⟩ := hv G ad _ hw
  exact va_putF hx hb hts hus ty0 hty hnm ho hK hP hD a3 k g2 hc j hj (hts _ hlk) (am_same hts hsm) hfin hi (hdc rfl) hd n1 n2 (by rw [g3.len]; exact hl) hdg (fun H1 locs1 hP1 hD1 hS1 => kk H1 locs1 ad ls _ a1 (am_W.set w1 w2 w3 ha ⟨_, rfl, g3.set hw⟩ hP1 hD1) hS1 a4 a5)
theorem am_iald (hB : am_B X own cc) {k t n : Nat} {f : Nat → Int32} {i : Int32} (hdg : decode cc pc = .ok (.iaload, 1)) (ht : ∀ G : am_G, (am_tys G)[t]? = some (G.2.1 t, .int)) (hr : h[k]? = some (.inl (t, n, .inl f))) (hin : vp_in i n) (kk : am_Z X (pc + 1) L (.int (f i.toNatClampNeg) :: st) h cs sl) : am_Z X pc L (.int i :: .ref k :: st) h cs sl := by
  obtain ⟨p, l, e, R, s, m, args, below, meth, c, Q, G, ad0, nL⟩ := X
  obtain ⟨hx, hb, hml, ho, hts, hK, hfl, hG⟩ := hB
  intro H locs ad ls st' a1 a2 a3 a4 a5
  obtain ⟨_, _, rfl, rfl, _, _, rfl, ⟨a, ha, rfl⟩, a5⟩ := a5
  have a2' := a2
  obtain ⟨ws, w1, w2, w3, hP, hD⟩ := a2'
  obtain ⟨a', e', g1, g2, g3⟩ := w3 k _ hr
  have haa : a' = a := Option.some.inj (g1.symm.trans ha)
  subst haa
  rw [show e' = _ from g3] at g2
  exact va_iald hx hb hK hP k t g2 (ht G) hin hdg (kk H locs ad ls _ a1 a2 a3 a4 ⟨_, _, rfl, rfl, a5⟩)
theorem am_cald (hB : am_B X own cc) {k t n : Nat} {f : Nat → Int32} {i : Int32} (hdg : decode cc pc = .ok (.caload, 1)) (ht : ∀ G : am_G, (am_tys G)[t]? = some (G.2.1 t, .char)) (hr : h[k]? = some (.inl (t, n, .inl f))) (hin : vp_in i n) (kk : am_Z X (pc + 1) L (.int (f i.toNatClampNeg) :: st) h cs sl) : am_Z X pc L (.int i :: .ref k :: st) h cs sl := by
  obtain ⟨p, l, e, R, s, m, args, below, meth, c, Q, G, ad0, nL⟩ := X
  obtain ⟨hx, hb, hml, ho, hts, hK, hfl, hG⟩ := hB
  intro H locs ad ls st' a1 a2 a3 a4 a5
  obtain ⟨_, _, rfl, rfl, _, _, rfl, ⟨a, ha, rfl⟩, a5⟩ := a5
  have a2' := a2
  obtain ⟨ws, w1, w2, w3, hP, hD⟩ := a2'
  obtain ⟨a', e', g1, g2, g3⟩ := w3 k _ hr
  have haa : a' = a := Option.some.inj (g1.symm.trans ha)
  subst haa
  rw [show e' = _ from g3] at g2
  exact va_cald hx hb hK hP k t g2 (ht G) hin hdg (kk H locs ad ls _ a1 a2 a3 a4 ⟨_, _, rfl, rfl, a5⟩)
theorem am_lald (hB : am_B X own cc) {k t n : Nat} {f : Nat → Int64} {i : Int32} (hdg : decode cc pc = .ok (.laload, 1)) (ht : ∀ G : am_G, (am_tys G)[t]? = some (G.2.1 t, .long)) (hr : h[k]? = some (.inl (t, n, .inr (.inl f)))) (hin : vp_in i n) (kk : am_Z X (pc + 1) L (.long (f i.toNatClampNeg) :: st) h cs sl) : am_Z X pc L (.int i :: .ref k :: st) h cs sl := by
  obtain ⟨p, l, e, R, s, m, args, below, meth, c, Q, G, ad0, nL⟩ := X
  obtain ⟨hx, hb, hml, ho, hts, hK, hfl, hG⟩ := hB
  intro H locs ad ls st' a1 a2 a3 a4 a5
  obtain ⟨_, _, rfl, rfl, _, _, rfl, ⟨a, ha, rfl⟩, a5⟩ := a5
  have a2' := a2
  obtain ⟨ws, w1, w2, w3, hP, hD⟩ := a2'
  obtain ⟨a', e', g1, g2, g3⟩ := w3 k _ hr
  have haa : a' = a := Option.some.inj (g1.symm.trans ha)
  subst haa
  rw [show e' = _ from g3] at g2
  exact va_lald hx hb hK hP k t g2 (ht G) hin hdg (kk H locs ad ls _ a1 a2 a3 a4 ⟨_, _, rfl, rfl, a5⟩)
theorem am_iast (hB : am_B X own cc) {k t n : Nat} {f : Nat → Int32} {i : Int32} {x : Int32} {h' : am_H} (hdg : decode cc pc = .ok (.iastore, 1)) (ht : ∀ G : am_G, (am_tys G)[t]? = some (G.2.1 t, .int)) (hr : h[k]? = some (.inl (t, n, .inl f))) (hin : vp_in i n) (hh : h.set k (.inl (t, n, .inl (upd f i.toNatClampNeg x))) = h') (kk : am_Z X (pc + 1) L st h' cs sl) : am_Z X pc L (.int x :: .int i :: .ref k :: st) h cs sl := by
  subst hh
  obtain ⟨p, l, e, R, s, m, args, below, meth, c, Q, G, ad0, nL⟩ := X
  obtain ⟨hx, hb, hml, ho, hts, hK, hfl, hG⟩ := hB
  intro H locs ad ls st' a1 a2 a3 a4 a5
  obtain ⟨_, _, rfl, rfl, _, _, rfl, rfl, _, _, rfl, ⟨a, ha, rfl⟩, a5⟩ := a5
  have a2' := a2
  obtain ⟨ws, w1, w2, w3, hP, hD⟩ := a2'
  obtain ⟨a', e', g1, g2, g3⟩ := w3 k _ hr
  have haa : a' = a := Option.some.inj (g1.symm.trans ha)
  subst haa
  rw [show e' = _ from g3] at g2
  exact va_iast hx hb hK hP hD a3 k t g2 (ht G) hin hdg (fun H1 locs1 hP1 hD1 hS1 => kk H1 locs1 ad ls _ a1 (am_W.set w1 w2 w3 ha rfl hP1 hD1) hS1 a4 a5)
theorem am_cast (hB : am_B X own cc) {k t n : Nat} {f : Nat → Int32} {i : Int32} {x : Int32} {h' : am_H} (hdg : decode cc pc = .ok (.castore, 1)) (ht : ∀ G : am_G, (am_tys G)[t]? = some (G.2.1 t, .char)) (hr : h[k]? = some (.inl (t, n, .inl f))) (hin : vp_in i n) (hh : h.set k (.inl (t, n, .inl (upd f i.toNatClampNeg (vp_nar .char x)))) = h') (kk : am_Z X (pc + 1) L st h' cs sl) : am_Z X pc L (.int x :: .int i :: .ref k :: st) h cs sl := by
  subst hh
  obtain ⟨p, l, e, R, s, m, args, below, meth, c, Q, G, ad0, nL⟩ := X
  obtain ⟨hx, hb, hml, ho, hts, hK, hfl, hG⟩ := hB
  intro H locs ad ls st' a1 a2 a3 a4 a5
  obtain ⟨_, _, rfl, rfl, _, _, rfl, rfl, _, _, rfl, ⟨a, ha, rfl⟩, a5⟩ := a5
  have a2' := a2
  obtain ⟨ws, w1, w2, w3, hP, hD⟩ := a2'
  obtain ⟨a', e', g1, g2, g3⟩ := w3 k _ hr
  have haa : a' = a := Option.some.inj (g1.symm.trans ha)
  subst haa
  rw [show e' = _ from g3] at g2
  exact va_cast hx hb hK hP hD a3 k t g2 (ht G) hin hdg (fun H1 locs1 hP1 hD1 hS1 => kk H1 locs1 ad ls _ a1 (am_W.set w1 w2 w3 ha rfl hP1 hD1) hS1 a4 a5)
theorem am_last (hB : am_B X own cc) {k t n : Nat} {f : Nat → Int64} {i : Int32} {x : Int64} {h' : am_H} (hdg : decode cc pc = .ok (.lastore, 1)) (ht : ∀ G : am_G, (am_tys G)[t]? = some (G.2.1 t, .long)) (hr : h[k]? = some (.inl (t, n, .inr (.inl f)))) (hin : vp_in i n) (hh : h.set k (.inl (t, n, .inr (.inl (vp_updL f i.toNatClampNeg x)))) = h') (kk : am_Z X (pc + 1) L st h' cs sl) : am_Z X pc L (.long x :: .int i :: .ref k :: st) h cs sl := by
  subst hh
  obtain ⟨p, l, e, R, s, m, args, below, meth, c, Q, G, ad0, nL⟩ := X
  obtain ⟨hx, hb, hml, ho, hts, hK, hfl, hG⟩ := hB
  intro H locs ad ls st' a1 a2 a3 a4 a5
  obtain ⟨_, _, rfl, rfl, _, _, rfl, rfl, _, _, rfl, ⟨a, ha, rfl⟩, a5⟩ := a5
  have a2' := a2
  obtain ⟨ws, w1, w2, w3, hP, hD⟩ := a2'
  obtain ⟨a', e', g1, g2, g3⟩ := w3 k _ hr
  have haa : a' = a := Option.some.inj (g1.symm.trans ha)
  subst haa
  rw [show e' = _ from g3] at g2
  exact va_last hx hb hK hP hD a3 k t g2 (ht G) hin hdg (fun H1 locs1 hP1 hD1 hS1 => kk H1 locs1 ad ls _ a1 (am_W.set w1 w2 w3 ha rfl hP1 hD1) hS1 a4 a5)
theorem am_aald (hB : am_B X own cc) {k t n q : Nat} {f : Nat → Option Nat} {i : Int32} {C : String} (hdg : decode cc pc = .ok (.aaload, 1)) (ht : ∀ G : am_G, (am_tys G)[t]? = some (G.2.1 t, .object C)) (hr : h[k]? = some (.inl (t, n, .inr (.inr (.inr (.inr f)))))) (hin : vp_in i n) (hf : f i.toNatClampNeg = some q) (kk : am_Z X (pc + 1) L (.ref q :: st) h cs sl) : am_Z X pc L (.int i :: .ref k :: st) h cs sl := by
  obtain ⟨p, l, e, R, s, m, args, below, meth, c, Q, G, ad0, nL⟩ := X
  obtain ⟨hx, hb, hml, ho, hts, hK, hfl, hG⟩ := hB
  intro H locs ad ls st' a1 a2 a3 a4 a5
  obtain ⟨_, _, rfl, rfl, _, _, rfl, ⟨a, ha, rfl⟩, a5⟩ := a5
  have a2' := a2
  obtain ⟨ws, w1, w2, w3, hP, hD⟩ := a2'
  obtain ⟨a', e', g1, g2, g3⟩ := w3 k _ hr
  have haa : a' = a := Option.some.inj (g1.symm.trans ha)
  subst haa
  obtain ⟨f', rfl, hff⟩ := g3
  have hq := hff i.toNatClampNeg
  rw [hf] at hq
  obtain ⟨b, hb1, hb2⟩ := hq
  refine va_aldq hx hb hK hP k t g2 (ht G) hin hdg ?_
  rw [hb2]
  exact kk H locs ad ls _ a1 a2 a3 a4 ⟨_, _, rfl, ⟨b, hb1, rfl⟩, a5⟩
theorem am_aast (hB : am_B X own cc) {k t n q ci : Nat} {fs : List Value} {f : Nat → Option Nat} {i : Int32} {C : String} {T : u_T} {N : Nat} {h' : am_H} (hdg : decode cc pc = .ok (.aastore, 1)) (ht : ∀ G : am_G, (am_tys G)[t]? = some (G.2.1 t, .object C)) (hr : h[k]? = some (.inl (t, n, .inr (.inr (.inr (.inr f)))))) (hq : h[q]? = some (.inr (ci, fs))) (hc : vwCl[ci]? = some (C, T, N)) (hin : vp_in i n) (hh : h.set k (.inl (t, n, .inr (.inr (.inr (.inr (va_up f i.toNatClampNeg (some q))))))) = h') (kk : am_Z X (pc + 1) L st h' cs sl) : am_Z X pc L (.ref q :: .int i :: .ref k :: st) h cs sl := by
  subst hh
  obtain ⟨p, l, e, R, s, m, args, below, meth, c, Q, G, ad0, nL⟩ := X
  obtain ⟨hx, hb, hml, ho, hts, hK, hfl, hG⟩ := hB
  intro H locs ad ls st' a1 a2 a3 a4 a5
  obtain ⟨_, _, rfl, ⟨b, hb1, rfl⟩, _, _, rfl, rfl, _, _, rfl, ⟨a, ha, rfl⟩, a5⟩ := a5
  have a2' := a2
  obtain ⟨ws, w1, w2, w3, hP, hD⟩ := a2'
  obtain ⟨a', e', g1, g2, g3⟩ := w3 k _ hr
  have haa : a' = a := Option.some.inj (g1.symm.trans ha)
  subst haa
  obtain ⟨f', rfl, hff⟩ := g3
  obtain ⟨b', e2, r1, r2, fs', rfl, r3⟩ := w3 q _ hq
  have hbb : b' = b := Option.some.inj (r1.symm.trans hb1)
  subst hbb
  refine va_astq hx hb hK hP hD a3 k t q ci (r := (C, T, N)) g2 (ht G) r2 hc hin hdg (fun H1 locs1 hP1 hD1 hS1 => kk H1 locs1 ad ls _ a1 (am_W.set w1 w2 w3 ha ⟨_, rfl, fun j => ?_⟩ hP1 hD1) hS1 a4 a5)
  by_cases hj : j = i.toNatClampNeg
  · subst hj
    rw [va_up_self, va_up_self]
    exact ⟨b', hb1, rfl⟩
  · rw [va_up_ne _ _ hj, va_up_ne _ _ hj]
    exact hff j
theorem am_alen (hB : am_B X own cc) {k t : Nat} {x : vp_A} {ty : FieldType} {v : Int32} (hdg : decode cc pc = .ok (.arraylength, 1)) (ht : ∀ G : am_G, (am_tys G)[t]? = some (G.2.1 t, ty)) (hr : h[k]? = some (.inl (t, x))) (hv : Int32.ofNat x.1 = v) (kk : am_Z X (pc + 1) L (.int v :: st) h cs sl) : am_Z X pc L (.ref k :: st) h cs sl := by
  obtain ⟨p, l, e, R, s, m, args, below, meth, c, Q, G, ad0, nL⟩ := X
  obtain ⟨hx, hb, hml, ho, hts, hK, hfl, hG⟩ := hB
  intro H locs ad ls st' a1 a2 a3 a4 a5
  obtain ⟨_, _, rfl, ⟨a, ha, rfl⟩, a5⟩ := a5
  have a2' := a2
  obtain ⟨ws, w1, w2, w3, hP, hD⟩ := a2'
  obtain ⟨a', e', g1, g2, g3⟩ := w3 k _ hr
  have haa : a' = a := Option.some.inj (g1.symm.trans ha)
  subst haa
  obtain ⟨n, f | f | f | f | f⟩ := x
  · rw [show e' = _ from g3] at g2
    exact va_alen hx hb hK hP k t g2 (ht G) hv hdg (kk H locs ad ls _ a1 a2 a3 a4 ⟨_, _, rfl, rfl, a5⟩)
  · rw [show e' = _ from g3] at g2
    exact va_alen hx hb hK hP k t g2 (ht G) hv hdg (kk H locs ad ls _ a1 a2 a3 a4 ⟨_, _, rfl, rfl, a5⟩)
  · exact g3.elim
  · exact g3.elim
  · obtain ⟨f', rfl, hff⟩ := g3
    exact va_alen hx hb hK hP k t g2 (ht G) hv hdg (kk H locs ad ls _ a1 a2 a3 a4 ⟨_, _, rfl, rfl, a5⟩)
def am_plain (v : Value) : Bool := match v with
  | .int _ => true
  | .long _ => true
  | .null => true
  | _ => false
theorem am_S.self {G : am_G} {ad : List Nat} : ∀ {fs : List Value}, fs.all am_plain = true → am_S G ad fs fs
  | [], _ => rfl
  | v :: vs, h => by
    rw [List.all_cons, Bool.and_eq_true] at h
    refine ⟨v, vs, rfl, ?_, am_S.self h.2⟩
    cases v <;> first | rfl | cases h.1
theorem am_top {G : am_G} {ad : List Nat} {h : am_H} {q : Nat} (h2 : ad.length = h.length) : am_V G (ad ++ [q]) (.ref h.length) (.ref q) := ⟨q, by rw [← h2, List.getElem?_append_right (Nat.le_refl _), Nat.sub_self]; rfl, rfl⟩
/-- a class that is made: its link, its fields' defaults -/
def am_N (own : String) (index ci N : Nat) (fs : List Value) : Prop := ∃ (C : String) (T : u_T) (ty0 : Nat → FieldType), vwCl[ci]? = some (C, T, N) ∧ Cond.classLink own index C ∈ am_tbl ∧ Cond.instantiable C N ∈ am_tbl ∧ Cond.initialized C ∈ am_tbl ∧ (∀ w ∈ u_ws C T N, w ∈ am_tbl) ∧ (∀ k, k < N → parseFieldDescriptor (T k).2.2.1 = some (ty0 k)) ∧ (∀ j, j < N → defaultValue (ty0 j) = vp_V fs j) ∧ fs.all am_plain = true
theorem am_new (hB : am_B X own cc) {index ci N : Nat} {fs : List Value} {h' : am_H} {q cs' sl' : Nat} (hdg : decode cc pc = .ok (.new index, 3)) (hN : am_N own index ci N fs) (h1 : cs + 1 ≤ X.2.2.2.1.cells) (h2 : sl + N ≤ X.2.2.2.1.slots) (hq : h.length = q) (hh : h ++ [.inr (ci, fs)] = h') (hcs : cs + 1 = cs') (hsl : sl + N = sl') (kk : am_Z X (pc + 3) L (.ref q :: st) h' cs' sl') : am_Z X pc L st h cs sl := by
  subst hh
  subst hq
  subst hcs
  subst hsl
  obtain ⟨p, l, e, R, s, m, args, below, meth, c, Q, G, ad0, nL⟩ := X
  obtain ⟨hx, hb, hml, ho, hts, hK, hfl, hG⟩ := hB
  obtain ⟨C, T, ty0, hc, q1, q2, q3, hus, hty, hdf, hpl⟩ := hN
  intro H locs ad ls st' a1 a2 a3 a4 a5
  obtain ⟨ws, w1, w2, w3, hP, hD⟩ := a2
  exact va_new hx hb hts hus ty0 hty ho (hts _ q1) (hts _ q2) (hts _ q3) hK hP hD a3 (fun q hq => Nat.le_trans hfl hq) hc hdf h1 h2 hdg (fun q H1 hP1 hD1 hS1 => kk H1 locs (ad ++ [q]) ls _ (a1.tr ⟨[q], rfl⟩) (am_W.push w1 w2 w3 ⟨_, rfl, am_S.self hpl⟩ hP1 hD1) hS1 (a4.mono ⟨[q], rfl⟩) ⟨_, _, rfl, am_top w2, a5.mono ⟨[q], rfl⟩⟩)
theorem am_newI (hB : am_B X own cc) {n : Int32} {N t : Nat} {h' : am_H} {q cs' sl' : Nat} (hdg : decode cc pc = .ok (.newarray .int, 2)) (ht : ∀ G : am_G, (am_tys G)[t]? = some (G.2.1 t, .int)) (hw : Cond.arrayClass .int ∈ am_tbl) (hn : ¬ n < 0) (hN : n.toNatClampNeg = N) (hby : N * 8 ≤ 536870912) (h1 : cs + 1 ≤ X.2.2.2.1.cells) (h2 : sl + N ≤ X.2.2.2.1.slots) (hq : h.length = q) (hh : h ++ [.inl (t, N, .inl (fun _ => 0))] = h') (hcs : cs + 1 = cs') (hsl : sl + N = sl') (kk : am_Z X (pc + 2) L (.ref q :: st) h' cs' sl') : am_Z X pc L (.int n :: st) h cs sl := by
  subst hh
  subst hq
  subst hcs
  subst hsl
  obtain ⟨p, l, e, R, s, m, args, below, meth, c, Q, G, ad0, nL⟩ := X
  obtain ⟨hx, hb, hml, ho, hts, hK, hfl, hG⟩ := hB
  intro H locs ad ls st' a1 a2 a3 a4 a5
  obtain ⟨_, _, rfl, rfl, a5⟩ := a5
  obtain ⟨ws, w1, w2, w3, hP, hD⟩ := a2
  refine va_newa hx hb (atype := .int) (hts _ hw) (ty := .int) rfl hK hP hD a3 (fun q hq => Nat.le_trans hfl hq) (a0 := (N, .inl (fun _ => 0))) (fun _ => rfl) hn hN (by simp only [componentBytes]; omega) h1 h2 hdg (fun q cA H1 hK1 hP1 hD1 hS1 => ?_)
  have e1 : cA = G.2.1 t := by
    have g1 := (hK1.2 (am_tys G).length (cA, .int) (by rw [List.getElem?_append_right (Nat.le_refl _), Nat.sub_self]; rfl)).2
    have g2 := (hK.2 t _ (ht G)).2
    exact Option.some.inj ((show s.vm.findClass _ = some cA from g1).symm.trans (show s.vm.findClass _ = some (G.2.1 t) from g2))
  subst e1
  exact kk H1 locs (ad ++ [q]) ls _ (a1.tr ⟨[q], rfl⟩) (am_W.push w1 w2 w3 rfl hP1 hD1) hS1 (a4.mono ⟨[q], rfl⟩) ⟨_, _, rfl, am_top w2, a5.mono ⟨[q], rfl⟩⟩
theorem am_newC (hB : am_B X own cc) {n : Int32} {N t : Nat} {h' : am_H} {q cs' sl' : Nat} (hdg : decode cc pc = .ok (.newarray .char, 2)) (ht : ∀ G : am_G, (am_tys G)[t]? = some (G.2.1 t, .char)) (hw : Cond.arrayClass .char ∈ am_tbl) (hn : ¬ n < 0) (hN : n.toNatClampNeg = N) (hby : N * 8 ≤ 536870912) (h1 : cs + 1 ≤ X.2.2.2.1.cells) (h2 : sl + N ≤ X.2.2.2.1.slots) (hq : h.length = q) (hh : h ++ [.inl (t, N, .inl (fun _ => 0))] = h') (hcs : cs + 1 = cs') (hsl : sl + N = sl') (kk : am_Z X (pc + 2) L (.ref q :: st) h' cs' sl') : am_Z X pc L (.int n :: st) h cs sl := by
  subst hh
  subst hq
  subst hcs
  subst hsl
  obtain ⟨p, l, e, R, s, m, args, below, meth, c, Q, G, ad0, nL⟩ := X
  obtain ⟨hx, hb, hml, ho, hts, hK, hfl, hG⟩ := hB
  intro H locs ad ls st' a1 a2 a3 a4 a5
  obtain ⟨_, _, rfl, rfl, a5⟩ := a5
  obtain ⟨ws, w1, w2, w3, hP, hD⟩ := a2
  refine va_newa hx hb (atype := .char) (hts _ hw) (ty := .char) rfl hK hP hD a3 (fun q hq => Nat.le_trans hfl hq) (a0 := (N, .inl (fun _ => 0))) (fun _ => rfl) hn hN (by simp only [componentBytes]; omega) h1 h2 hdg (fun q cA H1 hK1 hP1 hD1 hS1 => ?_)
  have e1 : cA = G.2.1 t := by
    have g1 := (hK1.2 (am_tys G).length (cA, .char) (by rw [List.getElem?_append_right (Nat.le_refl _), Nat.sub_self]; rfl)).2
    have g2 := (hK.2 t _ (ht G)).2
    exact Option.some.inj ((show s.vm.findClass _ = some cA from g1).symm.trans (show s.vm.findClass _ = some (G.2.1 t) from g2))
  subst e1
  exact kk H1 locs (ad ++ [q]) ls _ (a1.tr ⟨[q], rfl⟩) (am_W.push w1 w2 w3 rfl hP1 hD1) hS1 (a4.mono ⟨[q], rfl⟩) ⟨_, _, rfl, am_top w2, a5.mono ⟨[q], rfl⟩⟩
theorem am_newJ (hB : am_B X own cc) {n : Int32} {N t : Nat} {h' : am_H} {q cs' sl' : Nat} (hdg : decode cc pc = .ok (.newarray .long, 2)) (ht : ∀ G : am_G, (am_tys G)[t]? = some (G.2.1 t, .long)) (hw : Cond.arrayClass .long ∈ am_tbl) (hn : ¬ n < 0) (hN : n.toNatClampNeg = N) (hby : N * 8 ≤ 536870912) (h1 : cs + 1 ≤ X.2.2.2.1.cells) (h2 : sl + N ≤ X.2.2.2.1.slots) (hq : h.length = q) (hh : h ++ [.inl (t, N, .inr (.inl (fun _ => 0)))] = h') (hcs : cs + 1 = cs') (hsl : sl + N = sl') (kk : am_Z X (pc + 2) L (.ref q :: st) h' cs' sl') : am_Z X pc L (.int n :: st) h cs sl := by
  subst hh
  subst hq
  subst hcs
  subst hsl
  obtain ⟨p, l, e, R, s, m, args, below, meth, c, Q, G, ad0, nL⟩ := X
  obtain ⟨hx, hb, hml, ho, hts, hK, hfl, hG⟩ := hB
  intro H locs ad ls st' a1 a2 a3 a4 a5
  obtain ⟨_, _, rfl, rfl, a5⟩ := a5
  obtain ⟨ws, w1, w2, w3, hP, hD⟩ := a2
  refine va_newa hx hb (atype := .long) (hts _ hw) (ty := .long) rfl hK hP hD a3 (fun q hq => Nat.le_trans hfl hq) (a0 := (N, .inr (.inl (fun _ => 0)))) (fun _ => rfl) hn hN (by simp only [componentBytes]; omega) h1 h2 hdg (fun q cA H1 hK1 hP1 hD1 hS1 => ?_)
  have e1 : cA = G.2.1 t := by
    have g1 := (hK1.2 (am_tys G).length (cA, .long) (by rw [List.getElem?_append_right (Nat.le_refl _), Nat.sub_self]; rfl)).2
    have g2 := (hK.2 t _ (ht G)).2
    exact Option.some.inj ((show s.vm.findClass _ = some cA from g1).symm.trans (show s.vm.findClass _ = some (G.2.1 t) from g2))
  subst e1
  exact kk H1 locs (ad ++ [q]) ls _ (a1.tr ⟨[q], rfl⟩) (am_W.push w1 w2 w3 rfl hP1 hD1) hS1 (a4.mono ⟨[q], rfl⟩) ⟨_, _, rfl, am_top w2, a5.mono ⟨[q], rfl⟩⟩
theorem am_newA (hB : am_B X own cc) {n : Int32} {N t index : Nat} {C : String} {h' : am_H} {q cs' sl' : Nat} (hdg : decode cc pc = .ok (.anewarray index, 3)) (ht : ∀ G : am_G, (am_tys G)[t]? = some (G.2.1 t, .object C)) (hk : Cond.classLink own index C ∈ am_tbl) (hw : ∀ (G : am_G) (U : State), am_K G U → va_AO C U) (hn : ¬ n < 0) (hN : n.toNatClampNeg = N) (hby : N * 4 ≤ 536870912) (h1 : cs + 1 ≤ X.2.2.2.1.cells) (h2 : sl + N ≤ X.2.2.2.1.slots) (hq : h.length = q) (hh : h ++ [.inl (t, N, .inr (.inr (.inr (.inr (fun _ => none)))))] = h') (hcs : cs + 1 = cs') (hsl : sl + N = sl') (kk : am_Z X (pc + 3) L (.ref q :: st) h' cs' sl') : am_Z X pc L (.int n :: st) h cs sl := by
  subst hh
  subst hq
  subst hcs
  subst hsl
  obtain ⟨p, l, e, R, s, m, args, below, meth, c, Q, G, ad0, nL⟩ := X
  obtain ⟨hx, hb, hml, ho, hts, hK, hfl, hG⟩ := hB
  intro H locs ad ls st' a1 a2 a3 a4 a5
  obtain ⟨_, _, rfl, rfl, a5⟩ := a5
  obtain ⟨ws, w1, w2, w3, hP, hD⟩ := a2
  refine va_newq hx hb ho (hts _ hk) (hw _ _ hG) hK hP hD a3 (fun q hq => Nat.le_trans hfl hq) hn hN hby h1 h2 hdg (fun q cA H1 hK1 hP1 hD1 hS1 => ?_)
  have e1 : cA = G.2.1 t := by
    obtain ⟨_, _, -, -, -, g1⟩ := (hK1.2 (am_tys G).length (cA, .object C) (by rw [List.getElem?_append_right (Nat.le_refl _), Nat.sub_self]; rfl)).2
    obtain ⟨_, _, -, -, -, g2⟩ := (hK.2 t _ (ht G)).2
    exact Option.some.inj (g1.symm.trans g2)
  subst e1
  exact kk H1 locs (ad ++ [q]) ls _ (a1.tr ⟨[q], rfl⟩) (am_W.push w1 w2 w3 ⟨_, rfl, fun _ => rfl⟩ hP1 hD1) hS1 (a4.mono ⟨[q], rfl⟩) ⟨_, _, rfl, am_top w2, a5.mono ⟨[q], rfl⟩⟩
end AmRows2
end
section
def am_Vo (G : am_G) (ad : List Nat) (r w : Option Value) : Prop := match r with
  | none => w = none
  | some v => ∃ x, w = some x ∧ am_V G ad v x
/-- a method: its name, code, locals, answer, room -/
abbrev am_D : Type := MethodName × ByteArray × Nat × Option FieldType × Room
abbrev am_ws (M : am_D) : List Cond := Cond.code M.1 M.2.1 M.2.2.1 M.2.2.2.1 :: am_tbl
def am_Pc (G : am_G) (ad : List Nat) (h : am_H) (av : List Value) : Array Value → State → Prop := va_Pc av (fun U => am_W G ad h U.heap ∧ va_K G.1 vwCl (am_tys G) U ∧ G.2.2.2.2 ≤ U.heap.size ∧ am_K G U)
def am_Qc (G : am_G) (ad0 : List Nat) (r : Option Value) (h' : am_H) : Array Value → State → Outcome → State → Prop := fun _ st o t => (∃ ad w, am_X ad0 ad ∧ am_W G ad h' t.heap ∧ o = .returned w ∧ am_Vo G ad r w) ∧ va_F (am_A G) st t
/-- the contract of M at these arguments and this heap: it answers r, and the heap is h' -/
def am_M (l : Launch) (G : am_G) (M : am_D) (as : List Value) (h : am_H) (r : Option Value) (h' : am_H) : Prop := ∀ (ad : List Nat) (av : List Value), am_S G ad as av → Met l M.1 (am_ws M) M.2.2.2.2 (am_Pc G ad h av) (am_Qc G ad r h') M.2.2.2.2.cells M.2.2.2.2.slots (am_A G)
/-- a walk is one of M, to end with r and h' -/
def am_R (X : am_C) (l : Launch) (G : am_G) (M : am_D) (r : Option Value) (h' : am_H) : Prop := match X with
  | (_, l', _, R, s, _, args, below, meth, _, Q, G', ad0, nL) => l' = l ∧ G' = G ∧ R = M.2.2.2.2 ∧ nL = M.2.2.1 ∧ meth.sig.returnType = M.2.2.2.1 ∧ meth.locks = false ∧ meth.name = M.1.name ∧ Q = MQ below (am_Qc G ad0 r h') args s M.2.2.2.2.cells M.2.2.2.2.slots (am_A G)
def am_fl (as : List Value) : List Value := as.flatMap (fun v => if am_long v then [v, am_u] else [v])
def am_ent (as : List Value) (n : Nat) : List Value := am_fl as ++ List.replicate (n - (am_fl as).length) am_u
theorem am_V.cats {G : am_G} {ad : List Nat} {v w : Value} (h : am_V G ad v w) : w.category = 2 ↔ am_long v = true := by
  cases hl : am_long v with
  | true => exact ⟨fun _ => rfl, fun _ => h.cat2 hl⟩
  | false => exact ⟨fun q => by have := h.cat hl; omega, fun q => by cases q⟩
theorem am_fl_cons (v : Value) (as : List Value) : am_fl (v :: as) = (if am_long v then [v, am_u] else [v]) ++ am_fl as := by
  simp [am_fl]
theorem am_fl_len {G : am_G} {ad : List Nat} : ∀ {as av : List Value}, am_S G ad as av → (lg_sl av).length = (am_fl as).length
  | [], _, hs => by rw [show _ = [] from hs]; rfl
  | v :: as, _, ⟨x, xs, e, hv, hs⟩ => by
    have ih := am_fl_len hs
    subst e
    rw [am_fl_cons, List.length_append, ← ih]
    by_cases hl : am_long v = true
    · simp [lg_sl, hv.cats.mpr hl, hl]
      omega
    · have : ¬ x.category = 2 := fun q => hl (hv.cats.mp q)
      simp [lg_sl, this, hl]
      omega
theorem am_fl_get {G : am_G} {ad : List Nat} : ∀ {as av : List Value} (k : Nat) {i : Nat} {v : Value}, am_S G ad as av → (am_fl as)[i]? = some v → v ≠ am_u → ∃ w, (k + i, w) ∈ lv_args k av ∧ am_V G ad v w
  | [], _, _, _, _, _, h, _ => by simp [am_fl] at h
  | u :: as, _, k, i, v, ⟨x, xs, e, hv, hs⟩, h, hu => by
    subst e
    rw [am_fl_cons] at h
    by_cases hl : am_long u = true
    · rw [if_pos hl] at h
      unfold lv_args
      rw [if_pos (hv.cats.mpr hl)]
      match i, h with
      | 0, h => cases h; exact ⟨x, List.mem_cons_self, hv⟩
      | 1, h => cases h; exact absurd rfl hu
      | i + 2, h =>
        obtain ⟨w, h1, h2⟩ := am_fl_get (k + 2) (i := i) hs (by simpa using h) hu
        exact ⟨w, List.mem_cons_of_mem _ (by rw [show k + (i + 2) = k + 2 + i by omega]; exact h1), h2⟩
    · rw [if_neg hl] at h
      unfold lv_args
      rw [if_neg (fun q => hl (hv.cats.mp q))]
      match i, h with
      | 0, h => cases h; exact ⟨x, List.mem_cons_self, hv⟩
      | i + 1, h =>
        obtain ⟨w, h1, h2⟩ := am_fl_get (k + 1) (i := i) hs (by simpa using h) hu
        exact ⟨w, List.mem_cons_of_mem _ (by rw [show k + (i + 1) = k + 1 + i by omega]; exact h1), h2⟩
theorem am_ent_L {G : am_G} {ad : List Nat} {as av : List Value} {n : Nat} (hS : am_S G ad as av) (hn : (am_fl as).length ≤ n) : am_L G ad (am_ent as n) ((lg_sl av ++ List.replicate (n - (lg_sl av).length) Slot.unset).toArray) n := by
  have hlen := am_fl_len hS
  obtain ⟨h1, h2, h3⟩ := lv_entry av (n := n) (by omega)
  refine ⟨h1, h2, fun i v hi hu => ?_⟩
  unfold am_ent at hi
  by_cases hl : i < (am_fl as).length
  · rw [List.getElem?_append_left hl] at hi
    obtain ⟨w, k1, k2⟩ := am_fl_get 0 hS hi hu
    rw [Nat.zero_add] at k1
    exact ⟨w, k2, h3 (i, w) k1⟩
  · rw [List.getElem?_append_right (by omega)] at hi
    have := List.mem_of_getElem? hi
    rw [List.mem_replicate] at this
    exact absurd this.2 hu
theorem am_M.of {l : Launch} {G : am_G} {M : am_D} {as : List Value} {h : am_H} {r : Option Value} {h' : am_H} (hy : plainName M.1.cls = true) (hn : (am_fl as).length ≤ M.2.2.1) (body : ∀ X : am_C, am_B X M.1.cls M.2.1 → am_R X l G M r h' → am_Z X 0 (am_ent as M.2.2.1) [] h 0 0) : am_M l G M as h r h' := by
  intro ad av hS
  refine Met.ofW (cc := M.2.1) (maxL := M.2.2.1) (ret := M.2.2.2.1) (ws' := am_tbl) hy rfl ?_
  intro p e s m args below meth c s₁ B hml hv
  obtain ⟨rfl, hW, hK, hfl, hG⟩ := hv
  have hts := atoms_spec (ws := am_ws M) B.pre
  have hown := findClass_of_methodNamed B.named
  have hnm := (name_of_methodNamed B.named B.method).1
  have Z := body (p, l, e, (headSpec (am_ws M) M.2.2.2.2).room, s, m, av.toArray, below, meth, c, MQ below (am_Qc G ad r h') av.toArray s M.2.2.2.2.cells M.2.2.2.2.slots (am_A G), G, ad, M.2.2.1) ⟨B.exec, B.bytes, hml, hown, fun w hw => hts w (List.mem_cons_of_mem _ hw), hK, hfl, hG⟩ ⟨rfl, rfl, rfl, rfl, B.returns, B.notSynchronized, hnm, rfl⟩
  rw [lg_entry_eq]
  exact Z s.heap [] ad _ [] am_X.rf hW va_S.rf (am_ent_L hS hn) rfl
section AmEnds
variable {X : am_C} {own : String} {cc : ByteArray} {pc : Nat} {L st : List Value} {h : am_H} {cs sl : Nat} {l : Launch} {G : am_G} {M : am_D} {r : Option Value}
theorem am_R.nL {h' : am_H} (hR : am_R X l G M r h') : X.2.2.2.2.2.2.2.2.2.2.2.2.2 = M.2.2.1 := by
  obtain ⟨p, l, e, R, s, m, args, below, meth, c, Q, G, ad0, nL⟩ := X
  exact hR.2.2.2.1
theorem am_R.room {h' : am_H} (hR : am_R X l G M r h') : X.2.2.2.1 = M.2.2.2.2 := by
  obtain ⟨p, l, e, R, s, m, args, below, meth, c, Q, G, ad0, nL⟩ := X
  exact hR.2.2.1
theorem am_R.name {h' : am_H} (hR : am_R X l G M r h') : X.2.2.2.2.2.2.2.2.1.name = M.1.name := by
  obtain ⟨p, l, e, R, s, m, args, below, meth, c, Q, G, ad0, nL⟩ := X
  exact hR.2.2.2.2.2.2.1
theorem am_vret (hB : am_B X own cc) (hR : am_R X l G M r h) (hdg : decode cc pc = .ok (.return_, 1)) (hty : M.2.2.2.1 = none) (hr : r = none) (hc : cs ≤ M.2.2.2.2.cells) (hs : sl ≤ M.2.2.2.2.slots) : am_Z X pc L [] h cs sl := by
  subst hr
  obtain ⟨p, l, e, R, s, m, args, below, meth, c, Q, G, ad0, nL⟩ := X
  obtain ⟨hx, hb, -⟩ := hB
  obtain ⟨rfl, rfl, rfl, rfl, h5, h6, h7, rfl⟩ := hR
  intro H locs ad ls st' a1 a2 a3 a4 a5
  rw [show st' = [] from a5]
  exact W.widen hc hs (W.vret hx hb (h5.trans hty) (fun t ht hW => ⟨⟨ad, _, a1, by rw [ht]; exact a2, rfl, rfl⟩, a3.F ht⟩) a3.2.2 hdg h6)
theorem am_iret (hB : am_B X own cc) {x : Int32} {ty : FieldType} (hR : am_R X l G M r h) (hdg : decode cc pc = .ok (.ireturn, 1)) (hty : M.2.2.2.1 = some ty) (hn : narrow ty (.int x) = .int x) (hr : r = some (.int x)) (hc : cs ≤ M.2.2.2.2.cells) (hs : sl ≤ M.2.2.2.2.slots) : am_Z X pc L [.int x] h cs sl := by
  subst hr
  obtain ⟨p, l, e, R, s, m, args, below, meth, c, Q, G, ad0, nL⟩ := X
  obtain ⟨hx, hb, -⟩ := hB
  obtain ⟨rfl, rfl, rfl, rfl, h5, h6, h7, rfl⟩ := hR
  intro H locs ad ls st' a1 a2 a3 a4 a5
  obtain ⟨_, _, rfl, rfl, a5⟩ := a5
  rw [show _ = [] from a5]
  exact W.widen hc hs (W.zret hx hb (h5.trans hty) hn (fun t ht hW => ⟨⟨ad, _, a1, by rw [ht]; exact a2, rfl, _, rfl, rfl⟩, a3.F ht⟩) a3.2.2 hdg h6)
theorem am_lret (hB : am_B X own cc) {x : Int64} (hR : am_R X l G M r h) (hdg : decode cc pc = .ok (.lreturn, 1)) (hty : M.2.2.2.1 = some .long) (hr : r = some (.long x)) (hc : cs ≤ M.2.2.2.2.cells) (hs : sl ≤ M.2.2.2.2.slots) : am_Z X pc L [.long x] h cs sl := by
  subst hr
  obtain ⟨p, l, e, R, s, m, args, below, meth, c, Q, G, ad0, nL⟩ := X
  obtain ⟨hx, hb, -⟩ := hB
  obtain ⟨rfl, rfl, rfl, rfl, h5, h6, h7, rfl⟩ := hR
  intro H locs ad ls st' a1 a2 a3 a4 a5
  obtain ⟨_, _, rfl, rfl, a5⟩ := a5
  rw [show _ = [] from a5]
  exact W.widen hc hs (W.lret hx hb (h5.trans hty) (fun t ht hW => ⟨⟨ad, _, a1, by rw [ht]; exact a2, rfl, _, rfl, rfl⟩, a3.F ht⟩) a3.2.2 hdg h6)
theorem am_aret (hB : am_B X own cc) {v : Value} {rt : FieldType} (hR : am_R X l G M r h) (hdg : decode cc pc = .ok (.areturn, 1)) (hty : M.2.2.2.1 = some rt) (hrt : (∃ n, rt = .object n) ∨ ∃ t, rt = .array t) (hv : am_ref v = true) (hr : r = some (v)) (hc : cs ≤ M.2.2.2.2.cells) (hs : sl ≤ M.2.2.2.2.slots) : am_Z X pc L [v] h cs sl := by
  subst hr
  obtain ⟨p, l, e, R, s, m, args, below, meth, c, Q, G, ad0, nL⟩ := X
  obtain ⟨hx, hb, -⟩ := hB
  obtain ⟨rfl, rfl, rfl, rfl, h5, h6, h7, rfl⟩ := hR
  intro H locs ad ls st' a1 a2 a3 a4 a5
  obtain ⟨w0, _, rfl, hw0, a5⟩ := a5
  rw [show _ = [] from a5]
  exact W.widen hc hs (W.aret hx hb (h5.trans hty) hrt (hw0.isr hv) (fun t ht hW => ⟨⟨ad, _, a1, by rw [ht]; exact a2, rfl, _, rfl, hw0⟩, a3.F ht⟩) a3.2.2 hdg h6)
end AmEnds
theorem am_blind {G : am_G} {ad : List Nat} {h : am_H} {av : List Value} : FrameBlind (am_Pc G ad h av) := fun a U g mk q => by
  obtain ⟨q0, qW, qK, qf, qG⟩ := q
  exact ⟨q0, qW, va_K.moved (u := U) (U := U.calling g mk a) (Vm.Alike.refl U.vm) qK, qf, am_K.calling qG⟩
theorem am_pre {G : am_G} {ad : List Nat} {h : am_H} {av : List Value} {s : State} {H : Heap} {locs : List Loc} (hW : am_W G ad h H) (hK : va_K G.1 vwCl (am_tys G) s) (hfl : G.2.2.2.2 ≤ s.heap.size) (hG : am_K G s) (hS : va_S (am_A G) s.heap H locs) : PreS s H (am_Pc G ad h av) av :=
  ⟨am_blind, fun U hU hw => ⟨rfl, by rw [hU]; exact hW, va_K.moved hw.alike hK, by rw [hU]; exact Nat.le_trans hfl hS.1, am_K.warm hw (by rw [hU]; exact hS) hG⟩⟩
section AmCalls
variable {p : Program} {l : Launch} {e : Env} {R : Room} {s : State} {m : MethodId} {args : Array Value} {below : List Frame} {meth : Method} {c : Code} {H : Heap} {locs : List Loc} {Q : State → Prop} {G : am_G} {ad0 ad : List Nat} {nL pc cs sl mc ms : Nat} {ls : Array Slot} {L st rest st0 : List Value} {h' : am_H} {r : Option Value}
/-- behind a call -/
theorem am_go {a : Array Value} (hr : va_Run p l e R s m args below meth c H locs cs sl mc ms (F0 m pc ls st0) rest (am_Qc G ad r h' a) (am_A G)) (a1 : am_X ad0 ad) (a3 : va_S (am_A G) s.heap H locs) (a4 : am_L G ad L ls nL) (a5 : am_S G ad st rest)
    (kk : am_Z (p, l, e, R, s, m, args, below, meth, c, Q, G, ad0, nL) (pc + 3) L (r.toList ++ st) h' (cs + mc) (sl + ms)) : W p l e R s m args below meth c H locs cs sl Q (F0 m pc ls st0) := by
  intro T hT Y
  obtain ⟨v, st₀, t, T', Lc, h0, Y', hL, e1, e2, ⟨⟨ad', w, x1, x2, x3, x4⟩, hz, hk⟩, stp⟩ := hr T hT Y
  cases x3
  rw [h0] at hz hk
  have hS : va_S (am_A G) s.heap T'.heap (locs ++ Lc) := ⟨Nat.le_trans a3.1 (by rw [e1]; exact hz), fun q h1 h2 => by rw [e1, hk q (Nat.lt_of_lt_of_le h1 a3.1) h2]; exact a3.2.1 q h1 h2, fun q hq => by
      rcases List.mem_append.mp hq with h | h
      · exact a3.2.2 q h
      · exact hL q h⟩
  have hst : am_S G ad' (r.toList ++ st) (v.toList ++ rest) := by
    cases r with
    | none => rw [show v = none from x4]; exact a5.mono x1
    | some y =>
      obtain ⟨x, rfl, hx⟩ := x4
      exact ⟨x, _, rfl, hx, a5.mono x1⟩
  obtain ⟨t2, b1, b2⟩ := kk T'.heap (locs ++ Lc) ad' ls _ (a1.tr x1) (by rw [e1]; exact x2) hS (a4.mono x1) hst T' rfl Y'
  exact ⟨t2, stp t2 b1, b2⟩
end AmCalls
/-- what a call's words are: static, a constructor, of an instance, of an instance by an inherited or abstract name -/
def am_cB (own : String) (index : Nat) (M : am_D) (n : Nat) : Prop := Cond.methodLink own index M.1 ∈ am_tbl ∧ Cond.initialized M.1.cls ∈ am_tbl ∧ Cond.code M.1 M.2.1 M.2.2.1 M.2.2.2.1 ∈ am_tbl ∧ M.1.cls ≠ "java/lang/invoke/MethodHandle" ∧ M.1.cls ≠ "java/lang/invoke/VarHandle" ∧ (parseMethodDescriptor M.1.desc).map (fun d => d.parameters.length) = some n
def am_cS (own : String) (index : Nat) (M : am_D) (n : Nat) : Prop := am_cB own index M n ∧ Cond.static M.1 ∈ am_tbl
def am_cI (own : String) (index : Nat) (M : am_D) (n : Nat) : Prop := am_cB own index M n ∧ M.1.name = "<init>" ∧ Cond.instanceMethod M.1 ∈ am_tbl
def am_cV (own : String) (index ci : Nat) (M : am_D) (n : Nat) : Prop := am_cB own index M n ∧ Cond.instanceMethod M.1 ∈ am_tbl ∧ ∃ (C : String) (T : u_T) (N : Nat), vwCl[ci]? = some (C, T, N) ∧ Cond.selects C M.1 M.1 ∈ am_tbl
theorem am_gin {M : am_D} (h : Cond.code M.1 M.2.1 M.2.2.1 M.2.2.2.1 ∈ am_tbl) : GoodIn am_tbl (am_ws M) := fun w hw => by
  rcases List.mem_cons.mp hw with rfl | hw
  · exact am_good _ h
  · exact am_good _ hw
section AmCallRows
variable {X : am_C} {own : String} {cc : ByteArray} {pc : Nat} {L st st0 : List Value} {h h' : am_H} {cs sl cs' sl' : Nat} {l : Launch} {G : am_G} {M M0 : am_D} {r0 : Option Value} {h0 : am_H} {r : Option Value} {as : List Value}
/-- the words of the caller's stack below a call -/
def am_wd (st : List Value) : Nat := (st.map fun v => if am_long v then 2 else 1).sum
theorem am_wd_eq {G : am_G} {ad : List Nat} : ∀ {vs ws : List Value}, am_S G ad vs ws → (ws.map fun v => v.category).sum = am_wd vs
  | [], _, hs => by rw [show _ = [] from hs]; rfl
  | v :: vs, _, ⟨x, xs, e, hv, hs⟩ => by
    have ih := am_wd_eq hs
    subst e
    rw [List.map_cons, List.sum_cons, ih]
    unfold am_wd
    rw [List.map_cons, List.sum_cons]
    cases hl : am_long v with
    | true => rw [hv.cat2 hl]; simp
    | false => rw [hv.cat hl]; simp
theorem am_rm {l : Launch} {m : MethodId} {pc : Nat} {ls : Array Slot} {q : List Value} {G : am_G} {ad : List Nat} {vs ws : List Value} (hs : am_S G ad vs ws) (h : am_wd vs ≤ 8) : 2 * (F0 m pc ls q).monitorRoom + (ws.map fun v => v.category).sum ≤ 8 := lv_room (by rw [am_wd_eq hs]; exact h)
theorem am_callS (hB : am_B X own cc) (hR : am_R X l G M0 r0 h0) {index n : Nat} (hM : am_M l G M (as) h r h') (hc : am_cS own index M n) (hn : as.length = n) (hst : st0 = as.reverse ++ st) (hdg : decode cc pc = .ok (.invokestatic index, 3)) (hrm : (M.2.2.2.2.frames + 1 ≤ M0.2.2.2.2.frames ∧ 8 + (M.2.2.1 + 11) + M.2.2.2.2.locals ≤ M0.2.2.2.2.locals) ∧ am_wd st ≤ 8) (hcl : cs + M.2.2.2.2.cells ≤ M0.2.2.2.2.cells ∧ sl + M.2.2.2.2.slots ≤ M0.2.2.2.2.slots) (hcs : cs + M.2.2.2.2.cells = cs') (hsl : sl + M.2.2.2.2.slots = sl') (kk : am_Z X (pc + 3) L (r.toList ++ st) h' cs' sl') : am_Z X pc L st0 h cs sl := by
  subst hst
  subst hcs
  subst hsl
  obtain ⟨p, l, e, R, s, m, args, below, meth, c, Q, G, ad0, nL⟩ := X
  obtain ⟨hx, hb, hml, ho, hts, hK, hfl, hG⟩ := hB
  obtain ⟨rfl, rfl, rfl, rfl, -⟩ := hR
  obtain ⟨⟨c1, c2, c3, c4, c5, c6⟩, c7⟩ := hc
  intro H locs ad ls st' a1 a2 a3 a4 a5
  obtain ⟨av, rv, rfl, hav, hrv⟩ := a5.split
  have hS : am_S G ad as av.reverse := by have := hav.rev; rwa [List.reverse_reverse] at this
  have hl : av.reverse.length = n := by rw [List.length_reverse, hav.len, List.length_reverse]; exact hn
  have hB := callB_of (R := M0.2.2.2.2) (s := s) (args := args) (own := own) (index := index) n hts (am_gin c3) rfl rfl rfl (hts _ c2) (hts _ c1) ⟨c4, c5, c6⟩ hrm.1
  have hp := am_pre (av := av.reverse) a2 hK hfl hG a3
  exact am_go (va_runS (As := av.reverse) (rest := rv) ⟨hx, hb, hml, ho, hts⟩ (hM ad _ hS) ⟨hB, hts _ c7⟩ hp rfl hl a4.1 (by simp) (am_rm (l := l) hrv hrm.2) hdg hcl) a1 a3 a4 hrv kk
theorem am_callI (hB : am_B X own cc) (hR : am_R X l G M0 r0 h0) {index n : Nat} {k : Nat} (hM : am_M l G M (.ref k :: as) h r h') (hc : am_cI own index M n ∧ M.2.2.2.1 = none) (hn : as.length = n) (hst : st0 = as.reverse ++ .ref k :: st) (hdg : decode cc pc = .ok (.invokespecial index, 3)) (hrm : (M.2.2.2.2.frames + 1 ≤ M0.2.2.2.2.frames ∧ 8 + (M.2.2.1 + 11) + M.2.2.2.2.locals ≤ M0.2.2.2.2.locals) ∧ am_wd st ≤ 8) (hcl : cs + M.2.2.2.2.cells ≤ M0.2.2.2.2.cells ∧ sl + M.2.2.2.2.slots ≤ M0.2.2.2.2.slots) (hcs : cs + M.2.2.2.2.cells = cs') (hsl : sl + M.2.2.2.2.slots = sl') (kk : am_Z X (pc + 3) L (r.toList ++ st) h' cs' sl') : am_Z X pc L st0 h cs sl := by
  subst hst
  subst hcs
  subst hsl
  obtain ⟨p, l, e, R, s, m, args, below, meth, c, Q, G, ad0, nL⟩ := X
  obtain ⟨hx, hb, hml, ho, hts, hK, hfl, hG⟩ := hB
  obtain ⟨rfl, rfl, rfl, rfl, -⟩ := hR
  obtain ⟨⟨⟨c1, c2, c3, c4, c5, c6⟩, c7, c8⟩, c9⟩ := hc
  obtain ⟨y, bt, mL, rt, rm⟩ := M
  obtain rfl : rt = none := c9
  intro H locs ad ls st' a1 a2 a3 a4 a5
  obtain ⟨av, rv, rfl, hav, hrv⟩ := a5.split
  obtain ⟨_, rs, rfl, ⟨a, ha, rfl⟩, hrs⟩ := hrv
  have hS : am_S G ad (.ref k :: as) (.ref a :: av.reverse) := ⟨_, _, rfl, ⟨a, ha, rfl⟩, by have := hav.rev; rwa [List.reverse_reverse] at this⟩
  have hl : av.reverse.length = n := by rw [List.length_reverse, hav.len, List.length_reverse]; exact hn
  have hB := callB_of (R := M0.2.2.2.2) (s := s) (args := args) (own := own) (index := index) n hts (am_gin c3) rfl rfl rfl (hts _ c2) (hts _ c1) ⟨c4, c5, c6⟩ hrm.1
  have hp := am_pre (av := .ref a :: av.reverse) a2 hK hfl hG a3
  exact am_go (va_runI (As := av.reverse) (rest := rs) (b := a) ⟨hx, hb, hml, ho, hts⟩ (hM ad _ hS) ⟨hB, c7, hts _ c8⟩ hp rfl hl a4.1 (by simp) (am_rm (l := l) hrs hrm.2) hdg hcl) a1 a3 a4 hrs kk
theorem am_callV (hB : am_B X own cc) (hR : am_R X l G M0 r0 h0) {index n : Nat} {k ci : Nat} {fs : List Value} (hk : h[k]? = some (.inr (ci, fs))) (hM : am_M l G M (.ref k :: as) h r h') (hc : am_cV own index ci M n) (hn : as.length = n) (hst : st0 = as.reverse ++ .ref k :: st) (hdg : decode cc pc = .ok (.invokevirtual index, 3)) (hrm : (M.2.2.2.2.frames + 1 ≤ M0.2.2.2.2.frames ∧ 8 + (M.2.2.1 + 11) + M.2.2.2.2.locals ≤ M0.2.2.2.2.locals) ∧ am_wd st ≤ 8) (hcl : cs + M.2.2.2.2.cells ≤ M0.2.2.2.2.cells ∧ sl + M.2.2.2.2.slots ≤ M0.2.2.2.2.slots) (hcs : cs + M.2.2.2.2.cells = cs') (hsl : sl + M.2.2.2.2.slots = sl') (kk : am_Z X (pc + 3) L (r.toList ++ st) h' cs' sl') : am_Z X pc L st0 h cs sl := by
  subst hst
  subst hcs
  subst hsl
  obtain ⟨p, l, e, R, s, m, args, below, meth, c, Q, G, ad0, nL⟩ := X
  obtain ⟨hx, hb, hml, ho, hts, hK, hfl, hG⟩ := hB
  obtain ⟨rfl, rfl, rfl, rfl, -⟩ := hR
  obtain ⟨⟨c1, c2, c3, c4, c5, c6⟩, c7, C, T, N, c8, c9⟩ := hc
  intro H locs ad ls st' a1 a2 a3 a4 a5
  obtain ⟨av, rv, rfl, hav, hrv⟩ := a5.split
  obtain ⟨_, rs, rfl, ⟨a, ha, rfl⟩, hrs⟩ := hrv
  have hS : am_S G ad (.ref k :: as) (.ref a :: av.reverse) := ⟨_, _, rfl, ⟨a, ha, rfl⟩, by have := hav.rev; rwa [List.reverse_reverse] at this⟩
  have hl : av.reverse.length = n := by rw [List.length_reverse, hav.len, List.length_reverse]; exact hn
  have hB := callB_of (R := M0.2.2.2.2) (s := s) (args := args) (own := own) (index := index) n hts (am_gin c3) rfl rfl rfl (hts _ c2) (hts _ c1) ⟨c4, c5, c6⟩ hrm.1
  obtain ⟨ws, w1, w2, w3, hP, hD⟩ := id a2
  obtain ⟨a', e', g1, g2, fs', rfl, g3⟩ := w3 k _ hk
  have haa : a' = a := Option.some.inj (g1.symm.trans ha)
  subst haa
  have hp := am_pre (av := .ref a' :: av.reverse) a2 hK hfl hG a3
  exact am_go (va_runV (As := av.reverse) (rest := rs) (b := a') (C := C) ⟨hx, hb, hml, ho, hts⟩ (hM ad _ hS) ⟨hB, hts _ c7, hts _ c9⟩ ⟨hp.1, va_recv hK hP c8 g2, hp.2⟩ rfl hl a4.1 (by simp) (am_rm (l := l) hrs hrm.2) hdg hcl) a1 a3 a4 hrs kk
end AmCallRows
end
section
def am_i (z : Int) : Int32 := Int32.ofInt z
abbrev am_n (z : Int) : Value := .int (am_i z)
theorem am_i_add (a b : Int) : am_i a + am_i b = am_i (a + b) := (Int32.ofInt_add a b).symm
theorem am_i_sub (a b : Int) : am_i a - am_i b = am_i (a - b) := (Int32.ofInt_sub a b).symm
theorem am_i_mul (a b : Int) : am_i a * am_i b = am_i (a * b) := (Int32.ofInt_mul a b).symm
theorem am_i_neg (a : Int) : - am_i a = am_i (-a) := (Int32.ofInt_neg a).symm
theorem am_i_t {a : Int} (h1 : -2147483648 ≤ a) (h2 : a < 2147483648) : (am_i a).toInt = a := Int32.toInt_ofInt_of_le h1 h2
theorem am_i_of (x : Int32) : x = am_i x.toInt := (Int32.ofInt_toInt x).symm
theorem am_i_eq {a b : Int} (h1 : -2147483648 ≤ a) (h2 : a < 2147483648) (h3 : -2147483648 ≤ b) (h4 : b < 2147483648) : am_i a = am_i b ↔ a = b :=
  ⟨fun e => by rw [← am_i_t h1 h2, ← am_i_t h3 h4, e], fun e => by rw [e]⟩
theorem am_i_lt {a b : Int} (h1 : -2147483648 ≤ a) (h2 : a < 2147483648) (h3 : -2147483648 ≤ b) (h4 : b < 2147483648) : am_i a < am_i b ↔ a < b := by
  rw [Int32.lt_iff_toInt_lt, am_i_t h1 h2, am_i_t h3 h4]
theorem am_i_le {a b : Int} (h1 : -2147483648 ≤ a) (h2 : a < 2147483648) (h3 : -2147483648 ≤ b) (h4 : b < 2147483648) : am_i a ≤ am_i b ↔ a ≤ b := by
  rw [Int32.le_iff_toInt_le, am_i_t h1 h2, am_i_t h3 h4]
theorem am_i_cl {a : Int} (h1 : 0 ≤ a) (h2 : a < 2147483648) : (am_i a).toNatClampNeg = a.toNat := Int32.toNatClampNeg_ofInt_of_le (by omega) h2
theorem am_i_nI (n : Nat) : am_i n = nI n := Int32.ofInt_eq_ofNat
theorem am_i_N {a : Int} (h1 : 0 ≤ a) : am_i a = nI a.toNat := by
  rw [← am_i_nI, Int.toNat_of_nonneg h1]
theorem am_i_in {a : Int} {n : Nat} (h1 : 0 ≤ a) (h2 : a < n) (h3 : n < 2147483648) : vp_in (am_i a) n := by
  rw [am_i_N h1]
  exact vp_in_nI (by omega) (by omega)
theorem am_i_div {a d : Int} (h1 : 0 ≤ a) (h2 : a < 2147483648) (h3 : 0 < d) (h4 : d < 2147483648) : am_i a / am_i d = am_i (a / d) := by
  rw [am_i_N h1, am_i_N (Int.le_of_lt h3), pk_div (by omega) (by omega) (by omega), ← am_i_nI]
  congr 1
  rw [Int.natCast_ediv, Int.toNat_of_nonneg h1, Int.toNat_of_nonneg (Int.le_of_lt h3)]
theorem am_i_rem {a d : Int} (h1 : 0 ≤ a) (h2 : a < 2147483648) (h3 : 0 < d) (h4 : d < 2147483648) : am_i a - am_i a / am_i d * am_i d = am_i (a % d) := by
  rw [am_i_div h1 h2 h3 h4, am_i_mul, am_i_sub]
  congr 1
  have := Int.mul_ediv_add_emod a d
  rw [Int.mul_comm (a / d) d]
  omega
theorem am_i_c {a : Int} (h1 : 0 ≤ a) (h2 : a < 65536) : ((am_i a).toUInt32 % 65536).toInt32 = am_i a := by
  rw [am_i_N h1, pk_char, pk_tn (by omega), Nat.mod_eq_of_lt (by omega)]
theorem am_i_nar {a : Int} (h1 : 0 ≤ a) (h2 : a < 65536) : narrow .char (.int (am_i a)) = .int (am_i a) := by
  rw [am_i_N h1]
  exact (pk_charN (by omega)).1
theorem am_i_vp {a : Int} (h1 : 0 ≤ a) (h2 : a < 65536) : vp_nar .char (am_i a) = am_i a := by
  unfold vp_nar
  rw [am_i_nar h1 h2]
/-- arrays of numbers, by whole numbers; a place is written -/
def am_ia (t n : Nat) (g : Int → Int) : va_E := .inl (t, n, .inl (fun j => am_i (g j)))
def am_up (g : Int → Int) (k x : Int) : Int → Int := fun j => if j = k then x else g j
theorem am_up_eq (g : Int → Int) (k x : Int) : am_up g k x k = x := if_pos rfl
theorem am_up_ne (g : Int → Int) {k j : Int} (x : Int) (h : j ≠ k) : am_up g k x j = g j := if_neg h
theorem am_ia_up {t n : Nat} {g : Int → Int} {i x : Int} (h1 : 0 ≤ i) (h2 : i < 2147483648) : (.inl (t, n, .inl (upd (fun j => am_i (g j)) (am_i i).toNatClampNeg (am_i x))) : va_E) = am_ia t n (am_up g i x) := by
  unfold am_ia
  congr 3
  congr 1
  funext j
  rw [am_i_cl h1 h2]
  unfold upd am_up
  by_cases hj : j = i.toNat
  · rw [if_pos hj, if_pos (by omega)]
  · rw [if_neg hj, if_neg (by omega)]
/-- arrays of longs -/
def am_ja (t n : Nat) (g : Int → Int64) : va_E := .inl (t, n, .inr (.inl (fun j => g j)))
def am_upj (g : Int → Int64) (k : Int) (x : Int64) : Int → Int64 := fun j => if j = k then x else g j
theorem am_ja_up {t n : Nat} {g : Int → Int64} {i : Int} {x : Int64} (h1 : 0 ≤ i) (h2 : i < 2147483648) : (.inl (t, n, .inr (.inl (vp_updL (fun j => g j) (am_i i).toNatClampNeg x))) : va_E) = am_ja t n (am_upj g i x) := by
  unfold am_ja
  congr 4
  congr 1
  funext j
  rw [am_i_cl h1 h2]
  unfold vp_updL am_upj
  by_cases hj : j = i.toNat
  · rw [if_pos hj, if_pos (by omega)]
  · rw [if_neg hj, if_neg (by omega)]
/-- arrays of objects: the place of each -/
def am_qa (t n : Nat) (g : Int → Option Nat) : va_E := .inl (t, n, .inr (.inr (.inr (.inr (fun j => g j)))))
/-- cells that are read behind a write -/
theorem am_rs {h : am_H} {k : Nat} {e e0 : va_E} (r : h[k]? = some e0) : (h.set k e)[k]? = some e := List.getElem?_set_self (am_lt r)
theorem am_rn {h : am_H} {k j : Nat} {e : va_E} {x : Option va_E} (n : k ≠ j) (r : h[j]? = x) : (h.set k e)[j]? = x := by
  rw [List.getElem?_set_ne n]
  exact r
theorem am_ne {h : am_H} {k j : Nat} {e1 e2 : va_E} (r1 : h[k]? = some e1) (r2 : h[j]? = some e2) (n : e1 ≠ e2) : k ≠ j := fun q => n (by
  subst q
  exact Option.some.inj (r1.symm.trans r2))
section AmInt
variable {X : am_C} {own : String} {cc : ByteArray} {pc : Nat} {L st : List Value} {h : am_H} {cs sl : Nat}
theorem ai_const (hB : am_B X own cc) {n : Int} (hdg : decode cc pc = .ok (.iconst n, 1)) (k : am_Z X (pc + 1) L (am_n n :: st) h cs sl) : am_Z X pc L (st) h cs sl := am_iconst hB hdg rfl k
theorem ai_bipush (hB : am_B X own cc) {n : Int} (hdg : decode cc pc = .ok (.bipush n, 2)) (hv : (Int8.ofInt n).toInt32 = am_i n) (k : am_Z X (pc + 2) L (am_n n :: st) h cs sl) : am_Z X pc L (st) h cs sl := am_bipush hB hdg hv k
theorem ai_sipush (hB : am_B X own cc) {n : Int} (hdg : decode cc pc = .ok (.sipush n, 3)) (hv : (Int16.ofInt n).toInt32 = am_i n) (k : am_Z X (pc + 3) L (am_n n :: st) h cs sl) : am_Z X pc L (st) h cs sl := am_sipush hB hdg hv k
theorem ai_add (hB : am_B X own cc) {a b : Int} (hdg : decode cc pc = .ok (.iadd, 1)) (k : am_Z X (pc + 1) L (am_n (a + b) :: st) h cs sl) : am_Z X pc L (am_n b :: am_n a :: st) h cs sl := am_iadd hB hdg (by rw [am_i_add]; exact k)
theorem ai_sub (hB : am_B X own cc) {a b : Int} (hdg : decode cc pc = .ok (.isub, 1)) (k : am_Z X (pc + 1) L (am_n (a - b) :: st) h cs sl) : am_Z X pc L (am_n b :: am_n a :: st) h cs sl := am_isub hB hdg (by rw [am_i_sub]; exact k)
theorem ai_mul (hB : am_B X own cc) {a b : Int} (hdg : decode cc pc = .ok (.imul, 1)) (k : am_Z X (pc + 1) L (am_n (a * b) :: st) h cs sl) : am_Z X pc L (am_n b :: am_n a :: st) h cs sl := am_imul hB hdg (by rw [am_i_mul]; exact k)
theorem ai_neg (hB : am_B X own cc) {a : Int} (hdg : decode cc pc = .ok (.ineg, 1)) (k : am_Z X (pc + 1) L (am_n (-a) :: st) h cs sl) : am_Z X pc L (am_n a :: st) h cs sl := am_ineg hB hdg (by rw [am_i_neg]; exact k)
theorem ai_div (hB : am_B X own cc) {a b : Int} (hdg : decode cc pc = .ok (.idiv, 1)) (k : am_Z X (pc + 1) L (am_n (a / b) :: st) h cs sl) (h1 : 0 ≤ a := by omega) (h2 : a < 2147483648 := by omega) (h3 : 0 < b := by omega) (h4 : b < 2147483648 := by omega) : am_Z X pc L (am_n b :: am_n a :: st) h cs sl := am_idiv hB hdg (fun z => by have := (am_i_eq (by omega) h4 (by omega) (by omega)).mp (show am_i b = am_i 0 from z); omega) (by rw [am_i_div h1 h2 h3 h4]; exact k)
theorem ai_rem (hB : am_B X own cc) {a b : Int} (hdg : decode cc pc = .ok (.irem, 1)) (k : am_Z X (pc + 1) L (am_n (a % b) :: st) h cs sl) (h1 : 0 ≤ a := by omega) (h2 : a < 2147483648 := by omega) (h3 : 0 < b := by omega) (h4 : b < 2147483648 := by omega) : am_Z X pc L (am_n b :: am_n a :: st) h cs sl := am_irem hB hdg (fun z => by have := (am_i_eq (by omega) h4 (by omega) (by omega)).mp (show am_i b = am_i 0 from z); omega) (by rw [am_i_rem h1 h2 h3 h4]; exact k)
theorem ai_i2c (hB : am_B X own cc) {a : Int} (hdg : decode cc pc = .ok (.i2c, 1)) (k : am_Z X (pc + 1) L (am_n a :: st) h cs sl) (h1 : 0 ≤ a := by omega) (h2 : a < 65536 := by omega) : am_Z X pc L (am_n a :: st) h cs sl := am_i2c hB hdg (by rw [am_i_c h1 h2]; exact k)
theorem ai_inc (hB : am_B X own cc) {i : Nat} {n a : Int} {L' : List Value} (hdg : decode cc pc = .ok (.iinc i n, 3)) (hl : L[i]? = some (am_n a)) (hn : i < X.2.2.2.2.2.2.2.2.2.2.2.2.2) (hL : am_st L i (am_n (a + n)) = L') (k : am_Z X (pc + 3) L' st h cs sl) : am_Z X pc L st h cs sl := am_iinc hB hdg hl (am_i_add a n) hn hL k
theorem ai_jeq (hB : am_B X own cc) {a b off : Int} {tgt : Nat} (hdg : decode cc pc = .ok (.if_icmp .eq off, 3)) (ht : (pc : Int) + off = (tgt : Int)) (kt : a = b → am_Z X tgt L st h cs sl) (kf : a ≠ b → am_Z X (pc + 3) L st h cs sl) (h1 : -2147483648 ≤ a := by omega) (h2 : a < 2147483648 := by omega) (h3 : -2147483648 ≤ b := by omega) (h4 : b < 2147483648 := by omega) : am_Z X pc L (am_n b :: am_n a :: st) h cs sl := am_icmp_eq hB hdg ht (fun z => kt ((am_i_eq h1 h2 h3 h4).mp z)) (fun z => kf (fun q => z ((am_i_eq h1 h2 h3 h4).mpr q)))
theorem ai_zeq (hB : am_B X own cc) {a off : Int} {tgt : Nat} (hdg : decode cc pc = .ok (.ifCond .eq off, 3)) (ht : (pc : Int) + off = (tgt : Int)) (kt : a = 0 → am_Z X tgt L st h cs sl) (kf : a ≠ 0 → am_Z X (pc + 3) L st h cs sl) (h1 : -2147483648 ≤ a := by omega) (h2 : a < 2147483648 := by omega) : am_Z X pc L (am_n a :: st) h cs sl := by
  have h3 : (-2147483648 : Int) ≤ 0 := by omega
  have h4 : (0 : Int) < 2147483648 := by omega
  exact am_if_eq hB hdg ht (fun z => kt ((am_i_eq h1 h2 h3 h4).mp z)) (fun z => kf (fun q => z ((am_i_eq h1 h2 h3 h4).mpr q)))
theorem ai_jne (hB : am_B X own cc) {a b off : Int} {tgt : Nat} (hdg : decode cc pc = .ok (.if_icmp .ne off, 3)) (ht : (pc : Int) + off = (tgt : Int)) (kt : a ≠ b → am_Z X tgt L st h cs sl) (kf : a = b → am_Z X (pc + 3) L st h cs sl) (h1 : -2147483648 ≤ a := by omega) (h2 : a < 2147483648 := by omega) (h3 : -2147483648 ≤ b := by omega) (h4 : b < 2147483648 := by omega) : am_Z X pc L (am_n b :: am_n a :: st) h cs sl := am_icmp_ne hB hdg ht (fun z => kt (fun q => z ((am_i_eq h1 h2 h3 h4).mpr q))) (fun z => kf ((am_i_eq h1 h2 h3 h4).mp z))
theorem ai_zne (hB : am_B X own cc) {a off : Int} {tgt : Nat} (hdg : decode cc pc = .ok (.ifCond .ne off, 3)) (ht : (pc : Int) + off = (tgt : Int)) (kt : a ≠ 0 → am_Z X tgt L st h cs sl) (kf : a = 0 → am_Z X (pc + 3) L st h cs sl) (h1 : -2147483648 ≤ a := by omega) (h2 : a < 2147483648 := by omega) : am_Z X pc L (am_n a :: st) h cs sl := by
  have h3 : (-2147483648 : Int) ≤ 0 := by omega
  have h4 : (0 : Int) < 2147483648 := by omega
  exact am_if_ne hB hdg ht (fun z => kt (fun q => z ((am_i_eq h1 h2 h3 h4).mpr q))) (fun z => kf ((am_i_eq h1 h2 h3 h4).mp z))
theorem ai_jlt (hB : am_B X own cc) {a b off : Int} {tgt : Nat} (hdg : decode cc pc = .ok (.if_icmp .lt off, 3)) (ht : (pc : Int) + off = (tgt : Int)) (kt : a < b → am_Z X tgt L st h cs sl) (kf : b ≤ a → am_Z X (pc + 3) L st h cs sl) (h1 : -2147483648 ≤ a := by omega) (h2 : a < 2147483648 := by omega) (h3 : -2147483648 ≤ b := by omega) (h4 : b < 2147483648 := by omega) : am_Z X pc L (am_n b :: am_n a :: st) h cs sl := am_icmp_lt hB hdg ht (fun z => kt ((am_i_lt h1 h2 h3 h4).mp z)) (fun z => kf (by have q := mt (am_i_lt h1 h2 h3 h4).mpr z; omega))
theorem ai_zlt (hB : am_B X own cc) {a off : Int} {tgt : Nat} (hdg : decode cc pc = .ok (.ifCond .lt off, 3)) (ht : (pc : Int) + off = (tgt : Int)) (kt : a < 0 → am_Z X tgt L st h cs sl) (kf : 0 ≤ a → am_Z X (pc + 3) L st h cs sl) (h1 : -2147483648 ≤ a := by omega) (h2 : a < 2147483648 := by omega) : am_Z X pc L (am_n a :: st) h cs sl := by
  have h3 : (-2147483648 : Int) ≤ 0 := by omega
  have h4 : (0 : Int) < 2147483648 := by omega
  exact am_if_lt hB hdg ht (fun z => kt ((am_i_lt h1 h2 h3 h4).mp z)) (fun z => kf (by have q := mt (am_i_lt h1 h2 h3 h4).mpr z; omega))
theorem ai_jge (hB : am_B X own cc) {a b off : Int} {tgt : Nat} (hdg : decode cc pc = .ok (.if_icmp .ge off, 3)) (ht : (pc : Int) + off = (tgt : Int)) (kt : b ≤ a → am_Z X tgt L st h cs sl) (kf : a < b → am_Z X (pc + 3) L st h cs sl) (h1 : -2147483648 ≤ a := by omega) (h2 : a < 2147483648 := by omega) (h3 : -2147483648 ≤ b := by omega) (h4 : b < 2147483648 := by omega) : am_Z X pc L (am_n b :: am_n a :: st) h cs sl := am_icmp_ge hB hdg ht (fun z => kt ((am_i_le h3 h4 h1 h2).mp z)) (fun z => kf (by have q := mt (am_i_le h3 h4 h1 h2).mpr z; omega))
theorem ai_zge (hB : am_B X own cc) {a off : Int} {tgt : Nat} (hdg : decode cc pc = .ok (.ifCond .ge off, 3)) (ht : (pc : Int) + off = (tgt : Int)) (kt : 0 ≤ a → am_Z X tgt L st h cs sl) (kf : a < 0 → am_Z X (pc + 3) L st h cs sl) (h1 : -2147483648 ≤ a := by omega) (h2 : a < 2147483648 := by omega) : am_Z X pc L (am_n a :: st) h cs sl := by
  have h3 : (-2147483648 : Int) ≤ 0 := by omega
  have h4 : (0 : Int) < 2147483648 := by omega
  exact am_if_ge hB hdg ht (fun z => kt ((am_i_le h3 h4 h1 h2).mp z)) (fun z => kf (by have q := mt (am_i_le h3 h4 h1 h2).mpr z; omega))
theorem ai_jgt (hB : am_B X own cc) {a b off : Int} {tgt : Nat} (hdg : decode cc pc = .ok (.if_icmp .gt off, 3)) (ht : (pc : Int) + off = (tgt : Int)) (kt : b < a → am_Z X tgt L st h cs sl) (kf : a ≤ b → am_Z X (pc + 3) L st h cs sl) (h1 : -2147483648 ≤ a := by omega) (h2 : a < 2147483648 := by omega) (h3 : -2147483648 ≤ b := by omega) (h4 : b < 2147483648 := by omega) : am_Z X pc L (am_n b :: am_n a :: st) h cs sl := am_icmp_gt hB hdg ht (fun z => kt ((am_i_lt h3 h4 h1 h2).mp z)) (fun z => kf (by have q := mt (am_i_lt h3 h4 h1 h2).mpr z; omega))
theorem ai_zgt (hB : am_B X own cc) {a off : Int} {tgt : Nat} (hdg : decode cc pc = .ok (.ifCond .gt off, 3)) (ht : (pc : Int) + off = (tgt : Int)) (kt : 0 < a → am_Z X tgt L st h cs sl) (kf : a ≤ 0 → am_Z X (pc + 3) L st h cs sl) (h1 : -2147483648 ≤ a := by omega) (h2 : a < 2147483648 := by omega) : am_Z X pc L (am_n a :: st) h cs sl := by
  have h3 : (-2147483648 : Int) ≤ 0 := by omega
  have h4 : (0 : Int) < 2147483648 := by omega
  exact am_if_gt hB hdg ht (fun z => kt ((am_i_lt h3 h4 h1 h2).mp z)) (fun z => kf (by have q := mt (am_i_lt h3 h4 h1 h2).mpr z; omega))
theorem ai_jle (hB : am_B X own cc) {a b off : Int} {tgt : Nat} (hdg : decode cc pc = .ok (.if_icmp .le off, 3)) (ht : (pc : Int) + off = (tgt : Int)) (kt : a ≤ b → am_Z X tgt L st h cs sl) (kf : b < a → am_Z X (pc + 3) L st h cs sl) (h1 : -2147483648 ≤ a := by omega) (h2 : a < 2147483648 := by omega) (h3 : -2147483648 ≤ b := by omega) (h4 : b < 2147483648 := by omega) : am_Z X pc L (am_n b :: am_n a :: st) h cs sl := am_icmp_le hB hdg ht (fun z => kt ((am_i_le h1 h2 h3 h4).mp z)) (fun z => kf (by have q := mt (am_i_le h1 h2 h3 h4).mpr z; omega))
theorem ai_zle (hB : am_B X own cc) {a off : Int} {tgt : Nat} (hdg : decode cc pc = .ok (.ifCond .le off, 3)) (ht : (pc : Int) + off = (tgt : Int)) (kt : a ≤ 0 → am_Z X tgt L st h cs sl) (kf : 0 < a → am_Z X (pc + 3) L st h cs sl) (h1 : -2147483648 ≤ a := by omega) (h2 : a < 2147483648 := by omega) : am_Z X pc L (am_n a :: st) h cs sl := by
  have h3 : (-2147483648 : Int) ≤ 0 := by omega
  have h4 : (0 : Int) < 2147483648 := by omega
  exact am_if_le hB hdg ht (fun z => kt ((am_i_le h1 h2 h3 h4).mp z)) (fun z => kf (by have q := mt (am_i_le h1 h2 h3 h4).mpr z; omega))
theorem ai_iald (hB : am_B X own cc) {q t n : Nat} {g : Int → Int} {a : Int} (hdg : decode cc pc = .ok (.iaload, 1)) (ht : ∀ G : am_G, (am_tys G)[t]? = some (G.2.1 t, .int)) (hr : h[q]? = some (am_ia t n g)) (k : am_Z X (pc + 1) L (am_n (g a) :: st) h cs sl) (h1 : 0 ≤ a := by omega) (h2 : a < n := by omega) (h3 : n < 2147483648 := by omega) : am_Z X pc L (am_n a :: .ref q :: st) h cs sl := by
  refine am_iald hB hdg ht hr (am_i_in h1 h2 h3) ?_
  rw [am_i_cl h1 (by omega), Int.toNat_of_nonneg h1]
  exact k
theorem ai_cald (hB : am_B X own cc) {q t n : Nat} {g : Int → Int} {a : Int} (hdg : decode cc pc = .ok (.caload, 1)) (ht : ∀ G : am_G, (am_tys G)[t]? = some (G.2.1 t, .char)) (hr : h[q]? = some (am_ia t n g)) (k : am_Z X (pc + 1) L (am_n (g a) :: st) h cs sl) (h1 : 0 ≤ a := by omega) (h2 : a < n := by omega) (h3 : n < 2147483648 := by omega) : am_Z X pc L (am_n a :: .ref q :: st) h cs sl := by
  refine am_cald hB hdg ht hr (am_i_in h1 h2 h3) ?_
  rw [am_i_cl h1 (by omega), Int.toNat_of_nonneg h1]
  exact k
theorem ai_iast (hB : am_B X own cc) {q t n : Nat} {g : Int → Int} {a x : Int} {h' : am_H} (hdg : decode cc pc = .ok (.iastore, 1)) (ht : ∀ G : am_G, (am_tys G)[t]? = some (G.2.1 t, .int)) (hr : h[q]? = some (am_ia t n g)) (hh : h.set q (am_ia t n (am_up g a x)) = h') (k : am_Z X (pc + 1) L st h' cs sl) (h1 : 0 ≤ a := by omega) (h2 : a < n := by omega) (h3 : n < 2147483648 := by omega) : am_Z X pc L (am_n x :: am_n a :: .ref q :: st) h cs sl :=
  am_iast hB hdg ht hr (am_i_in h1 h2 h3) (by rw [am_ia_up h1 (by omega)]; exact hh) k
theorem ai_cast (hB : am_B X own cc) {q t n : Nat} {g : Int → Int} {a x : Int} {h' : am_H} (hdg : decode cc pc = .ok (.castore, 1)) (ht : ∀ G : am_G, (am_tys G)[t]? = some (G.2.1 t, .char)) (hr : h[q]? = some (am_ia t n g)) (hh : h.set q (am_ia t n (am_up g a x)) = h') (k : am_Z X (pc + 1) L st h' cs sl) (h1 : 0 ≤ a := by omega) (h2 : a < n := by omega) (h3 : n < 2147483648 := by omega) (h4 : 0 ≤ x := by omega) (h5 : x < 65536 := by omega) : am_Z X pc L (am_n x :: am_n a :: .ref q :: st) h cs sl :=
  am_cast hB hdg ht hr (am_i_in h1 h2 h3) (by rw [am_i_vp h4 h5, am_ia_up h1 (by omega)]; exact hh) k
theorem ai_lald (hB : am_B X own cc) {q t n : Nat} {g : Int → Int64} {a : Int} (hdg : decode cc pc = .ok (.laload, 1)) (ht : ∀ G : am_G, (am_tys G)[t]? = some (G.2.1 t, .long)) (hr : h[q]? = some (am_ja t n g)) (k : am_Z X (pc + 1) L (.long (g a) :: st) h cs sl) (h1 : 0 ≤ a := by omega) (h2 : a < n := by omega) (h3 : n < 2147483648 := by omega) : am_Z X pc L (am_n a :: .ref q :: st) h cs sl := by
  refine am_lald hB hdg ht hr (am_i_in h1 h2 h3) ?_
  rw [am_i_cl h1 (by omega), Int.toNat_of_nonneg h1]
  exact k
theorem ai_last (hB : am_B X own cc) {q t n : Nat} {g : Int → Int64} {a : Int} {x : Int64} {h' : am_H} (hdg : decode cc pc = .ok (.lastore, 1)) (ht : ∀ G : am_G, (am_tys G)[t]? = some (G.2.1 t, .long)) (hr : h[q]? = some (am_ja t n g)) (hh : h.set q (am_ja t n (am_upj g a x)) = h') (k : am_Z X (pc + 1) L st h' cs sl) (h1 : 0 ≤ a := by omega) (h2 : a < n := by omega) (h3 : n < 2147483648 := by omega) : am_Z X pc L (.long x :: am_n a :: .ref q :: st) h cs sl :=
  am_last hB hdg ht hr (am_i_in h1 h2 h3) (by rw [am_ja_up h1 (by omega)]; exact hh) k
theorem ai_aald (hB : am_B X own cc) {q t n z : Nat} {g : Int → Option Nat} {a : Int} {C : String} (hdg : decode cc pc = .ok (.aaload, 1)) (ht : ∀ G : am_G, (am_tys G)[t]? = some (G.2.1 t, .object C)) (hr : h[q]? = some (am_qa t n g)) (hf : g a = some z) (k : am_Z X (pc + 1) L (.ref z :: st) h cs sl) (h1 : 0 ≤ a := by omega) (h2 : a < n := by omega) (h3 : n < 2147483648 := by omega) : am_Z X pc L (am_n a :: .ref q :: st) h cs sl :=
  am_aald hB hdg ht hr (am_i_in h1 h2 h3) (by rw [am_i_cl h1 (by omega), Int.toNat_of_nonneg h1]; exact hf) k
theorem ai_alen (hB : am_B X own cc) {q t n : Nat} {g : Int → Int} {ty : FieldType} (hdg : decode cc pc = .ok (.arraylength, 1)) (ht : ∀ G : am_G, (am_tys G)[t]? = some (G.2.1 t, ty)) (hr : h[q]? = some (am_ia t n g)) (k : am_Z X (pc + 1) L (am_n n :: st) h cs sl) : am_Z X pc L (.ref q :: st) h cs sl :=
  am_alen hB hdg ht hr (am_i_nI n).symm k
end AmInt
end
