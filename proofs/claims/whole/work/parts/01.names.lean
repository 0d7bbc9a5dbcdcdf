-- ===== PART A: goes FIRST, ahead of the names: the tables' words, and 'selects' of the private methods out of them =====
/-- a private method of a class that the tables say can be made, by its rows of tables_1 -/
def lw_okq (q : MethodName × Nat) : Prop := (q.1.cls ≠ "java/lang/invoke/MethodHandle" ∧ q.1.cls ≠ "java/lang/invoke/VarHandle") ∧ Cond.instantiable q.1.cls q.2 ∈ tables_1 ∧ Cond.privateMethod q.1 ∈ tables_1 ∧ Cond.instanceMethod q.1 ∈ tables_1
theorem lw_p0 : lw_okq (⟨"FrameWriter$Types", "share", "(III)V"⟩, 3) := ⟨⟨by decide +kernel, by decide +kernel⟩, List.mem_of_getElem? (i := 32) (by decide +kernel), List.mem_of_getElem? (i := 320) (by decide +kernel), List.mem_of_getElem? (i := 321) (by decide +kernel)⟩
theorem lw_p1 : lw_okq (⟨"FrameWriter$Types", "nearest", "(II)I"⟩, 3) := ⟨⟨by decide +kernel, by decide +kernel⟩, List.mem_of_getElem? (i := 32) (by decide +kernel), List.mem_of_getElem? (i := 324) (by decide +kernel), List.mem_of_getElem? (i := 325) (by decide +kernel)⟩
theorem lw_p2 : lw_okq (⟨"FrameWriter", "changed", "(I)I"⟩, 10) := ⟨⟨by decide +kernel, by decide +kernel⟩, List.mem_of_getElem? (i := 24) (by decide +kernel), List.mem_of_getElem? (i := 328) (by decide +kernel), List.mem_of_getElem? (i := 329) (by decide +kernel)⟩
theorem lw_p3 : lw_okq (⟨"FrameWriter$Cells", "breakLong", "(I)V"⟩, 2) := ⟨⟨by decide +kernel, by decide +kernel⟩, List.mem_of_getElem? (i := 81) (by decide +kernel), List.mem_of_getElem? (i := 340) (by decide +kernel), List.mem_of_getElem? (i := 341) (by decide +kernel)⟩
theorem lw_p4 : lw_okq (⟨"FrameWriter", "isNumberFor", "(II)Z"⟩, 10) := ⟨⟨by decide +kernel, by decide +kernel⟩, List.mem_of_getElem? (i := 24) (by decide +kernel), List.mem_of_getElem? (i := 368) (by decide +kernel), List.mem_of_getElem? (i := 369) (by decide +kernel)⟩
theorem lw_p5 : lw_okq (⟨"FrameWriter$Sizes", "come", "(II)V"⟩, 5) := ⟨⟨by decide +kernel, by decide +kernel⟩, List.mem_of_getElem? (i := 94) (by decide +kernel), List.mem_of_getElem? (i := 394) (by decide +kernel), List.mem_of_getElem? (i := 395) (by decide +kernel)⟩
theorem lw_p6 : lw_okq (⟨"FrameWriter$Sizes", "leave", "(I)V"⟩, 5) := ⟨⟨by decide +kernel, by decide +kernel⟩, List.mem_of_getElem? (i := 94) (by decide +kernel), List.mem_of_getElem? (i := 403) (by decide +kernel), List.mem_of_getElem? (i := 404) (by decide +kernel)⟩
theorem lw_p7 : lw_okq (⟨"FrameWriter$Sizes", "comesWith", "(II)Z"⟩, 5) := ⟨⟨by decide +kernel, by decide +kernel⟩, List.mem_of_getElem? (i := 94) (by decide +kernel), List.mem_of_getElem? (i := 407) (by decide +kernel), List.mem_of_getElem? (i := 408) (by decide +kernel)⟩
theorem lw_p8 : lw_okq (⟨"FrameWriter$Sizes", "seenAt", "(I)I"⟩, 5) := ⟨⟨by decide +kernel, by decide +kernel⟩, List.mem_of_getElem? (i := 94) (by decide +kernel), List.mem_of_getElem? (i := 411) (by decide +kernel), List.mem_of_getElem? (i := 412) (by decide +kernel)⟩
theorem lw_p9 : lw_okq (⟨"FrameWriter$Sizes", "fits", "(II)Z"⟩, 5) := ⟨⟨by decide +kernel, by decide +kernel⟩, List.mem_of_getElem? (i := 94) (by decide +kernel), List.mem_of_getElem? (i := 415) (by decide +kernel), List.mem_of_getElem? (i := 416) (by decide +kernel)⟩
theorem lw_p10 : lw_okq (⟨"FrameWriter$Sizes", "goOn", "(II)V"⟩, 5) := ⟨⟨by decide +kernel, by decide +kernel⟩, List.mem_of_getElem? (i := 94) (by decide +kernel), List.mem_of_getElem? (i := 434) (by decide +kernel), List.mem_of_getElem? (i := 435) (by decide +kernel)⟩
theorem lw_p11 : lw_okq (⟨"FrameWriter$Code", "hasHandler", "(I)Z"⟩, 8) := ⟨⟨by decide +kernel, by decide +kernel⟩, List.mem_of_getElem? (i := 50) (by decide +kernel), List.mem_of_getElem? (i := 459) (by decide +kernel), List.mem_of_getElem? (i := 460) (by decide +kernel)⟩
theorem lw_p12 : lw_okq (⟨"FrameWriter$Sizes", "faultAt", "(I)I"⟩, 5) := ⟨⟨by decide +kernel, by decide +kernel⟩, List.mem_of_getElem? (i := 94) (by decide +kernel), List.mem_of_getElem? (i := 475) (by decide +kernel), List.mem_of_getElem? (i := 476) (by decide +kernel)⟩
theorem lw_p13 : lw_okq (⟨"FrameWriter$Sizes", "leadsOut", "(I)Z"⟩, 5) := ⟨⟨by decide +kernel, by decide +kernel⟩, List.mem_of_getElem? (i := 94) (by decide +kernel), List.mem_of_getElem? (i := 479) (by decide +kernel), List.mem_of_getElem? (i := 480) (by decide +kernel)⟩
theorem lw_p14 : lw_okq (⟨"FrameWriter$Sizes", "handlerLeadsOut", "(I)Z"⟩, 5) := ⟨⟨by decide +kernel, by decide +kernel⟩, List.mem_of_getElem? (i := 94) (by decide +kernel), List.mem_of_getElem? (i := 483) (by decide +kernel), List.mem_of_getElem? (i := 484) (by decide +kernel)⟩
theorem lw_p15 : lw_okq (⟨"FrameWriter$States", "meet", "(ILFrameWriter$Cells;)V"⟩, 8) := ⟨⟨by decide +kernel, by decide +kernel⟩, List.mem_of_getElem? (i := 129) (by decide +kernel), List.mem_of_getElem? (i := 501) (by decide +kernel), List.mem_of_getElem? (i := 502) (by decide +kernel)⟩
def lw_privs_1 : List (MethodName × Nat) := [(⟨"FrameWriter$Types", "share", "(III)V"⟩, 3), (⟨"FrameWriter$Types", "nearest", "(II)I"⟩, 3), (⟨"FrameWriter", "changed", "(I)I"⟩, 10), (⟨"FrameWriter$Cells", "breakLong", "(I)V"⟩, 2), (⟨"FrameWriter", "isNumberFor", "(II)Z"⟩, 10), (⟨"FrameWriter$Sizes", "come", "(II)V"⟩, 5), (⟨"FrameWriter$Sizes", "leave", "(I)V"⟩, 5), (⟨"FrameWriter$Sizes", "comesWith", "(II)Z"⟩, 5), (⟨"FrameWriter$Sizes", "seenAt", "(I)I"⟩, 5), (⟨"FrameWriter$Sizes", "fits", "(II)Z"⟩, 5), (⟨"FrameWriter$Sizes", "goOn", "(II)V"⟩, 5), (⟨"FrameWriter$Code", "hasHandler", "(I)Z"⟩, 8), (⟨"FrameWriter$Sizes", "faultAt", "(I)I"⟩, 5), (⟨"FrameWriter$Sizes", "leadsOut", "(I)Z"⟩, 5), (⟨"FrameWriter$Sizes", "handlerLeadsOut", "(I)Z"⟩, 5), (⟨"FrameWriter$States", "meet", "(ILFrameWriter$Cells;)V"⟩, 8)]
theorem lw_r1 : ∀ q ∈ lw_privs_1, lw_okq q := List.forall_mem_cons.mpr ⟨lw_p0, List.forall_mem_cons.mpr ⟨lw_p1, List.forall_mem_cons.mpr ⟨lw_p2, List.forall_mem_cons.mpr ⟨lw_p3, List.forall_mem_cons.mpr ⟨lw_p4, List.forall_mem_cons.mpr ⟨lw_p5, List.forall_mem_cons.mpr ⟨lw_p6, List.forall_mem_cons.mpr ⟨lw_p7, List.forall_mem_cons.mpr ⟨lw_p8, List.forall_mem_cons.mpr ⟨lw_p9, List.forall_mem_cons.mpr ⟨lw_p10, List.forall_mem_cons.mpr ⟨lw_p11, List.forall_mem_cons.mpr ⟨lw_p12, List.forall_mem_cons.mpr ⟨lw_p13, List.forall_mem_cons.mpr ⟨lw_p14, List.forall_mem_cons.mpr ⟨lw_p15, fun _ h => absurd h List.not_mem_nil⟩⟩⟩⟩⟩⟩⟩⟩⟩⟩⟩⟩⟩⟩⟩⟩
theorem lw_p16 : lw_okq (⟨"FrameWriter$States", "leave", "(I)V"⟩, 8) := ⟨⟨by decide +kernel, by decide +kernel⟩, List.mem_of_getElem? (i := 129) (by decide +kernel), List.mem_of_getElem? (i := 534) (by decide +kernel), List.mem_of_getElem? (i := 535) (by decide +kernel)⟩
theorem lw_p17 : lw_okq (⟨"FrameWriter$Frames", "markWhatIsMeantBy", "(I)V"⟩, 7) := ⟨⟨by decide +kernel, by decide +kernel⟩, List.mem_of_getElem? (i := 178) (by decide +kernel), List.mem_of_getElem? (i := 642) (by decide +kernel), List.mem_of_getElem? (i := 643) (by decide +kernel)⟩
theorem lw_p18 : lw_okq (⟨"FrameWriter$Frames", "mark", "(I)V"⟩, 7) := ⟨⟨by decide +kernel, by decide +kernel⟩, List.mem_of_getElem? (i := 178) (by decide +kernel), List.mem_of_getElem? (i := 648) (by decide +kernel), List.mem_of_getElem? (i := 649) (by decide +kernel)⟩
theorem lw_p19 : lw_okq (⟨"FrameWriter$Frames", "add", "(I)V"⟩, 7) := ⟨⟨by decide +kernel, by decide +kernel⟩, List.mem_of_getElem? (i := 178) (by decide +kernel), List.mem_of_getElem? (i := 656) (by decide +kernel), List.mem_of_getElem? (i := 657) (by decide +kernel)⟩
theorem lw_p20 : lw_okq (⟨"FrameWriter$Entries", "take", "(LFrameWriter$Cells;II)V"⟩, 2) := ⟨⟨by decide +kernel, by decide +kernel⟩, List.mem_of_getElem? (i := 214) (by decide +kernel), List.mem_of_getElem? (i := 671) (by decide +kernel), List.mem_of_getElem? (i := 672) (by decide +kernel)⟩
theorem lw_p21 : lw_okq (⟨"FrameWriter$Writing", "writeOne", "(I)V"⟩, 5) := ⟨⟨by decide +kernel, by decide +kernel⟩, List.mem_of_getElem? (i := 208) (by decide +kernel), List.mem_of_getElem? (i := 694) (by decide +kernel), List.mem_of_getElem? (i := 695) (by decide +kernel)⟩
theorem lw_p22 : lw_okq (⟨"FrameWriter$Writing", "add", "(I)V"⟩, 5) := ⟨⟨by decide +kernel, by decide +kernel⟩, List.mem_of_getElem? (i := 208) (by decide +kernel), List.mem_of_getElem? (i := 706) (by decide +kernel), List.mem_of_getElem? (i := 707) (by decide +kernel)⟩
theorem lw_p23 : lw_okq (⟨"FrameWriter$Writing", "addEntries", "(LFrameWriter$Entries;I)V"⟩, 5) := ⟨⟨by decide +kernel, by decide +kernel⟩, List.mem_of_getElem? (i := 208) (by decide +kernel), List.mem_of_getElem? (i := 710) (by decide +kernel), List.mem_of_getElem? (i := 711) (by decide +kernel)⟩
theorem lw_p24 : lw_okq (⟨"FrameWriter$Writing", "addKind", "(I)V"⟩, 5) := ⟨⟨by decide +kernel, by decide +kernel⟩, List.mem_of_getElem? (i := 208) (by decide +kernel), List.mem_of_getElem? (i := 715) (by decide +kernel), List.mem_of_getElem? (i := 716) (by decide +kernel)⟩
theorem lw_p25 : lw_okq (⟨"FrameWriter$Judge", "takesFrame", "(I)Z"⟩, 7) := ⟨⟨by decide +kernel, by decide +kernel⟩, List.mem_of_getElem? (i := 243) (by decide +kernel), List.mem_of_getElem? (i := 767) (by decide +kernel), List.mem_of_getElem? (i := 768) (by decide +kernel)⟩
theorem lw_p26 : lw_okq (⟨"FrameWriter$Judge", "handlersFit", "(I)Z"⟩, 7) := ⟨⟨by decide +kernel, by decide +kernel⟩, List.mem_of_getElem? (i := 243) (by decide +kernel), List.mem_of_getElem? (i := 781) (by decide +kernel), List.mem_of_getElem? (i := 782) (by decide +kernel)⟩
theorem lw_p27 : lw_okq (⟨"FrameWriter$Judge", "fitsFrameOf", "(ILFrameWriter$Cells;)Z"⟩, 7) := ⟨⟨by decide +kernel, by decide +kernel⟩, List.mem_of_getElem? (i := 243) (by decide +kernel), List.mem_of_getElem? (i := 790) (by decide +kernel), List.mem_of_getElem? (i := 791) (by decide +kernel)⟩
theorem lw_p28 : lw_okq (⟨"FrameWriter$Judge", "passes", "(I)Z"⟩, 7) := ⟨⟨by decide +kernel, by decide +kernel⟩, List.mem_of_getElem? (i := 243) (by decide +kernel), List.mem_of_getElem? (i := 794) (by decide +kernel), List.mem_of_getElem? (i := 795) (by decide +kernel)⟩
theorem lw_p29 : lw_okq (⟨"java/lang/Throwable", "fillInStackTrace", "(I)Ljava/lang/Throwable;"⟩, 6) := ⟨⟨by decide +kernel, by decide +kernel⟩, List.mem_of_getElem? (i := 864) (by decide +kernel), List.mem_of_getElem? (i := 862) (by decide +kernel), List.mem_of_getElem? (i := 863) (by decide +kernel)⟩
theorem lw_p30 : lw_okq (⟨"FrameWriterModel", "isKind", "(I)Z"⟩, 30) := ⟨⟨by decide +kernel, by decide +kernel⟩, List.mem_of_getElem? (i := 926) (by decide +kernel), List.mem_of_getElem? (i := 1031) (by decide +kernel), List.mem_of_getElem? (i := 1032) (by decide +kernel)⟩
theorem lw_p31 : lw_okq (⟨"FrameWriterModel", "isType", "(I)Z"⟩, 30) := ⟨⟨by decide +kernel, by decide +kernel⟩, List.mem_of_getElem? (i := 926) (by decide +kernel), List.mem_of_getElem? (i := 1038) (by decide +kernel), List.mem_of_getElem? (i := 1039) (by decide +kernel)⟩
def lw_privs_2 : List (MethodName × Nat) := [(⟨"FrameWriter$States", "leave", "(I)V"⟩, 8), (⟨"FrameWriter$Frames", "markWhatIsMeantBy", "(I)V"⟩, 7), (⟨"FrameWriter$Frames", "mark", "(I)V"⟩, 7), (⟨"FrameWriter$Frames", "add", "(I)V"⟩, 7), (⟨"FrameWriter$Entries", "take", "(LFrameWriter$Cells;II)V"⟩, 2), (⟨"FrameWriter$Writing", "writeOne", "(I)V"⟩, 5), (⟨"FrameWriter$Writing", "add", "(I)V"⟩, 5), (⟨"FrameWriter$Writing", "addEntries", "(LFrameWriter$Entries;I)V"⟩, 5), (⟨"FrameWriter$Writing", "addKind", "(I)V"⟩, 5), (⟨"FrameWriter$Judge", "takesFrame", "(I)Z"⟩, 7), (⟨"FrameWriter$Judge", "handlersFit", "(I)Z"⟩, 7), (⟨"FrameWriter$Judge", "fitsFrameOf", "(ILFrameWriter$Cells;)Z"⟩, 7), (⟨"FrameWriter$Judge", "passes", "(I)Z"⟩, 7), (⟨"java/lang/Throwable", "fillInStackTrace", "(I)Ljava/lang/Throwable;"⟩, 6), (⟨"FrameWriterModel", "isKind", "(I)Z"⟩, 30), (⟨"FrameWriterModel", "isType", "(I)Z"⟩, 30)]
theorem lw_r2 : ∀ q ∈ lw_privs_2, lw_okq q := List.forall_mem_cons.mpr ⟨lw_p16, List.forall_mem_cons.mpr ⟨lw_p17, List.forall_mem_cons.mpr ⟨lw_p18, List.forall_mem_cons.mpr ⟨lw_p19, List.forall_mem_cons.mpr ⟨lw_p20, List.forall_mem_cons.mpr ⟨lw_p21, List.forall_mem_cons.mpr ⟨lw_p22, List.forall_mem_cons.mpr ⟨lw_p23, List.forall_mem_cons.mpr ⟨lw_p24, List.forall_mem_cons.mpr ⟨lw_p25, List.forall_mem_cons.mpr ⟨lw_p26, List.forall_mem_cons.mpr ⟨lw_p27, List.forall_mem_cons.mpr ⟨lw_p28, List.forall_mem_cons.mpr ⟨lw_p29, List.forall_mem_cons.mpr ⟨lw_p30, List.forall_mem_cons.mpr ⟨lw_p31, fun _ h => absurd h List.not_mem_nil⟩⟩⟩⟩⟩⟩⟩⟩⟩⟩⟩⟩⟩⟩⟩⟩
theorem lw_p32 : lw_okq (⟨"FrameWriterModel", "join", "(II)I"⟩, 30) := ⟨⟨by decide +kernel, by decide +kernel⟩, List.mem_of_getElem? (i := 926) (by decide +kernel), List.mem_of_getElem? (i := 1042) (by decide +kernel), List.mem_of_getElem? (i := 1043) (by decide +kernel)⟩
theorem lw_p33 : lw_okq (⟨"FrameWriterModel", "comes", "(II)Z"⟩, 30) := ⟨⟨by decide +kernel, by decide +kernel⟩, List.mem_of_getElem? (i := 926) (by decide +kernel), List.mem_of_getElem? (i := 1052) (by decide +kernel), List.mem_of_getElem? (i := 1053) (by decide +kernel)⟩
theorem lw_p34 : lw_okq (⟨"FrameWriterModel", "goesFor", "(II)Z"⟩, 30) := ⟨⟨by decide +kernel, by decide +kernel⟩, List.mem_of_getElem? (i := 926) (by decide +kernel), List.mem_of_getElem? (i := 1060) (by decide +kernel), List.mem_of_getElem? (i := 1061) (by decide +kernel)⟩
theorem lw_p35 : lw_okq (⟨"FrameWriterModel", "ends", "(I)I"⟩, 30) := ⟨⟨by decide +kernel, by decide +kernel⟩, List.mem_of_getElem? (i := 926) (by decide +kernel), List.mem_of_getElem? (i := 1068) (by decide +kernel), List.mem_of_getElem? (i := 1069) (by decide +kernel)⟩
theorem lw_p36 : lw_okq (⟨"FrameWriterModel", "walk", "()Z"⟩, 30) := ⟨⟨by decide +kernel, by decide +kernel⟩, List.mem_of_getElem? (i := 926) (by decide +kernel), List.mem_of_getElem? (i := 1094) (by decide +kernel), List.mem_of_getElem? (i := 1095) (by decide +kernel)⟩
theorem lw_p37 : lw_okq (⟨"FrameWriterModel", "goAlong", "(II)V"⟩, 30) := ⟨⟨by decide +kernel, by decide +kernel⟩, List.mem_of_getElem? (i := 926) (by decide +kernel), List.mem_of_getElem? (i := 1098) (by decide +kernel), List.mem_of_getElem? (i := 1099) (by decide +kernel)⟩
theorem lw_p38 : lw_okq (⟨"FrameWriterModel", "come", "(III)V"⟩, 30) := ⟨⟨by decide +kernel, by decide +kernel⟩, List.mem_of_getElem? (i := 926) (by decide +kernel), List.mem_of_getElem? (i := 1102) (by decide +kernel), List.mem_of_getElem? (i := 1103) (by decide +kernel)⟩
theorem lw_p39 : lw_okq (⟨"FrameWriterModel", "faultOf", "(I)I"⟩, 30) := ⟨⟨by decide +kernel, by decide +kernel⟩, List.mem_of_getElem? (i := 926) (by decide +kernel), List.mem_of_getElem? (i := 1121) (by decide +kernel), List.mem_of_getElem? (i := 1122) (by decide +kernel)⟩
theorem lw_p40 : lw_okq (⟨"FrameWriterModel", "settle", "()V"⟩, 30) := ⟨⟨by decide +kernel, by decide +kernel⟩, List.mem_of_getElem? (i := 926) (by decide +kernel), List.mem_of_getElem? (i := 1125) (by decide +kernel), List.mem_of_getElem? (i := 1126) (by decide +kernel)⟩
theorem lw_p41 : lw_okq (⟨"FrameWriterModel", "joins", "(I)Z"⟩, 30) := ⟨⟨by decide +kernel, by decide +kernel⟩, List.mem_of_getElem? (i := 926) (by decide +kernel), List.mem_of_getElem? (i := 1129) (by decide +kernel), List.mem_of_getElem? (i := 1130) (by decide +kernel)⟩
theorem lw_p42 : lw_okq (⟨"FrameWriterModel", "bring", "(I)Z"⟩, 30) := ⟨⟨by decide +kernel, by decide +kernel⟩, List.mem_of_getElem? (i := 926) (by decide +kernel), List.mem_of_getElem? (i := 1133) (by decide +kernel), List.mem_of_getElem? (i := 1134) (by decide +kernel)⟩
theorem lw_p43 : lw_okq (⟨"FrameWriterModel", "highOf", "(I)I"⟩, 30) := ⟨⟨by decide +kernel, by decide +kernel⟩, List.mem_of_getElem? (i := 926) (by decide +kernel), List.mem_of_getElem? (i := 1137) (by decide +kernel), List.mem_of_getElem? (i := 1138) (by decide +kernel)⟩
theorem lw_p44 : lw_okq (⟨"FrameWriterModel", "takeUp", "([III)V"⟩, 30) := ⟨⟨by decide +kernel, by decide +kernel⟩, List.mem_of_getElem? (i := 926) (by decide +kernel), List.mem_of_getElem? (i := 1141) (by decide +kernel), List.mem_of_getElem? (i := 1142) (by decide +kernel)⟩
theorem lw_p45 : lw_okq (⟨"FrameWriterModel", "push", "(I)V"⟩, 30) := ⟨⟨by decide +kernel, by decide +kernel⟩, List.mem_of_getElem? (i := 926) (by decide +kernel), List.mem_of_getElem? (i := 1145) (by decide +kernel), List.mem_of_getElem? (i := 1146) (by decide +kernel)⟩
theorem lw_p46 : lw_okq (⟨"FrameWriterModel", "isWanted", "(I)Z"⟩, 30) := ⟨⟨by decide +kernel, by decide +kernel⟩, List.mem_of_getElem? (i := 926) (by decide +kernel), List.mem_of_getElem? (i := 1149) (by decide +kernel), List.mem_of_getElem? (i := 1150) (by decide +kernel)⟩
theorem lw_p47 : lw_okq (⟨"FrameWriterModel", "top", "(I)I"⟩, 30) := ⟨⟨by decide +kernel, by decide +kernel⟩, List.mem_of_getElem? (i := 926) (by decide +kernel), List.mem_of_getElem? (i := 1156) (by decide +kernel), List.mem_of_getElem? (i := 1157) (by decide +kernel)⟩
def lw_privs_3 : List (MethodName × Nat) := [(⟨"FrameWriterModel", "join", "(II)I"⟩, 30), (⟨"FrameWriterModel", "comes", "(II)Z"⟩, 30), (⟨"FrameWriterModel", "goesFor", "(II)Z"⟩, 30), (⟨"FrameWriterModel", "ends", "(I)I"⟩, 30), (⟨"FrameWriterModel", "walk", "()Z"⟩, 30), (⟨"FrameWriterModel", "goAlong", "(II)V"⟩, 30), (⟨"FrameWriterModel", "come", "(III)V"⟩, 30), (⟨"FrameWriterModel", "faultOf", "(I)I"⟩, 30), (⟨"FrameWriterModel", "settle", "()V"⟩, 30), (⟨"FrameWriterModel", "joins", "(I)Z"⟩, 30), (⟨"FrameWriterModel", "bring", "(I)Z"⟩, 30), (⟨"FrameWriterModel", "highOf", "(I)I"⟩, 30), (⟨"FrameWriterModel", "takeUp", "([III)V"⟩, 30), (⟨"FrameWriterModel", "push", "(I)V"⟩, 30), (⟨"FrameWriterModel", "isWanted", "(I)Z"⟩, 30), (⟨"FrameWriterModel", "top", "(I)I"⟩, 30)]
theorem lw_r3 : ∀ q ∈ lw_privs_3, lw_okq q := List.forall_mem_cons.mpr ⟨lw_p32, List.forall_mem_cons.mpr ⟨lw_p33, List.forall_mem_cons.mpr ⟨lw_p34, List.forall_mem_cons.mpr ⟨lw_p35, List.forall_mem_cons.mpr ⟨lw_p36, List.forall_mem_cons.mpr ⟨lw_p37, List.forall_mem_cons.mpr ⟨lw_p38, List.forall_mem_cons.mpr ⟨lw_p39, List.forall_mem_cons.mpr ⟨lw_p40, List.forall_mem_cons.mpr ⟨lw_p41, List.forall_mem_cons.mpr ⟨lw_p42, List.forall_mem_cons.mpr ⟨lw_p43, List.forall_mem_cons.mpr ⟨lw_p44, List.forall_mem_cons.mpr ⟨lw_p45, List.forall_mem_cons.mpr ⟨lw_p46, List.forall_mem_cons.mpr ⟨lw_p47, fun _ h => absurd h List.not_mem_nil⟩⟩⟩⟩⟩⟩⟩⟩⟩⟩⟩⟩⟩⟩⟩⟩
theorem lw_p48 : lw_okq (⟨"FrameWriterModel", "isLongOnTop", "(I)Z"⟩, 30) := ⟨⟨by decide +kernel, by decide +kernel⟩, List.mem_of_getElem? (i := 926) (by decide +kernel), List.mem_of_getElem? (i := 1160) (by decide +kernel), List.mem_of_getElem? (i := 1161) (by decide +kernel)⟩
theorem lw_p49 : lw_okq (⟨"FrameWriterModel", "work", "(I)V"⟩, 30) := ⟨⟨by decide +kernel, by decide +kernel⟩, List.mem_of_getElem? (i := 926) (by decide +kernel), List.mem_of_getElem? (i := 1164) (by decide +kernel), List.mem_of_getElem? (i := 1165) (by decide +kernel)⟩
theorem lw_p50 : lw_okq (⟨"FrameWriterModel", "becomes", "(II)V"⟩, 30) := ⟨⟨by decide +kernel, by decide +kernel⟩, List.mem_of_getElem? (i := 926) (by decide +kernel), List.mem_of_getElem? (i := 1168) (by decide +kernel), List.mem_of_getElem? (i := 1169) (by decide +kernel)⟩
theorem lw_p51 : lw_okq (⟨"FrameWriterModel", "pushLong", "()V"⟩, 30) := ⟨⟨by decide +kernel, by decide +kernel⟩, List.mem_of_getElem? (i := 926) (by decide +kernel), List.mem_of_getElem? (i := 1172) (by decide +kernel), List.mem_of_getElem? (i := 1173) (by decide +kernel)⟩
theorem lw_p52 : lw_okq (⟨"FrameWriterModel", "frame", "()V"⟩, 30) := ⟨⟨by decide +kernel, by decide +kernel⟩, List.mem_of_getElem? (i := 926) (by decide +kernel), List.mem_of_getElem? (i := 1176) (by decide +kernel), List.mem_of_getElem? (i := 1177) (by decide +kernel)⟩
theorem lw_p53 : lw_okq (⟨"FrameWriterModel", "list", "([II)V"⟩, 30) := ⟨⟨by decide +kernel, by decide +kernel⟩, List.mem_of_getElem? (i := 926) (by decide +kernel), List.mem_of_getElem? (i := 1180) (by decide +kernel), List.mem_of_getElem? (i := 1181) (by decide +kernel)⟩
theorem lw_p54 : lw_okq (⟨"FrameWriterModel", "keepEntries", "()V"⟩, 30) := ⟨⟨by decide +kernel, by decide +kernel⟩, List.mem_of_getElem? (i := 926) (by decide +kernel), List.mem_of_getElem? (i := 1184) (by decide +kernel), List.mem_of_getElem? (i := 1185) (by decide +kernel)⟩
theorem lw_p55 : lw_okq (⟨"FrameWriterModel", "isFrame", "(I)Z"⟩, 30) := ⟨⟨by decide +kernel, by decide +kernel⟩, List.mem_of_getElem? (i := 926) (by decide +kernel), List.mem_of_getElem? (i := 1188) (by decide +kernel), List.mem_of_getElem? (i := 1189) (by decide +kernel)⟩
theorem lw_p56 : lw_okq (⟨"FrameWriterModel", "write", "(II)V"⟩, 30) := ⟨⟨by decide +kernel, by decide +kernel⟩, List.mem_of_getElem? (i := 926) (by decide +kernel), List.mem_of_getElem? (i := 1192) (by decide +kernel), List.mem_of_getElem? (i := 1193) (by decide +kernel)⟩
theorem lw_p57 : lw_okq (⟨"FrameWriterModel", "pileMany", "(II)I"⟩, 30) := ⟨⟨by decide +kernel, by decide +kernel⟩, List.mem_of_getElem? (i := 926) (by decide +kernel), List.mem_of_getElem? (i := 1196) (by decide +kernel), List.mem_of_getElem? (i := 1197) (by decide +kernel)⟩
theorem lw_p58 : lw_okq (⟨"FrameWriterModel", "put", "(I)V"⟩, 30) := ⟨⟨by decide +kernel, by decide +kernel⟩, List.mem_of_getElem? (i := 926) (by decide +kernel), List.mem_of_getElem? (i := 1200) (by decide +kernel), List.mem_of_getElem? (i := 1201) (by decide +kernel)⟩
theorem lw_p59 : lw_okq (⟨"FrameWriterModel", "putPile", "(II)V"⟩, 30) := ⟨⟨by decide +kernel, by decide +kernel⟩, List.mem_of_getElem? (i := 926) (by decide +kernel), List.mem_of_getElem? (i := 1204) (by decide +kernel), List.mem_of_getElem? (i := 1205) (by decide +kernel)⟩
theorem lw_p60 : lw_okq (⟨"FrameWriterModel", "putEntry", "(I)V"⟩, 30) := ⟨⟨by decide +kernel, by decide +kernel⟩, List.mem_of_getElem? (i := 926) (by decide +kernel), List.mem_of_getElem? (i := 1208) (by decide +kernel), List.mem_of_getElem? (i := 1209) (by decide +kernel)⟩
theorem lw_p61 : lw_okq (⟨"FrameWriterModel", "putEntries", "(I)V"⟩, 30) := ⟨⟨by decide +kernel, by decide +kernel⟩, List.mem_of_getElem? (i := 926) (by decide +kernel), List.mem_of_getElem? (i := 1212) (by decide +kernel), List.mem_of_getElem? (i := 1213) (by decide +kernel)⟩
theorem lw_p62 : lw_okq (⟨"FrameWriterModel", "goFor", "(I)Z"⟩, 30) := ⟨⟨by decide +kernel, by decide +kernel⟩, List.mem_of_getElem? (i := 926) (by decide +kernel), List.mem_of_getElem? (i := 1244) (by decide +kernel), List.mem_of_getElem? (i := 1245) (by decide +kernel)⟩
theorem lw_p63 : lw_okq (⟨"FrameWriterModel", "handlersGo", "(I)Z"⟩, 30) := ⟨⟨by decide +kernel, by decide +kernel⟩, List.mem_of_getElem? (i := 926) (by decide +kernel), List.mem_of_getElem? (i := 1248) (by decide +kernel), List.mem_of_getElem? (i := 1249) (by decide +kernel)⟩
def lw_privs_4 : List (MethodName × Nat) := [(⟨"FrameWriterModel", "isLongOnTop", "(I)Z"⟩, 30), (⟨"FrameWriterModel", "work", "(I)V"⟩, 30), (⟨"FrameWriterModel", "becomes", "(II)V"⟩, 30), (⟨"FrameWriterModel", "pushLong", "()V"⟩, 30), (⟨"FrameWriterModel", "frame", "()V"⟩, 30), (⟨"FrameWriterModel", "list", "([II)V"⟩, 30), (⟨"FrameWriterModel", "keepEntries", "()V"⟩, 30), (⟨"FrameWriterModel", "isFrame", "(I)Z"⟩, 30), (⟨"FrameWriterModel", "write", "(II)V"⟩, 30), (⟨"FrameWriterModel", "pileMany", "(II)I"⟩, 30), (⟨"FrameWriterModel", "put", "(I)V"⟩, 30), (⟨"FrameWriterModel", "putPile", "(II)V"⟩, 30), (⟨"FrameWriterModel", "putEntry", "(I)V"⟩, 30), (⟨"FrameWriterModel", "putEntries", "(I)V"⟩, 30), (⟨"FrameWriterModel", "goFor", "(I)Z"⟩, 30), (⟨"FrameWriterModel", "handlersGo", "(I)Z"⟩, 30)]
theorem lw_r4 : ∀ q ∈ lw_privs_4, lw_okq q := List.forall_mem_cons.mpr ⟨lw_p48, List.forall_mem_cons.mpr ⟨lw_p49, List.forall_mem_cons.mpr ⟨lw_p50, List.forall_mem_cons.mpr ⟨lw_p51, List.forall_mem_cons.mpr ⟨lw_p52, List.forall_mem_cons.mpr ⟨lw_p53, List.forall_mem_cons.mpr ⟨lw_p54, List.forall_mem_cons.mpr ⟨lw_p55, List.forall_mem_cons.mpr ⟨lw_p56, List.forall_mem_cons.mpr ⟨lw_p57, List.forall_mem_cons.mpr ⟨lw_p58, List.forall_mem_cons.mpr ⟨lw_p59, List.forall_mem_cons.mpr ⟨lw_p60, List.forall_mem_cons.mpr ⟨lw_p61, List.forall_mem_cons.mpr ⟨lw_p62, List.forall_mem_cons.mpr ⟨lw_p63, fun _ h => absurd h List.not_mem_nil⟩⟩⟩⟩⟩⟩⟩⟩⟩⟩⟩⟩⟩⟩⟩⟩
def lw_privs : List (MethodName × Nat) := lw_privs_1 ++ (lw_privs_2 ++ (lw_privs_3 ++ (lw_privs_4)))
def lw_tbl : List Cond := k2_sels lw_privs ++ tables_1
theorem lw_privs_ok : ∀ q ∈ lw_privs, lw_okq q := by
  show ∀ q ∈ lw_privs_1 ++ (lw_privs_2 ++ (lw_privs_3 ++ (lw_privs_4))), lw_okq q
  exact List.forall_mem_append.mpr ⟨lw_r1, List.forall_mem_append.mpr ⟨lw_r2, List.forall_mem_append.mpr ⟨lw_r3, lw_r4⟩⟩⟩
def RX0 : String := "FrameWriter$Cells"
def TX0 : u_T := fun k => match k with
  | 0 => ("FrameWriter$Cells", "kinds", "[I", true)
  | _ => ("FrameWriter$Cells", "height", "I", false)
def tyX0 : Nat → FieldType := fun k => match k with
  | 0 => .array .int
  | _ => .int
abbrev wsX00 : List Cond := u_ws RX0 TX0 2
theorem nmX0 : ∀ a, a < 2 → ∀ b, b < 2 → a ≠ b → (TX0 a).2.1 ≠ (TX0 b).2.1 := by decide +kernel
theorem tyX0_ok : ∀ k, k < 2 → parseFieldDescriptor (TX0 k).2.2.1 = some (tyX0 k) := by decide +kernel
abbrev cX0_init : ByteArray := prog_2_method_1_code
def yX0_init : MethodName := ⟨RX0, "<init>", "()V"⟩
abbrev cX0_height : ByteArray := prog_2_method_2_code
def yX0_height : MethodName := ⟨RX0, "height", "()I"⟩
abbrev cX0_holds : ByteArray := prog_2_method_3_code
def yX0_holds : MethodName := ⟨RX0, "holds", "(I)Z"⟩
abbrev cX0_kindAt : ByteArray := prog_2_method_4_code
def yX0_kindAt : MethodName := ⟨RX0, "kindAt", "(I)I"⟩
abbrev cX0_put : ByteArray := prog_2_method_5_code
def yX0_put : MethodName := ⟨RX0, "put", "(II)V"⟩
abbrev cX0_fromTop : ByteArray := prog_2_method_6_code
def yX0_fromTop : MethodName := ⟨RX0, "fromTop", "(I)I"⟩
abbrev cX0_push : ByteArray := prog_2_method_7_code
def yX0_push : MethodName := ⟨RX0, "push", "(I)V"⟩
abbrev cX0_pushLong : ByteArray := prog_2_method_8_code
def yX0_pushLong : MethodName := ⟨RX0, "pushLong", "()V"⟩
abbrev cX0_drop : ByteArray := prog_2_method_9_code
def yX0_drop : MethodName := ⟨RX0, "drop", "(I)V"⟩
abbrev cX0_store : ByteArray := prog_2_method_10_code
def yX0_store : MethodName := ⟨RX0, "store", "(II)V"⟩
abbrev cX0_storeLong : ByteArray := prog_2_method_11_code
def yX0_storeLong : MethodName := ⟨RX0, "storeLong", "(I)V"⟩
abbrev cX0_replaceAll : ByteArray := prog_2_method_12_code
def yX0_replaceAll : MethodName := ⟨RX0, "replaceAll", "(II)V"⟩
abbrev cX0_becomeTops : ByteArray := prog_2_method_13_code
def yX0_becomeTops : MethodName := ⟨RX0, "becomeTops", "(I)V"⟩
abbrev cX0_becomeLike : ByteArray := prog_2_method_14_code
def yX0_becomeLike : MethodName := ⟨RX0, "becomeLike", "(LFrameWriter$Cells;)V"⟩
abbrev cX0_becomeCaught : ByteArray := prog_2_method_15_code
def yX0_becomeCaught : MethodName := ⟨RX0, "becomeCaught", "(LFrameWriter$Cells;I)V"⟩
abbrev cX0_joinWith : ByteArray := prog_2_method_16_code
def yX0_joinWith : MethodName := ⟨RX0, "joinWith", "(LFrameWriter$Cells;LFrameWriter$Types;)Z"⟩
abbrev cX0_allStandFor : ByteArray := prog_2_method_17_code
def yX0_allStandFor : MethodName := ⟨RX0, "allStandFor", "(LFrameWriter$Cells;LFrameWriter$Types;)Z"⟩
abbrev cX0_breakLong : ByteArray := prog_2_method_18_code
def yX0_breakLong : MethodName := ⟨RX0, "breakLong", "(I)V"⟩
def RX1 : String := "FrameWriter$Code"
def TX1 : u_T := fun k => match k with
  | 0 => ("FrameWriter$Code", "ops", "[I", true)
  | 1 => ("FrameWriter$Code", "numbers", "[I", true)
  | 2 => ("FrameWriter$Code", "size", "I", false)
  | 3 => ("FrameWriter$Code", "froms", "[I", true)
  | 4 => ("FrameWriter$Code", "tos", "[I", true)
  | 5 => ("FrameWriter$Code", "starts", "[I", true)
  | 6 => ("FrameWriter$Code", "caught", "[I", true)
  | _ => ("FrameWriter$Code", "handlers", "I", false)
def tyX1 : Nat → FieldType := fun k => match k with
  | 0 => .array .int
  | 1 => .array .int
  | 2 => .int
  | 3 => .array .int
  | 4 => .array .int
  | 5 => .array .int
  | 6 => .array .int
  | _ => .int
abbrev wsX10 : List Cond := u_ws RX1 TX1 8
theorem nmX1 : ∀ a, a < 8 → ∀ b, b < 8 → a ≠ b → (TX1 a).2.1 ≠ (TX1 b).2.1 := by decide +kernel
theorem tyX1_ok : ∀ k, k < 8 → parseFieldDescriptor (TX1 k).2.2.1 = some (tyX1 k) := by decide +kernel
abbrev cX1_init : ByteArray := prog_3_method_1_code
def yX1_init : MethodName := ⟨RX1, "<init>", "()V"⟩
abbrev cX1_size : ByteArray := prog_3_method_2_code
def yX1_size : MethodName := ⟨RX1, "size", "()I"⟩
abbrev cX1_handlers : ByteArray := prog_3_method_3_code
def yX1_handlers : MethodName := ⟨RX1, "handlers", "()I"⟩
abbrev cX1_has : ByteArray := prog_3_method_4_code
def yX1_has : MethodName := ⟨RX1, "has", "(I)Z"⟩
abbrev cX1_add : ByteArray := prog_3_method_5_code
def yX1_add : MethodName := ⟨RX1, "add", "(II)I"⟩
abbrev cX1_addHandler : ByteArray := prog_3_method_6_code
def yX1_addHandler : MethodName := ⟨RX1, "addHandler", "(IIII)I"⟩
abbrev cX1_opAt : ByteArray := prog_3_method_7_code
def yX1_opAt : MethodName := ⟨RX1, "opAt", "(I)I"⟩
abbrev cX1_numberAt : ByteArray := prog_3_method_8_code
def yX1_numberAt : MethodName := ⟨RX1, "numberAt", "(I)I"⟩
abbrev cX1_goesOn : ByteArray := prog_3_method_9_code
def yX1_goesOn : MethodName := ⟨RX1, "goesOn", "(I)Z"⟩
abbrev cX1_jumps : ByteArray := prog_3_method_10_code
def yX1_jumps : MethodName := ⟨RX1, "jumps", "(I)Z"⟩
abbrev cX1_covers : ByteArray := prog_3_method_11_code
def yX1_covers : MethodName := ⟨RX1, "covers", "(II)Z"⟩
abbrev cX1_startOf : ByteArray := prog_3_method_12_code
def yX1_startOf : MethodName := ⟨RX1, "startOf", "(I)I"⟩
abbrev cX1_thingOf : ByteArray := prog_3_method_13_code
def yX1_thingOf : MethodName := ⟨RX1, "thingOf", "(I)I"⟩
abbrev cX1_hasHandler : ByteArray := prog_3_method_14_code
def yX1_hasHandler : MethodName := ⟨RX1, "hasHandler", "(I)Z"⟩
def RX2 : String := "FrameWriter$Entries"
def TX2 : u_T := fun k => match k with
  | 0 => ("FrameWriter$Entries", "kinds", "[I", true)
  | _ => ("FrameWriter$Entries", "count", "I", false)
def tyX2 : Nat → FieldType := fun k => match k with
  | 0 => .array .int
  | _ => .int
abbrev wsX20 : List Cond := u_ws RX2 TX2 2
theorem nmX2 : ∀ a, a < 2 → ∀ b, b < 2 → a ≠ b → (TX2 a).2.1 ≠ (TX2 b).2.1 := by decide +kernel
theorem tyX2_ok : ∀ k, k < 2 → parseFieldDescriptor (TX2 k).2.2.1 = some (tyX2 k) := by decide +kernel
abbrev cX2_init : ByteArray := prog_4_method_1_code
def yX2_init : MethodName := ⟨RX2, "<init>", "()V"⟩
abbrev cX2_count : ByteArray := prog_4_method_2_code
def yX2_count : MethodName := ⟨RX2, "count", "()I"⟩
abbrev cX2_kindAt : ByteArray := prog_4_method_3_code
def yX2_kindAt : MethodName := ⟨RX2, "kindAt", "(I)I"⟩
abbrev cX2_takeLocals : ByteArray := prog_4_method_4_code
def yX2_takeLocals : MethodName := ⟨RX2, "takeLocals", "(LFrameWriter$Cells;)V"⟩
abbrev cX2_takePile : ByteArray := prog_4_method_5_code
def yX2_takePile : MethodName := ⟨RX2, "takePile", "(LFrameWriter$Cells;)V"⟩
abbrev cX2_beginsAlike : ByteArray := prog_4_method_6_code
def yX2_beginsAlike : MethodName := ⟨RX2, "beginsAlike", "(LFrameWriter$Entries;)Z"⟩
abbrev cX2_take : ByteArray := prog_4_method_7_code
def yX2_take : MethodName := ⟨RX2, "take", "(LFrameWriter$Cells;II)V"⟩
def RX3 : String := "FrameWriter$Frames"
def TX3 : u_T := fun k => match k with
  | 0 => ("FrameWriter$Frames", "code", "LFrameWriter$Code;", true)
  | 1 => ("FrameWriter$Frames", "states", "LFrameWriter$States;", true)
  | 2 => ("FrameWriter$Frames", "instructions", "[I", true)
  | 3 => ("FrameWriter$Frames", "numbers", "[I", true)
  | 4 => ("FrameWriter$Frames", "meant", "[Z", true)
  | 5 => ("FrameWriter$Frames", "given", "LFrameWriter$Table;", true)
  | _ => ("FrameWriter$Frames", "count", "I", false)
def tyX3 : Nat → FieldType := fun k => match k with
  | 0 => .object "FrameWriter$Code"
  | 1 => .object "FrameWriter$States"
  | 2 => .array .int
  | 3 => .array .int
  | 4 => .array .boolean
  | 5 => .object "FrameWriter$Table"
  | _ => .int
abbrev wsX30 : List Cond := u_ws RX3 TX3 7
theorem nmX3 : ∀ a, a < 7 → ∀ b, b < 7 → a ≠ b → (TX3 a).2.1 ≠ (TX3 b).2.1 := by decide +kernel
theorem tyX3_ok : ∀ k, k < 7 → parseFieldDescriptor (TX3 k).2.2.1 = some (tyX3 k) := by decide +kernel
abbrev cX3_init : ByteArray := prog_5_method_1_code
def yX3_init : MethodName := ⟨RX3, "<init>", "(LFrameWriter$Code;LFrameWriter$States;)V"⟩
abbrev cX3_count : ByteArray := prog_5_method_2_code
def yX3_count : MethodName := ⟨RX3, "count", "()I"⟩
abbrev cX3_instructionOf : ByteArray := prog_5_method_3_code
def yX3_instructionOf : MethodName := ⟨RX3, "instructionOf", "(I)I"⟩
abbrev cX3_given : ByteArray := prog_5_method_4_code
def yX3_given : MethodName := ⟨RX3, "given", "(I)LFrameWriter$Cells;"⟩
abbrev cX3_numberAt : ByteArray := prog_5_method_5_code
def yX3_numberAt : MethodName := ⟨RX3, "numberAt", "(I)I"⟩
abbrev cX3_gather : ByteArray := prog_5_method_6_code
def yX3_gather : MethodName := ⟨RX3, "gather", "()V"⟩
abbrev cX3_markWhatIsMeantBy : ByteArray := prog_5_method_7_code
def yX3_markWhatIsMeantBy : MethodName := ⟨RX3, "markWhatIsMeantBy", "(I)V"⟩
abbrev cX3_mark : ByteArray := prog_5_method_8_code
def yX3_mark : MethodName := ⟨RX3, "mark", "(I)V"⟩
abbrev cX3_add : ByteArray := prog_5_method_9_code
def yX3_add : MethodName := ⟨RX3, "add", "(I)V"⟩
def RX4 : String := "FrameWriter$Judge"
def TX4 : u_T := fun k => match k with
  | 0 => ("FrameWriter$Judge", "types", "LFrameWriter$Types;", true)
  | 1 => ("FrameWriter$Judge", "code", "LFrameWriter$Code;", true)
  | 2 => ("FrameWriter$Judge", "machine", "LFrameWriter$Machine;", true)
  | 3 => ("FrameWriter$Judge", "frames", "LFrameWriter$Frames;", true)
  | 4 => ("FrameWriter$Judge", "hand", "LFrameWriter$Cells;", true)
  | 5 => ("FrameWriter$Judge", "caught", "LFrameWriter$Cells;", true)
  | _ => ("FrameWriter$Judge", "atHand", "Z", false)
def tyX4 : Nat → FieldType := fun k => match k with
  | 0 => .object "FrameWriter$Types"
  | 1 => .object "FrameWriter$Code"
  | 2 => .object "FrameWriter$Machine"
  | 3 => .object "FrameWriter$Frames"
  | 4 => .object "FrameWriter$Cells"
  | 5 => .object "FrameWriter$Cells"
  | _ => .boolean
abbrev wsX40 : List Cond := u_ws RX4 TX4 7
theorem nmX4 : ∀ a, a < 7 → ∀ b, b < 7 → a ≠ b → (TX4 a).2.1 ≠ (TX4 b).2.1 := by decide +kernel
theorem tyX4_ok : ∀ k, k < 7 → parseFieldDescriptor (TX4 k).2.2.1 = some (tyX4 k) := by decide +kernel
abbrev cX4_init : ByteArray := prog_6_method_1_code
def yX4_init : MethodName := ⟨RX4, "<init>", "(LFrameWriter$Types;LFrameWriter$Code;LFrameWriter$Machine;LFrameWriter$Frames;)V"⟩
abbrev cX4_firstWrong : ByteArray := prog_6_method_2_code
def yX4_firstWrong : MethodName := ⟨RX4, "firstWrong", "(LFrameWriter$Cells;)I"⟩
abbrev cX4_takesFrame : ByteArray := prog_6_method_3_code
def yX4_takesFrame : MethodName := ⟨RX4, "takesFrame", "(I)Z"⟩
abbrev cX4_passes : ByteArray := prog_6_method_4_code
def yX4_passes : MethodName := ⟨RX4, "passes", "(I)Z"⟩
abbrev cX4_handlersFit : ByteArray := prog_6_method_5_code
def yX4_handlersFit : MethodName := ⟨RX4, "handlersFit", "(I)Z"⟩
abbrev cX4_fitsFrameOf : ByteArray := prog_6_method_6_code
def yX4_fitsFrameOf : MethodName := ⟨RX4, "fitsFrameOf", "(ILFrameWriter$Cells;)Z"⟩
def RX5 : String := "FrameWriter$Machine"
def TX5 : u_T := fun k => match k with
  | 0 => ("FrameWriter$Machine", "types", "LFrameWriter$Types;", true)
  | _ => ("FrameWriter$Machine", "code", "LFrameWriter$Code;", true)
def tyX5 : Nat → FieldType := fun k => match k with
  | 0 => .object "FrameWriter$Types"
  | _ => .object "FrameWriter$Code"
abbrev wsX50 : List Cond := u_ws RX5 TX5 2
theorem nmX5 : ∀ a, a < 2 → ∀ b, b < 2 → a ≠ b → (TX5 a).2.1 ≠ (TX5 b).2.1 := by decide +kernel
theorem tyX5_ok : ∀ k, k < 2 → parseFieldDescriptor (TX5 k).2.2.1 = some (tyX5 k) := by decide +kernel
abbrev cX5_init : ByteArray := prog_7_method_1_code
def yX5_init : MethodName := ⟨RX5, "<init>", "(LFrameWriter$Types;LFrameWriter$Code;)V"⟩
abbrev cX5_suits : ByteArray := prog_7_method_2_code
def yX5_suits : MethodName := ⟨RX5, "suits", "(LFrameWriter$Cells;I)Z"⟩
abbrev cX5_pass : ByteArray := prog_7_method_3_code
def yX5_pass : MethodName := ⟨RX5, "pass", "(LFrameWriter$Cells;I)V"⟩
abbrev cX5_work : ByteArray := prog_7_method_4_code
def yX5_work : MethodName := ⟨RX5, "work", "(LFrameWriter$Cells;I)V"⟩
def RX6 : String := "FrameWriter$Sizes"
def TX6 : u_T := fun k => match k with
  | 0 => ("FrameWriter$Sizes", "code", "LFrameWriter$Code;", true)
  | 1 => ("FrameWriter$Sizes", "seen", "[I", true)
  | 2 => ("FrameWriter$Sizes", "waiting", "[Z", true)
  | 3 => ("FrameWriter$Sizes", "changed", "Z", false)
  | _ => ("FrameWriter$Sizes", "found", "I", false)
def tyX6 : Nat → FieldType := fun k => match k with
  | 0 => .object "FrameWriter$Code"
  | 1 => .array .int
  | 2 => .array .boolean
  | 3 => .boolean
  | _ => .int
abbrev wsX60 : List Cond := u_ws RX6 TX6 5
theorem nmX6 : ∀ a, a < 5 → ∀ b, b < 5 → a ≠ b → (TX6 a).2.1 ≠ (TX6 b).2.1 := by decide +kernel
theorem tyX6_ok : ∀ k, k < 5 → parseFieldDescriptor (TX6 k).2.2.1 = some (tyX6 k) := by decide +kernel
abbrev cX6_init : ByteArray := prog_8_method_1_code
def yX6_init : MethodName := ⟨RX6, "<init>", "(LFrameWriter$Code;)V"⟩
abbrev cX6_found : ByteArray := prog_8_method_2_code
def yX6_found : MethodName := ⟨RX6, "found", "()I"⟩
abbrev cX6_lookForFault : ByteArray := prog_8_method_3_code
def yX6_lookForFault : MethodName := ⟨RX6, "lookForFault", "()I"⟩
abbrev cX6_followWays : ByteArray := prog_8_method_4_code
def yX6_followWays : MethodName := ⟨RX6, "followWays", "()V"⟩
abbrev cX6_seenAt : ByteArray := prog_8_method_5_code
def yX6_seenAt : MethodName := ⟨RX6, "seenAt", "(I)I"⟩
abbrev cX6_come : ByteArray := prog_8_method_6_code
def yX6_come : MethodName := ⟨RX6, "come", "(II)V"⟩
abbrev cX6_leave : ByteArray := prog_8_method_7_code
def yX6_leave : MethodName := ⟨RX6, "leave", "(I)V"⟩
abbrev cX6_goOn : ByteArray := prog_8_method_8_code
def yX6_goOn : MethodName := ⟨RX6, "goOn", "(II)V"⟩
abbrev cX6_comesWith : ByteArray := prog_8_method_9_code
def yX6_comesWith : MethodName := ⟨RX6, "comesWith", "(II)Z"⟩
abbrev cX6_fits : ByteArray := prog_8_method_10_code
def yX6_fits : MethodName := ⟨RX6, "fits", "(II)Z"⟩
abbrev cX6_faultAt : ByteArray := prog_8_method_11_code
def yX6_faultAt : MethodName := ⟨RX6, "faultAt", "(I)I"⟩
abbrev cX6_leadsOut : ByteArray := prog_8_method_12_code
def yX6_leadsOut : MethodName := ⟨RX6, "leadsOut", "(I)Z"⟩
abbrev cX6_handlerLeadsOut : ByteArray := prog_8_method_13_code
def yX6_handlerLeadsOut : MethodName := ⟨RX6, "handlerLeadsOut", "(I)Z"⟩
def RX7 : String := "FrameWriter$States"
def TX7 : u_T := fun k => match k with
  | 0 => ("FrameWriter$States", "types", "LFrameWriter$Types;", true)
  | 1 => ("FrameWriter$States", "code", "LFrameWriter$Code;", true)
  | 2 => ("FrameWriter$States", "machine", "LFrameWriter$Machine;", true)
  | 3 => ("FrameWriter$States", "table", "LFrameWriter$Table;", true)
  | 4 => ("FrameWriter$States", "reached", "[Z", true)
  | 5 => ("FrameWriter$States", "waiting", "[Z", true)
  | 6 => ("FrameWriter$States", "hand", "LFrameWriter$Cells;", true)
  | _ => ("FrameWriter$States", "changed", "Z", false)
def tyX7 : Nat → FieldType := fun k => match k with
  | 0 => .object "FrameWriter$Types"
  | 1 => .object "FrameWriter$Code"
  | 2 => .object "FrameWriter$Machine"
  | 3 => .object "FrameWriter$Table"
  | 4 => .array .boolean
  | 5 => .array .boolean
  | 6 => .object "FrameWriter$Cells"
  | _ => .boolean
abbrev wsX70 : List Cond := u_ws RX7 TX7 8
theorem nmX7 : ∀ a, a < 8 → ∀ b, b < 8 → a ≠ b → (TX7 a).2.1 ≠ (TX7 b).2.1 := by decide +kernel
theorem tyX7_ok : ∀ k, k < 8 → parseFieldDescriptor (TX7 k).2.2.1 = some (tyX7 k) := by decide +kernel
abbrev cX7_init : ByteArray := prog_9_method_1_code
def yX7_init : MethodName := ⟨RX7, "<init>", "(LFrameWriter$Types;LFrameWriter$Code;LFrameWriter$Machine;)V"⟩
abbrev cX7_isReached : ByteArray := prog_9_method_2_code
def yX7_isReached : MethodName := ⟨RX7, "isReached", "(I)Z"⟩
abbrev cX7_row : ByteArray := prog_9_method_3_code
def yX7_row : MethodName := ⟨RX7, "row", "(I)LFrameWriter$Cells;"⟩
abbrev cX7_countReached : ByteArray := prog_9_method_4_code
def yX7_countReached : MethodName := ⟨RX7, "countReached", "()I"⟩
abbrev cX7_workOut : ByteArray := prog_9_method_5_code
def yX7_workOut : MethodName := ⟨RX7, "workOut", "(LFrameWriter$Cells;)V"⟩
abbrev cX7_firstUnsuited : ByteArray := prog_9_method_6_code
def yX7_firstUnsuited : MethodName := ⟨RX7, "firstUnsuited", "()I"⟩
abbrev cX7_leave : ByteArray := prog_9_method_7_code
def yX7_leave : MethodName := ⟨RX7, "leave", "(I)V"⟩
abbrev cX7_meet : ByteArray := prog_9_method_8_code
def yX7_meet : MethodName := ⟨RX7, "meet", "(ILFrameWriter$Cells;)V"⟩
def RX8 : String := "FrameWriter$Table"
def TX8 : u_T := fun k => match k with
  | 0 => ("FrameWriter$Table", "rows", "[LFrameWriter$Cells;", true)
  | _ => ("FrameWriter$Table", "beyond", "LFrameWriter$Cells;", true)
def tyX8 : Nat → FieldType := fun k => match k with
  | 0 => .array (.object "FrameWriter$Cells")
  | _ => .object "FrameWriter$Cells"
abbrev wsX80 : List Cond := u_ws RX8 TX8 2
theorem nmX8 : ∀ a, a < 2 → ∀ b, b < 2 → a ≠ b → (TX8 a).2.1 ≠ (TX8 b).2.1 := by decide +kernel
theorem tyX8_ok : ∀ k, k < 2 → parseFieldDescriptor (TX8 k).2.2.1 = some (tyX8 k) := by decide +kernel
abbrev cX8_init : ByteArray := prog_10_method_1_code
def yX8_init : MethodName := ⟨RX8, "<init>", "()V"⟩
abbrev cX8_row : ByteArray := prog_10_method_2_code
def yX8_row : MethodName := ⟨RX8, "row", "(I)LFrameWriter$Cells;"⟩
def RX9 : String := "FrameWriter$Types"
def TX9 : u_T := fun k => match k with
  | 0 => ("FrameWriter$Types", "shared", "[I", true)
  | 1 => ("FrameWriter$Types", "faces", "[Z", true)
  | _ => ("FrameWriter$Types", "count", "I", false)
def tyX9 : Nat → FieldType := fun k => match k with
  | 0 => .array .int
  | 1 => .array .boolean
  | _ => .int
abbrev wsX90 : List Cond := u_ws RX9 TX9 3
theorem nmX9 : ∀ a, a < 3 → ∀ b, b < 3 → a ≠ b → (TX9 a).2.1 ≠ (TX9 b).2.1 := by decide +kernel
theorem tyX9_ok : ∀ k, k < 3 → parseFieldDescriptor (TX9 k).2.2.1 = some (tyX9 k) := by decide +kernel
abbrev cX9_init : ByteArray := prog_11_method_1_code
def yX9_init : MethodName := ⟨RX9, "<init>", "()V"⟩
abbrev cX9_count : ByteArray := prog_11_method_2_code
def yX9_count : MethodName := ⟨RX9, "count", "()I"⟩
abbrev cX9_has : ByteArray := prog_11_method_3_code
def yX9_has : MethodName := ⟨RX9, "has", "(I)Z"⟩
abbrev cX9_isFace : ByteArray := prog_11_method_4_code
def yX9_isFace : MethodName := ⟨RX9, "isFace", "(I)Z"⟩
abbrev cX9_add : ByteArray := prog_11_method_5_code
def yX9_add : MethodName := ⟨RX9, "add", "(IZ)I"⟩
abbrev cX9_isThing : ByteArray := prog_11_method_6_code
def yX9_isThing : MethodName := ⟨RX9, "isThing", "(I)Z"⟩
abbrev cX9_isReference : ByteArray := prog_11_method_7_code
def yX9_isReference : MethodName := ⟨RX9, "isReference", "(I)Z"⟩
abbrev cX9_isPlain : ByteArray := prog_11_method_8_code
def yX9_isPlain : MethodName := ⟨RX9, "isPlain", "(I)Z"⟩
abbrev cX9_isKind : ByteArray := prog_11_method_9_code
def yX9_isKind : MethodName := ⟨RX9, "isKind", "(I)Z"⟩
abbrev cX9_standsFor : ByteArray := prog_11_method_10_code
def yX9_standsFor : MethodName := ⟨RX9, "standsFor", "(II)Z"⟩
abbrev cX9_join : ByteArray := prog_11_method_11_code
def yX9_join : MethodName := ⟨RX9, "join", "(II)I"⟩
abbrev cX9_nearest : ByteArray := prog_11_method_12_code
def yX9_nearest : MethodName := ⟨RX9, "nearest", "(II)I"⟩
abbrev cX9_share : ByteArray := prog_11_method_13_code
def yX9_share : MethodName := ⟨RX9, "share", "(III)V"⟩
def RX10 : String := "FrameWriter$Writing"
def TX10 : u_T := fun k => match k with
  | 0 => ("FrameWriter$Writing", "bytes", "[I", true)
  | 1 => ("FrameWriter$Writing", "length", "I", false)
  | 2 => ("FrameWriter$Writing", "before", "LFrameWriter$Entries;", true)
  | 3 => ("FrameWriter$Writing", "locals", "LFrameWriter$Entries;", true)
  | _ => ("FrameWriter$Writing", "pile", "LFrameWriter$Entries;", true)
def tyX10 : Nat → FieldType := fun k => match k with
  | 0 => .array .int
  | 1 => .int
  | 2 => .object "FrameWriter$Entries"
  | 3 => .object "FrameWriter$Entries"
  | _ => .object "FrameWriter$Entries"
abbrev wsX100 : List Cond := u_ws RX10 TX10 5
theorem nmX10 : ∀ a, a < 5 → ∀ b, b < 5 → a ≠ b → (TX10 a).2.1 ≠ (TX10 b).2.1 := by decide +kernel
theorem tyX10_ok : ∀ k, k < 5 → parseFieldDescriptor (TX10 k).2.2.1 = some (tyX10 k) := by decide +kernel
abbrev cX10_init : ByteArray := prog_12_method_1_code
def yX10_init : MethodName := ⟨RX10, "<init>", "()V"⟩
abbrev cX10_length : ByteArray := prog_12_method_2_code
def yX10_length : MethodName := ⟨RX10, "length", "()I"⟩
abbrev cX10_has : ByteArray := prog_12_method_3_code
def yX10_has : MethodName := ⟨RX10, "has", "(I)Z"⟩
abbrev cX10_byteAt : ByteArray := prog_12_method_4_code
def yX10_byteAt : MethodName := ⟨RX10, "byteAt", "(I)I"⟩
abbrev cX10_write : ByteArray := prog_12_method_5_code
def yX10_write : MethodName := ⟨RX10, "write", "(LFrameWriter$Cells;LFrameWriter$States;LFrameWriter$Frames;)V"⟩
abbrev cX10_writeOne : ByteArray := prog_12_method_6_code
def yX10_writeOne : MethodName := ⟨RX10, "writeOne", "(I)V"⟩
abbrev cX10_addEntries : ByteArray := prog_12_method_7_code
def yX10_addEntries : MethodName := ⟨RX10, "addEntries", "(LFrameWriter$Entries;I)V"⟩
abbrev cX10_addKind : ByteArray := prog_12_method_8_code
def yX10_addKind : MethodName := ⟨RX10, "addKind", "(I)V"⟩
abbrev cX10_add : ByteArray := prog_12_method_9_code
def yX10_add : MethodName := ⟨RX10, "add", "(I)V"⟩
def RX11 : String := "FrameWriter"
def TX11 : u_T := fun k => match k with
  | 0 => ("FrameWriter", "types", "LFrameWriter$Types;", true)
  | 1 => ("FrameWriter", "code", "LFrameWriter$Code;", true)
  | 2 => ("FrameWriter", "beginning", "LFrameWriter$Cells;", true)
  | 3 => ("FrameWriter", "sizes", "LFrameWriter$Sizes;", true)
  | 4 => ("FrameWriter", "states", "LFrameWriter$States;", true)
  | 5 => ("FrameWriter", "frames", "LFrameWriter$Frames;", true)
  | 6 => ("FrameWriter", "writing", "LFrameWriter$Writing;", true)
  | 7 => ("FrameWriter", "judging", "LFrameWriter$Judge;", true)
  | 8 => ("FrameWriter", "made", "Z", false)
  | _ => ("FrameWriter", "latestFault", "I", false)
def tyX11 : Nat → FieldType := fun k => match k with
  | 0 => .object "FrameWriter$Types"
  | 1 => .object "FrameWriter$Code"
  | 2 => .object "FrameWriter$Cells"
  | 3 => .object "FrameWriter$Sizes"
  | 4 => .object "FrameWriter$States"
  | 5 => .object "FrameWriter$Frames"
  | 6 => .object "FrameWriter$Writing"
  | 7 => .object "FrameWriter$Judge"
  | 8 => .boolean
  | _ => .int
abbrev wsX110 : List Cond := u_ws RX11 TX11 10
theorem nmX11 : ∀ a, a < 10 → ∀ b, b < 10 → a ≠ b → (TX11 a).2.1 ≠ (TX11 b).2.1 := by decide +kernel
theorem tyX11_ok : ∀ k, k < 10 → parseFieldDescriptor (TX11 k).2.2.1 = some (tyX11 k) := by decide +kernel
abbrev cX11_init : ByteArray := prog_1_method_1_code
def yX11_init : MethodName := ⟨RX11, "<init>", "()V"⟩
abbrev cX11_type : ByteArray := prog_1_method_2_code
def yX11_type : MethodName := ⟨RX11, "type", "(IZ)I"⟩
abbrev cX11_local : ByteArray := prog_1_method_3_code
def yX11_local : MethodName := ⟨RX11, "local", "(II)I"⟩
abbrev cX11_op : ByteArray := prog_1_method_4_code
def yX11_op : MethodName := ⟨RX11, "op", "(II)I"⟩
abbrev cX11_handler : ByteArray := prog_1_method_5_code
def yX11_handler : MethodName := ⟨RX11, "handler", "(IIII)I"⟩
abbrev cX11_make : ByteArray := prog_1_method_6_code
def yX11_make : MethodName := ⟨RX11, "make", "()I"⟩
abbrev cX11_fault : ByteArray := prog_1_method_7_code
def yX11_fault : MethodName := ⟨RX11, "fault", "()I"⟩
abbrev cX11_state : ByteArray := prog_1_method_8_code
def yX11_state : MethodName := ⟨RX11, "state", "(II)I"⟩
abbrev cX11_frame : ByteArray := prog_1_method_9_code
def yX11_frame : MethodName := ⟨RX11, "frame", "(I)I"⟩
abbrev cX11_packed : ByteArray := prog_1_method_10_code
def yX11_packed : MethodName := ⟨RX11, "packed", "()I"⟩
abbrev cX11_out : ByteArray := prog_1_method_11_code
def yX11_out : MethodName := ⟨RX11, "out", "(I)I"⟩
abbrev cX11_plant : ByteArray := prog_1_method_12_code
def yX11_plant : MethodName := ⟨RX11, "plant", "(III)I"⟩
abbrev cX11_judge : ByteArray := prog_1_method_13_code
def yX11_judge : MethodName := ⟨RX11, "judge", "()I"⟩
abbrev cX11_joined : ByteArray := prog_1_method_14_code
def yX11_joined : MethodName := ⟨RX11, "joined", "(II)I"⟩
abbrev cX11_goes : ByteArray := prog_1_method_15_code
def yX11_goes : MethodName := ⟨RX11, "goes", "(II)I"⟩
abbrev cX11_told : ByteArray := prog_1_method_16_code
def yX11_told : MethodName := ⟨RX11, "told", "(I)I"⟩
abbrev cX11_changed : ByteArray := prog_1_method_17_code
def yX11_changed : MethodName := ⟨RX11, "changed", "(I)I"⟩
abbrev cX11_isNumberFor : ByteArray := prog_1_method_18_code
def yX11_isNumberFor : MethodName := ⟨RX11, "isNumberFor", "(II)Z"⟩
abbrev cX11_isBegun : ByteArray := prog_1_method_19_code
def yX11_isBegun : MethodName := ⟨RX11, "isBegun", "(I)Z"⟩
abbrev cX11_isWhole : ByteArray := prog_1_method_20_code
def yX11_isWhole : MethodName := ⟨RX11, "isWhole", "(I)Z"⟩
abbrev cX11_isLong : ByteArray := prog_1_method_21_code
def yX11_isLong : MethodName := ⟨RX11, "isLong", "(II)Z"⟩
abbrev cX11_takes : ByteArray := prog_1_method_22_code
def yX11_takes : MethodName := ⟨RX11, "takes", "(I)I"⟩
abbrev cX11_gives : ByteArray := prog_1_method_23_code
def yX11_gives : MethodName := ⟨RX11, "gives", "(I)I"⟩
def RX12 : String := "FrameWriterModel"
def TX12 : u_T := fun k => match k with
  | 0 => ("FrameWriterModel", "code", "I", false)
  | 1 => ("FrameWriterModel", "types", "I", false)
  | 2 => ("FrameWriterModel", "parent", "[I", true)
  | 3 => ("FrameWriterModel", "isFace", "[Z", true)
  | 4 => ("FrameWriterModel", "begin", "[I", true)
  | 5 => ("FrameWriterModel", "many", "I", false)
  | 6 => ("FrameWriterModel", "ops", "[I", true)
  | 7 => ("FrameWriterModel", "numbers", "[I", true)
  | 8 => ("FrameWriterModel", "handlers", "I", false)
  | 9 => ("FrameWriterModel", "from", "[I", true)
  | 10 => ("FrameWriterModel", "to", "[I", true)
  | 11 => ("FrameWriterModel", "at", "[I", true)
  | 12 => ("FrameWriterModel", "kindOf", "[I", true)
  | 13 => ("FrameWriterModel", "isMade", "Z", false)
  | 14 => ("FrameWriterModel", "fault", "I", false)
  | 15 => ("FrameWriterModel", "heights", "[I", true)
  | 16 => ("FrameWriterModel", "faults", "[I", true)
  | 17 => ("FrameWriterModel", "states", "[I", true)
  | 18 => ("FrameWriterModel", "isKnown", "[Z", true)
  | 19 => ("FrameWriterModel", "hand", "[I", true)
  | 20 => ("FrameWriterModel", "handHigh", "I", false)
  | 21 => ("FrameWriterModel", "frames", "I", false)
  | 22 => ("FrameWriterModel", "frameAt", "[I", true)
  | 23 => ("FrameWriterModel", "given", "[I", true)
  | 24 => ("FrameWriterModel", "bytes", "I", false)
  | 25 => ("FrameWriterModel", "out", "[I", true)
  | 26 => ("FrameWriterModel", "entries", "[I", true)
  | 27 => ("FrameWriterModel", "entryMany", "I", false)
  | 28 => ("FrameWriterModel", "before", "[I", true)
  | _ => ("FrameWriterModel", "beforeMany", "I", false)
def tyX12 : Nat → FieldType := fun k => match k with
  | 0 => .int
  | 1 => .int
  | 2 => .array .int
  | 3 => .array .boolean
  | 4 => .array .int
  | 5 => .int
  | 6 => .array .int
  | 7 => .array .int
  | 8 => .int
  | 9 => .array .int
  | 10 => .array .int
  | 11 => .array .int
  | 12 => .array .int
  | 13 => .boolean
  | 14 => .int
  | 15 => .array .int
  | 16 => .array .int
  | 17 => .array .int
  | 18 => .array .boolean
  | 19 => .array .int
  | 20 => .int
  | 21 => .int
  | 22 => .array .int
  | 23 => .array .int
  | 24 => .int
  | 25 => .array .int
  | 26 => .array .int
  | 27 => .int
  | 28 => .array .int
  | _ => .int
abbrev wsX120 : List Cond := u_ws RX12 TX12 30
theorem nmX12 : ∀ a, a < 30 → ∀ b, b < 30 → a ≠ b → (TX12 a).2.1 ≠ (TX12 b).2.1 := by decide +kernel
theorem tyX12_ok : ∀ k, k < 30 → parseFieldDescriptor (TX12 k).2.2.1 = some (tyX12 k) := by decide +kernel
abbrev cX12_init : ByteArray := prog_14_method_1_code
def yX12_init : MethodName := ⟨RX12, "<init>", "()V"⟩
abbrev cX12_thrown : ByteArray := prog_14_method_2_code
def yX12_thrown : MethodName := ⟨RX12, "thrown", "()I"⟩
abbrev cX12_isIn : ByteArray := prog_14_method_3_code
def yX12_isIn : MethodName := ⟨RX12, "isIn", "(III)Z"⟩
abbrev cX12_isType : ByteArray := prog_14_method_4_code
def yX12_isType : MethodName := ⟨RX12, "isType", "(I)Z"⟩
abbrev cX12_isKind : ByteArray := prog_14_method_5_code
def yX12_isKind : MethodName := ⟨RX12, "isKind", "(I)Z"⟩
abbrev cX12_isThing : ByteArray := prog_14_method_6_code
def yX12_isThing : MethodName := ⟨RX12, "isThing", "(I)Z"⟩
abbrev cX12_isThingOrNull : ByteArray := prog_14_method_7_code
def yX12_isThingOrNull : MethodName := ⟨RX12, "isThingOrNull", "(I)Z"⟩
abbrev cX12_comes : ByteArray := prog_14_method_8_code
def yX12_comes : MethodName := ⟨RX12, "comes", "(II)Z"⟩
abbrev cX12_goesFor : ByteArray := prog_14_method_9_code
def yX12_goesFor : MethodName := ⟨RX12, "goesFor", "(II)Z"⟩
abbrev cX12_join : ByteArray := prog_14_method_10_code
def yX12_join : MethodName := ⟨RX12, "join", "(II)I"⟩
abbrev cX12_joined : ByteArray := prog_14_method_11_code
def yX12_joined : MethodName := ⟨RX12, "joined", "(II)I"⟩
abbrev cX12_goes : ByteArray := prog_14_method_12_code
def yX12_goes : MethodName := ⟨RX12, "goes", "(II)I"⟩
abbrev cX12_ends : ByteArray := prog_14_method_13_code
def yX12_ends : MethodName := ⟨RX12, "ends", "(I)I"⟩
abbrev cX12_type : ByteArray := prog_14_method_14_code
def yX12_type : MethodName := ⟨RX12, "type", "(IZ)I"⟩
abbrev cX12_lay : ByteArray := prog_14_method_15_code
def yX12_lay : MethodName := ⟨RX12, "lay", "([IIII)V"⟩
abbrev cX12_layLong : ByteArray := prog_14_method_16_code
def yX12_layLong : MethodName := ⟨RX12, "layLong", "([III)V"⟩
abbrev cX12_local : ByteArray := prog_14_method_17_code
def yX12_local : MethodName := ⟨RX12, "local", "(II)I"⟩
abbrev cX12_op : ByteArray := prog_14_method_18_code
def yX12_op : MethodName := ⟨RX12, "op", "(II)I"⟩
abbrev cX12_handler : ByteArray := prog_14_method_19_code
def yX12_handler : MethodName := ⟨RX12, "handler", "(IIII)I"⟩
abbrev cX12_takes : ByteArray := prog_14_method_20_code
def yX12_takes : MethodName := ⟨RX12, "takes", "(I)I"⟩
abbrev cX12_gives : ByteArray := prog_14_method_21_code
def yX12_gives : MethodName := ⟨RX12, "gives", "(I)I"⟩
abbrev cX12_goesOn : ByteArray := prog_14_method_22_code
def yX12_goesOn : MethodName := ⟨RX12, "goesOn", "(I)Z"⟩
abbrev cX12_leads : ByteArray := prog_14_method_23_code
def yX12_leads : MethodName := ⟨RX12, "leads", "(I)Z"⟩
abbrev cX12_fitsHigh : ByteArray := prog_14_method_24_code
def yX12_fitsHigh : MethodName := ⟨RX12, "fitsHigh", "(II)Z"⟩
abbrev cX12_come : ByteArray := prog_14_method_25_code
def yX12_come : MethodName := ⟨RX12, "come", "(III)V"⟩
abbrev cX12_walk : ByteArray := prog_14_method_26_code
def yX12_walk : MethodName := ⟨RX12, "walk", "()Z"⟩
abbrev cX12_goAlong : ByteArray := prog_14_method_27_code
def yX12_goAlong : MethodName := ⟨RX12, "goAlong", "(II)V"⟩
abbrev cX12_highOf : ByteArray := prog_14_method_28_code
def yX12_highOf : MethodName := ⟨RX12, "highOf", "(I)I"⟩
abbrev cX12_top : ByteArray := prog_14_method_29_code
def yX12_top : MethodName := ⟨RX12, "top", "(I)I"⟩
abbrev cX12_isLongOnTop : ByteArray := prog_14_method_30_code
def yX12_isLongOnTop : MethodName := ⟨RX12, "isLongOnTop", "(I)Z"⟩
abbrev cX12_isHalfOrLong : ByteArray := prog_14_method_31_code
def yX12_isHalfOrLong : MethodName := ⟨RX12, "isHalfOrLong", "(I)Z"⟩
abbrev cX12_isWanted : ByteArray := prog_14_method_32_code
def yX12_isWanted : MethodName := ⟨RX12, "isWanted", "(I)Z"⟩
abbrev cX12_push : ByteArray := prog_14_method_33_code
def yX12_push : MethodName := ⟨RX12, "push", "(I)V"⟩
abbrev cX12_pushLong : ByteArray := prog_14_method_34_code
def yX12_pushLong : MethodName := ⟨RX12, "pushLong", "()V"⟩
abbrev cX12_becomes : ByteArray := prog_14_method_35_code
def yX12_becomes : MethodName := ⟨RX12, "becomes", "(II)V"⟩
abbrev cX12_work : ByteArray := prog_14_method_36_code
def yX12_work : MethodName := ⟨RX12, "work", "(I)V"⟩
abbrev cX12_takeUp : ByteArray := prog_14_method_37_code
def yX12_takeUp : MethodName := ⟨RX12, "takeUp", "([III)V"⟩
abbrev cX12_joins : ByteArray := prog_14_method_38_code
def yX12_joins : MethodName := ⟨RX12, "joins", "(I)Z"⟩
abbrev cX12_bring : ByteArray := prog_14_method_39_code
def yX12_bring : MethodName := ⟨RX12, "bring", "(I)Z"⟩
abbrev cX12_settle : ByteArray := prog_14_method_40_code
def yX12_settle : MethodName := ⟨RX12, "settle", "()V"⟩
abbrev cX12_isFrame : ByteArray := prog_14_method_41_code
def yX12_isFrame : MethodName := ⟨RX12, "isFrame", "(I)Z"⟩
abbrev cX12_list : ByteArray := prog_14_method_42_code
def yX12_list : MethodName := ⟨RX12, "list", "([II)V"⟩
abbrev cX12_keepEntries : ByteArray := prog_14_method_43_code
def yX12_keepEntries : MethodName := ⟨RX12, "keepEntries", "()V"⟩
abbrev cX12_put : ByteArray := prog_14_method_44_code
def yX12_put : MethodName := ⟨RX12, "put", "(I)V"⟩
abbrev cX12_putEntry : ByteArray := prog_14_method_45_code
def yX12_putEntry : MethodName := ⟨RX12, "putEntry", "(I)V"⟩
abbrev cX12_putEntries : ByteArray := prog_14_method_46_code
def yX12_putEntries : MethodName := ⟨RX12, "putEntries", "(I)V"⟩
abbrev cX12_pileMany : ByteArray := prog_14_method_47_code
def yX12_pileMany : MethodName := ⟨RX12, "pileMany", "(II)I"⟩
abbrev cX12_putPile : ByteArray := prog_14_method_48_code
def yX12_putPile : MethodName := ⟨RX12, "putPile", "(II)V"⟩
abbrev cX12_write : ByteArray := prog_14_method_49_code
def yX12_write : MethodName := ⟨RX12, "write", "(II)V"⟩
abbrev cX12_frame : ByteArray := prog_14_method_50_code
def yX12_frame : MethodName := ⟨RX12, "frame", "()V"⟩
abbrev cX12_faultOf : ByteArray := prog_14_method_51_code
def yX12_faultOf : MethodName := ⟨RX12, "faultOf", "(I)I"⟩
abbrev cX12_make : ByteArray := prog_14_method_52_code
def yX12_make : MethodName := ⟨RX12, "make", "()I"⟩
abbrev cX12_fault : ByteArray := prog_14_method_53_code
def yX12_fault : MethodName := ⟨RX12, "fault", "()I"⟩
abbrev cX12_state : ByteArray := prog_14_method_54_code
def yX12_state : MethodName := ⟨RX12, "state", "(II)I"⟩
abbrev cX12_frame_ : ByteArray := prog_14_method_55_code
def yX12_frame_ : MethodName := ⟨RX12, "frame", "(I)I"⟩
abbrev cX12_packed : ByteArray := prog_14_method_56_code
def yX12_packed : MethodName := ⟨RX12, "packed", "()I"⟩
abbrev cX12_out : ByteArray := prog_14_method_57_code
def yX12_out : MethodName := ⟨RX12, "out", "(I)I"⟩
abbrev cX12_plant : ByteArray := prog_14_method_58_code
def yX12_plant : MethodName := ⟨RX12, "plant", "(III)I"⟩
abbrev cX12_goFor : ByteArray := prog_14_method_59_code
def yX12_goFor : MethodName := ⟨RX12, "goFor", "(I)Z"⟩
abbrev cX12_handlersGo : ByteArray := prog_14_method_60_code
def yX12_handlersGo : MethodName := ⟨RX12, "handlersGo", "(I)Z"⟩
abbrev cX12_judge : ByteArray := prog_14_method_61_code
def yX12_judge : MethodName := ⟨RX12, "judge", "()I"⟩
abbrev cX12_told : ByteArray := prog_14_method_62_code
def yX12_told : MethodName := ⟨RX12, "told", "(I)I"⟩
def RJx00060 : String := "java/lang/ArrayIndexOutOfBoundsException"
def TJx00060 : u_T := fun k => match k with
  | 0 => ("java/lang/Throwable", "backtrace", "Ljava/lang/Object;", false)
  | 1 => ("java/lang/Throwable", "detailMessage", "Ljava/lang/String;", false)
  | 2 => ("java/lang/Throwable", "cause", "Ljava/lang/Throwable;", false)
  | 3 => ("java/lang/Throwable", "stackTrace", "[Ljava/lang/StackTraceElement;", false)
  | 4 => ("java/lang/Throwable", "depth", "I", false)
  | _ => ("java/lang/Throwable", "suppressedExceptions", "Ljava/util/List;", false)
def tyJx00060 : Nat → FieldType := fun k => match k with
  | 0 => .object "java/lang/Object"
  | 1 => .object "java/lang/String"
  | 2 => .object "java/lang/Throwable"
  | 3 => .array (.object "java/lang/StackTraceElement")
  | 4 => .int
  | _ => .object "java/util/List"
theorem nmJx00060 : ∀ a, a < 6 → ∀ b, b < 6 → a ≠ b → (TJx00060 a).2.1 ≠ (TJx00060 b).2.1 := by decide +kernel
theorem tyJx00060_ok : ∀ k, k < 6 → parseFieldDescriptor (TJx00060 k).2.2.1 = some (tyJx00060 k) := by decide +kernel
abbrev cJx00060_init_a7421 : ByteArray := prog_15_method_2_code
def yJx00060_init_a7421 : MethodName := ⟨RJx00060, "<init>", "(Ljava/lang/String;)V"⟩
def RJ6 : String := "java/lang/Integer"
def TJ6 : u_T := fun k => match k with
  | _ => ("", "", "", false)
def tyJ6 : Nat → FieldType := fun k => match k with
  | _ => .int
theorem nmJ6 : ∀ a, a < 0 → ∀ b, b < 0 → a ≠ b → (TJ6 a).2.1 ≠ (TJ6 b).2.1 := by decide +kernel
theorem tyJ6_ok : ∀ k, k < 0 → parseFieldDescriptor (TJ6 k).2.2.1 = some (tyJ6 k) := by decide +kernel
abbrev cJ6_bitCount_0f7a4 : ByteArray := prog_18_method_49_code
def yJ6_bitCount_0f7a4 : MethodName := ⟨RJ6, "bitCount", "(I)I"⟩
def RJ9 : String := "java/lang/Math"
def TJ9 : u_T := fun k => match k with
  | _ => ("", "", "", false)
def tyJ9 : Nat → FieldType := fun k => match k with
  | _ => .int
theorem nmJ9 : ∀ a, a < 0 → ∀ b, b < 0 → a ≠ b → (TJ9 a).2.1 ≠ (TJ9 b).2.1 := by decide +kernel
theorem tyJ9_ok : ∀ k, k < 0 → parseFieldDescriptor (TJ9 k).2.2.1 = some (tyJ9 k) := by decide +kernel
abbrev cJ9_abs_0f7a4 : ByteArray := prog_19_method_59_code
def yJ9_abs_0f7a4 : MethodName := ⟨RJ9, "abs", "(I)I"⟩
abbrev cJ9_max_7cf53 : ByteArray := prog_19_method_65_code
def yJ9_max_7cf53 : MethodName := ⟨RJ9, "max", "(II)I"⟩
abbrev cJ9_min_7cf53 : ByteArray := prog_19_method_69_code
def yJ9_min_7cf53 : MethodName := ⟨RJ9, "min", "(II)I"⟩
def RJ0 : String := "java/lang/String"
def TJ0 : u_T := fun k => match k with
  | 0 => ("java/lang/String", "value", "[B", true)
  | _ => ("java/lang/String", "coder", "B", true)
def tyJ0 : Nat → FieldType := fun k => match k with
  | 0 => .array .byte
  | _ => .byte
theorem nmJ0 : ∀ a, a < 2 → ∀ b, b < 2 → a ≠ b → (TJ0 a).2.1 ≠ (TJ0 b).2.1 := by decide +kernel
theorem tyJ0_ok : ∀ k, k < 2 → parseFieldDescriptor (TJ0 k).2.2.1 = some (tyJ0 k) := by decide +kernel
def RJ10 : String := "java/lang/System"
def TJ10 : u_T := fun k => match k with
  | _ => ("", "", "", false)
def tyJ10 : Nat → FieldType := fun k => match k with
  | _ => .int
theorem nmJ10 : ∀ a, a < 0 → ∀ b, b < 0 → a ≠ b → (TJ10 a).2.1 ≠ (TJ10 b).2.1 := by decide +kernel
theorem tyJ10_ok : ∀ k, k < 0 → parseFieldDescriptor (TJ10 k).2.2.1 = some (tyJ10 k) := by decide +kernel
def RL : String := "FrameWriterLaw"
abbrev cL_out : ByteArray := method_3_code
def yL_out : MethodName := ⟨RL, "out", "(LFrameWriter;I[J)I"⟩
abbrev cL_law : ByteArray := code
def yL_law : MethodName := ⟨RL, "law", "([I)Z"⟩
abbrev vwCl : List vw_C := [(RJ0, TJ0, 2), (RJx00060, TJx00060, 6), (RX0, TX0, 2), (RX1, TX1, 8), (RX2, TX2, 2), (RX3, TX3, 7), (RX4, TX4, 7), (RX5, TX5, 2), (RX6, TX6, 5), (RX7, TX7, 8), (RX8, TX8, 2), (RX9, TX9, 3), (RX10, TX10, 5), (RX11, TX11, 10), (RX12, TX12, 30)]
