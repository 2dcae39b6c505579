section
-- ===== PART A: goes FIRST, ahead of the names: the tables' words, and 'selects' of the private methods out of them =====
/-- a private method of a class that the tables say can be made, by its rows of tables_1 -/
def lw_okq (q : MethodName × Nat) : Prop := (q.1.cls ≠ "java/lang/invoke/MethodHandle" ∧ q.1.cls ≠ "java/lang/invoke/VarHandle") ∧ Cond.instantiable q.1.cls q.2 ∈ tables_1 ∧ Cond.privateMethod q.1 ∈ tables_1 ∧ Cond.instanceMethod q.1 ∈ tables_1
theorem lw_p0 : lw_okq (⟨"BeadSchool", "faulted", "(I)I"⟩, 11) := ⟨⟨by decide +kernel, by decide +kernel⟩, List.mem_of_getElem? (i := 15) (by decide +kernel), List.mem_of_getElem? (i := 147) (by decide +kernel), List.mem_of_getElem? (i := 148) (by decide +kernel)⟩
theorem lw_p1 : lw_okq (⟨"BeadSchool", "known", "(I)LBeadSchool$Frame;"⟩, 11) := ⟨⟨by decide +kernel, by decide +kernel⟩, List.mem_of_getElem? (i := 15) (by decide +kernel), List.mem_of_getElem? (i := 231) (by decide +kernel), List.mem_of_getElem? (i := 232) (by decide +kernel)⟩
theorem lw_p2 : lw_okq (⟨"BeadSchool", "lost", "(I)J"⟩, 11) := ⟨⟨by decide +kernel, by decide +kernel⟩, List.mem_of_getElem? (i := 15) (by decide +kernel), List.mem_of_getElem? (i := 305) (by decide +kernel), List.mem_of_getElem? (i := 306) (by decide +kernel)⟩
theorem lw_p3 : lw_okq (⟨"BeadSchool", "writeAll", "(LBeadSchool$Frame;J)I"⟩, 11) := ⟨⟨by decide +kernel, by decide +kernel⟩, List.mem_of_getElem? (i := 15) (by decide +kernel), List.mem_of_getElem? (i := 318) (by decide +kernel), List.mem_of_getElem? (i := 319) (by decide +kernel)⟩
theorem lw_p4 : lw_okq (⟨"BeadSchool", "askBase", "(LBeadSchool$Frame;I)I"⟩, 11) := ⟨⟨by decide +kernel, by decide +kernel⟩, List.mem_of_getElem? (i := 15) (by decide +kernel), List.mem_of_getElem? (i := 372) (by decide +kernel), List.mem_of_getElem? (i := 373) (by decide +kernel)⟩
theorem lw_p5 : lw_okq (⟨"BeadSchool", "begun", "(I)V"⟩, 11) := ⟨⟨by decide +kernel, by decide +kernel⟩, List.mem_of_getElem? (i := 15) (by decide +kernel), List.mem_of_getElem? (i := 376) (by decide +kernel), List.mem_of_getElem? (i := 377) (by decide +kernel)⟩
theorem lw_p6 : lw_okq (⟨"BeadSchool", "askBeads", "(LBeadSchool$Frame;)I"⟩, 11) := ⟨⟨by decide +kernel, by decide +kernel⟩, List.mem_of_getElem? (i := 15) (by decide +kernel), List.mem_of_getElem? (i := 380) (by decide +kernel), List.mem_of_getElem? (i := 381) (by decide +kernel)⟩
theorem lw_p7 : lw_okq (⟨"BeadSchool", "askCarry", "(LBeadSchool$Frame;I)I"⟩, 11) := ⟨⟨by decide +kernel, by decide +kernel⟩, List.mem_of_getElem? (i := 15) (by decide +kernel), List.mem_of_getElem? (i := 384) (by decide +kernel), List.mem_of_getElem? (i := 385) (by decide +kernel)⟩
theorem lw_p8 : lw_okq (⟨"BeadSchool", "askJudge", "(LBeadSchool$Frame;)I"⟩, 11) := ⟨⟨by decide +kernel, by decide +kernel⟩, List.mem_of_getElem? (i := 15) (by decide +kernel), List.mem_of_getElem? (i := 388) (by decide +kernel), List.mem_of_getElem? (i := 389) (by decide +kernel)⟩
theorem lw_p9 : lw_okq (⟨"BeadSchool", "writeWhole", "(LBeadSchool$Frame;JI)I"⟩, 11) := ⟨⟨by decide +kernel, by decide +kernel⟩, List.mem_of_getElem? (i := 15) (by decide +kernel), List.mem_of_getElem? (i := 437) (by decide +kernel), List.mem_of_getElem? (i := 438) (by decide +kernel)⟩
theorem lw_p10 : lw_okq (⟨"BeadSchool", "sumUp", "(LBeadSchool$Frame;JI)I"⟩, 11) := ⟨⟨by decide +kernel, by decide +kernel⟩, List.mem_of_getElem? (i := 15) (by decide +kernel), List.mem_of_getElem? (i := 488) (by decide +kernel), List.mem_of_getElem? (i := 489) (by decide +kernel)⟩
theorem lw_p11 : lw_okq (⟨"BeadSchool$Reckoning", "put", "(LBeadSchool$Frame;II)Z"⟩, 12) := ⟨⟨by decide +kernel, by decide +kernel⟩, List.mem_of_getElem? (i := 27) (by decide +kernel), List.mem_of_getElem? (i := 505) (by decide +kernel), List.mem_of_getElem? (i := 506) (by decide +kernel)⟩
theorem lw_p12 : lw_okq (⟨"BeadSchool$Reckoning", "oneStep", "(LBeadSchool$Frame;II)I"⟩, 12) := ⟨⟨by decide +kernel, by decide +kernel⟩, List.mem_of_getElem? (i := 27) (by decide +kernel), List.mem_of_getElem? (i := 509) (by decide +kernel), List.mem_of_getElem? (i := 510) (by decide +kernel)⟩
theorem lw_p13 : lw_okq (⟨"BeadSchool$Reckoning", "canRead", "(LBeadSchool$Frame;I)Z"⟩, 12) := ⟨⟨by decide +kernel, by decide +kernel⟩, List.mem_of_getElem? (i := 27) (by decide +kernel), List.mem_of_getElem? (i := 513) (by decide +kernel), List.mem_of_getElem? (i := 514) (by decide +kernel)⟩
theorem lw_p14 : lw_okq (⟨"BeadSchool", "opened", "(LBeadSchool$Frame;LBeadSchool$Frame;IZ)I"⟩, 11) := ⟨⟨by decide +kernel, by decide +kernel⟩, List.mem_of_getElem? (i := 15) (by decide +kernel), List.mem_of_getElem? (i := 558) (by decide +kernel), List.mem_of_getElem? (i := 559) (by decide +kernel)⟩
theorem lw_p15 : lw_okq (⟨"BeadSchool$Reckoning", "clear", "(LBeadSchool$Frame;)Z"⟩, 12) := ⟨⟨by decide +kernel, by decide +kernel⟩, List.mem_of_getElem? (i := 27) (by decide +kernel), List.mem_of_getElem? (i := 571) (by decide +kernel), List.mem_of_getElem? (i := 572) (by decide +kernel)⟩
def lw_privs_1 : List (MethodName × Nat) := [(⟨"BeadSchool", "faulted", "(I)I"⟩, 11), (⟨"BeadSchool", "known", "(I)LBeadSchool$Frame;"⟩, 11), (⟨"BeadSchool", "lost", "(I)J"⟩, 11), (⟨"BeadSchool", "writeAll", "(LBeadSchool$Frame;J)I"⟩, 11), (⟨"BeadSchool", "askBase", "(LBeadSchool$Frame;I)I"⟩, 11), (⟨"BeadSchool", "begun", "(I)V"⟩, 11), (⟨"BeadSchool", "askBeads", "(LBeadSchool$Frame;)I"⟩, 11), (⟨"BeadSchool", "askCarry", "(LBeadSchool$Frame;I)I"⟩, 11), (⟨"BeadSchool", "askJudge", "(LBeadSchool$Frame;)I"⟩, 11), (⟨"BeadSchool", "writeWhole", "(LBeadSchool$Frame;JI)I"⟩, 11), (⟨"BeadSchool", "sumUp", "(LBeadSchool$Frame;JI)I"⟩, 11), (⟨"BeadSchool$Reckoning", "put", "(LBeadSchool$Frame;II)Z"⟩, 12), (⟨"BeadSchool$Reckoning", "oneStep", "(LBeadSchool$Frame;II)I"⟩, 12), (⟨"BeadSchool$Reckoning", "canRead", "(LBeadSchool$Frame;I)Z"⟩, 12), (⟨"BeadSchool", "opened", "(LBeadSchool$Frame;LBeadSchool$Frame;IZ)I"⟩, 11), (⟨"BeadSchool$Reckoning", "clear", "(LBeadSchool$Frame;)Z"⟩, 12)]
theorem lw_r1 : ∀ q ∈ lw_privs_1, lw_okq q := List.forall_mem_cons.mpr ⟨lw_p0, List.forall_mem_cons.mpr ⟨lw_p1, List.forall_mem_cons.mpr ⟨lw_p2, List.forall_mem_cons.mpr ⟨lw_p3, List.forall_mem_cons.mpr ⟨lw_p4, List.forall_mem_cons.mpr ⟨lw_p5, List.forall_mem_cons.mpr ⟨lw_p6, List.forall_mem_cons.mpr ⟨lw_p7, List.forall_mem_cons.mpr ⟨lw_p8, List.forall_mem_cons.mpr ⟨lw_p9, List.forall_mem_cons.mpr ⟨lw_p10, List.forall_mem_cons.mpr ⟨lw_p11, List.forall_mem_cons.mpr ⟨lw_p12, List.forall_mem_cons.mpr ⟨lw_p13, List.forall_mem_cons.mpr ⟨lw_p14, List.forall_mem_cons.mpr ⟨lw_p15, fun _ h => absurd h List.not_mem_nil⟩⟩⟩⟩⟩⟩⟩⟩⟩⟩⟩⟩⟩⟩⟩⟩
theorem lw_p16 : lw_okq (⟨"BeadSchool$Reckoning", "takeProducts", "(LBeadSchool$Frame;JII)Z"⟩, 12) := ⟨⟨by decide +kernel, by decide +kernel⟩, List.mem_of_getElem? (i := 27) (by decide +kernel), List.mem_of_getElem? (i := 599) (by decide +kernel), List.mem_of_getElem? (i := 600) (by decide +kernel)⟩
theorem lw_p17 : lw_okq (⟨"BeadSchool", "rootBy", "(LBeadSchool$Frame;LBeadSchool$Frame;I)I"⟩, 11) := ⟨⟨by decide +kernel, by decide +kernel⟩, List.mem_of_getElem? (i := 15) (by decide +kernel), List.mem_of_getElem? (i := 607) (by decide +kernel), List.mem_of_getElem? (i := 608) (by decide +kernel)⟩
theorem lw_p18 : lw_okq (⟨"BeadSchool", "writePupil", "(IIIII)V"⟩, 11) := ⟨⟨by decide +kernel, by decide +kernel⟩, List.mem_of_getElem? (i := 15) (by decide +kernel), List.mem_of_getElem? (i := 678) (by decide +kernel), List.mem_of_getElem? (i := 679) (by decide +kernel)⟩
theorem lw_p19 : lw_okq (⟨"BeadSchool", "slipPlace", "()I"⟩, 11) := ⟨⟨by decide +kernel, by decide +kernel⟩, List.mem_of_getElem? (i := 15) (by decide +kernel), List.mem_of_getElem? (i := 691) (by decide +kernel), List.mem_of_getElem? (i := 692) (by decide +kernel)⟩
theorem lw_p20 : lw_okq (⟨"BeadSchool", "alike", "(II)Z"⟩, 11) := ⟨⟨by decide +kernel, by decide +kernel⟩, List.mem_of_getElem? (i := 15) (by decide +kernel), List.mem_of_getElem? (i := 695) (by decide +kernel), List.mem_of_getElem? (i := 696) (by decide +kernel)⟩
theorem lw_p21 : lw_okq (⟨"BeadSchool", "lapseAt", "(I)I"⟩, 11) := ⟨⟨by decide +kernel, by decide +kernel⟩, List.mem_of_getElem? (i := 15) (by decide +kernel), List.mem_of_getElem? (i := 703) (by decide +kernel), List.mem_of_getElem? (i := 704) (by decide +kernel)⟩
theorem lw_p22 : lw_okq (⟨"BeadSchool$Exercise", "tryFrom", "(II)V"⟩, 5) := ⟨⟨by decide +kernel, by decide +kernel⟩, List.mem_of_getElem? (i := 714) (by decide +kernel), List.mem_of_getElem? (i := 761) (by decide +kernel), List.mem_of_getElem? (i := 762) (by decide +kernel)⟩
theorem lw_p23 : lw_okq (⟨"BeadSchool$Exercise", "note", "(I)V"⟩, 5) := ⟨⟨by decide +kernel, by decide +kernel⟩, List.mem_of_getElem? (i := 714) (by decide +kernel), List.mem_of_getElem? (i := 765) (by decide +kernel), List.mem_of_getElem? (i := 766) (by decide +kernel)⟩
theorem lw_p24 : lw_okq (⟨"BeadSchool$Exercise", "fits", "(I)Z"⟩, 5) := ⟨⟨by decide +kernel, by decide +kernel⟩, List.mem_of_getElem? (i := 714) (by decide +kernel), List.mem_of_getElem? (i := 769) (by decide +kernel), List.mem_of_getElem? (i := 770) (by decide +kernel)⟩
theorem lw_p25 : lw_okq (⟨"BeadSchool", "knownExercise", "(I)LBeadSchool$Exercise;"⟩, 11) := ⟨⟨by decide +kernel, by decide +kernel⟩, List.mem_of_getElem? (i := 15) (by decide +kernel), List.mem_of_getElem? (i := 783) (by decide +kernel), List.mem_of_getElem? (i := 784) (by decide +kernel)⟩
theorem lw_p26 : lw_okq (⟨"BeadSchool", "singleExercises", "()I"⟩, 11) := ⟨⟨by decide +kernel, by decide +kernel⟩, List.mem_of_getElem? (i := 15) (by decide +kernel), List.mem_of_getElem? (i := 800) (by decide +kernel), List.mem_of_getElem? (i := 801) (by decide +kernel)⟩
theorem lw_p27 : lw_okq (⟨"BeadSchoolModel", "meets", "(I)I"⟩, 45) := ⟨⟨by decide +kernel, by decide +kernel⟩, List.mem_of_getElem? (i := 808) (by decide +kernel), List.mem_of_getElem? (i := 961) (by decide +kernel), List.mem_of_getElem? (i := 962) (by decide +kernel)⟩
theorem lw_p28 : lw_okq (⟨"BeadSchoolModel", "isFrame", "(I)Z"⟩, 45) := ⟨⟨by decide +kernel, by decide +kernel⟩, List.mem_of_getElem? (i := 808) (by decide +kernel), List.mem_of_getElem? (i := 969) (by decide +kernel), List.mem_of_getElem? (i := 970) (by decide +kernel)⟩
theorem lw_p29 : lw_okq (⟨"BeadSchoolModel", "rodOf", "(II)I"⟩, 45) := ⟨⟨by decide +kernel, by decide +kernel⟩, List.mem_of_getElem? (i := 808) (by decide +kernel), List.mem_of_getElem? (i := 973) (by decide +kernel), List.mem_of_getElem? (i := 974) (by decide +kernel)⟩
theorem lw_p30 : lw_okq (⟨"BeadSchoolModel", "againstOne", "(III)I"⟩, 45) := ⟨⟨by decide +kernel, by decide +kernel⟩, List.mem_of_getElem? (i := 808) (by decide +kernel), List.mem_of_getElem? (i := 987) (by decide +kernel), List.mem_of_getElem? (i := 988) (by decide +kernel)⟩
theorem lw_p31 : lw_okq (⟨"BeadSchoolModel", "kindOf", "(I)I"⟩, 45) := ⟨⟨by decide +kernel, by decide +kernel⟩, List.mem_of_getElem? (i := 808) (by decide +kernel), List.mem_of_getElem? (i := 991) (by decide +kernel), List.mem_of_getElem? (i := 992) (by decide +kernel)⟩
def lw_privs_2 : List (MethodName × Nat) := [(⟨"BeadSchool$Reckoning", "takeProducts", "(LBeadSchool$Frame;JII)Z"⟩, 12), (⟨"BeadSchool", "rootBy", "(LBeadSchool$Frame;LBeadSchool$Frame;I)I"⟩, 11), (⟨"BeadSchool", "writePupil", "(IIIII)V"⟩, 11), (⟨"BeadSchool", "slipPlace", "()I"⟩, 11), (⟨"BeadSchool", "alike", "(II)Z"⟩, 11), (⟨"BeadSchool", "lapseAt", "(I)I"⟩, 11), (⟨"BeadSchool$Exercise", "tryFrom", "(II)V"⟩, 5), (⟨"BeadSchool$Exercise", "note", "(I)V"⟩, 5), (⟨"BeadSchool$Exercise", "fits", "(I)Z"⟩, 5), (⟨"BeadSchool", "knownExercise", "(I)LBeadSchool$Exercise;"⟩, 11), (⟨"BeadSchool", "singleExercises", "()I"⟩, 11), (⟨"BeadSchoolModel", "meets", "(I)I"⟩, 45), (⟨"BeadSchoolModel", "isFrame", "(I)Z"⟩, 45), (⟨"BeadSchoolModel", "rodOf", "(II)I"⟩, 45), (⟨"BeadSchoolModel", "againstOne", "(III)I"⟩, 45), (⟨"BeadSchoolModel", "kindOf", "(I)I"⟩, 45)]
theorem lw_r2 : ∀ q ∈ lw_privs_2, lw_okq q := List.forall_mem_cons.mpr ⟨lw_p16, List.forall_mem_cons.mpr ⟨lw_p17, List.forall_mem_cons.mpr ⟨lw_p18, List.forall_mem_cons.mpr ⟨lw_p19, List.forall_mem_cons.mpr ⟨lw_p20, List.forall_mem_cons.mpr ⟨lw_p21, List.forall_mem_cons.mpr ⟨lw_p22, List.forall_mem_cons.mpr ⟨lw_p23, List.forall_mem_cons.mpr ⟨lw_p24, List.forall_mem_cons.mpr ⟨lw_p25, List.forall_mem_cons.mpr ⟨lw_p26, List.forall_mem_cons.mpr ⟨lw_p27, List.forall_mem_cons.mpr ⟨lw_p28, List.forall_mem_cons.mpr ⟨lw_p29, List.forall_mem_cons.mpr ⟨lw_p30, List.forall_mem_cons.mpr ⟨lw_p31, fun _ h => absurd h List.not_mem_nil⟩⟩⟩⟩⟩⟩⟩⟩⟩⟩⟩⟩⟩⟩⟩⟩
theorem lw_p32 : lw_okq (⟨"BeadSchoolModel", "against", "(II)I"⟩, 45) := ⟨⟨by decide +kernel, by decide +kernel⟩, List.mem_of_getElem? (i := 808) (by decide +kernel), List.mem_of_getElem? (i := 1006) (by decide +kernel), List.mem_of_getElem? (i := 1007) (by decide +kernel)⟩
theorem lw_p33 : lw_okq (⟨"BeadSchoolModel", "digitAt", "(I)I"⟩, 45) := ⟨⟨by decide +kernel, by decide +kernel⟩, List.mem_of_getElem? (i := 808) (by decide +kernel), List.mem_of_getElem? (i := 1010) (by decide +kernel), List.mem_of_getElem? (i := 1011) (by decide +kernel)⟩
theorem lw_p34 : lw_okq (⟨"BeadSchoolModel", "shown", "(I)J"⟩, 45) := ⟨⟨by decide +kernel, by decide +kernel⟩, List.mem_of_getElem? (i := 808) (by decide +kernel), List.mem_of_getElem? (i := 1019) (by decide +kernel), List.mem_of_getElem? (i := 1020) (by decide +kernel)⟩
theorem lw_p35 : lw_okq (⟨"BeadSchoolModel", "loses", "(I)J"⟩, 45) := ⟨⟨by decide +kernel, by decide +kernel⟩, List.mem_of_getElem? (i := 808) (by decide +kernel), List.mem_of_getElem? (i := 1023) (by decide +kernel), List.mem_of_getElem? (i := 1024) (by decide +kernel)⟩
theorem lw_p36 : lw_okq (⟨"BeadSchoolModel", "write", "(II)V"⟩, 45) := ⟨⟨by decide +kernel, by decide +kernel⟩, List.mem_of_getElem? (i := 808) (by decide +kernel), List.mem_of_getElem? (i := 1034) (by decide +kernel), List.mem_of_getElem? (i := 1035) (by decide +kernel)⟩
theorem lw_p37 : lw_okq (⟨"BeadSchoolModel", "isProper", "(I)Z"⟩, 45) := ⟨⟨by decide +kernel, by decide +kernel⟩, List.mem_of_getElem? (i := 808) (by decide +kernel), List.mem_of_getElem? (i := 1045) (by decide +kernel), List.mem_of_getElem? (i := 1046) (by decide +kernel)⟩
theorem lw_p38 : lw_okq (⟨"BeadSchoolModel", "askedBase", "(I)I"⟩, 45) := ⟨⟨by decide +kernel, by decide +kernel⟩, List.mem_of_getElem? (i := 808) (by decide +kernel), List.mem_of_getElem? (i := 1062) (by decide +kernel), List.mem_of_getElem? (i := 1063) (by decide +kernel)⟩
theorem lw_p39 : lw_okq (⟨"BeadSchoolModel", "body", "(I)V"⟩, 45) := ⟨⟨by decide +kernel, by decide +kernel⟩, List.mem_of_getElem? (i := 808) (by decide +kernel), List.mem_of_getElem? (i := 1066) (by decide +kernel), List.mem_of_getElem? (i := 1067) (by decide +kernel)⟩
theorem lw_p40 : lw_okq (⟨"BeadSchoolModel", "askedBeads", "(I)I"⟩, 45) := ⟨⟨by decide +kernel, by decide +kernel⟩, List.mem_of_getElem? (i := 808) (by decide +kernel), List.mem_of_getElem? (i := 1070) (by decide +kernel), List.mem_of_getElem? (i := 1071) (by decide +kernel)⟩
theorem lw_p41 : lw_okq (⟨"BeadSchoolModel", "askedCarry", "(I)I"⟩, 45) := ⟨⟨by decide +kernel, by decide +kernel⟩, List.mem_of_getElem? (i := 808) (by decide +kernel), List.mem_of_getElem? (i := 1074) (by decide +kernel), List.mem_of_getElem? (i := 1075) (by decide +kernel)⟩
theorem lw_p42 : lw_okq (⟨"BeadSchoolModel", "askedJudge", "(I)I"⟩, 45) := ⟨⟨by decide +kernel, by decide +kernel⟩, List.mem_of_getElem? (i := 808) (by decide +kernel), List.mem_of_getElem? (i := 1078) (by decide +kernel), List.mem_of_getElem? (i := 1079) (by decide +kernel)⟩
theorem lw_p43 : lw_okq (⟨"BeadSchoolModel", "carry", "(II)V"⟩, 45) := ⟨⟨by decide +kernel, by decide +kernel⟩, List.mem_of_getElem? (i := 808) (by decide +kernel), List.mem_of_getElem? (i := 1090) (by decide +kernel), List.mem_of_getElem? (i := 1091) (by decide +kernel)⟩
theorem lw_p44 : lw_okq (⟨"BeadSchoolModel", "sum", "(IJI)I"⟩, 45) := ⟨⟨by decide +kernel, by decide +kernel⟩, List.mem_of_getElem? (i := 808) (by decide +kernel), List.mem_of_getElem? (i := 1157) (by decide +kernel), List.mem_of_getElem? (i := 1158) (by decide +kernel)⟩
theorem lw_p45 : lw_okq (⟨"BeadSchoolModel", "start", "(I)V"⟩, 45) := ⟨⟨by decide +kernel, by decide +kernel⟩, List.mem_of_getElem? (i := 808) (by decide +kernel), List.mem_of_getElem? (i := 1161) (by decide +kernel), List.mem_of_getElem? (i := 1162) (by decide +kernel)⟩
theorem lw_p46 : lw_okq (⟨"BeadSchoolModel", "changeAll", "(IIJI)Z"⟩, 45) := ⟨⟨by decide +kernel, by decide +kernel⟩, List.mem_of_getElem? (i := 808) (by decide +kernel), List.mem_of_getElem? (i := 1165) (by decide +kernel), List.mem_of_getElem? (i := 1166) (by decide +kernel)⟩
theorem lw_p47 : lw_okq (⟨"BeadSchoolModel", "change", "(IIII)Z"⟩, 45) := ⟨⟨by decide +kernel, by decide +kernel⟩, List.mem_of_getElem? (i := 808) (by decide +kernel), List.mem_of_getElem? (i := 1172) (by decide +kernel), List.mem_of_getElem? (i := 1173) (by decide +kernel)⟩
def lw_privs_3 : List (MethodName × Nat) := [(⟨"BeadSchoolModel", "against", "(II)I"⟩, 45), (⟨"BeadSchoolModel", "digitAt", "(I)I"⟩, 45), (⟨"BeadSchoolModel", "shown", "(I)J"⟩, 45), (⟨"BeadSchoolModel", "loses", "(I)J"⟩, 45), (⟨"BeadSchoolModel", "write", "(II)V"⟩, 45), (⟨"BeadSchoolModel", "isProper", "(I)Z"⟩, 45), (⟨"BeadSchoolModel", "askedBase", "(I)I"⟩, 45), (⟨"BeadSchoolModel", "body", "(I)V"⟩, 45), (⟨"BeadSchoolModel", "askedBeads", "(I)I"⟩, 45), (⟨"BeadSchoolModel", "askedCarry", "(I)I"⟩, 45), (⟨"BeadSchoolModel", "askedJudge", "(I)I"⟩, 45), (⟨"BeadSchoolModel", "carry", "(II)V"⟩, 45), (⟨"BeadSchoolModel", "sum", "(IJI)I"⟩, 45), (⟨"BeadSchoolModel", "start", "(I)V"⟩, 45), (⟨"BeadSchoolModel", "changeAll", "(IIJI)Z"⟩, 45), (⟨"BeadSchoolModel", "change", "(IIII)Z"⟩, 45)]
theorem lw_r3 : ∀ q ∈ lw_privs_3, lw_okq q := List.forall_mem_cons.mpr ⟨lw_p32, List.forall_mem_cons.mpr ⟨lw_p33, List.forall_mem_cons.mpr ⟨lw_p34, List.forall_mem_cons.mpr ⟨lw_p35, List.forall_mem_cons.mpr ⟨lw_p36, List.forall_mem_cons.mpr ⟨lw_p37, List.forall_mem_cons.mpr ⟨lw_p38, List.forall_mem_cons.mpr ⟨lw_p39, List.forall_mem_cons.mpr ⟨lw_p40, List.forall_mem_cons.mpr ⟨lw_p41, List.forall_mem_cons.mpr ⟨lw_p42, List.forall_mem_cons.mpr ⟨lw_p43, List.forall_mem_cons.mpr ⟨lw_p44, List.forall_mem_cons.mpr ⟨lw_p45, List.forall_mem_cons.mpr ⟨lw_p46, List.forall_mem_cons.mpr ⟨lw_p47, fun _ h => absurd h List.not_mem_nil⟩⟩⟩⟩⟩⟩⟩⟩⟩⟩⟩⟩⟩⟩⟩⟩
theorem lw_p48 : lw_okq (⟨"BeadSchoolModel", "isStuck", "(II)Z"⟩, 45) := ⟨⟨by decide +kernel, by decide +kernel⟩, List.mem_of_getElem? (i := 808) (by decide +kernel), List.mem_of_getElem? (i := 1176) (by decide +kernel), List.mem_of_getElem? (i := 1177) (by decide +kernel)⟩
theorem lw_p49 : lw_okq (⟨"BeadSchoolModel", "ended", "(Z)I"⟩, 45) := ⟨⟨by decide +kernel, by decide +kernel⟩, List.mem_of_getElem? (i := 808) (by decide +kernel), List.mem_of_getElem? (i := 1183) (by decide +kernel), List.mem_of_getElem? (i := 1184) (by decide +kernel)⟩
theorem lw_p50 : lw_okq (⟨"BeadSchoolModel", "back", "(I)V"⟩, 45) := ⟨⟨by decide +kernel, by decide +kernel⟩, List.mem_of_getElem? (i := 808) (by decide +kernel), List.mem_of_getElem? (i := 1187) (by decide +kernel), List.mem_of_getElem? (i := 1188) (by decide +kernel)⟩
theorem lw_p51 : lw_okq (⟨"BeadSchoolModel", "multiply", "(IJJ)Z"⟩, 45) := ⟨⟨by decide +kernel, by decide +kernel⟩, List.mem_of_getElem? (i := 808) (by decide +kernel), List.mem_of_getElem? (i := 1199) (by decide +kernel), List.mem_of_getElem? (i := 1200) (by decide +kernel)⟩
theorem lw_p52 : lw_okq (⟨"BeadSchoolModel", "clear", "(I)Z"⟩, 45) := ⟨⟨by decide +kernel, by decide +kernel⟩, List.mem_of_getElem? (i := 808) (by decide +kernel), List.mem_of_getElem? (i := 1203) (by decide +kernel), List.mem_of_getElem? (i := 1204) (by decide +kernel)⟩
theorem lw_p53 : lw_okq (⟨"BeadSchoolModel", "changeTwo", "(IIII)Z"⟩, 45) := ⟨⟨by decide +kernel, by decide +kernel⟩, List.mem_of_getElem? (i := 808) (by decide +kernel), List.mem_of_getElem? (i := 1207) (by decide +kernel), List.mem_of_getElem? (i := 1208) (by decide +kernel)⟩
theorem lw_p54 : lw_okq (⟨"BeadSchoolModel", "bars", "(IIZ)I"⟩, 45) := ⟨⟨by decide +kernel, by decide +kernel⟩, List.mem_of_getElem? (i := 808) (by decide +kernel), List.mem_of_getElem? (i := 1215) (by decide +kernel), List.mem_of_getElem? (i := 1216) (by decide +kernel)⟩
theorem lw_p55 : lw_okq (⟨"BeadSchoolModel", "divided", "(IIJJ)Z"⟩, 45) := ⟨⟨by decide +kernel, by decide +kernel⟩, List.mem_of_getElem? (i := 808) (by decide +kernel), List.mem_of_getElem? (i := 1219) (by decide +kernel), List.mem_of_getElem? (i := 1220) (by decide +kernel)⟩
theorem lw_p56 : lw_okq (⟨"BeadSchoolModel", "rootOf", "(IIZ)I"⟩, 45) := ⟨⟨by decide +kernel, by decide +kernel⟩, List.mem_of_getElem? (i := 808) (by decide +kernel), List.mem_of_getElem? (i := 1230) (by decide +kernel), List.mem_of_getElem? (i := 1231) (by decide +kernel)⟩
theorem lw_p57 : lw_okq (⟨"BeadSchoolModel", "rooted", "(IIJZ)Z"⟩, 45) := ⟨⟨by decide +kernel, by decide +kernel⟩, List.mem_of_getElem? (i := 808) (by decide +kernel), List.mem_of_getElem? (i := 1234) (by decide +kernel), List.mem_of_getElem? (i := 1235) (by decide +kernel)⟩
theorem lw_p58 : lw_okq (⟨"BeadSchoolModel", "isLike", "(II)Z"⟩, 45) := ⟨⟨by decide +kernel, by decide +kernel⟩, List.mem_of_getElem? (i := 808) (by decide +kernel), List.mem_of_getElem? (i := 1286) (by decide +kernel), List.mem_of_getElem? (i := 1287) (by decide +kernel)⟩
theorem lw_p59 : lw_okq (⟨"BeadSchoolModel", "draw", "()I"⟩, 45) := ⟨⟨by decide +kernel, by decide +kernel⟩, List.mem_of_getElem? (i := 808) (by decide +kernel), List.mem_of_getElem? (i := 1303) (by decide +kernel), List.mem_of_getElem? (i := 1304) (by decide +kernel)⟩
theorem lw_p60 : lw_okq (⟨"BeadSchoolModel", "writeNumber", "(III)V"⟩, 45) := ⟨⟨by decide +kernel, by decide +kernel⟩, List.mem_of_getElem? (i := 808) (by decide +kernel), List.mem_of_getElem? (i := 1308) (by decide +kernel), List.mem_of_getElem? (i := 1309) (by decide +kernel)⟩
theorem lw_p61 : lw_okq (⟨"BeadSchoolModel", "findFillings", "(I)V"⟩, 45) := ⟨⟨by decide +kernel, by decide +kernel⟩, List.mem_of_getElem? (i := 808) (by decide +kernel), List.mem_of_getElem? (i := 1312) (by decide +kernel), List.mem_of_getElem? (i := 1313) (by decide +kernel)⟩
theorem lw_p62 : lw_okq (⟨"BeadSchoolModel", "numberAt", "(II)I"⟩, 45) := ⟨⟨by decide +kernel, by decide +kernel⟩, List.mem_of_getElem? (i := 808) (by decide +kernel), List.mem_of_getElem? (i := 1316) (by decide +kernel), List.mem_of_getElem? (i := 1317) (by decide +kernel)⟩
theorem lw_p63 : lw_okq (⟨"BeadSchoolModel", "isExercise", "(I)Z"⟩, 45) := ⟨⟨by decide +kernel, by decide +kernel⟩, List.mem_of_getElem? (i := 808) (by decide +kernel), List.mem_of_getElem? (i := 1327) (by decide +kernel), List.mem_of_getElem? (i := 1328) (by decide +kernel)⟩
def lw_privs_4 : List (MethodName × Nat) := [(⟨"BeadSchoolModel", "isStuck", "(II)Z"⟩, 45), (⟨"BeadSchoolModel", "ended", "(Z)I"⟩, 45), (⟨"BeadSchoolModel", "back", "(I)V"⟩, 45), (⟨"BeadSchoolModel", "multiply", "(IJJ)Z"⟩, 45), (⟨"BeadSchoolModel", "clear", "(I)Z"⟩, 45), (⟨"BeadSchoolModel", "changeTwo", "(IIII)Z"⟩, 45), (⟨"BeadSchoolModel", "bars", "(IIZ)I"⟩, 45), (⟨"BeadSchoolModel", "divided", "(IIJJ)Z"⟩, 45), (⟨"BeadSchoolModel", "rootOf", "(IIZ)I"⟩, 45), (⟨"BeadSchoolModel", "rooted", "(IIJZ)Z"⟩, 45), (⟨"BeadSchoolModel", "isLike", "(II)Z"⟩, 45), (⟨"BeadSchoolModel", "draw", "()I"⟩, 45), (⟨"BeadSchoolModel", "writeNumber", "(III)V"⟩, 45), (⟨"BeadSchoolModel", "findFillings", "(I)V"⟩, 45), (⟨"BeadSchoolModel", "numberAt", "(II)I"⟩, 45), (⟨"BeadSchoolModel", "isExercise", "(I)Z"⟩, 45)]
theorem lw_r4 : ∀ q ∈ lw_privs_4, lw_okq q := List.forall_mem_cons.mpr ⟨lw_p48, List.forall_mem_cons.mpr ⟨lw_p49, List.forall_mem_cons.mpr ⟨lw_p50, List.forall_mem_cons.mpr ⟨lw_p51, List.forall_mem_cons.mpr ⟨lw_p52, List.forall_mem_cons.mpr ⟨lw_p53, List.forall_mem_cons.mpr ⟨lw_p54, List.forall_mem_cons.mpr ⟨lw_p55, List.forall_mem_cons.mpr ⟨lw_p56, List.forall_mem_cons.mpr ⟨lw_p57, List.forall_mem_cons.mpr ⟨lw_p58, List.forall_mem_cons.mpr ⟨lw_p59, List.forall_mem_cons.mpr ⟨lw_p60, List.forall_mem_cons.mpr ⟨lw_p61, List.forall_mem_cons.mpr ⟨lw_p62, List.forall_mem_cons.mpr ⟨lw_p63, fun _ h => absurd h List.not_mem_nil⟩⟩⟩⟩⟩⟩⟩⟩⟩⟩⟩⟩⟩⟩⟩⟩
def lw_privs : List (MethodName × Nat) := lw_privs_1 ++ (lw_privs_2 ++ (lw_privs_3 ++ (lw_privs_4)))
def lw_tbl : List Cond := k2_sels lw_privs ++ tables_1
theorem lw_privs_ok : ∀ q ∈ lw_privs, lw_okq q := by
  show ∀ q ∈ lw_privs_1 ++ (lw_privs_2 ++ (lw_privs_3 ++ (lw_privs_4))), lw_okq q
  exact List.forall_mem_append.mpr ⟨lw_r1, List.forall_mem_append.mpr ⟨lw_r2, List.forall_mem_append.mpr ⟨lw_r3, lw_r4⟩⟩⟩
/-- the streams that the claim lets the run draw from -/
abbrev lw_cs : List Choice := [Jvm.Choice.named "NaN.bits", Jvm.Choice.named "NaN.copy"]
theorem lw_bits : nanBits ∈ lw_cs := by first | decide | exact List.mem_cons_self | simp [lw_cs, nanBits]
end
section
/-! names of the classes, fields, methods (out of the printed text of the program) -/
def RX0 : String := "BeadSchool$Exercise"
def TX0 : u_T := fun k => match k with
  | 0 => ("BeadSchool$Exercise", "kind", "I", true)
  | 1 => ("BeadSchool$Exercise", "digits", "[I", true)
  | 2 => ("BeadSchool$Exercise", "blanks", "I", false)
  | 3 => ("BeadSchool$Exercise", "ways", "I", false)
  | _ => ("BeadSchool$Exercise", "first", "I", false)
def tyX0 : Nat → FieldType := fun k => match k with
  | 0 => .int
  | 1 => .array .int
  | 2 => .int
  | 3 => .int
  | _ => .int
abbrev wsX00 : List Cond := u_ws RX0 TX0 5
theorem nmX0 : ∀ a, a < 5 → ∀ b, b < 5 → a ≠ b → (TX0 a).2.1 ≠ (TX0 b).2.1 := by decide +kernel
theorem tyX0_ok : ∀ k, k < 5 → parseFieldDescriptor (TX0 k).2.2.1 = some (tyX0 k) := by decide +kernel
abbrev cX0_init : ByteArray := prog_2_method_1_code
def yX0_init : MethodName := ⟨RX0, "<init>", "(II)V"⟩
abbrev cX0_next : ByteArray := prog_2_method_2_code
def yX0_next : MethodName := ⟨RX0, "next", "(I)I"⟩
abbrev cX0_drawn : ByteArray := prog_2_method_3_code
def yX0_drawn : MethodName := ⟨RX0, "drawn", "(II)I"⟩
abbrev cX0_freePlace : ByteArray := prog_2_method_4_code
def yX0_freePlace : MethodName := ⟨RX0, "freePlace", "(II)I"⟩
abbrev cX0_result : ByteArray := prog_2_method_5_code
def yX0_result : MethodName := ⟨RX0, "result", "(III)I"⟩
abbrev cX0_spread : ByteArray := prog_2_method_6_code
def yX0_spread : MethodName := ⟨RX0, "spread", "(III[I)V"⟩
abbrev cX0_isBlank : ByteArray := prog_2_method_7_code
def yX0_isBlank : MethodName := ⟨RX0, "isBlank", "(I)Z"⟩
abbrev cX0_fits : ByteArray := prog_2_method_8_code
def yX0_fits : MethodName := ⟨RX0, "fits", "(I)Z"⟩
abbrev cX0_solve : ByteArray := prog_2_method_9_code
def yX0_solve : MethodName := ⟨RX0, "solve", "()V"⟩
abbrev cX0_tryFrom : ByteArray := prog_2_method_10_code
def yX0_tryFrom : MethodName := ⟨RX0, "tryFrom", "(II)V"⟩
abbrev cX0_note : ByteArray := prog_2_method_11_code
def yX0_note : MethodName := ⟨RX0, "note", "(I)V"⟩
def RX1 : String := "BeadSchool$Frame"
def TX1 : u_T := fun k => match k with
  | 0 => ("BeadSchool$Frame", "number", "I", true)
  | 1 => ("BeadSchool$Frame", "kind", "I", true)
  | 2 => ("BeadSchool$Frame", "base", "I", true)
  | 3 => ("BeadSchool$Frame", "deep", "I", true)
  | 4 => ("BeadSchool$Frame", "members", "I", true)
  | 5 => ("BeadSchool$Frame", "rods", "[LBeadSchool$Rod;", true)
  | 6 => ("BeadSchool$Frame", "first", "LBeadSchool$Frame;", true)
  | _ => ("BeadSchool$Frame", "second", "LBeadSchool$Frame;", true)
def tyX1 : Nat → FieldType := fun k => match k with
  | 0 => .int
  | 1 => .int
  | 2 => .int
  | 3 => .int
  | 4 => .int
  | 5 => .array (.object "BeadSchool$Rod")
  | 6 => .object "BeadSchool$Frame"
  | _ => .object "BeadSchool$Frame"
abbrev wsX10 : List Cond := u_ws RX1 TX1 8
theorem nmX1 : ∀ a, a < 8 → ∀ b, b < 8 → a ≠ b → (TX1 a).2.1 ≠ (TX1 b).2.1 := by decide +kernel
theorem tyX1_ok : ∀ k, k < 8 → parseFieldDescriptor (TX1 k).2.2.1 = some (tyX1 k) := by decide +kernel
abbrev cX1_init : ByteArray := prog_3_method_1_code
def yX1_init : MethodName := ⟨RX1, "<init>", "(III)V"⟩
abbrev cX1_init_ : ByteArray := prog_3_method_2_code
def yX1_init_ : MethodName := ⟨RX1, "<init>", "(ILBeadSchool$Frame;LBeadSchool$Frame;)V"⟩
abbrev cX1_holds : ByteArray := prog_3_method_3_code
def yX1_holds : MethodName := ⟨RX1, "holds", "(I)Z"⟩
abbrev cX1_holdsAll : ByteArray := prog_3_method_4_code
def yX1_holdsAll : MethodName := ⟨RX1, "holdsAll", "(III)Z"⟩
abbrev cX1_readFault : ByteArray := prog_3_method_5_code
def yX1_readFault : MethodName := ⟨RX1, "readFault", "(I)I"⟩
abbrev cX1_numberFault : ByteArray := prog_3_method_6_code
def yX1_numberFault : MethodName := ⟨RX1, "numberFault", "(II)I"⟩
abbrev cX1_firstFault : ByteArray := prog_3_method_7_code
def yX1_firstFault : MethodName := ⟨RX1, "firstFault", "()I"⟩
abbrev cX1_sum : ByteArray := prog_3_method_8_code
def yX1_sum : MethodName := ⟨RX1, "sum", "()J"⟩
abbrev cX1_writeNumber : ByteArray := prog_3_method_9_code
def yX1_writeNumber : MethodName := ⟨RX1, "writeNumber", "(J)V"⟩
abbrev cX1_allProper : ByteArray := prog_3_method_10_code
def yX1_allProper : MethodName := ⟨RX1, "allProper", "()Z"⟩
abbrev cX1_readable : ByteArray := prog_3_method_11_code
def yX1_readable : MethodName := ⟨RX1, "readable", "()I"⟩
abbrev cX1_digestSum : ByteArray := prog_3_method_12_code
def yX1_digestSum : MethodName := ⟨RX1, "digestSum", "()J"⟩
def RX2 : String := "BeadSchool$Parts"
def TX2 : u_T := fun k => match k with
  | 0 => ("BeadSchool$Parts", "base", "I", false)
  | 1 => ("BeadSchool$Parts", "x", "J", false)
  | 2 => ("BeadSchool$Parts", "v", "J", false)
  | 3 => ("BeadSchool$Parts", "lastI", "I", false)
  | _ => ("BeadSchool$Parts", "lastJ", "I", false)
def tyX2 : Nat → FieldType := fun k => match k with
  | 0 => .int
  | 1 => .long
  | 2 => .long
  | 3 => .int
  | _ => .int
abbrev wsX20 : List Cond := u_ws RX2 TX2 5
theorem nmX2 : ∀ a, a < 5 → ∀ b, b < 5 → a ≠ b → (TX2 a).2.1 ≠ (TX2 b).2.1 := by decide +kernel
theorem tyX2_ok : ∀ k, k < 5 → parseFieldDescriptor (TX2 k).2.2.1 = some (tyX2 k) := by decide +kernel
abbrev cX2_init : ByteArray := prog_4_method_1_code
def yX2_init : MethodName := ⟨RX2, "<init>", "()V"⟩
abbrev cX2_open : ByteArray := prog_4_method_2_code
def yX2_open : MethodName := ⟨RX2, "open", "(IJJ)V"⟩
abbrev cX2_comeTo : ByteArray := prog_4_method_3_code
def yX2_comeTo : MethodName := ⟨RX2, "comeTo", "(II)V"⟩
abbrev cX2_faultAt : ByteArray := prog_4_method_4_code
def yX2_faultAt : MethodName := ⟨RX2, "faultAt", "(II)I"⟩
abbrev cX2_at : ByteArray := prog_4_method_5_code
def yX2_at : MethodName := ⟨RX2, "at", "(II)J"⟩
def RX3 : String := "BeadSchool$Reckoning"
def TX3 : u_T := fun k => match k with
  | 0 => ("BeadSchool$Reckoning", "parts", "LBeadSchool$Parts;", true)
  | 1 => ("BeadSchool$Reckoning", "row", "[I", false)
  | 2 => ("BeadSchool$Reckoning", "count", "I", false)
  | 3 => ("BeadSchool$Reckoning", "standing", "I", false)
  | 4 => ("BeadSchool$Reckoning", "disturbed", "Z", false)
  | 5 => ("BeadSchool$Reckoning", "f", "LBeadSchool$Frame;", false)
  | 6 => ("BeadSchool$Reckoning", "g", "LBeadSchool$Frame;", false)
  | 7 => ("BeadSchool$Reckoning", "stuckBy", "I", false)
  | 8 => ("BeadSchool$Reckoning", "stuckRod", "I", false)
  | 9 => ("BeadSchool$Reckoning", "stuckFrame", "I", false)
  | 10 => ("BeadSchool$Reckoning", "wentThrough", "I", false)
  | _ => ("BeadSchool$Reckoning", "gotStuck", "I", false)
def tyX3 : Nat → FieldType := fun k => match k with
  | 0 => .object "BeadSchool$Parts"
  | 1 => .array .int
  | 2 => .int
  | 3 => .int
  | 4 => .boolean
  | 5 => .object "BeadSchool$Frame"
  | 6 => .object "BeadSchool$Frame"
  | 7 => .int
  | 8 => .int
  | 9 => .int
  | 10 => .int
  | _ => .int
abbrev wsX30 : List Cond := u_ws RX3 TX3 12
theorem nmX3 : ∀ a, a < 12 → ∀ b, b < 12 → a ≠ b → (TX3 a).2.1 ≠ (TX3 b).2.1 := by decide +kernel
theorem tyX3_ok : ∀ k, k < 12 → parseFieldDescriptor (TX3 k).2.2.1 = some (tyX3 k) := by decide +kernel
abbrev cX3_init : ByteArray := prog_5_method_1_code
def yX3_init : MethodName := ⟨RX3, "<init>", "()V"⟩
abbrev cX3_open : ByteArray := prog_5_method_2_code
def yX3_open : MethodName := ⟨RX3, "open", "(LBeadSchool$Frame;LBeadSchool$Frame;)V"⟩
abbrev cX3_close : ByteArray := prog_5_method_3_code
def yX3_close : MethodName := ⟨RX3, "close", "(Z)I"⟩
abbrev cX3_tell : ByteArray := prog_5_method_4_code
def yX3_tell : MethodName := ⟨RX3, "tell", "(II)I"⟩
abbrev cX3_countOn : ByteArray := prog_5_method_5_code
def yX3_countOn : MethodName := ⟨RX3, "countOn", "(III)I"⟩
abbrev cX3_takeBack : ByteArray := prog_5_method_6_code
def yX3_takeBack : MethodName := ⟨RX3, "takeBack", "(I)V"⟩
abbrev cX3_canRead : ByteArray := prog_5_method_7_code
def yX3_canRead : MethodName := ⟨RX3, "canRead", "(LBeadSchool$Frame;I)Z"⟩
abbrev cX3_oneStep : ByteArray := prog_5_method_8_code
def yX3_oneStep : MethodName := ⟨RX3, "oneStep", "(LBeadSchool$Frame;II)I"⟩
abbrev cX3_reasonFor : ByteArray := prog_5_method_9_code
def yX3_reasonFor : MethodName := ⟨RX3, "reasonFor", "(IIII)I"⟩
abbrev cX3_put : ByteArray := prog_5_method_10_code
def yX3_put : MethodName := ⟨RX3, "put", "(LBeadSchool$Frame;II)Z"⟩
abbrev cX3_putDigits : ByteArray := prog_5_method_11_code
def yX3_putDigits : MethodName := ⟨RX3, "putDigits", "(LBeadSchool$Frame;JII)Z"⟩
abbrev cX3_clear : ByteArray := prog_5_method_12_code
def yX3_clear : MethodName := ⟨RX3, "clear", "(LBeadSchool$Frame;)Z"⟩
abbrev cX3_multiply : ByteArray := prog_5_method_13_code
def yX3_multiply : MethodName := ⟨RX3, "multiply", "(LBeadSchool$Frame;J)Z"⟩
abbrev cX3_quotient : ByteArray := prog_5_method_14_code
def yX3_quotient : MethodName := ⟨RX3, "quotient", "(LBeadSchool$Frame;LBeadSchool$Frame;J)Z"⟩
abbrev cX3_firstTrial : ByteArray := prog_5_method_15_code
def yX3_firstTrial : MethodName := ⟨RX3, "firstTrial", "(JIII)I"⟩
abbrev cX3_takeProducts : ByteArray := prog_5_method_16_code
def yX3_takeProducts : MethodName := ⟨RX3, "takeProducts", "(LBeadSchool$Frame;JII)Z"⟩
abbrev cX3_taken : ByteArray := prog_5_method_17_code
def yX3_taken : MethodName := ⟨RX3, "taken", "(IJJJ)J"⟩
abbrev cX3_extract : ByteArray := prog_5_method_18_code
def yX3_extract : MethodName := ⟨RX3, "extract", "(LBeadSchool$Frame;LBeadSchool$Frame;I)Z"⟩
abbrev cX3_turnOver : ByteArray := prog_5_method_19_code
def yX3_turnOver : MethodName := ⟨RX3, "turnOver", "(LBeadSchool$Frame;LBeadSchool$Frame;)Z"⟩
def RX4 : String := "BeadSchool$Rod"
def TX4 : u_T := fun k => match k with
  | 0 => ("BeadSchool$Rod", "ten", "Z", true)
  | 1 => ("BeadSchool$Rod", "needed", "I", true)
  | 2 => ("BeadSchool$Rod", "mostLower", "I", true)
  | 3 => ("BeadSchool$Rod", "mostUpper", "I", true)
  | 4 => ("BeadSchool$Rod", "numbers", "I", false)
  | 5 => ("BeadSchool$Rod", "lower", "I", false)
  | _ => ("BeadSchool$Rod", "upper", "I", false)
def tyX4 : Nat → FieldType := fun k => match k with
  | 0 => .boolean
  | 1 => .int
  | 2 => .int
  | 3 => .int
  | 4 => .int
  | 5 => .int
  | _ => .int
abbrev wsX40 : List Cond := u_ws RX4 TX4 7
theorem nmX4 : ∀ a, a < 7 → ∀ b, b < 7 → a ≠ b → (TX4 a).2.1 ≠ (TX4 b).2.1 := by decide +kernel
theorem tyX4_ok : ∀ k, k < 7 → parseFieldDescriptor (TX4 k).2.2.1 = some (tyX4 k) := by decide +kernel
abbrev cX4_init : ByteArray := prog_6_method_1_code
def yX4_init : MethodName := ⟨RX4, "<init>", "(I)V"⟩
abbrev cX4_renew : ByteArray := prog_6_method_2_code
def yX4_renew : MethodName := ⟨RX4, "renew", "(I)V"⟩
abbrev cX4_become : ByteArray := prog_6_method_3_code
def yX4_become : MethodName := ⟨RX4, "become", "(LBeadSchool$Rod;)V"⟩
abbrev cX4_readFault : ByteArray := prog_6_method_4_code
def yX4_readFault : MethodName := ⟨RX4, "readFault", "()I"⟩
abbrev cX4_numberFault : ByteArray := prog_6_method_5_code
def yX4_numberFault : MethodName := ⟨RX4, "numberFault", "(I)I"⟩
abbrev cX4_number : ByteArray := prog_6_method_6_code
def yX4_number : MethodName := ⟨RX4, "number", "(I)I"⟩
abbrev cX4_most : ByteArray := prog_6_method_7_code
def yX4_most : MethodName := ⟨RX4, "most", "(I)I"⟩
abbrev cX4_put : ByteArray := prog_6_method_8_code
def yX4_put : MethodName := ⟨RX4, "put", "(II)V"⟩
abbrev cX4_value : ByteArray := prog_6_method_9_code
def yX4_value : MethodName := ⟨RX4, "value", "()I"⟩
abbrev cX4_writtenUpper : ByteArray := prog_6_method_10_code
def yX4_writtenUpper : MethodName := ⟨RX4, "writtenUpper", "(I)I"⟩
abbrev cX4_write : ByteArray := prog_6_method_11_code
def yX4_write : MethodName := ⟨RX4, "write", "(I)V"⟩
abbrev cX4_isProper : ByteArray := prog_6_method_12_code
def yX4_isProper : MethodName := ⟨RX4, "isProper", "(I)Z"⟩
abbrev cX4_digestOn : ByteArray := prog_6_method_13_code
def yX4_digestOn : MethodName := ⟨RX4, "digestOn", "(J)J"⟩
def RX5 : String := "BeadSchool"
def TX5 : u_T := fun k => match k with
  | 0 => ("BeadSchool", "frames", "[LBeadSchool$Frame;", true)
  | 1 => ("BeadSchool", "frameCount", "I", false)
  | 2 => ("BeadSchool", "exercises", "[LBeadSchool$Exercise;", true)
  | 3 => ("BeadSchool", "exerciseCount", "I", false)
  | 4 => ("BeadSchool", "latest", "LBeadSchool$Reckoning;", true)
  | 5 => ("BeadSchool", "pupilRow", "[I", false)
  | 6 => ("BeadSchool", "pupilCount", "I", false)
  | 7 => ("BeadSchool", "traced", "I", false)
  | 8 => ("BeadSchool", "came", "I", false)
  | 9 => ("BeadSchool", "latestFault", "I", false)
  | _ => ("BeadSchool", "faultCount", "I", false)
def tyX5 : Nat → FieldType := fun k => match k with
  | 0 => .array (.object "BeadSchool$Frame")
  | 1 => .int
  | 2 => .array (.object "BeadSchool$Exercise")
  | 3 => .int
  | 4 => .object "BeadSchool$Reckoning"
  | 5 => .array .int
  | 6 => .int
  | 7 => .int
  | 8 => .int
  | 9 => .int
  | _ => .int
abbrev wsX50 : List Cond := u_ws RX5 TX5 11
theorem nmX5 : ∀ a, a < 11 → ∀ b, b < 11 → a ≠ b → (TX5 a).2.1 ≠ (TX5 b).2.1 := by decide +kernel
theorem tyX5_ok : ∀ k, k < 11 → parseFieldDescriptor (TX5 k).2.2.1 = some (tyX5 k) := by decide +kernel
abbrev cX5_init : ByteArray := prog_1_method_1_code
def yX5_init : MethodName := ⟨RX5, "<init>", "()V"⟩
abbrev cX5_frame : ByteArray := prog_1_method_2_code
def yX5_frame : MethodName := ⟨RX5, "frame", "(II)I"⟩
abbrev cX5_both : ByteArray := prog_1_method_3_code
def yX5_both : MethodName := ⟨RX5, "both", "(II)I"⟩
abbrev cX5_rod : ByteArray := prog_1_method_4_code
def yX5_rod : MethodName := ⟨RX5, "rod", "(III)I"⟩
abbrev cX5_push : ByteArray := prog_1_method_5_code
def yX5_push : MethodName := ⟨RX5, "push", "(IIII)I"⟩
abbrev cX5_beads : ByteArray := prog_1_method_6_code
def yX5_beads : MethodName := ⟨RX5, "beads", "(III)I"⟩
abbrev cX5_digit : ByteArray := prog_1_method_7_code
def yX5_digit : MethodName := ⟨RX5, "digit", "(II)I"⟩
abbrev cX5_shows : ByteArray := prog_1_method_8_code
def yX5_shows : MethodName := ⟨RX5, "shows", "(I)J"⟩
abbrev cX5_set : ByteArray := prog_1_method_9_code
def yX5_set : MethodName := ⟨RX5, "set", "(IJ)I"⟩
abbrev cX5_proper : ByteArray := prog_1_method_10_code
def yX5_proper : MethodName := ⟨RX5, "proper", "(I)I"⟩
abbrev cX5_size : ByteArray := prog_1_method_11_code
def yX5_size : MethodName := ⟨RX5, "size", "(II)I"⟩
abbrev cX5_meant : ByteArray := prog_1_method_12_code
def yX5_meant : MethodName := ⟨RX5, "meant", "(II)I"⟩
abbrev cX5_asks : ByteArray := prog_1_method_13_code
def yX5_asks : MethodName := ⟨RX5, "asks", "(II)I"⟩
abbrev cX5_trace : ByteArray := prog_1_method_14_code
def yX5_trace : MethodName := ⟨RX5, "trace", "()I"⟩
abbrev cX5_copy : ByteArray := prog_1_method_15_code
def yX5_copy : MethodName := ⟨RX5, "copy", "(IIIII)I"⟩
abbrev cX5_copied : ByteArray := prog_1_method_16_code
def yX5_copied : MethodName := ⟨RX5, "copied", "()I"⟩
abbrev cX5_digest : ByteArray := prog_1_method_17_code
def yX5_digest : MethodName := ⟨RX5, "digest", "(I)J"⟩
abbrev cX5_ofFloat : ByteArray := prog_1_method_18_code
def yX5_ofFloat : MethodName := ⟨RX5, "ofFloat", "(II)I"⟩
abbrev cX5_ofDouble : ByteArray := prog_1_method_19_code
def yX5_ofDouble : MethodName := ⟨RX5, "ofDouble", "(IJ)I"⟩
abbrev cX5_restFloat : ByteArray := prog_1_method_20_code
def yX5_restFloat : MethodName := ⟨RX5, "restFloat", "(II)I"⟩
abbrev cX5_restDouble : ByteArray := prog_1_method_21_code
def yX5_restDouble : MethodName := ⟨RX5, "restDouble", "(JJ)J"⟩
abbrev cX5_add : ByteArray := prog_1_method_22_code
def yX5_add : MethodName := ⟨RX5, "add", "(IJ)I"⟩
abbrev cX5_less : ByteArray := prog_1_method_23_code
def yX5_less : MethodName := ⟨RX5, "less", "(IJ)I"⟩
abbrev cX5_times : ByteArray := prog_1_method_24_code
def yX5_times : MethodName := ⟨RX5, "times", "(IJ)I"⟩
abbrev cX5_divide : ByteArray := prog_1_method_25_code
def yX5_divide : MethodName := ⟨RX5, "divide", "(IIJ)I"⟩
abbrev cX5_root : ByteArray := prog_1_method_26_code
def yX5_root : MethodName := ⟨RX5, "root", "(II)I"⟩
abbrev cX5_cube : ByteArray := prog_1_method_27_code
def yX5_cube : MethodName := ⟨RX5, "cube", "(II)I"⟩
abbrev cX5_turn : ByteArray := prog_1_method_28_code
def yX5_turn : MethodName := ⟨RX5, "turn", "(II)I"⟩
abbrev cX5_part : ByteArray := prog_1_method_29_code
def yX5_part : MethodName := ⟨RX5, "part", "(II)J"⟩
abbrev cX5_tally : ByteArray := prog_1_method_30_code
def yX5_tally : MethodName := ⟨RX5, "tally", "(II)I"⟩
abbrev cX5_steps : ByteArray := prog_1_method_31_code
def yX5_steps : MethodName := ⟨RX5, "steps", "()I"⟩
abbrev cX5_step : ByteArray := prog_1_method_32_code
def yX5_step : MethodName := ⟨RX5, "step", "(II)I"⟩
abbrev cX5_stuck : ByteArray := prog_1_method_33_code
def yX5_stuck : MethodName := ⟨RX5, "stuck", "(I)I"⟩
abbrev cX5_undo : ByteArray := prog_1_method_34_code
def yX5_undo : MethodName := ⟨RX5, "undo", "()I"⟩
abbrev cX5_pupil : ByteArray := prog_1_method_35_code
def yX5_pupil : MethodName := ⟨RX5, "pupil", "(IIII)I"⟩
abbrev cX5_begin : ByteArray := prog_1_method_36_code
def yX5_begin : MethodName := ⟨RX5, "begin", "()I"⟩
abbrev cX5_slip : ByteArray := prog_1_method_37_code
def yX5_slip : MethodName := ⟨RX5, "slip", "()I"⟩
abbrev cX5_lapse : ByteArray := prog_1_method_38_code
def yX5_lapse : MethodName := ⟨RX5, "lapse", "()I"⟩
abbrev cX5_fix : ByteArray := prog_1_method_39_code
def yX5_fix : MethodName := ⟨RX5, "fix", "()I"⟩
abbrev cX5_exercise : ByteArray := prog_1_method_40_code
def yX5_exercise : MethodName := ⟨RX5, "exercise", "(II)I"⟩
abbrev cX5_place : ByteArray := prog_1_method_41_code
def yX5_place : MethodName := ⟨RX5, "place", "(II)I"⟩
abbrev cX5_fillings : ByteArray := prog_1_method_42_code
def yX5_fillings : MethodName := ⟨RX5, "fillings", "(I)I"⟩
abbrev cX5_answer : ByteArray := prog_1_method_43_code
def yX5_answer : MethodName := ⟨RX5, "answer", "(II)I"⟩
abbrev cX5_told : ByteArray := prog_1_method_44_code
def yX5_told : MethodName := ⟨RX5, "told", "(I)I"⟩
abbrev cX5_fault : ByteArray := prog_1_method_45_code
def yX5_fault : MethodName := ⟨RX5, "fault", "()I"⟩
abbrev cX5_known : ByteArray := prog_1_method_46_code
def yX5_known : MethodName := ⟨RX5, "known", "(I)LBeadSchool$Frame;"⟩
abbrev cX5_knownExercise : ByteArray := prog_1_method_47_code
def yX5_knownExercise : MethodName := ⟨RX5, "knownExercise", "(I)LBeadSchool$Exercise;"⟩
abbrev cX5_faulted : ByteArray := prog_1_method_48_code
def yX5_faulted : MethodName := ⟨RX5, "faulted", "(I)I"⟩
abbrev cX5_lost : ByteArray := prog_1_method_49_code
def yX5_lost : MethodName := ⟨RX5, "lost", "(I)J"⟩
abbrev cX5_baseOf : ByteArray := prog_1_method_50_code
def yX5_baseOf : MethodName := ⟨RX5, "baseOf", "(I)I"⟩
abbrev cX5_mostRods : ByteArray := prog_1_method_51_code
def yX5_mostRods : MethodName := ⟨RX5, "mostRods", "(I)I"⟩
abbrev cX5_isA : ByteArray := prog_1_method_52_code
def yX5_isA : MethodName := ⟨RX5, "isA", "(II)Z"⟩
abbrev cX5_writeAll : ByteArray := prog_1_method_53_code
def yX5_writeAll : MethodName := ⟨RX5, "writeAll", "(LBeadSchool$Frame;J)I"⟩
abbrev cX5_copyWithin : ByteArray := prog_1_method_54_code
def yX5_copyWithin : MethodName := ⟨RX5, "copyWithin", "(LBeadSchool$Frame;III)I"⟩
abbrev cX5_copyAcross : ByteArray := prog_1_method_55_code
def yX5_copyAcross : MethodName := ⟨RX5, "copyAcross", "(LBeadSchool$Frame;ILBeadSchool$Frame;II)I"⟩
abbrev cX5_refusalOf : ByteArray := prog_1_method_56_code
def yX5_refusalOf : MethodName := ⟨RX5, "refusalOf", "(LBeadSchool$Frame;J)I"⟩
abbrev cX5_refusalOfTwo : ByteArray := prog_1_method_57_code
def yX5_refusalOfTwo : MethodName := ⟨RX5, "refusalOfTwo", "(LBeadSchool$Frame;LBeadSchool$Frame;JZ)I"⟩
abbrev cX5_opened : ByteArray := prog_1_method_58_code
def yX5_opened : MethodName := ⟨RX5, "opened", "(LBeadSchool$Frame;LBeadSchool$Frame;IZ)I"⟩
abbrev cX5_sumUp : ByteArray := prog_1_method_59_code
def yX5_sumUp : MethodName := ⟨RX5, "sumUp", "(LBeadSchool$Frame;JI)I"⟩
abbrev cX5_rootBy : ByteArray := prog_1_method_60_code
def yX5_rootBy : MethodName := ⟨RX5, "rootBy", "(LBeadSchool$Frame;LBeadSchool$Frame;I)I"⟩
abbrev cX5_begun : ByteArray := prog_1_method_61_code
def yX5_begun : MethodName := ⟨RX5, "begun", "(I)V"⟩
abbrev cX5_askBase : ByteArray := prog_1_method_62_code
def yX5_askBase : MethodName := ⟨RX5, "askBase", "(LBeadSchool$Frame;I)I"⟩
abbrev cX5_askBeads : ByteArray := prog_1_method_63_code
def yX5_askBeads : MethodName := ⟨RX5, "askBeads", "(LBeadSchool$Frame;)I"⟩
abbrev cX5_askCarry : ByteArray := prog_1_method_64_code
def yX5_askCarry : MethodName := ⟨RX5, "askCarry", "(LBeadSchool$Frame;I)I"⟩
abbrev cX5_askJudge : ByteArray := prog_1_method_65_code
def yX5_askJudge : MethodName := ⟨RX5, "askJudge", "(LBeadSchool$Frame;)I"⟩
abbrev cX5_digitCount : ByteArray := prog_1_method_66_code
def yX5_digitCount : MethodName := ⟨RX5, "digitCount", "(JI)I"⟩
abbrev cX5_digitAt : ByteArray := prog_1_method_67_code
def yX5_digitAt : MethodName := ⟨RX5, "digitAt", "(JII)I"⟩
abbrev cX5_power : ByteArray := prog_1_method_68_code
def yX5_power : MethodName := ⟨RX5, "power", "(II)J"⟩
abbrev cX5_endlessField : ByteArray := prog_1_method_69_code
def yX5_endlessField : MethodName := ⟨RX5, "endlessField", "(I)I"⟩
abbrev cX5_exponentField : ByteArray := prog_1_method_70_code
def yX5_exponentField : MethodName := ⟨RX5, "exponentField", "(JI)I"⟩
abbrev cX5_fraction : ByteArray := prog_1_method_71_code
def yX5_fraction : MethodName := ⟨RX5, "fraction", "(JI)J"⟩
abbrev cX5_significand : ByteArray := prog_1_method_72_code
def yX5_significand : MethodName := ⟨RX5, "significand", "(JI)J"⟩
abbrev cX5_signBit : ByteArray := prog_1_method_73_code
def yX5_signBit : MethodName := ⟨RX5, "signBit", "(JI)J"⟩
abbrev cX5_writeWhole : ByteArray := prog_1_method_74_code
def yX5_writeWhole : MethodName := ⟨RX5, "writeWhole", "(LBeadSchool$Frame;JI)I"⟩
abbrev cX5_shifted : ByteArray := prog_1_method_75_code
def yX5_shifted : MethodName := ⟨RX5, "shifted", "(JI)J"⟩
abbrev cX5_rest : ByteArray := prog_1_method_76_code
def yX5_rest : MethodName := ⟨RX5, "rest", "(JJI)J"⟩
abbrev cX5_packed : ByteArray := prog_1_method_77_code
def yX5_packed : MethodName := ⟨RX5, "packed", "(JII)J"⟩
abbrev cX5_writePupil : ByteArray := prog_1_method_78_code
def yX5_writePupil : MethodName := ⟨RX5, "writePupil", "(IIIII)V"⟩
abbrev cX5_alike : ByteArray := prog_1_method_79_code
def yX5_alike : MethodName := ⟨RX5, "alike", "(II)Z"⟩
abbrev cX5_slipPlace : ByteArray := prog_1_method_80_code
def yX5_slipPlace : MethodName := ⟨RX5, "slipPlace", "()I"⟩
abbrev cX5_lapseAt : ByteArray := prog_1_method_81_code
def yX5_lapseAt : MethodName := ⟨RX5, "lapseAt", "(I)I"⟩
abbrev cX5_singleExercises : ByteArray := prog_1_method_82_code
def yX5_singleExercises : MethodName := ⟨RX5, "singleExercises", "()I"⟩
def RX6 : String := "BeadSchoolModel"
def TX6 : u_T := fun k => match k with
  | 0 => ("BeadSchoolModel", "frames", "I", false)
  | 1 => ("BeadSchoolModel", "kind", "[I", true)
  | 2 => ("BeadSchoolModel", "many", "[I", true)
  | 3 => ("BeadSchoolModel", "base", "[I", true)
  | 4 => ("BeadSchoolModel", "deep", "[I", true)
  | 5 => ("BeadSchoolModel", "first", "[I", true)
  | 6 => ("BeadSchoolModel", "second", "[I", true)
  | 7 => ("BeadSchoolModel", "has", "[I", true)
  | 8 => ("BeadSchoolModel", "rodAt", "[I", true)
  | 9 => ("BeadSchoolModel", "length", "[I", true)
  | 10 => ("BeadSchoolModel", "lower", "[I", true)
  | 11 => ("BeadSchoolModel", "upper", "[I", true)
  | 12 => ("BeadSchoolModel", "trace", "I", false)
  | 13 => ("BeadSchoolModel", "faults", "I", false)
  | 14 => ("BeadSchoolModel", "latestFault", "I", false)
  | 15 => ("BeadSchoolModel", "copied", "I", false)
  | 16 => ("BeadSchoolModel", "met", "I", false)
  | 17 => ("BeadSchoolModel", "waiting", "[I", true)
  | 18 => ("BeadSchoolModel", "hasMethod", "Z", false)
  | 19 => ("BeadSchoolModel", "methodOf", "I", false)
  | 20 => ("BeadSchoolModel", "isBarred", "Z", false)
  | 21 => ("BeadSchoolModel", "steps", "I", false)
  | 22 => ("BeadSchoolModel", "stands", "I", false)
  | 23 => ("BeadSchoolModel", "stuckBy", "I", false)
  | 24 => ("BeadSchoolModel", "stuckRod", "I", false)
  | 25 => ("BeadSchoolModel", "stuckFrame", "I", false)
  | 26 => ("BeadSchoolModel", "well", "I", false)
  | 27 => ("BeadSchoolModel", "badly", "I", false)
  | 28 => ("BeadSchoolModel", "done", "[I", true)
  | 29 => ("BeadSchoolModel", "hasParts", "Z", false)
  | 30 => ("BeadSchoolModel", "rows", "I", false)
  | 31 => ("BeadSchoolModel", "columns", "I", false)
  | 32 => ("BeadSchoolModel", "isRow", "[Z", true)
  | 33 => ("BeadSchoolModel", "parts", "[J", true)
  | 34 => ("BeadSchoolModel", "pupils", "I", false)
  | 35 => ("BeadSchoolModel", "tried", "[I", true)
  | 36 => ("BeadSchoolModel", "exercises", "I", false)
  | 37 => ("BeadSchoolModel", "kindAt", "[I", true)
  | 38 => ("BeadSchoolModel", "written", "[I", true)
  | 39 => ("BeadSchoolModel", "isBlank", "[Z", true)
  | 40 => ("BeadSchoolModel", "filled", "[I", true)
  | 41 => ("BeadSchoolModel", "fillings", "[I", true)
  | 42 => ("BeadSchoolModel", "drawn", "I", false)
  | 43 => ("BeadSchoolModel", "tryRow", "[I", true)
  | _ => ("BeadSchoolModel", "blanks", "[I", true)
def tyX6 : Nat → FieldType := fun k => match k with
  | 0 => .int
  | 1 => .array .int
  | 2 => .array .int
  | 3 => .array .int
  | 4 => .array .int
  | 5 => .array .int
  | 6 => .array .int
  | 7 => .array .int
  | 8 => .array .int
  | 9 => .array .int
  | 10 => .array .int
  | 11 => .array .int
  | 12 => .int
  | 13 => .int
  | 14 => .int
  | 15 => .int
  | 16 => .int
  | 17 => .array .int
  | 18 => .boolean
  | 19 => .int
  | 20 => .boolean
  | 21 => .int
  | 22 => .int
  | 23 => .int
  | 24 => .int
  | 25 => .int
  | 26 => .int
  | 27 => .int
  | 28 => .array .int
  | 29 => .boolean
  | 30 => .int
  | 31 => .int
  | 32 => .array .boolean
  | 33 => .array .long
  | 34 => .int
  | 35 => .array .int
  | 36 => .int
  | 37 => .array .int
  | 38 => .array .int
  | 39 => .array .boolean
  | 40 => .array .int
  | 41 => .array .int
  | 42 => .int
  | 43 => .array .int
  | _ => .array .int
abbrev wsX60 : List Cond := u_ws RX6 TX6 45
theorem nmX6 : ∀ a, a < 45 → ∀ b, b < 45 → a ≠ b → (TX6 a).2.1 ≠ (TX6 b).2.1 := by decide +kernel
theorem tyX6_ok : ∀ k, k < 45 → parseFieldDescriptor (TX6 k).2.2.1 = some (tyX6 k) := by decide +kernel
abbrev cX6_init : ByteArray := prog_8_method_1_code
def yX6_init : MethodName := ⟨RX6, "<init>", "()V"⟩
abbrev cX6_in : ByteArray := prog_8_method_2_code
def yX6_in : MethodName := ⟨RX6, "in", "(JJJ)Z"⟩
abbrev cX6_isFrame : ByteArray := prog_8_method_3_code
def yX6_isFrame : MethodName := ⟨RX6, "isFrame", "(I)Z"⟩
abbrev cX6_meets : ByteArray := prog_8_method_4_code
def yX6_meets : MethodName := ⟨RX6, "meets", "(I)I"⟩
abbrev cX6_loses : ByteArray := prog_8_method_5_code
def yX6_loses : MethodName := ⟨RX6, "loses", "(I)J"⟩
abbrev cX6_kindOf : ByteArray := prog_8_method_6_code
def yX6_kindOf : MethodName := ⟨RX6, "kindOf", "(I)I"⟩
abbrev cX6_rodOf : ByteArray := prog_8_method_7_code
def yX6_rodOf : MethodName := ⟨RX6, "rodOf", "(II)I"⟩
abbrev cX6_against : ByteArray := prog_8_method_8_code
def yX6_against : MethodName := ⟨RX6, "against", "(II)I"⟩
abbrev cX6_digitAt : ByteArray := prog_8_method_9_code
def yX6_digitAt : MethodName := ⟨RX6, "digitAt", "(I)I"⟩
abbrev cX6_upperOf : ByteArray := prog_8_method_10_code
def yX6_upperOf : MethodName := ⟨RX6, "upperOf", "(I)I"⟩
abbrev cX6_write : ByteArray := prog_8_method_11_code
def yX6_write : MethodName := ⟨RX6, "write", "(II)V"⟩
abbrev cX6_isProper : ByteArray := prog_8_method_12_code
def yX6_isProper : MethodName := ⟨RX6, "isProper", "(I)Z"⟩
abbrev cX6_shown : ByteArray := prog_8_method_13_code
def yX6_shown : MethodName := ⟨RX6, "shown", "(I)J"⟩
abbrev cX6_digits : ByteArray := prog_8_method_14_code
def yX6_digits : MethodName := ⟨RX6, "digits", "(JI)I"⟩
abbrev cX6_power : ByteArray := prog_8_method_15_code
def yX6_power : MethodName := ⟨RX6, "power", "(II)J"⟩
abbrev cX6_digitOf : ByteArray := prog_8_method_16_code
def yX6_digitOf : MethodName := ⟨RX6, "digitOf", "(JII)I"⟩
abbrev cX6_frame : ByteArray := prog_8_method_17_code
def yX6_frame : MethodName := ⟨RX6, "frame", "(II)I"⟩
abbrev cX6_both : ByteArray := prog_8_method_18_code
def yX6_both : MethodName := ⟨RX6, "both", "(II)I"⟩
abbrev cX6_rod : ByteArray := prog_8_method_19_code
def yX6_rod : MethodName := ⟨RX6, "rod", "(III)I"⟩
abbrev cX6_againstOne : ByteArray := prog_8_method_20_code
def yX6_againstOne : MethodName := ⟨RX6, "againstOne", "(III)I"⟩
abbrev cX6_mostOf : ByteArray := prog_8_method_21_code
def yX6_mostOf : MethodName := ⟨RX6, "mostOf", "(II)I"⟩
abbrev cX6_push : ByteArray := prog_8_method_22_code
def yX6_push : MethodName := ⟨RX6, "push", "(IIII)I"⟩
abbrev cX6_beads : ByteArray := prog_8_method_23_code
def yX6_beads : MethodName := ⟨RX6, "beads", "(III)I"⟩
abbrev cX6_digit : ByteArray := prog_8_method_24_code
def yX6_digit : MethodName := ⟨RX6, "digit", "(II)I"⟩
abbrev cX6_shows : ByteArray := prog_8_method_25_code
def yX6_shows : MethodName := ⟨RX6, "shows", "(I)J"⟩
abbrev cX6_set : ByteArray := prog_8_method_26_code
def yX6_set : MethodName := ⟨RX6, "set", "(IJ)I"⟩
abbrev cX6_proper : ByteArray := prog_8_method_27_code
def yX6_proper : MethodName := ⟨RX6, "proper", "(I)I"⟩
abbrev cX6_size : ByteArray := prog_8_method_28_code
def yX6_size : MethodName := ⟨RX6, "size", "(II)I"⟩
abbrev cX6_meant : ByteArray := prog_8_method_29_code
def yX6_meant : MethodName := ⟨RX6, "meant", "(II)I"⟩
abbrev cX6_body : ByteArray := prog_8_method_30_code
def yX6_body : MethodName := ⟨RX6, "body", "(I)V"⟩
abbrev cX6_askedBase : ByteArray := prog_8_method_31_code
def yX6_askedBase : MethodName := ⟨RX6, "askedBase", "(I)I"⟩
abbrev cX6_askedBeads : ByteArray := prog_8_method_32_code
def yX6_askedBeads : MethodName := ⟨RX6, "askedBeads", "(I)I"⟩
abbrev cX6_askedCarry : ByteArray := prog_8_method_33_code
def yX6_askedCarry : MethodName := ⟨RX6, "askedCarry", "(I)I"⟩
abbrev cX6_askedJudge : ByteArray := prog_8_method_34_code
def yX6_askedJudge : MethodName := ⟨RX6, "askedJudge", "(I)I"⟩
abbrev cX6_asks : ByteArray := prog_8_method_35_code
def yX6_asks : MethodName := ⟨RX6, "asks", "(II)I"⟩
abbrev cX6_trace : ByteArray := prog_8_method_36_code
def yX6_trace : MethodName := ⟨RX6, "trace", "()I"⟩
abbrev cX6_carry : ByteArray := prog_8_method_37_code
def yX6_carry : MethodName := ⟨RX6, "carry", "(II)V"⟩
abbrev cX6_copy : ByteArray := prog_8_method_38_code
def yX6_copy : MethodName := ⟨RX6, "copy", "(IIIII)I"⟩
abbrev cX6_copied : ByteArray := prog_8_method_39_code
def yX6_copied : MethodName := ⟨RX6, "copied", "()I"⟩
abbrev cX6_digest : ByteArray := prog_8_method_40_code
def yX6_digest : MethodName := ⟨RX6, "digest", "(I)J"⟩
abbrev cX6_ofFloat : ByteArray := prog_8_method_41_code
def yX6_ofFloat : MethodName := ⟨RX6, "ofFloat", "(II)I"⟩
abbrev cX6_ofDouble : ByteArray := prog_8_method_42_code
def yX6_ofDouble : MethodName := ⟨RX6, "ofDouble", "(IJ)I"⟩
abbrev cX6_restFloat : ByteArray := prog_8_method_43_code
def yX6_restFloat : MethodName := ⟨RX6, "restFloat", "(II)I"⟩
abbrev cX6_restDouble : ByteArray := prog_8_method_44_code
def yX6_restDouble : MethodName := ⟨RX6, "restDouble", "(JJ)J"⟩
abbrev cX6_bars : ByteArray := prog_8_method_45_code
def yX6_bars : MethodName := ⟨RX6, "bars", "(IIZ)I"⟩
abbrev cX6_start : ByteArray := prog_8_method_46_code
def yX6_start : MethodName := ⟨RX6, "start", "(I)V"⟩
abbrev cX6_back : ByteArray := prog_8_method_47_code
def yX6_back : MethodName := ⟨RX6, "back", "(I)V"⟩
abbrev cX6_ended : ByteArray := prog_8_method_48_code
def yX6_ended : MethodName := ⟨RX6, "ended", "(Z)I"⟩
abbrev cX6_isStuck : ByteArray := prog_8_method_49_code
def yX6_isStuck : MethodName := ⟨RX6, "isStuck", "(II)Z"⟩
abbrev cX6_reason : ByteArray := prog_8_method_50_code
def yX6_reason : MethodName := ⟨RX6, "reason", "(IIII)I"⟩
abbrev cX6_change : ByteArray := prog_8_method_51_code
def yX6_change : MethodName := ⟨RX6, "change", "(IIII)Z"⟩
abbrev cX6_clear : ByteArray := prog_8_method_52_code
def yX6_clear : MethodName := ⟨RX6, "clear", "(I)Z"⟩
abbrev cX6_changeAll : ByteArray := prog_8_method_53_code
def yX6_changeAll : MethodName := ⟨RX6, "changeAll", "(IIJI)Z"⟩
abbrev cX6_changeTwo : ByteArray := prog_8_method_54_code
def yX6_changeTwo : MethodName := ⟨RX6, "changeTwo", "(IIII)Z"⟩
abbrev cX6_multiply : ByteArray := prog_8_method_55_code
def yX6_multiply : MethodName := ⟨RX6, "multiply", "(IJJ)Z"⟩
abbrev cX6_sum : ByteArray := prog_8_method_56_code
def yX6_sum : MethodName := ⟨RX6, "sum", "(IJI)I"⟩
abbrev cX6_add : ByteArray := prog_8_method_57_code
def yX6_add : MethodName := ⟨RX6, "add", "(IJ)I"⟩
abbrev cX6_less : ByteArray := prog_8_method_58_code
def yX6_less : MethodName := ⟨RX6, "less", "(IJ)I"⟩
abbrev cX6_times : ByteArray := prog_8_method_59_code
def yX6_times : MethodName := ⟨RX6, "times", "(IJ)I"⟩
abbrev cX6_divided : ByteArray := prog_8_method_60_code
def yX6_divided : MethodName := ⟨RX6, "divided", "(IIJJ)Z"⟩
abbrev cX6_divide : ByteArray := prog_8_method_61_code
def yX6_divide : MethodName := ⟨RX6, "divide", "(IIJ)I"⟩
abbrev cX6_wanted : ByteArray := prog_8_method_62_code
def yX6_wanted : MethodName := ⟨RX6, "wanted", "(IJIZ)J"⟩
abbrev cX6_rooted : ByteArray := prog_8_method_63_code
def yX6_rooted : MethodName := ⟨RX6, "rooted", "(IIJZ)Z"⟩
abbrev cX6_rootOf : ByteArray := prog_8_method_64_code
def yX6_rootOf : MethodName := ⟨RX6, "rootOf", "(IIZ)I"⟩
abbrev cX6_root : ByteArray := prog_8_method_65_code
def yX6_root : MethodName := ⟨RX6, "root", "(II)I"⟩
abbrev cX6_cube : ByteArray := prog_8_method_66_code
def yX6_cube : MethodName := ⟨RX6, "cube", "(II)I"⟩
abbrev cX6_turn : ByteArray := prog_8_method_67_code
def yX6_turn : MethodName := ⟨RX6, "turn", "(II)I"⟩
abbrev cX6_part : ByteArray := prog_8_method_68_code
def yX6_part : MethodName := ⟨RX6, "part", "(II)J"⟩
abbrev cX6_tally : ByteArray := prog_8_method_69_code
def yX6_tally : MethodName := ⟨RX6, "tally", "(II)I"⟩
abbrev cX6_steps : ByteArray := prog_8_method_70_code
def yX6_steps : MethodName := ⟨RX6, "steps", "()I"⟩
abbrev cX6_step : ByteArray := prog_8_method_71_code
def yX6_step : MethodName := ⟨RX6, "step", "(II)I"⟩
abbrev cX6_stuck : ByteArray := prog_8_method_72_code
def yX6_stuck : MethodName := ⟨RX6, "stuck", "(I)I"⟩
abbrev cX6_undo : ByteArray := prog_8_method_73_code
def yX6_undo : MethodName := ⟨RX6, "undo", "()I"⟩
abbrev cX6_pupil : ByteArray := prog_8_method_74_code
def yX6_pupil : MethodName := ⟨RX6, "pupil", "(IIII)I"⟩
abbrev cX6_begin : ByteArray := prog_8_method_75_code
def yX6_begin : MethodName := ⟨RX6, "begin", "()I"⟩
abbrev cX6_isLike : ByteArray := prog_8_method_76_code
def yX6_isLike : MethodName := ⟨RX6, "isLike", "(II)Z"⟩
abbrev cX6_slip : ByteArray := prog_8_method_77_code
def yX6_slip : MethodName := ⟨RX6, "slip", "()I"⟩
abbrev cX6_lapse : ByteArray := prog_8_method_78_code
def yX6_lapse : MethodName := ⟨RX6, "lapse", "()I"⟩
abbrev cX6_fix : ByteArray := prog_8_method_79_code
def yX6_fix : MethodName := ⟨RX6, "fix", "()I"⟩
abbrev cX6_draw : ByteArray := prog_8_method_80_code
def yX6_draw : MethodName := ⟨RX6, "draw", "()I"⟩
abbrev cX6_isTrue : ByteArray := prog_8_method_81_code
def yX6_isTrue : MethodName := ⟨RX6, "isTrue", "(IIII)Z"⟩
abbrev cX6_numberAt : ByteArray := prog_8_method_82_code
def yX6_numberAt : MethodName := ⟨RX6, "numberAt", "(II)I"⟩
abbrev cX6_findFillings : ByteArray := prog_8_method_83_code
def yX6_findFillings : MethodName := ⟨RX6, "findFillings", "(I)V"⟩
abbrev cX6_writeNumber : ByteArray := prog_8_method_84_code
def yX6_writeNumber : MethodName := ⟨RX6, "writeNumber", "(III)V"⟩
abbrev cX6_exercise : ByteArray := prog_8_method_85_code
def yX6_exercise : MethodName := ⟨RX6, "exercise", "(II)I"⟩
abbrev cX6_isExercise : ByteArray := prog_8_method_86_code
def yX6_isExercise : MethodName := ⟨RX6, "isExercise", "(I)Z"⟩
abbrev cX6_place : ByteArray := prog_8_method_87_code
def yX6_place : MethodName := ⟨RX6, "place", "(II)I"⟩
abbrev cX6_fillings : ByteArray := prog_8_method_88_code
def yX6_fillings : MethodName := ⟨RX6, "fillings", "(I)I"⟩
abbrev cX6_answer : ByteArray := prog_8_method_89_code
def yX6_answer : MethodName := ⟨RX6, "answer", "(II)I"⟩
abbrev cX6_told : ByteArray := prog_8_method_90_code
def yX6_told : MethodName := ⟨RX6, "told", "(I)I"⟩
abbrev cX6_fault : ByteArray := prog_8_method_91_code
def yX6_fault : MethodName := ⟨RX6, "fault", "()I"⟩
def RJ7 : String := "java/util/Arrays"
def TJ7 : u_T := fun k => match k with
  | _ => ("", "", "", false)
def tyJ7 : Nat → FieldType := fun k => match k with
  | _ => .int
theorem nmJ7 : ∀ a, a < 0 → ∀ b, b < 0 → a ≠ b → (TJ7 a).2.1 ≠ (TJ7 b).2.1 := by decide +kernel
theorem tyJ7_ok : ∀ k, k < 0 → parseFieldDescriptor (TJ7 k).2.2.1 = some (tyJ7 k) := by decide +kernel
abbrev cJ7_copyOf_59c91 : ByteArray := prog_15_method_123_code
def yJ7_copyOf_59c91 : MethodName := ⟨RJ7, "copyOf", "([II)[I"⟩
def RL : String := "BeadSchoolLaw"
abbrev cL_law : ByteArray := code
def yL_law : MethodName := ⟨RL, "law", "([I)Z"⟩
abbrev vwCl : List vw_C := [(RX0, TX0, 5), (RX1, TX1, 8), (RX2, TX2, 5), (RX3, TX3, 12), (RX4, TX4, 7), (RX5, TX5, 11), (RX6, TX6, 45)]
end
section
theorem dX0_init_0 : decode cX0_init 0 = .ok (.aload_n 0, 1) := by decide +kernel
theorem dX0_init_1 : decode cX0_init 1 = .ok (.invokespecial 1, 3) := by decide +kernel
theorem dX0_init_4 : decode cX0_init 4 = .ok (.aload_n 0, 1) := by decide +kernel
theorem dX0_init_5 : decode cX0_init 5 = .ok (.bipush 12, 2) := by decide +kernel
theorem dX0_init_7 : decode cX0_init 7 = .ok (.newarray .int, 2) := by decide +kernel
theorem dX0_init_9 : decode cX0_init 9 = .ok (.putfield 9, 3) := by decide +kernel
theorem dX0_init_12 : decode cX0_init 12 = .ok (.aload_n 0, 1) := by decide +kernel
theorem dX0_init_13 : decode cX0_init 13 = .ok (.iconst (-1), 1) := by decide +kernel
theorem dX0_init_14 : decode cX0_init 14 = .ok (.putfield 13, 3) := by decide +kernel
theorem dX0_init_17 : decode cX0_init 17 = .ok (.aload_n 0, 1) := by decide +kernel
theorem dX0_init_18 : decode cX0_init 18 = .ok (.iload_n 1, 1) := by decide +kernel
theorem dX0_init_19 : decode cX0_init 19 = .ok (.putfield 17, 3) := by decide +kernel
theorem dX0_init_22 : decode cX0_init 22 = .ok (.iload_n 2, 1) := by decide +kernel
theorem dX0_init_23 : decode cX0_init 23 = .ok (.invokestatic 20, 3) := by decide +kernel
theorem dX0_init_26 : decode cX0_init 26 = .ok (.istore_n 3, 1) := by decide +kernel
theorem dX0_init_27 : decode cX0_init 27 = .ok (.iload_n 3, 1) := by decide +kernel
theorem dX0_init_28 : decode cX0_init 28 = .ok (.sipush 1000, 3) := by decide +kernel
theorem dX0_init_31 : decode cX0_init 31 = .ok (.invokestatic 24, 3) := by decide +kernel
theorem dX0_init_34 : decode cX0_init 34 = .ok (.istore 4, 2) := by decide +kernel
theorem dX0_init_36 : decode cX0_init 36 = .ok (.iload_n 3, 1) := by decide +kernel
theorem dX0_init_37 : decode cX0_init 37 = .ok (.invokestatic 20, 3) := by decide +kernel
theorem dX0_init_40 : decode cX0_init 40 = .ok (.istore_n 3, 1) := by decide +kernel
theorem dX0_init_41 : decode cX0_init 41 = .ok (.iload_n 3, 1) := by decide +kernel
theorem dX0_init_42 : decode cX0_init 42 = .ok (.sipush 1000, 3) := by decide +kernel
theorem dX0_init_45 : decode cX0_init 45 = .ok (.invokestatic 24, 3) := by decide +kernel
theorem dX0_init_48 : decode cX0_init 48 = .ok (.istore 5, 2) := by decide +kernel
theorem dX0_init_50 : decode cX0_init 50 = .ok (.iload_n 1, 1) := by decide +kernel
theorem dX0_init_51 : decode cX0_init 51 = .ok (.iconst 1, 1) := by decide +kernel
theorem dX0_init_52 : decode cX0_init 52 = .ok (.if_icmp .ne 13, 3) := by decide +kernel
theorem dX0_init_55 : decode cX0_init 55 = .ok (.iload 4, 2) := by decide +kernel
theorem dX0_init_57 : decode cX0_init 57 = .ok (.iload 5, 2) := by decide +kernel
theorem dX0_init_59 : decode cX0_init 59 = .ok (.invokestatic 28, 3) := by decide +kernel
theorem dX0_init_62 : decode cX0_init 62 = .ok (.goto 5, 3) := by decide +kernel
theorem dX0_init_65 : decode cX0_init 65 = .ok (.iload 4, 2) := by decide +kernel
theorem dX0_init_67 : decode cX0_init 67 = .ok (.istore 6, 2) := by decide +kernel
theorem dX0_init_69 : decode cX0_init 69 = .ok (.iload_n 1, 1) := by decide +kernel
theorem dX0_init_70 : decode cX0_init 70 = .ok (.iconst 1, 1) := by decide +kernel
theorem dX0_init_71 : decode cX0_init 71 = .ok (.if_icmp .ne 13, 3) := by decide +kernel
theorem dX0_init_74 : decode cX0_init 74 = .ok (.iload 4, 2) := by decide +kernel
theorem dX0_init_76 : decode cX0_init 76 = .ok (.iload 5, 2) := by decide +kernel
theorem dX0_init_78 : decode cX0_init 78 = .ok (.invokestatic 33, 3) := by decide +kernel
theorem dX0_init_81 : decode cX0_init 81 = .ok (.goto 5, 3) := by decide +kernel
theorem dX0_init_84 : decode cX0_init 84 = .ok (.iload 5, 2) := by decide +kernel
theorem dX0_init_86 : decode cX0_init 86 = .ok (.istore 7, 2) := by decide +kernel
theorem dX0_init_88 : decode cX0_init 88 = .ok (.iload 6, 2) := by decide +kernel
theorem dX0_init_90 : decode cX0_init 90 = .ok (.iload 7, 2) := by decide +kernel
theorem dX0_init_92 : decode cX0_init 92 = .ok (.iload_n 1, 1) := by decide +kernel
theorem dX0_init_93 : decode cX0_init 93 = .ok (.iload 6, 2) := by decide +kernel
theorem dX0_init_95 : decode cX0_init 95 = .ok (.iload 7, 2) := by decide +kernel
theorem dX0_init_97 : decode cX0_init 97 = .ok (.invokestatic 36, 3) := by decide +kernel
theorem dX0_init_100 : decode cX0_init 100 = .ok (.aload_n 0, 1) := by decide +kernel
theorem dX0_init_101 : decode cX0_init 101 = .ok (.getfield 9, 3) := by decide +kernel
theorem dX0_init_104 : decode cX0_init 104 = .ok (.invokestatic 40, 3) := by decide +kernel
theorem dX0_init_107 : decode cX0_init 107 = .ok (.iload_n 3, 1) := by decide +kernel
theorem dX0_init_108 : decode cX0_init 108 = .ok (.invokestatic 20, 3) := by decide +kernel
theorem dX0_init_111 : decode cX0_init 111 = .ok (.istore_n 3, 1) := by decide +kernel
theorem dX0_init_112 : decode cX0_init 112 = .ok (.iconst 1, 1) := by decide +kernel
theorem dX0_init_113 : decode cX0_init 113 = .ok (.iload_n 3, 1) := by decide +kernel
theorem dX0_init_114 : decode cX0_init 114 = .ok (.iconst 4, 1) := by decide +kernel
theorem dX0_init_115 : decode cX0_init 115 = .ok (.invokestatic 24, 3) := by decide +kernel
theorem dX0_init_118 : decode cX0_init 118 = .ok (.iadd, 1) := by decide +kernel
theorem dX0_init_119 : decode cX0_init 119 = .ok (.istore 8, 2) := by decide +kernel
theorem dX0_init_121 : decode cX0_init 121 = .ok (.iconst 0, 1) := by decide +kernel
theorem dX0_init_122 : decode cX0_init 122 = .ok (.istore 9, 2) := by decide +kernel
theorem dX0_init_124 : decode cX0_init 124 = .ok (.iload 9, 2) := by decide +kernel
theorem dX0_init_126 : decode cX0_init 126 = .ok (.iload 8, 2) := by decide +kernel
theorem dX0_init_128 : decode cX0_init 128 = .ok (.if_icmp .ge 38, 3) := by decide +kernel
theorem dX0_init_131 : decode cX0_init 131 = .ok (.iload_n 3, 1) := by decide +kernel
theorem dX0_init_132 : decode cX0_init 132 = .ok (.invokestatic 20, 3) := by decide +kernel
theorem dX0_init_135 : decode cX0_init 135 = .ok (.istore_n 3, 1) := by decide +kernel
theorem dX0_init_136 : decode cX0_init 136 = .ok (.aload_n 0, 1) := by decide +kernel
theorem dX0_init_137 : decode cX0_init 137 = .ok (.dup, 1) := by decide +kernel
theorem dX0_init_138 : decode cX0_init 138 = .ok (.getfield 44, 3) := by decide +kernel
theorem dX0_init_141 : decode cX0_init 141 = .ok (.iconst 1, 1) := by decide +kernel
theorem dX0_init_142 : decode cX0_init 142 = .ok (.aload_n 0, 1) := by decide +kernel
theorem dX0_init_143 : decode cX0_init 143 = .ok (.getfield 44, 3) := by decide +kernel
theorem dX0_init_146 : decode cX0_init 146 = .ok (.iload_n 3, 1) := by decide +kernel
theorem dX0_init_147 : decode cX0_init 147 = .ok (.bipush 12, 2) := by decide +kernel
theorem dX0_init_149 : decode cX0_init 149 = .ok (.invokestatic 24, 3) := by decide +kernel
theorem dX0_init_152 : decode cX0_init 152 = .ok (.invokestatic 47, 3) := by decide +kernel
theorem dX0_init_155 : decode cX0_init 155 = .ok (.ishl, 1) := by decide +kernel
theorem dX0_init_156 : decode cX0_init 156 = .ok (.ior, 1) := by decide +kernel
theorem dX0_init_157 : decode cX0_init 157 = .ok (.putfield 44, 3) := by decide +kernel
theorem dX0_init_160 : decode cX0_init 160 = .ok (.iinc 9 1, 3) := by decide +kernel
theorem dX0_init_163 : decode cX0_init 163 = .ok (.goto (-39), 3) := by decide +kernel
theorem dX0_init_166 : decode cX0_init 166 = .ok (.return_, 1) := by decide +kernel
theorem dX0_next_0 : decode cX0_next 0 = .ok (.ldc 50, 2) := by decide +kernel
theorem dX0_next_2 : decode cX0_next 2 = .ok (.iload_n 0, 1) := by decide +kernel
theorem dX0_next_3 : decode cX0_next 3 = .ok (.imul, 1) := by decide +kernel
theorem dX0_next_4 : decode cX0_next 4 = .ok (.sipush 12345, 3) := by decide +kernel
theorem dX0_next_7 : decode cX0_next 7 = .ok (.iadd, 1) := by decide +kernel
theorem dX0_next_8 : decode cX0_next 8 = .ok (.ireturn, 1) := by decide +kernel
theorem dX0_drawn_0 : decode cX0_drawn 0 = .ok (.iload_n 1, 1) := by decide +kernel
theorem dX0_drawn_1 : decode cX0_drawn 1 = .ok (.ifCond .gt 7, 3) := by decide +kernel
theorem dX0_drawn_4 : decode cX0_drawn 4 = .ok (.iconst 0, 1) := by decide +kernel
theorem dX0_drawn_5 : decode cX0_drawn 5 = .ok (.goto 9, 3) := by decide +kernel
theorem dX0_drawn_8 : decode cX0_drawn 8 = .ok (.iload_n 0, 1) := by decide +kernel
theorem dX0_drawn_9 : decode cX0_drawn 9 = .ok (.bipush 16, 2) := by decide +kernel
theorem dX0_drawn_11 : decode cX0_drawn 11 = .ok (.iushr, 1) := by decide +kernel
theorem dX0_drawn_12 : decode cX0_drawn 12 = .ok (.iload_n 1, 1) := by decide +kernel
theorem dX0_drawn_13 : decode cX0_drawn 13 = .ok (.irem, 1) := by decide +kernel
theorem dX0_drawn_14 : decode cX0_drawn 14 = .ok (.ireturn, 1) := by decide +kernel
theorem dX0_freePlace_0 : decode cX0_freePlace 0 = .ok (.iload_n 1, 1) := by decide +kernel
theorem dX0_freePlace_1 : decode cX0_freePlace 1 = .ok (.istore_n 2, 1) := by decide +kernel
theorem dX0_freePlace_2 : decode cX0_freePlace 2 = .ok (.iconst 0, 1) := by decide +kernel
theorem dX0_freePlace_3 : decode cX0_freePlace 3 = .ok (.istore_n 3, 1) := by decide +kernel
theorem dX0_freePlace_4 : decode cX0_freePlace 4 = .ok (.iload_n 3, 1) := by decide +kernel
theorem dX0_freePlace_5 : decode cX0_freePlace 5 = .ok (.bipush 12, 2) := by decide +kernel
theorem dX0_freePlace_7 : decode cX0_freePlace 7 = .ok (.if_icmp .ge 33, 3) := by decide +kernel
theorem dX0_freePlace_10 : decode cX0_freePlace 10 = .ok (.iload_n 0, 1) := by decide +kernel
theorem dX0_freePlace_11 : decode cX0_freePlace 11 = .ok (.iload_n 2, 1) := by decide +kernel
theorem dX0_freePlace_12 : decode cX0_freePlace 12 = .ok (.ishr, 1) := by decide +kernel
theorem dX0_freePlace_13 : decode cX0_freePlace 13 = .ok (.iconst 1, 1) := by decide +kernel
theorem dX0_freePlace_14 : decode cX0_freePlace 14 = .ok (.iand, 1) := by decide +kernel
theorem dX0_freePlace_15 : decode cX0_freePlace 15 = .ok (.ifCond .eq 25, 3) := by decide +kernel
theorem dX0_freePlace_18 : decode cX0_freePlace 18 = .ok (.iload_n 2, 1) := by decide +kernel
theorem dX0_freePlace_19 : decode cX0_freePlace 19 = .ok (.iconst 1, 1) := by decide +kernel
theorem dX0_freePlace_20 : decode cX0_freePlace 20 = .ok (.iadd, 1) := by decide +kernel
theorem dX0_freePlace_21 : decode cX0_freePlace 21 = .ok (.bipush 12, 2) := by decide +kernel
theorem dX0_freePlace_23 : decode cX0_freePlace 23 = .ok (.if_icmp .ge 9, 3) := by decide +kernel
theorem dX0_freePlace_26 : decode cX0_freePlace 26 = .ok (.iload_n 2, 1) := by decide +kernel
theorem dX0_freePlace_27 : decode cX0_freePlace 27 = .ok (.iconst 1, 1) := by decide +kernel
theorem dX0_freePlace_28 : decode cX0_freePlace 28 = .ok (.iadd, 1) := by decide +kernel
theorem dX0_freePlace_29 : decode cX0_freePlace 29 = .ok (.goto 4, 3) := by decide +kernel
theorem dX0_freePlace_32 : decode cX0_freePlace 32 = .ok (.iconst 0, 1) := by decide +kernel
theorem dX0_freePlace_33 : decode cX0_freePlace 33 = .ok (.istore_n 2, 1) := by decide +kernel
theorem dX0_freePlace_34 : decode cX0_freePlace 34 = .ok (.iinc 3 1, 3) := by decide +kernel
theorem dX0_freePlace_37 : decode cX0_freePlace 37 = .ok (.goto (-33), 3) := by decide +kernel
theorem dX0_freePlace_40 : decode cX0_freePlace 40 = .ok (.iload_n 2, 1) := by decide +kernel
theorem dX0_freePlace_41 : decode cX0_freePlace 41 = .ok (.ireturn, 1) := by decide +kernel
theorem dX0_result_0 : decode cX0_result 0 = .ok (.iload_n 0, 1) := by decide +kernel
theorem dX0_result_1 : decode cX0_result 1 = .ok (.ifCond .ne 9, 3) := by decide +kernel
theorem dX0_result_4 : decode cX0_result 4 = .ok (.iload_n 1, 1) := by decide +kernel
theorem dX0_result_5 : decode cX0_result 5 = .ok (.iload_n 2, 1) := by decide +kernel
theorem dX0_result_6 : decode cX0_result 6 = .ok (.iadd, 1) := by decide +kernel
theorem dX0_result_7 : decode cX0_result 7 = .ok (.goto 17, 3) := by decide +kernel
theorem dX0_result_10 : decode cX0_result 10 = .ok (.iload_n 0, 1) := by decide +kernel
theorem dX0_result_11 : decode cX0_result 11 = .ok (.iconst 1, 1) := by decide +kernel
theorem dX0_result_12 : decode cX0_result 12 = .ok (.if_icmp .ne 9, 3) := by decide +kernel
theorem dX0_result_15 : decode cX0_result 15 = .ok (.iload_n 1, 1) := by decide +kernel
theorem dX0_result_16 : decode cX0_result 16 = .ok (.iload_n 2, 1) := by decide +kernel
theorem dX0_result_17 : decode cX0_result 17 = .ok (.isub, 1) := by decide +kernel
theorem dX0_result_18 : decode cX0_result 18 = .ok (.goto 6, 3) := by decide +kernel
theorem dX0_result_21 : decode cX0_result 21 = .ok (.iload_n 1, 1) := by decide +kernel
theorem dX0_result_22 : decode cX0_result 22 = .ok (.iload_n 2, 1) := by decide +kernel
theorem dX0_result_23 : decode cX0_result 23 = .ok (.imul, 1) := by decide +kernel
theorem dX0_result_24 : decode cX0_result 24 = .ok (.ireturn, 1) := by decide +kernel
theorem dX0_spread_0 : decode cX0_spread 0 = .ok (.aload_n 3, 1) := by decide +kernel
theorem dX0_spread_1 : decode cX0_spread 1 = .ok (.arraylength, 1) := by decide +kernel
theorem dX0_spread_2 : decode cX0_spread 2 = .ok (.bipush 12, 2) := by decide +kernel
theorem dX0_spread_4 : decode cX0_spread 4 = .ok (.if_icmp .ge 4, 3) := by decide +kernel
theorem dX0_spread_7 : decode cX0_spread 7 = .ok (.return_, 1) := by decide +kernel
theorem dX0_spread_8 : decode cX0_spread 8 = .ok (.iload_n 2, 1) := by decide +kernel
theorem dX0_spread_9 : decode cX0_spread 9 = .ok (.istore 4, 2) := by decide +kernel
theorem dX0_spread_11 : decode cX0_spread 11 = .ok (.bipush 11, 2) := by decide +kernel
theorem dX0_spread_13 : decode cX0_spread 13 = .ok (.istore 5, 2) := by decide +kernel
theorem dX0_spread_15 : decode cX0_spread 15 = .ok (.iload 5, 2) := by decide +kernel
theorem dX0_spread_17 : decode cX0_spread 17 = .ok (.bipush 6, 2) := by decide +kernel
theorem dX0_spread_19 : decode cX0_spread 19 = .ok (.if_icmp .lt 25, 3) := by decide +kernel
theorem dX0_spread_22 : decode cX0_spread 22 = .ok (.aload_n 3, 1) := by decide +kernel
theorem dX0_spread_23 : decode cX0_spread 23 = .ok (.iload 5, 2) := by decide +kernel
theorem dX0_spread_25 : decode cX0_spread 25 = .ok (.iload 4, 2) := by decide +kernel
theorem dX0_spread_27 : decode cX0_spread 27 = .ok (.bipush 10, 2) := by decide +kernel
theorem dX0_spread_29 : decode cX0_spread 29 = .ok (.irem, 1) := by decide +kernel
theorem dX0_spread_30 : decode cX0_spread 30 = .ok (.iastore, 1) := by decide +kernel
theorem dX0_spread_31 : decode cX0_spread 31 = .ok (.iload 4, 2) := by decide +kernel
theorem dX0_spread_33 : decode cX0_spread 33 = .ok (.bipush 10, 2) := by decide +kernel
theorem dX0_spread_35 : decode cX0_spread 35 = .ok (.idiv, 1) := by decide +kernel
theorem dX0_spread_36 : decode cX0_spread 36 = .ok (.istore 4, 2) := by decide +kernel
theorem dX0_spread_38 : decode cX0_spread 38 = .ok (.iinc 5 (-1), 3) := by decide +kernel
theorem dX0_spread_41 : decode cX0_spread 41 = .ok (.goto (-26), 3) := by decide +kernel
theorem dX0_spread_44 : decode cX0_spread 44 = .ok (.iconst 0, 1) := by decide +kernel
theorem dX0_spread_45 : decode cX0_spread 45 = .ok (.istore 5, 2) := by decide +kernel
theorem dX0_spread_47 : decode cX0_spread 47 = .ok (.iload 5, 2) := by decide +kernel
theorem dX0_spread_49 : decode cX0_spread 49 = .ok (.iconst 3, 1) := by decide +kernel
theorem dX0_spread_50 : decode cX0_spread 50 = .ok (.if_icmp .ge 41, 3) := by decide +kernel
theorem dX0_spread_53 : decode cX0_spread 53 = .ok (.aload_n 3, 1) := by decide +kernel
theorem dX0_spread_54 : decode cX0_spread 54 = .ok (.iload 5, 2) := by decide +kernel
theorem dX0_spread_56 : decode cX0_spread 56 = .ok (.iload_n 0, 1) := by decide +kernel
theorem dX0_spread_57 : decode cX0_spread 57 = .ok (.i2l, 1) := by decide +kernel
theorem dX0_spread_58 : decode cX0_spread 58 = .ok (.bipush 10, 2) := by decide +kernel
theorem dX0_spread_60 : decode cX0_spread 60 = .ok (.iconst 2, 1) := by decide +kernel
theorem dX0_spread_61 : decode cX0_spread 61 = .ok (.iload 5, 2) := by decide +kernel
theorem dX0_spread_63 : decode cX0_spread 63 = .ok (.isub, 1) := by decide +kernel
theorem dX0_spread_64 : decode cX0_spread 64 = .ok (.invokestatic 51, 3) := by decide +kernel
theorem dX0_spread_67 : decode cX0_spread 67 = .ok (.iastore, 1) := by decide +kernel
theorem dX0_spread_68 : decode cX0_spread 68 = .ok (.aload_n 3, 1) := by decide +kernel
theorem dX0_spread_69 : decode cX0_spread 69 = .ok (.iload 5, 2) := by decide +kernel
theorem dX0_spread_71 : decode cX0_spread 71 = .ok (.iconst 3, 1) := by decide +kernel
theorem dX0_spread_72 : decode cX0_spread 72 = .ok (.iadd, 1) := by decide +kernel
theorem dX0_spread_73 : decode cX0_spread 73 = .ok (.iload_n 1, 1) := by decide +kernel
theorem dX0_spread_74 : decode cX0_spread 74 = .ok (.i2l, 1) := by decide +kernel
theorem dX0_spread_75 : decode cX0_spread 75 = .ok (.bipush 10, 2) := by decide +kernel
theorem dX0_spread_77 : decode cX0_spread 77 = .ok (.iconst 2, 1) := by decide +kernel
theorem dX0_spread_78 : decode cX0_spread 78 = .ok (.iload 5, 2) := by decide +kernel
theorem dX0_spread_80 : decode cX0_spread 80 = .ok (.isub, 1) := by decide +kernel
theorem dX0_spread_81 : decode cX0_spread 81 = .ok (.invokestatic 51, 3) := by decide +kernel
theorem dX0_spread_84 : decode cX0_spread 84 = .ok (.iastore, 1) := by decide +kernel
theorem dX0_spread_85 : decode cX0_spread 85 = .ok (.iinc 5 1, 3) := by decide +kernel
theorem dX0_spread_88 : decode cX0_spread 88 = .ok (.goto (-41), 3) := by decide +kernel
theorem dX0_spread_91 : decode cX0_spread 91 = .ok (.return_, 1) := by decide +kernel
theorem dX0_isBlank_0 : decode cX0_isBlank 0 = .ok (.aload_n 0, 1) := by decide +kernel
theorem dX0_isBlank_1 : decode cX0_isBlank 1 = .ok (.getfield 44, 3) := by decide +kernel
theorem dX0_isBlank_4 : decode cX0_isBlank 4 = .ok (.iload_n 1, 1) := by decide +kernel
theorem dX0_isBlank_5 : decode cX0_isBlank 5 = .ok (.ishr, 1) := by decide +kernel
theorem dX0_isBlank_6 : decode cX0_isBlank 6 = .ok (.iconst 1, 1) := by decide +kernel
theorem dX0_isBlank_7 : decode cX0_isBlank 7 = .ok (.iand, 1) := by decide +kernel
theorem dX0_isBlank_8 : decode cX0_isBlank 8 = .ok (.ifCond .eq 7, 3) := by decide +kernel
theorem dX0_isBlank_11 : decode cX0_isBlank 11 = .ok (.iconst 1, 1) := by decide +kernel
theorem dX0_isBlank_12 : decode cX0_isBlank 12 = .ok (.goto 4, 3) := by decide +kernel
theorem dX0_isBlank_15 : decode cX0_isBlank 15 = .ok (.iconst 0, 1) := by decide +kernel
theorem dX0_isBlank_16 : decode cX0_isBlank 16 = .ok (.ireturn, 1) := by decide +kernel
theorem dX0_fits_0 : decode cX0_fits 0 = .ok (.iload_n 1, 1) := by decide +kernel
theorem dX0_fits_1 : decode cX0_fits 1 = .ok (.istore_n 2, 1) := by decide +kernel
theorem dX0_fits_2 : decode cX0_fits 2 = .ok (.bipush 11, 2) := by decide +kernel
theorem dX0_fits_4 : decode cX0_fits 4 = .ok (.istore_n 3, 1) := by decide +kernel
theorem dX0_fits_5 : decode cX0_fits 5 = .ok (.iload_n 3, 1) := by decide +kernel
theorem dX0_fits_6 : decode cX0_fits 6 = .ok (.bipush 6, 2) := by decide +kernel
theorem dX0_fits_8 : decode cX0_fits 8 = .ok (.if_icmp .lt 37, 3) := by decide +kernel
theorem dX0_fits_11 : decode cX0_fits 11 = .ok (.aload_n 0, 1) := by decide +kernel
theorem dX0_fits_12 : decode cX0_fits 12 = .ok (.iload_n 3, 1) := by decide +kernel
theorem dX0_fits_13 : decode cX0_fits 13 = .ok (.invokevirtual 57, 3) := by decide +kernel
theorem dX0_fits_16 : decode cX0_fits 16 = .ok (.ifCond .ne 18, 3) := by decide +kernel
theorem dX0_fits_19 : decode cX0_fits 19 = .ok (.aload_n 0, 1) := by decide +kernel
theorem dX0_fits_20 : decode cX0_fits 20 = .ok (.getfield 9, 3) := by decide +kernel
theorem dX0_fits_23 : decode cX0_fits 23 = .ok (.iload_n 3, 1) := by decide +kernel
theorem dX0_fits_24 : decode cX0_fits 24 = .ok (.iaload, 1) := by decide +kernel
theorem dX0_fits_25 : decode cX0_fits 25 = .ok (.iload_n 2, 1) := by decide +kernel
theorem dX0_fits_26 : decode cX0_fits 26 = .ok (.bipush 10, 2) := by decide +kernel
theorem dX0_fits_28 : decode cX0_fits 28 = .ok (.irem, 1) := by decide +kernel
theorem dX0_fits_29 : decode cX0_fits 29 = .ok (.if_icmp .eq 5, 3) := by decide +kernel
theorem dX0_fits_32 : decode cX0_fits 32 = .ok (.iconst 0, 1) := by decide +kernel
theorem dX0_fits_33 : decode cX0_fits 33 = .ok (.ireturn, 1) := by decide +kernel
theorem dX0_fits_34 : decode cX0_fits 34 = .ok (.iload_n 2, 1) := by decide +kernel
theorem dX0_fits_35 : decode cX0_fits 35 = .ok (.bipush 10, 2) := by decide +kernel
theorem dX0_fits_37 : decode cX0_fits 37 = .ok (.idiv, 1) := by decide +kernel
theorem dX0_fits_38 : decode cX0_fits 38 = .ok (.istore_n 2, 1) := by decide +kernel
theorem dX0_fits_39 : decode cX0_fits 39 = .ok (.iinc 3 (-1), 3) := by decide +kernel
theorem dX0_fits_42 : decode cX0_fits 42 = .ok (.goto (-37), 3) := by decide +kernel
theorem dX0_fits_45 : decode cX0_fits 45 = .ok (.iload_n 1, 1) := by decide +kernel
theorem dX0_fits_46 : decode cX0_fits 46 = .ok (.ifCond .lt 7, 3) := by decide +kernel
theorem dX0_fits_49 : decode cX0_fits 49 = .ok (.iconst 1, 1) := by decide +kernel
theorem dX0_fits_50 : decode cX0_fits 50 = .ok (.goto 4, 3) := by decide +kernel
theorem dX0_fits_53 : decode cX0_fits 53 = .ok (.iconst 0, 1) := by decide +kernel
theorem dX0_fits_54 : decode cX0_fits 54 = .ok (.ireturn, 1) := by decide +kernel
theorem dX0_solve_0 : decode cX0_solve 0 = .ok (.aload_n 0, 1) := by decide +kernel
theorem dX0_solve_1 : decode cX0_solve 1 = .ok (.iconst 0, 1) := by decide +kernel
theorem dX0_solve_2 : decode cX0_solve 2 = .ok (.iconst 0, 1) := by decide +kernel
theorem dX0_solve_3 : decode cX0_solve 3 = .ok (.invokevirtual 61, 3) := by decide +kernel
theorem dX0_solve_6 : decode cX0_solve 6 = .ok (.aload_n 0, 1) := by decide +kernel
theorem dX0_solve_7 : decode cX0_solve 7 = .ok (.getfield 13, 3) := by decide +kernel
theorem dX0_solve_10 : decode cX0_solve 10 = .ok (.ifCond .lt 49, 3) := by decide +kernel
theorem dX0_solve_13 : decode cX0_solve 13 = .ok (.aload_n 0, 1) := by decide +kernel
theorem dX0_solve_14 : decode cX0_solve 14 = .ok (.getfield 13, 3) := by decide +kernel
theorem dX0_solve_17 : decode cX0_solve 17 = .ok (.sipush 1000, 3) := by decide +kernel
theorem dX0_solve_20 : decode cX0_solve 20 = .ok (.idiv, 1) := by decide +kernel
theorem dX0_solve_21 : decode cX0_solve 21 = .ok (.aload_n 0, 1) := by decide +kernel
theorem dX0_solve_22 : decode cX0_solve 22 = .ok (.getfield 13, 3) := by decide +kernel
theorem dX0_solve_25 : decode cX0_solve 25 = .ok (.sipush 1000, 3) := by decide +kernel
theorem dX0_solve_28 : decode cX0_solve 28 = .ok (.irem, 1) := by decide +kernel
theorem dX0_solve_29 : decode cX0_solve 29 = .ok (.aload_n 0, 1) := by decide +kernel
theorem dX0_solve_30 : decode cX0_solve 30 = .ok (.getfield 17, 3) := by decide +kernel
theorem dX0_solve_33 : decode cX0_solve 33 = .ok (.aload_n 0, 1) := by decide +kernel
theorem dX0_solve_34 : decode cX0_solve 34 = .ok (.getfield 13, 3) := by decide +kernel
theorem dX0_solve_37 : decode cX0_solve 37 = .ok (.sipush 1000, 3) := by decide +kernel
theorem dX0_solve_40 : decode cX0_solve 40 = .ok (.idiv, 1) := by decide +kernel
theorem dX0_solve_41 : decode cX0_solve 41 = .ok (.aload_n 0, 1) := by decide +kernel
theorem dX0_solve_42 : decode cX0_solve 42 = .ok (.getfield 13, 3) := by decide +kernel
theorem dX0_solve_45 : decode cX0_solve 45 = .ok (.sipush 1000, 3) := by decide +kernel
theorem dX0_solve_48 : decode cX0_solve 48 = .ok (.irem, 1) := by decide +kernel
theorem dX0_solve_49 : decode cX0_solve 49 = .ok (.invokestatic 36, 3) := by decide +kernel
theorem dX0_solve_52 : decode cX0_solve 52 = .ok (.aload_n 0, 1) := by decide +kernel
theorem dX0_solve_53 : decode cX0_solve 53 = .ok (.getfield 9, 3) := by decide +kernel
theorem dX0_solve_56 : decode cX0_solve 56 = .ok (.invokestatic 40, 3) := by decide +kernel
theorem dX0_solve_59 : decode cX0_solve 59 = .ok (.return_, 1) := by decide +kernel
theorem dX0_tryFrom_0 : decode cX0_tryFrom 0 = .ok (.iload_n 1, 1) := by decide +kernel
theorem dX0_tryFrom_1 : decode cX0_tryFrom 1 = .ok (.ifCond .lt 9, 3) := by decide +kernel
theorem dX0_tryFrom_4 : decode cX0_tryFrom 4 = .ok (.iload_n 1, 1) := by decide +kernel
theorem dX0_tryFrom_5 : decode cX0_tryFrom 5 = .ok (.bipush 6, 2) := by decide +kernel
theorem dX0_tryFrom_7 : decode cX0_tryFrom 7 = .ok (.if_icmp .lt 9, 3) := by decide +kernel
theorem dX0_tryFrom_10 : decode cX0_tryFrom 10 = .ok (.aload_n 0, 1) := by decide +kernel
theorem dX0_tryFrom_11 : decode cX0_tryFrom 11 = .ok (.iload_n 2, 1) := by decide +kernel
theorem dX0_tryFrom_12 : decode cX0_tryFrom 12 = .ok (.invokevirtual 65, 3) := by decide +kernel
theorem dX0_tryFrom_15 : decode cX0_tryFrom 15 = .ok (.return_, 1) := by decide +kernel
theorem dX0_tryFrom_16 : decode cX0_tryFrom 16 = .ok (.aload_n 0, 1) := by decide +kernel
theorem dX0_tryFrom_17 : decode cX0_tryFrom 17 = .ok (.iload_n 1, 1) := by decide +kernel
theorem dX0_tryFrom_18 : decode cX0_tryFrom 18 = .ok (.invokevirtual 57, 3) := by decide +kernel
theorem dX0_tryFrom_21 : decode cX0_tryFrom 21 = .ok (.ifCond .eq 7, 3) := by decide +kernel
theorem dX0_tryFrom_24 : decode cX0_tryFrom 24 = .ok (.iconst 0, 1) := by decide +kernel
theorem dX0_tryFrom_25 : decode cX0_tryFrom 25 = .ok (.goto 9, 3) := by decide +kernel
theorem dX0_tryFrom_28 : decode cX0_tryFrom 28 = .ok (.aload_n 0, 1) := by decide +kernel
theorem dX0_tryFrom_29 : decode cX0_tryFrom 29 = .ok (.getfield 9, 3) := by decide +kernel
theorem dX0_tryFrom_32 : decode cX0_tryFrom 32 = .ok (.iload_n 1, 1) := by decide +kernel
theorem dX0_tryFrom_33 : decode cX0_tryFrom 33 = .ok (.iaload, 1) := by decide +kernel
theorem dX0_tryFrom_34 : decode cX0_tryFrom 34 = .ok (.istore_n 3, 1) := by decide +kernel
theorem dX0_tryFrom_35 : decode cX0_tryFrom 35 = .ok (.aload_n 0, 1) := by decide +kernel
theorem dX0_tryFrom_36 : decode cX0_tryFrom 36 = .ok (.iload_n 1, 1) := by decide +kernel
theorem dX0_tryFrom_37 : decode cX0_tryFrom 37 = .ok (.invokevirtual 57, 3) := by decide +kernel
theorem dX0_tryFrom_40 : decode cX0_tryFrom 40 = .ok (.ifCond .eq 8, 3) := by decide +kernel
theorem dX0_tryFrom_43 : decode cX0_tryFrom 43 = .ok (.bipush 9, 2) := by decide +kernel
theorem dX0_tryFrom_45 : decode cX0_tryFrom 45 = .ok (.goto 9, 3) := by decide +kernel
theorem dX0_tryFrom_48 : decode cX0_tryFrom 48 = .ok (.aload_n 0, 1) := by decide +kernel
theorem dX0_tryFrom_49 : decode cX0_tryFrom 49 = .ok (.getfield 9, 3) := by decide +kernel
theorem dX0_tryFrom_52 : decode cX0_tryFrom 52 = .ok (.iload_n 1, 1) := by decide +kernel
theorem dX0_tryFrom_53 : decode cX0_tryFrom 53 = .ok (.iaload, 1) := by decide +kernel
theorem dX0_tryFrom_54 : decode cX0_tryFrom 54 = .ok (.istore 4, 2) := by decide +kernel
theorem dX0_tryFrom_56 : decode cX0_tryFrom 56 = .ok (.iload_n 3, 1) := by decide +kernel
theorem dX0_tryFrom_57 : decode cX0_tryFrom 57 = .ok (.istore 5, 2) := by decide +kernel
theorem dX0_tryFrom_59 : decode cX0_tryFrom 59 = .ok (.iload 5, 2) := by decide +kernel
theorem dX0_tryFrom_61 : decode cX0_tryFrom 61 = .ok (.iload 4, 2) := by decide +kernel
theorem dX0_tryFrom_63 : decode cX0_tryFrom 63 = .ok (.if_icmp .gt 26, 3) := by decide +kernel
theorem dX0_tryFrom_66 : decode cX0_tryFrom 66 = .ok (.aload_n 0, 1) := by decide +kernel
theorem dX0_tryFrom_67 : decode cX0_tryFrom 67 = .ok (.iload_n 1, 1) := by decide +kernel
theorem dX0_tryFrom_68 : decode cX0_tryFrom 68 = .ok (.iconst 1, 1) := by decide +kernel
theorem dX0_tryFrom_69 : decode cX0_tryFrom 69 = .ok (.iadd, 1) := by decide +kernel
theorem dX0_tryFrom_70 : decode cX0_tryFrom 70 = .ok (.iload_n 2, 1) := by decide +kernel
theorem dX0_tryFrom_71 : decode cX0_tryFrom 71 = .ok (.getstatic 69, 3) := by decide +kernel
theorem dX0_tryFrom_74 : decode cX0_tryFrom 74 = .ok (.iload_n 1, 1) := by decide +kernel
theorem dX0_tryFrom_75 : decode cX0_tryFrom 75 = .ok (.iaload, 1) := by decide +kernel
theorem dX0_tryFrom_76 : decode cX0_tryFrom 76 = .ok (.iload 5, 2) := by decide +kernel
theorem dX0_tryFrom_78 : decode cX0_tryFrom 78 = .ok (.imul, 1) := by decide +kernel
theorem dX0_tryFrom_79 : decode cX0_tryFrom 79 = .ok (.iadd, 1) := by decide +kernel
theorem dX0_tryFrom_80 : decode cX0_tryFrom 80 = .ok (.invokevirtual 61, 3) := by decide +kernel
theorem dX0_tryFrom_83 : decode cX0_tryFrom 83 = .ok (.iinc 5 1, 3) := by decide +kernel
theorem dX0_tryFrom_86 : decode cX0_tryFrom 86 = .ok (.goto (-27), 3) := by decide +kernel
theorem dX0_tryFrom_89 : decode cX0_tryFrom 89 = .ok (.return_, 1) := by decide +kernel
theorem dX0_note_0 : decode cX0_note 0 = .ok (.aload_n 0, 1) := by decide +kernel
theorem dX0_note_1 : decode cX0_note 1 = .ok (.aload_n 0, 1) := by decide +kernel
theorem dX0_note_2 : decode cX0_note 2 = .ok (.getfield 17, 3) := by decide +kernel
theorem dX0_note_5 : decode cX0_note 5 = .ok (.iload_n 1, 1) := by decide +kernel
theorem dX0_note_6 : decode cX0_note 6 = .ok (.sipush 1000, 3) := by decide +kernel
theorem dX0_note_9 : decode cX0_note 9 = .ok (.idiv, 1) := by decide +kernel
theorem dX0_note_10 : decode cX0_note 10 = .ok (.iload_n 1, 1) := by decide +kernel
theorem dX0_note_11 : decode cX0_note 11 = .ok (.sipush 1000, 3) := by decide +kernel
theorem dX0_note_14 : decode cX0_note 14 = .ok (.irem, 1) := by decide +kernel
theorem dX0_note_15 : decode cX0_note 15 = .ok (.invokestatic 36, 3) := by decide +kernel
theorem dX0_note_18 : decode cX0_note 18 = .ok (.invokevirtual 72, 3) := by decide +kernel
theorem dX0_note_21 : decode cX0_note 21 = .ok (.ifCond .eq 32, 3) := by decide +kernel
theorem dX0_note_24 : decode cX0_note 24 = .ok (.aload_n 0, 1) := by decide +kernel
theorem dX0_note_25 : decode cX0_note 25 = .ok (.aload_n 0, 1) := by decide +kernel
theorem dX0_note_26 : decode cX0_note 26 = .ok (.getfield 13, 3) := by decide +kernel
theorem dX0_note_29 : decode cX0_note 29 = .ok (.ifCond .ge 7, 3) := by decide +kernel
theorem dX0_note_32 : decode cX0_note 32 = .ok (.iload_n 1, 1) := by decide +kernel
theorem dX0_note_33 : decode cX0_note 33 = .ok (.goto 7, 3) := by decide +kernel
theorem dX0_note_36 : decode cX0_note 36 = .ok (.aload_n 0, 1) := by decide +kernel
theorem dX0_note_37 : decode cX0_note 37 = .ok (.getfield 13, 3) := by decide +kernel
theorem dX0_note_40 : decode cX0_note 40 = .ok (.putfield 13, 3) := by decide +kernel
theorem dX0_note_43 : decode cX0_note 43 = .ok (.aload_n 0, 1) := by decide +kernel
theorem dX0_note_44 : decode cX0_note 44 = .ok (.dup, 1) := by decide +kernel
theorem dX0_note_45 : decode cX0_note 45 = .ok (.getfield 75, 3) := by decide +kernel
theorem dX0_note_48 : decode cX0_note 48 = .ok (.iconst 1, 1) := by decide +kernel
theorem dX0_note_49 : decode cX0_note 49 = .ok (.iadd, 1) := by decide +kernel
theorem dX0_note_50 : decode cX0_note 50 = .ok (.putfield 75, 3) := by decide +kernel
theorem dX0_note_53 : decode cX0_note 53 = .ok (.return_, 1) := by decide +kernel
theorem dX1_init_0 : decode cX1_init 0 = .ok (.aload_n 0, 1) := by decide +kernel
theorem dX1_init_1 : decode cX1_init 1 = .ok (.invokespecial 3, 3) := by decide +kernel
theorem dX1_init_4 : decode cX1_init 4 = .ok (.aload_n 0, 1) := by decide +kernel
theorem dX1_init_5 : decode cX1_init 5 = .ok (.iload_n 1, 1) := by decide +kernel
theorem dX1_init_6 : decode cX1_init 6 = .ok (.putfield 9, 3) := by decide +kernel
theorem dX1_init_9 : decode cX1_init 9 = .ok (.aload_n 0, 1) := by decide +kernel
theorem dX1_init_10 : decode cX1_init 10 = .ok (.iload_n 2, 1) := by decide +kernel
theorem dX1_init_11 : decode cX1_init 11 = .ok (.putfield 15, 3) := by decide +kernel
theorem dX1_init_14 : decode cX1_init 14 = .ok (.aload_n 0, 1) := by decide +kernel
theorem dX1_init_15 : decode cX1_init 15 = .ok (.iload_n 2, 1) := by decide +kernel
theorem dX1_init_16 : decode cX1_init 16 = .ok (.invokestatic 18, 3) := by decide +kernel
theorem dX1_init_19 : decode cX1_init 19 = .ok (.putfield 22, 3) := by decide +kernel
theorem dX1_init_22 : decode cX1_init 22 = .ok (.aload_n 0, 1) := by decide +kernel
theorem dX1_init_23 : decode cX1_init 23 = .ok (.iconst 0, 1) := by decide +kernel
theorem dX1_init_24 : decode cX1_init 24 = .ok (.putfield 25, 3) := by decide +kernel
theorem dX1_init_27 : decode cX1_init 27 = .ok (.aload_n 0, 1) := by decide +kernel
theorem dX1_init_28 : decode cX1_init 28 = .ok (.iconst 1, 1) := by decide +kernel
theorem dX1_init_29 : decode cX1_init 29 = .ok (.iload_n 1, 1) := by decide +kernel
theorem dX1_init_30 : decode cX1_init 30 = .ok (.ishl, 1) := by decide +kernel
theorem dX1_init_31 : decode cX1_init 31 = .ok (.putfield 28, 3) := by decide +kernel
theorem dX1_init_34 : decode cX1_init 34 = .ok (.aload_n 0, 1) := by decide +kernel
theorem dX1_init_35 : decode cX1_init 35 = .ok (.iload_n 3, 1) := by decide +kernel
theorem dX1_init_36 : decode cX1_init 36 = .ok (.iconst 0, 1) := by decide +kernel
theorem dX1_init_37 : decode cX1_init 37 = .ok (.invokestatic 31, 3) := by decide +kernel
theorem dX1_init_40 : decode cX1_init 40 = .ok (.anewarray 37, 3) := by decide +kernel
theorem dX1_init_43 : decode cX1_init 43 = .ok (.putfield 39, 3) := by decide +kernel
theorem dX1_init_46 : decode cX1_init 46 = .ok (.iconst 0, 1) := by decide +kernel
theorem dX1_init_47 : decode cX1_init 47 = .ok (.istore 4, 2) := by decide +kernel
theorem dX1_init_49 : decode cX1_init 49 = .ok (.iload 4, 2) := by decide +kernel
theorem dX1_init_51 : decode cX1_init 51 = .ok (.aload_n 0, 1) := by decide +kernel
theorem dX1_init_52 : decode cX1_init 52 = .ok (.getfield 39, 3) := by decide +kernel
theorem dX1_init_55 : decode cX1_init 55 = .ok (.arraylength, 1) := by decide +kernel
theorem dX1_init_56 : decode cX1_init 56 = .ok (.if_icmp .ge 24, 3) := by decide +kernel
theorem dX1_init_59 : decode cX1_init 59 = .ok (.aload_n 0, 1) := by decide +kernel
theorem dX1_init_60 : decode cX1_init 60 = .ok (.getfield 39, 3) := by decide +kernel
theorem dX1_init_63 : decode cX1_init 63 = .ok (.iload 4, 2) := by decide +kernel
theorem dX1_init_65 : decode cX1_init 65 = .ok (.new 37, 3) := by decide +kernel
theorem dX1_init_68 : decode cX1_init 68 = .ok (.dup, 1) := by decide +kernel
theorem dX1_init_69 : decode cX1_init 69 = .ok (.iload_n 2, 1) := by decide +kernel
theorem dX1_init_70 : decode cX1_init 70 = .ok (.invokespecial 43, 3) := by decide +kernel
theorem dX1_init_73 : decode cX1_init 73 = .ok (.aastore, 1) := by decide +kernel
theorem dX1_init_74 : decode cX1_init 74 = .ok (.iinc 4 1, 3) := by decide +kernel
theorem dX1_init_77 : decode cX1_init 77 = .ok (.goto (-28), 3) := by decide +kernel
theorem dX1_init_80 : decode cX1_init 80 = .ok (.aload_n 0, 1) := by decide +kernel
theorem dX1_init_81 : decode cX1_init 81 = .ok (.aconst_null, 1) := by decide +kernel
theorem dX1_init_82 : decode cX1_init 82 = .ok (.putfield 46, 3) := by decide +kernel
theorem dX1_init_85 : decode cX1_init 85 = .ok (.aload_n 0, 1) := by decide +kernel
theorem dX1_init_86 : decode cX1_init 86 = .ok (.aconst_null, 1) := by decide +kernel
theorem dX1_init_87 : decode cX1_init 87 = .ok (.putfield 50, 3) := by decide +kernel
theorem dX1_init_90 : decode cX1_init 90 = .ok (.return_, 1) := by decide +kernel
theorem dX1_init__0 : decode cX1_init_ 0 = .ok (.aload_n 0, 1) := by decide +kernel
theorem dX1_init__1 : decode cX1_init_ 1 = .ok (.invokespecial 3, 3) := by decide +kernel
theorem dX1_init__4 : decode cX1_init_ 4 = .ok (.aload_n 0, 1) := by decide +kernel
theorem dX1_init__5 : decode cX1_init_ 5 = .ok (.iload_n 1, 1) := by decide +kernel
theorem dX1_init__6 : decode cX1_init_ 6 = .ok (.putfield 9, 3) := by decide +kernel
theorem dX1_init__9 : decode cX1_init_ 9 = .ok (.aload_n 0, 1) := by decide +kernel
theorem dX1_init__10 : decode cX1_init_ 10 = .ok (.iconst 4, 1) := by decide +kernel
theorem dX1_init__11 : decode cX1_init_ 11 = .ok (.putfield 15, 3) := by decide +kernel
theorem dX1_init__14 : decode cX1_init_ 14 = .ok (.aload_n 0, 1) := by decide +kernel
theorem dX1_init__15 : decode cX1_init_ 15 = .ok (.aload_n 2, 1) := by decide +kernel
theorem dX1_init__16 : decode cX1_init_ 16 = .ok (.getfield 22, 3) := by decide +kernel
theorem dX1_init__19 : decode cX1_init_ 19 = .ok (.putfield 22, 3) := by decide +kernel
theorem dX1_init__22 : decode cX1_init_ 22 = .ok (.aload_n 0, 1) := by decide +kernel
theorem dX1_init__23 : decode cX1_init_ 23 = .ok (.iconst 1, 1) := by decide +kernel
theorem dX1_init__24 : decode cX1_init_ 24 = .ok (.aload_n 2, 1) := by decide +kernel
theorem dX1_init__25 : decode cX1_init_ 25 = .ok (.getfield 25, 3) := by decide +kernel
theorem dX1_init__28 : decode cX1_init_ 28 = .ok (.aload_n 3, 1) := by decide +kernel
theorem dX1_init__29 : decode cX1_init_ 29 = .ok (.getfield 25, 3) := by decide +kernel
theorem dX1_init__32 : decode cX1_init_ 32 = .ok (.invokestatic 31, 3) := by decide +kernel
theorem dX1_init__35 : decode cX1_init_ 35 = .ok (.iadd, 1) := by decide +kernel
theorem dX1_init__36 : decode cX1_init_ 36 = .ok (.putfield 25, 3) := by decide +kernel
theorem dX1_init__39 : decode cX1_init_ 39 = .ok (.aload_n 0, 1) := by decide +kernel
theorem dX1_init__40 : decode cX1_init_ 40 = .ok (.aload_n 2, 1) := by decide +kernel
theorem dX1_init__41 : decode cX1_init_ 41 = .ok (.getfield 28, 3) := by decide +kernel
theorem dX1_init__44 : decode cX1_init_ 44 = .ok (.aload_n 3, 1) := by decide +kernel
theorem dX1_init__45 : decode cX1_init_ 45 = .ok (.getfield 28, 3) := by decide +kernel
theorem dX1_init__48 : decode cX1_init_ 48 = .ok (.ior, 1) := by decide +kernel
theorem dX1_init__49 : decode cX1_init_ 49 = .ok (.iconst 1, 1) := by decide +kernel
theorem dX1_init__50 : decode cX1_init_ 50 = .ok (.iload_n 1, 1) := by decide +kernel
theorem dX1_init__51 : decode cX1_init_ 51 = .ok (.ishl, 1) := by decide +kernel
theorem dX1_init__52 : decode cX1_init_ 52 = .ok (.ior, 1) := by decide +kernel
theorem dX1_init__53 : decode cX1_init_ 53 = .ok (.putfield 28, 3) := by decide +kernel
theorem dX1_init__56 : decode cX1_init_ 56 = .ok (.aload_n 3, 1) := by decide +kernel
theorem dX1_init__57 : decode cX1_init_ 57 = .ok (.getfield 39, 3) := by decide +kernel
theorem dX1_init__60 : decode cX1_init_ 60 = .ok (.arraylength, 1) := by decide +kernel
theorem dX1_init__61 : decode cX1_init_ 61 = .ok (.istore 4, 2) := by decide +kernel
theorem dX1_init__63 : decode cX1_init_ 63 = .ok (.aload_n 0, 1) := by decide +kernel
theorem dX1_init__64 : decode cX1_init_ 64 = .ok (.iload 4, 2) := by decide +kernel
theorem dX1_init__66 : decode cX1_init_ 66 = .ok (.aload_n 2, 1) := by decide +kernel
theorem dX1_init__67 : decode cX1_init_ 67 = .ok (.getfield 39, 3) := by decide +kernel
theorem dX1_init__70 : decode cX1_init_ 70 = .ok (.arraylength, 1) := by decide +kernel
theorem dX1_init__71 : decode cX1_init_ 71 = .ok (.iadd, 1) := by decide +kernel
theorem dX1_init__72 : decode cX1_init_ 72 = .ok (.anewarray 37, 3) := by decide +kernel
theorem dX1_init__75 : decode cX1_init_ 75 = .ok (.putfield 39, 3) := by decide +kernel
theorem dX1_init__78 : decode cX1_init_ 78 = .ok (.iconst 0, 1) := by decide +kernel
theorem dX1_init__79 : decode cX1_init_ 79 = .ok (.istore 5, 2) := by decide +kernel
theorem dX1_init__81 : decode cX1_init_ 81 = .ok (.iload 5, 2) := by decide +kernel
theorem dX1_init__83 : decode cX1_init_ 83 = .ok (.aload_n 0, 1) := by decide +kernel
theorem dX1_init__84 : decode cX1_init_ 84 = .ok (.getfield 39, 3) := by decide +kernel
theorem dX1_init__87 : decode cX1_init_ 87 = .ok (.arraylength, 1) := by decide +kernel
theorem dX1_init__88 : decode cX1_init_ 88 = .ok (.if_icmp .ge 43, 3) := by decide +kernel
theorem dX1_init__91 : decode cX1_init_ 91 = .ok (.aload_n 0, 1) := by decide +kernel
theorem dX1_init__92 : decode cX1_init_ 92 = .ok (.getfield 39, 3) := by decide +kernel
theorem dX1_init__95 : decode cX1_init_ 95 = .ok (.iload 5, 2) := by decide +kernel
theorem dX1_init__97 : decode cX1_init_ 97 = .ok (.iload 5, 2) := by decide +kernel
theorem dX1_init__99 : decode cX1_init_ 99 = .ok (.iload 4, 2) := by decide +kernel
theorem dX1_init__101 : decode cX1_init_ 101 = .ok (.if_icmp .ge 13, 3) := by decide +kernel
theorem dX1_init__104 : decode cX1_init_ 104 = .ok (.aload_n 3, 1) := by decide +kernel
theorem dX1_init__105 : decode cX1_init_ 105 = .ok (.getfield 39, 3) := by decide +kernel
theorem dX1_init__108 : decode cX1_init_ 108 = .ok (.iload 5, 2) := by decide +kernel
theorem dX1_init__110 : decode cX1_init_ 110 = .ok (.aaload, 1) := by decide +kernel
theorem dX1_init__111 : decode cX1_init_ 111 = .ok (.goto 13, 3) := by decide +kernel
theorem dX1_init__114 : decode cX1_init_ 114 = .ok (.aload_n 2, 1) := by decide +kernel
theorem dX1_init__115 : decode cX1_init_ 115 = .ok (.getfield 39, 3) := by decide +kernel
theorem dX1_init__118 : decode cX1_init_ 118 = .ok (.iload 5, 2) := by decide +kernel
theorem dX1_init__120 : decode cX1_init_ 120 = .ok (.iload 4, 2) := by decide +kernel
theorem dX1_init__122 : decode cX1_init_ 122 = .ok (.isub, 1) := by decide +kernel
theorem dX1_init__123 : decode cX1_init_ 123 = .ok (.aaload, 1) := by decide +kernel
theorem dX1_init__124 : decode cX1_init_ 124 = .ok (.aastore, 1) := by decide +kernel
theorem dX1_init__125 : decode cX1_init_ 125 = .ok (.iinc 5 1, 3) := by decide +kernel
theorem dX1_init__128 : decode cX1_init_ 128 = .ok (.goto (-47), 3) := by decide +kernel
theorem dX1_init__131 : decode cX1_init_ 131 = .ok (.aload_n 0, 1) := by decide +kernel
theorem dX1_init__132 : decode cX1_init_ 132 = .ok (.aload_n 2, 1) := by decide +kernel
theorem dX1_init__133 : decode cX1_init_ 133 = .ok (.putfield 46, 3) := by decide +kernel
theorem dX1_init__136 : decode cX1_init_ 136 = .ok (.aload_n 0, 1) := by decide +kernel
theorem dX1_init__137 : decode cX1_init_ 137 = .ok (.aload_n 3, 1) := by decide +kernel
theorem dX1_init__138 : decode cX1_init_ 138 = .ok (.putfield 50, 3) := by decide +kernel
theorem dX1_init__141 : decode cX1_init_ 141 = .ok (.return_, 1) := by decide +kernel
theorem dX1_holds_0 : decode cX1_holds 0 = .ok (.iload_n 1, 1) := by decide +kernel
theorem dX1_holds_1 : decode cX1_holds 1 = .ok (.ifCond .lt 16, 3) := by decide +kernel
theorem dX1_holds_4 : decode cX1_holds 4 = .ok (.iload_n 1, 1) := by decide +kernel
theorem dX1_holds_5 : decode cX1_holds 5 = .ok (.aload_n 0, 1) := by decide +kernel
theorem dX1_holds_6 : decode cX1_holds 6 = .ok (.getfield 39, 3) := by decide +kernel
theorem dX1_holds_9 : decode cX1_holds 9 = .ok (.arraylength, 1) := by decide +kernel
theorem dX1_holds_10 : decode cX1_holds 10 = .ok (.if_icmp .ge 7, 3) := by decide +kernel
theorem dX1_holds_13 : decode cX1_holds 13 = .ok (.iconst 1, 1) := by decide +kernel
theorem dX1_holds_14 : decode cX1_holds 14 = .ok (.goto 4, 3) := by decide +kernel
theorem dX1_holds_17 : decode cX1_holds 17 = .ok (.iconst 0, 1) := by decide +kernel
theorem dX1_holds_18 : decode cX1_holds 18 = .ok (.ireturn, 1) := by decide +kernel
theorem dX1_holdsAll_0 : decode cX1_holdsAll 0 = .ok (.aload_n 0, 1) := by decide +kernel
theorem dX1_holdsAll_1 : decode cX1_holdsAll 1 = .ok (.getfield 39, 3) := by decide +kernel
theorem dX1_holdsAll_4 : decode cX1_holdsAll 4 = .ok (.arraylength, 1) := by decide +kernel
theorem dX1_holdsAll_5 : decode cX1_holdsAll 5 = .ok (.istore 4, 2) := by decide +kernel
theorem dX1_holdsAll_7 : decode cX1_holdsAll 7 = .ok (.iload_n 3, 1) := by decide +kernel
theorem dX1_holdsAll_8 : decode cX1_holdsAll 8 = .ok (.ifCond .lt 37, 3) := by decide +kernel
theorem dX1_holdsAll_11 : decode cX1_holdsAll 11 = .ok (.iload_n 3, 1) := by decide +kernel
theorem dX1_holdsAll_12 : decode cX1_holdsAll 12 = .ok (.iload 4, 2) := by decide +kernel
theorem dX1_holdsAll_14 : decode cX1_holdsAll 14 = .ok (.if_icmp .gt 31, 3) := by decide +kernel
theorem dX1_holdsAll_17 : decode cX1_holdsAll 17 = .ok (.iload_n 1, 1) := by decide +kernel
theorem dX1_holdsAll_18 : decode cX1_holdsAll 18 = .ok (.ifCond .lt 27, 3) := by decide +kernel
theorem dX1_holdsAll_21 : decode cX1_holdsAll 21 = .ok (.iload_n 1, 1) := by decide +kernel
theorem dX1_holdsAll_22 : decode cX1_holdsAll 22 = .ok (.iload 4, 2) := by decide +kernel
theorem dX1_holdsAll_24 : decode cX1_holdsAll 24 = .ok (.iload_n 3, 1) := by decide +kernel
theorem dX1_holdsAll_25 : decode cX1_holdsAll 25 = .ok (.isub, 1) := by decide +kernel
theorem dX1_holdsAll_26 : decode cX1_holdsAll 26 = .ok (.if_icmp .gt 19, 3) := by decide +kernel
theorem dX1_holdsAll_29 : decode cX1_holdsAll 29 = .ok (.iload_n 2, 1) := by decide +kernel
theorem dX1_holdsAll_30 : decode cX1_holdsAll 30 = .ok (.ifCond .lt 15, 3) := by decide +kernel
theorem dX1_holdsAll_33 : decode cX1_holdsAll 33 = .ok (.iload_n 2, 1) := by decide +kernel
theorem dX1_holdsAll_34 : decode cX1_holdsAll 34 = .ok (.iload 4, 2) := by decide +kernel
theorem dX1_holdsAll_36 : decode cX1_holdsAll 36 = .ok (.iload_n 3, 1) := by decide +kernel
theorem dX1_holdsAll_37 : decode cX1_holdsAll 37 = .ok (.isub, 1) := by decide +kernel
theorem dX1_holdsAll_38 : decode cX1_holdsAll 38 = .ok (.if_icmp .gt 7, 3) := by decide +kernel
theorem dX1_holdsAll_41 : decode cX1_holdsAll 41 = .ok (.iconst 1, 1) := by decide +kernel
theorem dX1_holdsAll_42 : decode cX1_holdsAll 42 = .ok (.goto 4, 3) := by decide +kernel
theorem dX1_holdsAll_45 : decode cX1_holdsAll 45 = .ok (.iconst 0, 1) := by decide +kernel
theorem dX1_holdsAll_46 : decode cX1_holdsAll 46 = .ok (.ireturn, 1) := by decide +kernel
theorem dX1_readFault_0 : decode cX1_readFault 0 = .ok (.aload_n 0, 1) := by decide +kernel
theorem dX1_readFault_1 : decode cX1_readFault 1 = .ok (.iload_n 1, 1) := by decide +kernel
theorem dX1_readFault_2 : decode cX1_readFault 2 = .ok (.invokevirtual 53, 3) := by decide +kernel
theorem dX1_readFault_5 : decode cX1_readFault 5 = .ok (.ifCond .eq 15, 3) := by decide +kernel
theorem dX1_readFault_8 : decode cX1_readFault 8 = .ok (.aload_n 0, 1) := by decide +kernel
theorem dX1_readFault_9 : decode cX1_readFault 9 = .ok (.getfield 39, 3) := by decide +kernel
theorem dX1_readFault_12 : decode cX1_readFault 12 = .ok (.iload_n 1, 1) := by decide +kernel
theorem dX1_readFault_13 : decode cX1_readFault 13 = .ok (.aaload, 1) := by decide +kernel
theorem dX1_readFault_14 : decode cX1_readFault 14 = .ok (.invokevirtual 57, 3) := by decide +kernel
theorem dX1_readFault_17 : decode cX1_readFault 17 = .ok (.goto 4, 3) := by decide +kernel
theorem dX1_readFault_20 : decode cX1_readFault 20 = .ok (.iconst 2, 1) := by decide +kernel
theorem dX1_readFault_21 : decode cX1_readFault 21 = .ok (.ireturn, 1) := by decide +kernel
theorem dX1_numberFault_0 : decode cX1_numberFault 0 = .ok (.aload_n 0, 1) := by decide +kernel
theorem dX1_numberFault_1 : decode cX1_numberFault 1 = .ok (.iload_n 1, 1) := by decide +kernel
theorem dX1_numberFault_2 : decode cX1_numberFault 2 = .ok (.invokevirtual 53, 3) := by decide +kernel
theorem dX1_numberFault_5 : decode cX1_numberFault 5 = .ok (.ifCond .eq 16, 3) := by decide +kernel
theorem dX1_numberFault_8 : decode cX1_numberFault 8 = .ok (.aload_n 0, 1) := by decide +kernel
theorem dX1_numberFault_9 : decode cX1_numberFault 9 = .ok (.getfield 39, 3) := by decide +kernel
theorem dX1_numberFault_12 : decode cX1_numberFault 12 = .ok (.iload_n 1, 1) := by decide +kernel
theorem dX1_numberFault_13 : decode cX1_numberFault 13 = .ok (.aaload, 1) := by decide +kernel
theorem dX1_numberFault_14 : decode cX1_numberFault 14 = .ok (.iload_n 2, 1) := by decide +kernel
theorem dX1_numberFault_15 : decode cX1_numberFault 15 = .ok (.invokevirtual 61, 3) := by decide +kernel
theorem dX1_numberFault_18 : decode cX1_numberFault 18 = .ok (.goto 4, 3) := by decide +kernel
theorem dX1_numberFault_21 : decode cX1_numberFault 21 = .ok (.iconst 2, 1) := by decide +kernel
theorem dX1_numberFault_22 : decode cX1_numberFault 22 = .ok (.ireturn, 1) := by decide +kernel
theorem dX1_firstFault_0 : decode cX1_firstFault 0 = .ok (.iconst 0, 1) := by decide +kernel
theorem dX1_firstFault_1 : decode cX1_firstFault 1 = .ok (.istore_n 1, 1) := by decide +kernel
theorem dX1_firstFault_2 : decode cX1_firstFault 2 = .ok (.iload_n 1, 1) := by decide +kernel
theorem dX1_firstFault_3 : decode cX1_firstFault 3 = .ok (.aload_n 0, 1) := by decide +kernel
theorem dX1_firstFault_4 : decode cX1_firstFault 4 = .ok (.getfield 39, 3) := by decide +kernel
theorem dX1_firstFault_7 : decode cX1_firstFault 7 = .ok (.arraylength, 1) := by decide +kernel
theorem dX1_firstFault_8 : decode cX1_firstFault 8 = .ok (.if_icmp .ge 25, 3) := by decide +kernel
theorem dX1_firstFault_11 : decode cX1_firstFault 11 = .ok (.aload_n 0, 1) := by decide +kernel
theorem dX1_firstFault_12 : decode cX1_firstFault 12 = .ok (.getfield 39, 3) := by decide +kernel
theorem dX1_firstFault_15 : decode cX1_firstFault 15 = .ok (.iload_n 1, 1) := by decide +kernel
theorem dX1_firstFault_16 : decode cX1_firstFault 16 = .ok (.aaload, 1) := by decide +kernel
theorem dX1_firstFault_17 : decode cX1_firstFault 17 = .ok (.invokevirtual 57, 3) := by decide +kernel
theorem dX1_firstFault_20 : decode cX1_firstFault 20 = .ok (.istore_n 2, 1) := by decide +kernel
theorem dX1_firstFault_21 : decode cX1_firstFault 21 = .ok (.iload_n 2, 1) := by decide +kernel
theorem dX1_firstFault_22 : decode cX1_firstFault 22 = .ok (.ifCond .eq 5, 3) := by decide +kernel
theorem dX1_firstFault_25 : decode cX1_firstFault 25 = .ok (.iload_n 2, 1) := by decide +kernel
theorem dX1_firstFault_26 : decode cX1_firstFault 26 = .ok (.ireturn, 1) := by decide +kernel
theorem dX1_firstFault_27 : decode cX1_firstFault 27 = .ok (.iinc 1 1, 3) := by decide +kernel
theorem dX1_firstFault_30 : decode cX1_firstFault 30 = .ok (.goto (-28), 3) := by decide +kernel
theorem dX1_firstFault_33 : decode cX1_firstFault 33 = .ok (.iconst 0, 1) := by decide +kernel
theorem dX1_firstFault_34 : decode cX1_firstFault 34 = .ok (.ireturn, 1) := by decide +kernel
theorem dX1_sum_0 : decode cX1_sum 0 = .ok (.lconst 0, 1) := by decide +kernel
theorem dX1_sum_1 : decode cX1_sum 1 = .ok (.lstore_n 1, 1) := by decide +kernel
theorem dX1_sum_2 : decode cX1_sum 2 = .ok (.aload_n 0, 1) := by decide +kernel
theorem dX1_sum_3 : decode cX1_sum 3 = .ok (.getfield 39, 3) := by decide +kernel
theorem dX1_sum_6 : decode cX1_sum 6 = .ok (.arraylength, 1) := by decide +kernel
theorem dX1_sum_7 : decode cX1_sum 7 = .ok (.iconst 1, 1) := by decide +kernel
theorem dX1_sum_8 : decode cX1_sum 8 = .ok (.isub, 1) := by decide +kernel
theorem dX1_sum_9 : decode cX1_sum 9 = .ok (.istore_n 3, 1) := by decide +kernel
theorem dX1_sum_10 : decode cX1_sum 10 = .ok (.iload_n 3, 1) := by decide +kernel
theorem dX1_sum_11 : decode cX1_sum 11 = .ok (.ifCond .lt 28, 3) := by decide +kernel
theorem dX1_sum_14 : decode cX1_sum 14 = .ok (.lload_n 1, 1) := by decide +kernel
theorem dX1_sum_15 : decode cX1_sum 15 = .ok (.aload_n 0, 1) := by decide +kernel
theorem dX1_sum_16 : decode cX1_sum 16 = .ok (.getfield 22, 3) := by decide +kernel
theorem dX1_sum_19 : decode cX1_sum 19 = .ok (.i2l, 1) := by decide +kernel
theorem dX1_sum_20 : decode cX1_sum 20 = .ok (.lmul, 1) := by decide +kernel
theorem dX1_sum_21 : decode cX1_sum 21 = .ok (.aload_n 0, 1) := by decide +kernel
theorem dX1_sum_22 : decode cX1_sum 22 = .ok (.getfield 39, 3) := by decide +kernel
theorem dX1_sum_25 : decode cX1_sum 25 = .ok (.iload_n 3, 1) := by decide +kernel
theorem dX1_sum_26 : decode cX1_sum 26 = .ok (.aaload, 1) := by decide +kernel
theorem dX1_sum_27 : decode cX1_sum 27 = .ok (.invokevirtual 64, 3) := by decide +kernel
theorem dX1_sum_30 : decode cX1_sum 30 = .ok (.i2l, 1) := by decide +kernel
theorem dX1_sum_31 : decode cX1_sum 31 = .ok (.ladd, 1) := by decide +kernel
theorem dX1_sum_32 : decode cX1_sum 32 = .ok (.lstore_n 1, 1) := by decide +kernel
theorem dX1_sum_33 : decode cX1_sum 33 = .ok (.iinc 3 (-1), 3) := by decide +kernel
theorem dX1_sum_36 : decode cX1_sum 36 = .ok (.goto (-26), 3) := by decide +kernel
theorem dX1_sum_39 : decode cX1_sum 39 = .ok (.lload_n 1, 1) := by decide +kernel
theorem dX1_sum_40 : decode cX1_sum 40 = .ok (.lreturn, 1) := by decide +kernel
theorem dX1_writeNumber_0 : decode cX1_writeNumber 0 = .ok (.iconst 0, 1) := by decide +kernel
theorem dX1_writeNumber_1 : decode cX1_writeNumber 1 = .ok (.istore_n 3, 1) := by decide +kernel
theorem dX1_writeNumber_2 : decode cX1_writeNumber 2 = .ok (.iload_n 3, 1) := by decide +kernel
theorem dX1_writeNumber_3 : decode cX1_writeNumber 3 = .ok (.aload_n 0, 1) := by decide +kernel
theorem dX1_writeNumber_4 : decode cX1_writeNumber 4 = .ok (.getfield 39, 3) := by decide +kernel
theorem dX1_writeNumber_7 : decode cX1_writeNumber 7 = .ok (.arraylength, 1) := by decide +kernel
theorem dX1_writeNumber_8 : decode cX1_writeNumber 8 = .ok (.if_icmp .ge 27, 3) := by decide +kernel
theorem dX1_writeNumber_11 : decode cX1_writeNumber 11 = .ok (.aload_n 0, 1) := by decide +kernel
theorem dX1_writeNumber_12 : decode cX1_writeNumber 12 = .ok (.getfield 39, 3) := by decide +kernel
theorem dX1_writeNumber_15 : decode cX1_writeNumber 15 = .ok (.iload_n 3, 1) := by decide +kernel
theorem dX1_writeNumber_16 : decode cX1_writeNumber 16 = .ok (.aaload, 1) := by decide +kernel
theorem dX1_writeNumber_17 : decode cX1_writeNumber 17 = .ok (.lload_n 1, 1) := by decide +kernel
theorem dX1_writeNumber_18 : decode cX1_writeNumber 18 = .ok (.aload_n 0, 1) := by decide +kernel
theorem dX1_writeNumber_19 : decode cX1_writeNumber 19 = .ok (.getfield 22, 3) := by decide +kernel
theorem dX1_writeNumber_22 : decode cX1_writeNumber 22 = .ok (.iload_n 3, 1) := by decide +kernel
theorem dX1_writeNumber_23 : decode cX1_writeNumber 23 = .ok (.invokestatic 67, 3) := by decide +kernel
theorem dX1_writeNumber_26 : decode cX1_writeNumber 26 = .ok (.invokevirtual 71, 3) := by decide +kernel
theorem dX1_writeNumber_29 : decode cX1_writeNumber 29 = .ok (.iinc 3 1, 3) := by decide +kernel
theorem dX1_writeNumber_32 : decode cX1_writeNumber 32 = .ok (.goto (-30), 3) := by decide +kernel
theorem dX1_writeNumber_35 : decode cX1_writeNumber 35 = .ok (.return_, 1) := by decide +kernel
theorem dX1_allProper_0 : decode cX1_allProper 0 = .ok (.iconst 0, 1) := by decide +kernel
theorem dX1_allProper_1 : decode cX1_allProper 1 = .ok (.istore_n 1, 1) := by decide +kernel
theorem dX1_allProper_2 : decode cX1_allProper 2 = .ok (.iload_n 1, 1) := by decide +kernel
theorem dX1_allProper_3 : decode cX1_allProper 3 = .ok (.aload_n 0, 1) := by decide +kernel
theorem dX1_allProper_4 : decode cX1_allProper 4 = .ok (.getfield 39, 3) := by decide +kernel
theorem dX1_allProper_7 : decode cX1_allProper 7 = .ok (.arraylength, 1) := by decide +kernel
theorem dX1_allProper_8 : decode cX1_allProper 8 = .ok (.if_icmp .ge 39, 3) := by decide +kernel
theorem dX1_allProper_11 : decode cX1_allProper 11 = .ok (.aload_n 0, 1) := by decide +kernel
theorem dX1_allProper_12 : decode cX1_allProper 12 = .ok (.getfield 39, 3) := by decide +kernel
theorem dX1_allProper_15 : decode cX1_allProper 15 = .ok (.iload_n 1, 1) := by decide +kernel
theorem dX1_allProper_16 : decode cX1_allProper 16 = .ok (.aaload, 1) := by decide +kernel
theorem dX1_allProper_17 : decode cX1_allProper 17 = .ok (.invokevirtual 57, 3) := by decide +kernel
theorem dX1_allProper_20 : decode cX1_allProper 20 = .ok (.ifCond .ne 21, 3) := by decide +kernel
theorem dX1_allProper_23 : decode cX1_allProper 23 = .ok (.aload_n 0, 1) := by decide +kernel
theorem dX1_allProper_24 : decode cX1_allProper 24 = .ok (.getfield 39, 3) := by decide +kernel
theorem dX1_allProper_27 : decode cX1_allProper 27 = .ok (.iload_n 1, 1) := by decide +kernel
theorem dX1_allProper_28 : decode cX1_allProper 28 = .ok (.aaload, 1) := by decide +kernel
theorem dX1_allProper_29 : decode cX1_allProper 29 = .ok (.aload_n 0, 1) := by decide +kernel
theorem dX1_allProper_30 : decode cX1_allProper 30 = .ok (.getfield 22, 3) := by decide +kernel
theorem dX1_allProper_33 : decode cX1_allProper 33 = .ok (.invokevirtual 74, 3) := by decide +kernel
theorem dX1_allProper_36 : decode cX1_allProper 36 = .ok (.ifCond .ne 5, 3) := by decide +kernel
theorem dX1_allProper_39 : decode cX1_allProper 39 = .ok (.iconst 0, 1) := by decide +kernel
theorem dX1_allProper_40 : decode cX1_allProper 40 = .ok (.ireturn, 1) := by decide +kernel
theorem dX1_allProper_41 : decode cX1_allProper 41 = .ok (.iinc 1 1, 3) := by decide +kernel
theorem dX1_allProper_44 : decode cX1_allProper 44 = .ok (.goto (-42), 3) := by decide +kernel
theorem dX1_allProper_47 : decode cX1_allProper 47 = .ok (.iconst 1, 1) := by decide +kernel
theorem dX1_allProper_48 : decode cX1_allProper 48 = .ok (.ireturn, 1) := by decide +kernel
theorem dX1_readable_0 : decode cX1_readable 0 = .ok (.iconst 0, 1) := by decide +kernel
theorem dX1_readable_1 : decode cX1_readable 1 = .ok (.istore_n 1, 1) := by decide +kernel
theorem dX1_readable_2 : decode cX1_readable 2 = .ok (.iconst 0, 1) := by decide +kernel
theorem dX1_readable_3 : decode cX1_readable 3 = .ok (.istore_n 2, 1) := by decide +kernel
theorem dX1_readable_4 : decode cX1_readable 4 = .ok (.iload_n 2, 1) := by decide +kernel
theorem dX1_readable_5 : decode cX1_readable 5 = .ok (.aload_n 0, 1) := by decide +kernel
theorem dX1_readable_6 : decode cX1_readable 6 = .ok (.getfield 39, 3) := by decide +kernel
theorem dX1_readable_9 : decode cX1_readable 9 = .ok (.arraylength, 1) := by decide +kernel
theorem dX1_readable_10 : decode cX1_readable 10 = .ok (.if_icmp .ge 24, 3) := by decide +kernel
theorem dX1_readable_13 : decode cX1_readable 13 = .ok (.aload_n 0, 1) := by decide +kernel
theorem dX1_readable_14 : decode cX1_readable 14 = .ok (.getfield 39, 3) := by decide +kernel
theorem dX1_readable_17 : decode cX1_readable 17 = .ok (.iload_n 2, 1) := by decide +kernel
theorem dX1_readable_18 : decode cX1_readable 18 = .ok (.aaload, 1) := by decide +kernel
theorem dX1_readable_19 : decode cX1_readable 19 = .ok (.invokevirtual 57, 3) := by decide +kernel
theorem dX1_readable_22 : decode cX1_readable 22 = .ok (.ifCond .ne 6, 3) := by decide +kernel
theorem dX1_readable_25 : decode cX1_readable 25 = .ok (.iinc 1 1, 3) := by decide +kernel
theorem dX1_readable_28 : decode cX1_readable 28 = .ok (.iinc 2 1, 3) := by decide +kernel
theorem dX1_readable_31 : decode cX1_readable 31 = .ok (.goto (-27), 3) := by decide +kernel
theorem dX1_readable_34 : decode cX1_readable 34 = .ok (.iload_n 1, 1) := by decide +kernel
theorem dX1_readable_35 : decode cX1_readable 35 = .ok (.ireturn, 1) := by decide +kernel
theorem dX1_digestSum_0 : decode cX1_digestSum 0 = .ok (.ldc2_w 77, 3) := by decide +kernel
theorem dX1_digestSum_3 : decode cX1_digestSum 3 = .ok (.lstore_n 1, 1) := by decide +kernel
theorem dX1_digestSum_4 : decode cX1_digestSum 4 = .ok (.iconst 0, 1) := by decide +kernel
theorem dX1_digestSum_5 : decode cX1_digestSum 5 = .ok (.istore_n 3, 1) := by decide +kernel
theorem dX1_digestSum_6 : decode cX1_digestSum 6 = .ok (.iload_n 3, 1) := by decide +kernel
theorem dX1_digestSum_7 : decode cX1_digestSum 7 = .ok (.aload_n 0, 1) := by decide +kernel
theorem dX1_digestSum_8 : decode cX1_digestSum 8 = .ok (.getfield 39, 3) := by decide +kernel
theorem dX1_digestSum_11 : decode cX1_digestSum 11 = .ok (.arraylength, 1) := by decide +kernel
theorem dX1_digestSum_12 : decode cX1_digestSum 12 = .ok (.if_icmp .ge 20, 3) := by decide +kernel
theorem dX1_digestSum_15 : decode cX1_digestSum 15 = .ok (.aload_n 0, 1) := by decide +kernel
theorem dX1_digestSum_16 : decode cX1_digestSum 16 = .ok (.getfield 39, 3) := by decide +kernel
theorem dX1_digestSum_19 : decode cX1_digestSum 19 = .ok (.iload_n 3, 1) := by decide +kernel
theorem dX1_digestSum_20 : decode cX1_digestSum 20 = .ok (.aaload, 1) := by decide +kernel
theorem dX1_digestSum_21 : decode cX1_digestSum 21 = .ok (.lload_n 1, 1) := by decide +kernel
theorem dX1_digestSum_22 : decode cX1_digestSum 22 = .ok (.invokevirtual 79, 3) := by decide +kernel
theorem dX1_digestSum_25 : decode cX1_digestSum 25 = .ok (.lstore_n 1, 1) := by decide +kernel
theorem dX1_digestSum_26 : decode cX1_digestSum 26 = .ok (.iinc 3 1, 3) := by decide +kernel
theorem dX1_digestSum_29 : decode cX1_digestSum 29 = .ok (.goto (-23), 3) := by decide +kernel
theorem dX1_digestSum_32 : decode cX1_digestSum 32 = .ok (.lload_n 1, 1) := by decide +kernel
theorem dX1_digestSum_33 : decode cX1_digestSum 33 = .ok (.lreturn, 1) := by decide +kernel
theorem dX2_init_0 : decode cX2_init 0 = .ok (.aload_n 0, 1) := by decide +kernel
theorem dX2_init_1 : decode cX2_init 1 = .ok (.invokespecial 3, 3) := by decide +kernel
theorem dX2_init_4 : decode cX2_init 4 = .ok (.return_, 1) := by decide +kernel
theorem dX2_open_0 : decode cX2_open 0 = .ok (.aload_n 0, 1) := by decide +kernel
theorem dX2_open_1 : decode cX2_open 1 = .ok (.iload_n 1, 1) := by decide +kernel
theorem dX2_open_2 : decode cX2_open 2 = .ok (.putfield 9, 3) := by decide +kernel
theorem dX2_open_5 : decode cX2_open 5 = .ok (.aload_n 0, 1) := by decide +kernel
theorem dX2_open_6 : decode cX2_open 6 = .ok (.lload_n 2, 1) := by decide +kernel
theorem dX2_open_7 : decode cX2_open 7 = .ok (.putfield 15, 3) := by decide +kernel
theorem dX2_open_10 : decode cX2_open 10 = .ok (.aload_n 0, 1) := by decide +kernel
theorem dX2_open_11 : decode cX2_open 11 = .ok (.lload 4, 2) := by decide +kernel
theorem dX2_open_13 : decode cX2_open 13 = .ok (.putfield 19, 3) := by decide +kernel
theorem dX2_open_16 : decode cX2_open 16 = .ok (.aload_n 0, 1) := by decide +kernel
theorem dX2_open_17 : decode cX2_open 17 = .ok (.bipush 64, 2) := by decide +kernel
theorem dX2_open_19 : decode cX2_open 19 = .ok (.putfield 22, 3) := by decide +kernel
theorem dX2_open_22 : decode cX2_open 22 = .ok (.aload_n 0, 1) := by decide +kernel
theorem dX2_open_23 : decode cX2_open 23 = .ok (.bipush 64, 2) := by decide +kernel
theorem dX2_open_25 : decode cX2_open 25 = .ok (.putfield 25, 3) := by decide +kernel
theorem dX2_open_28 : decode cX2_open 28 = .ok (.return_, 1) := by decide +kernel
theorem dX2_comeTo_0 : decode cX2_comeTo 0 = .ok (.aload_n 0, 1) := by decide +kernel
theorem dX2_comeTo_1 : decode cX2_comeTo 1 = .ok (.iload_n 1, 1) := by decide +kernel
theorem dX2_comeTo_2 : decode cX2_comeTo 2 = .ok (.putfield 22, 3) := by decide +kernel
theorem dX2_comeTo_5 : decode cX2_comeTo 5 = .ok (.aload_n 0, 1) := by decide +kernel
theorem dX2_comeTo_6 : decode cX2_comeTo 6 = .ok (.iload_n 2, 1) := by decide +kernel
theorem dX2_comeTo_7 : decode cX2_comeTo 7 = .ok (.putfield 25, 3) := by decide +kernel
theorem dX2_comeTo_10 : decode cX2_comeTo 10 = .ok (.return_, 1) := by decide +kernel
theorem dX2_faultAt_0 : decode cX2_faultAt 0 = .ok (.aload_n 0, 1) := by decide +kernel
theorem dX2_faultAt_1 : decode cX2_faultAt 1 = .ok (.getfield 9, 3) := by decide +kernel
theorem dX2_faultAt_4 : decode cX2_faultAt 4 = .ok (.ifCond .ne 5, 3) := by decide +kernel
theorem dX2_faultAt_7 : decode cX2_faultAt 7 = .ok (.iconst 1, 1) := by decide +kernel
theorem dX2_faultAt_8 : decode cX2_faultAt 8 = .ok (.ireturn, 1) := by decide +kernel
theorem dX2_faultAt_9 : decode cX2_faultAt 9 = .ok (.iload_n 1, 1) := by decide +kernel
theorem dX2_faultAt_10 : decode cX2_faultAt 10 = .ok (.ifCond .lt 18, 3) := by decide +kernel
theorem dX2_faultAt_13 : decode cX2_faultAt 13 = .ok (.iload_n 1, 1) := by decide +kernel
theorem dX2_faultAt_14 : decode cX2_faultAt 14 = .ok (.aload_n 0, 1) := by decide +kernel
theorem dX2_faultAt_15 : decode cX2_faultAt 15 = .ok (.getfield 15, 3) := by decide +kernel
theorem dX2_faultAt_18 : decode cX2_faultAt 18 = .ok (.aload_n 0, 1) := by decide +kernel
theorem dX2_faultAt_19 : decode cX2_faultAt 19 = .ok (.getfield 9, 3) := by decide +kernel
theorem dX2_faultAt_22 : decode cX2_faultAt 22 = .ok (.invokestatic 28, 3) := by decide +kernel
theorem dX2_faultAt_25 : decode cX2_faultAt 25 = .ok (.if_icmp .lt 5, 3) := by decide +kernel
theorem dX2_faultAt_28 : decode cX2_faultAt 28 = .ok (.iconst 2, 1) := by decide +kernel
theorem dX2_faultAt_29 : decode cX2_faultAt 29 = .ok (.ireturn, 1) := by decide +kernel
theorem dX2_faultAt_30 : decode cX2_faultAt 30 = .ok (.aload_n 0, 1) := by decide +kernel
theorem dX2_faultAt_31 : decode cX2_faultAt 31 = .ok (.getfield 15, 3) := by decide +kernel
theorem dX2_faultAt_34 : decode cX2_faultAt 34 = .ok (.aload_n 0, 1) := by decide +kernel
theorem dX2_faultAt_35 : decode cX2_faultAt 35 = .ok (.getfield 9, 3) := by decide +kernel
theorem dX2_faultAt_38 : decode cX2_faultAt 38 = .ok (.iload_n 1, 1) := by decide +kernel
theorem dX2_faultAt_39 : decode cX2_faultAt 39 = .ok (.invokestatic 32, 3) := by decide +kernel
theorem dX2_faultAt_42 : decode cX2_faultAt 42 = .ok (.ifCond .ne 5, 3) := by decide +kernel
theorem dX2_faultAt_45 : decode cX2_faultAt 45 = .ok (.iconst 1, 1) := by decide +kernel
theorem dX2_faultAt_46 : decode cX2_faultAt 46 = .ok (.ireturn, 1) := by decide +kernel
theorem dX2_faultAt_47 : decode cX2_faultAt 47 = .ok (.iload_n 2, 1) := by decide +kernel
theorem dX2_faultAt_48 : decode cX2_faultAt 48 = .ok (.ifCond .lt 18, 3) := by decide +kernel
theorem dX2_faultAt_51 : decode cX2_faultAt 51 = .ok (.iload_n 2, 1) := by decide +kernel
theorem dX2_faultAt_52 : decode cX2_faultAt 52 = .ok (.aload_n 0, 1) := by decide +kernel
theorem dX2_faultAt_53 : decode cX2_faultAt 53 = .ok (.getfield 19, 3) := by decide +kernel
theorem dX2_faultAt_56 : decode cX2_faultAt 56 = .ok (.aload_n 0, 1) := by decide +kernel
theorem dX2_faultAt_57 : decode cX2_faultAt 57 = .ok (.getfield 9, 3) := by decide +kernel
theorem dX2_faultAt_60 : decode cX2_faultAt 60 = .ok (.invokestatic 28, 3) := by decide +kernel
theorem dX2_faultAt_63 : decode cX2_faultAt 63 = .ok (.if_icmp .lt 7, 3) := by decide +kernel
theorem dX2_faultAt_66 : decode cX2_faultAt 66 = .ok (.iconst 2, 1) := by decide +kernel
theorem dX2_faultAt_67 : decode cX2_faultAt 67 = .ok (.goto 4, 3) := by decide +kernel
theorem dX2_faultAt_70 : decode cX2_faultAt 70 = .ok (.iconst 0, 1) := by decide +kernel
theorem dX2_faultAt_71 : decode cX2_faultAt 71 = .ok (.ireturn, 1) := by decide +kernel
theorem dX2_at_0 : decode cX2_at 0 = .ok (.aload_n 0, 1) := by decide +kernel
theorem dX2_at_1 : decode cX2_at 1 = .ok (.getfield 9, 3) := by decide +kernel
theorem dX2_at_4 : decode cX2_at 4 = .ok (.ifCond .ne 5, 3) := by decide +kernel
theorem dX2_at_7 : decode cX2_at 7 = .ok (.lconst 0, 1) := by decide +kernel
theorem dX2_at_8 : decode cX2_at 8 = .ok (.lreturn, 1) := by decide +kernel
theorem dX2_at_9 : decode cX2_at 9 = .ok (.iload_n 1, 1) := by decide +kernel
theorem dX2_at_10 : decode cX2_at 10 = .ok (.aload_n 0, 1) := by decide +kernel
theorem dX2_at_11 : decode cX2_at 11 = .ok (.getfield 22, 3) := by decide +kernel
theorem dX2_at_14 : decode cX2_at 14 = .ok (.if_icmp .gt 19, 3) := by decide +kernel
theorem dX2_at_17 : decode cX2_at 17 = .ok (.iload_n 1, 1) := by decide +kernel
theorem dX2_at_18 : decode cX2_at 18 = .ok (.aload_n 0, 1) := by decide +kernel
theorem dX2_at_19 : decode cX2_at 19 = .ok (.getfield 22, 3) := by decide +kernel
theorem dX2_at_22 : decode cX2_at 22 = .ok (.if_icmp .ne 15, 3) := by decide +kernel
theorem dX2_at_25 : decode cX2_at 25 = .ok (.iload_n 2, 1) := by decide +kernel
theorem dX2_at_26 : decode cX2_at 26 = .ok (.aload_n 0, 1) := by decide +kernel
theorem dX2_at_27 : decode cX2_at 27 = .ok (.getfield 25, 3) := by decide +kernel
theorem dX2_at_30 : decode cX2_at 30 = .ok (.if_icmp .lt 7, 3) := by decide +kernel
theorem dX2_at_33 : decode cX2_at 33 = .ok (.iconst 1, 1) := by decide +kernel
theorem dX2_at_34 : decode cX2_at 34 = .ok (.goto 4, 3) := by decide +kernel
theorem dX2_at_37 : decode cX2_at 37 = .ok (.iconst 0, 1) := by decide +kernel
theorem dX2_at_38 : decode cX2_at 38 = .ok (.istore_n 3, 1) := by decide +kernel
theorem dX2_at_39 : decode cX2_at 39 = .ok (.iload_n 3, 1) := by decide +kernel
theorem dX2_at_40 : decode cX2_at 40 = .ok (.ifCond .eq 32, 3) := by decide +kernel
theorem dX2_at_43 : decode cX2_at 43 = .ok (.aload_n 0, 1) := by decide +kernel
theorem dX2_at_44 : decode cX2_at 44 = .ok (.getfield 15, 3) := by decide +kernel
theorem dX2_at_47 : decode cX2_at 47 = .ok (.aload_n 0, 1) := by decide +kernel
theorem dX2_at_48 : decode cX2_at 48 = .ok (.getfield 9, 3) := by decide +kernel
theorem dX2_at_51 : decode cX2_at 51 = .ok (.iload_n 1, 1) := by decide +kernel
theorem dX2_at_52 : decode cX2_at 52 = .ok (.invokestatic 32, 3) := by decide +kernel
theorem dX2_at_55 : decode cX2_at 55 = .ok (.aload_n 0, 1) := by decide +kernel
theorem dX2_at_56 : decode cX2_at 56 = .ok (.getfield 19, 3) := by decide +kernel
theorem dX2_at_59 : decode cX2_at 59 = .ok (.aload_n 0, 1) := by decide +kernel
theorem dX2_at_60 : decode cX2_at 60 = .ok (.getfield 9, 3) := by decide +kernel
theorem dX2_at_63 : decode cX2_at 63 = .ok (.iload_n 2, 1) := by decide +kernel
theorem dX2_at_64 : decode cX2_at 64 = .ok (.invokestatic 32, 3) := by decide +kernel
theorem dX2_at_67 : decode cX2_at 67 = .ok (.imul, 1) := by decide +kernel
theorem dX2_at_68 : decode cX2_at 68 = .ok (.i2l, 1) := by decide +kernel
theorem dX2_at_69 : decode cX2_at 69 = .ok (.goto 4, 3) := by decide +kernel
theorem dX2_at_72 : decode cX2_at 72 = .ok (.lconst 0, 1) := by decide +kernel
theorem dX2_at_73 : decode cX2_at 73 = .ok (.lreturn, 1) := by decide +kernel
theorem dX3_init_0 : decode cX3_init 0 = .ok (.aload_n 0, 1) := by decide +kernel
theorem dX3_init_1 : decode cX3_init 1 = .ok (.invokespecial 3, 3) := by decide +kernel
theorem dX3_init_4 : decode cX3_init 4 = .ok (.aload_n 0, 1) := by decide +kernel
theorem dX3_init_5 : decode cX3_init 5 = .ok (.new 9, 3) := by decide +kernel
theorem dX3_init_8 : decode cX3_init 8 = .ok (.dup, 1) := by decide +kernel
theorem dX3_init_9 : decode cX3_init 9 = .ok (.invokespecial 11, 3) := by decide +kernel
theorem dX3_init_12 : decode cX3_init 12 = .ok (.putfield 12, 3) := by decide +kernel
theorem dX3_init_15 : decode cX3_init 15 = .ok (.aload_n 0, 1) := by decide +kernel
theorem dX3_init_16 : decode cX3_init 16 = .ok (.sipush 224, 3) := by decide +kernel
theorem dX3_init_19 : decode cX3_init 19 = .ok (.newarray .int, 2) := by decide +kernel
theorem dX3_init_21 : decode cX3_init 21 = .ok (.putfield 18, 3) := by decide +kernel
theorem dX3_init_24 : decode cX3_init 24 = .ok (.aload_n 0, 1) := by decide +kernel
theorem dX3_init_25 : decode cX3_init 25 = .ok (.bipush (-5), 2) := by decide +kernel
theorem dX3_init_27 : decode cX3_init 27 = .ok (.putfield 22, 3) := by decide +kernel
theorem dX3_init_30 : decode cX3_init 30 = .ok (.aload_n 0, 1) := by decide +kernel
theorem dX3_init_31 : decode cX3_init 31 = .ok (.bipush (-5), 2) := by decide +kernel
theorem dX3_init_33 : decode cX3_init 33 = .ok (.putfield 26, 3) := by decide +kernel
theorem dX3_init_36 : decode cX3_init 36 = .ok (.return_, 1) := by decide +kernel
theorem dX3_open_0 : decode cX3_open 0 = .ok (.aload_n 0, 1) := by decide +kernel
theorem dX3_open_1 : decode cX3_open 1 = .ok (.aload_n 1, 1) := by decide +kernel
theorem dX3_open_2 : decode cX3_open 2 = .ok (.putfield 29, 3) := by decide +kernel
theorem dX3_open_5 : decode cX3_open 5 = .ok (.aload_n 0, 1) := by decide +kernel
theorem dX3_open_6 : decode cX3_open 6 = .ok (.aload_n 2, 1) := by decide +kernel
theorem dX3_open_7 : decode cX3_open 7 = .ok (.putfield 33, 3) := by decide +kernel
theorem dX3_open_10 : decode cX3_open 10 = .ok (.aload_n 0, 1) := by decide +kernel
theorem dX3_open_11 : decode cX3_open 11 = .ok (.iconst 0, 1) := by decide +kernel
theorem dX3_open_12 : decode cX3_open 12 = .ok (.putfield 36, 3) := by decide +kernel
theorem dX3_open_15 : decode cX3_open 15 = .ok (.aload_n 0, 1) := by decide +kernel
theorem dX3_open_16 : decode cX3_open 16 = .ok (.iconst 0, 1) := by decide +kernel
theorem dX3_open_17 : decode cX3_open 17 = .ok (.putfield 39, 3) := by decide +kernel
theorem dX3_open_20 : decode cX3_open 20 = .ok (.aload_n 0, 1) := by decide +kernel
theorem dX3_open_21 : decode cX3_open 21 = .ok (.iconst 0, 1) := by decide +kernel
theorem dX3_open_22 : decode cX3_open 22 = .ok (.putfield 42, 3) := by decide +kernel
theorem dX3_open_25 : decode cX3_open 25 = .ok (.aload_n 0, 1) := by decide +kernel
theorem dX3_open_26 : decode cX3_open 26 = .ok (.iconst 0, 1) := by decide +kernel
theorem dX3_open_27 : decode cX3_open 27 = .ok (.putfield 46, 3) := by decide +kernel
theorem dX3_open_30 : decode cX3_open 30 = .ok (.aload_n 0, 1) := by decide +kernel
theorem dX3_open_31 : decode cX3_open 31 = .ok (.bipush (-5), 2) := by decide +kernel
theorem dX3_open_33 : decode cX3_open 33 = .ok (.putfield 22, 3) := by decide +kernel
theorem dX3_open_36 : decode cX3_open 36 = .ok (.aload_n 0, 1) := by decide +kernel
theorem dX3_open_37 : decode cX3_open 37 = .ok (.bipush (-5), 2) := by decide +kernel
theorem dX3_open_39 : decode cX3_open 39 = .ok (.putfield 26, 3) := by decide +kernel
theorem dX3_open_42 : decode cX3_open 42 = .ok (.return_, 1) := by decide +kernel
theorem dX3_close_0 : decode cX3_close 0 = .ok (.iload_n 1, 1) := by decide +kernel
theorem dX3_close_1 : decode cX3_close 1 = .ok (.ifCond .eq 26, 3) := by decide +kernel
theorem dX3_close_4 : decode cX3_close 4 = .ok (.aload_n 0, 1) := by decide +kernel
theorem dX3_close_5 : decode cX3_close 5 = .ok (.aload_n 0, 1) := by decide +kernel
theorem dX3_close_6 : decode cX3_close 6 = .ok (.getfield 36, 3) := by decide +kernel
theorem dX3_close_9 : decode cX3_close 9 = .ok (.putfield 39, 3) := by decide +kernel
theorem dX3_close_12 : decode cX3_close 12 = .ok (.aload_n 0, 1) := by decide +kernel
theorem dX3_close_13 : decode cX3_close 13 = .ok (.dup, 1) := by decide +kernel
theorem dX3_close_14 : decode cX3_close 14 = .ok (.getfield 49, 3) := by decide +kernel
theorem dX3_close_17 : decode cX3_close 17 = .ok (.iconst 1, 1) := by decide +kernel
theorem dX3_close_18 : decode cX3_close 18 = .ok (.iadd, 1) := by decide +kernel
theorem dX3_close_19 : decode cX3_close 19 = .ok (.putfield 49, 3) := by decide +kernel
theorem dX3_close_22 : decode cX3_close 22 = .ok (.aload_n 0, 1) := by decide +kernel
theorem dX3_close_23 : decode cX3_close 23 = .ok (.getfield 36, 3) := by decide +kernel
theorem dX3_close_26 : decode cX3_close 26 = .ok (.ireturn, 1) := by decide +kernel
theorem dX3_close_27 : decode cX3_close 27 = .ok (.aload_n 0, 1) := by decide +kernel
theorem dX3_close_28 : decode cX3_close 28 = .ok (.getfield 36, 3) := by decide +kernel
theorem dX3_close_31 : decode cX3_close 31 = .ok (.iconst 1, 1) := by decide +kernel
theorem dX3_close_32 : decode cX3_close 32 = .ok (.isub, 1) := by decide +kernel
theorem dX3_close_33 : decode cX3_close 33 = .ok (.istore_n 2, 1) := by decide +kernel
theorem dX3_close_34 : decode cX3_close 34 = .ok (.iload_n 2, 1) := by decide +kernel
theorem dX3_close_35 : decode cX3_close 35 = .ok (.ifCond .lt 14, 3) := by decide +kernel
theorem dX3_close_38 : decode cX3_close 38 = .ok (.aload_n 0, 1) := by decide +kernel
theorem dX3_close_39 : decode cX3_close 39 = .ok (.iload_n 2, 1) := by decide +kernel
theorem dX3_close_40 : decode cX3_close 40 = .ok (.invokevirtual 52, 3) := by decide +kernel
theorem dX3_close_43 : decode cX3_close 43 = .ok (.iinc 2 (-1), 3) := by decide +kernel
theorem dX3_close_46 : decode cX3_close 46 = .ok (.goto (-12), 3) := by decide +kernel
theorem dX3_close_49 : decode cX3_close 49 = .ok (.aload_n 0, 1) := by decide +kernel
theorem dX3_close_50 : decode cX3_close 50 = .ok (.dup, 1) := by decide +kernel
theorem dX3_close_51 : decode cX3_close 51 = .ok (.getfield 56, 3) := by decide +kernel
theorem dX3_close_54 : decode cX3_close 54 = .ok (.iconst 1, 1) := by decide +kernel
theorem dX3_close_55 : decode cX3_close 55 = .ok (.iadd, 1) := by decide +kernel
theorem dX3_close_56 : decode cX3_close 56 = .ok (.putfield 56, 3) := by decide +kernel
theorem dX3_close_59 : decode cX3_close 59 = .ok (.bipush (-100), 2) := by decide +kernel
theorem dX3_close_61 : decode cX3_close 61 = .ok (.aload_n 0, 1) := by decide +kernel
theorem dX3_close_62 : decode cX3_close 62 = .ok (.getfield 36, 3) := by decide +kernel
theorem dX3_close_65 : decode cX3_close 65 = .ok (.isub, 1) := by decide +kernel
theorem dX3_close_66 : decode cX3_close 66 = .ok (.ireturn, 1) := by decide +kernel
theorem dX3_tell_0 : decode cX3_tell 0 = .ok (.aload_n 0, 1) := by decide +kernel
theorem dX3_tell_1 : decode cX3_tell 1 = .ok (.getfield 18, 3) := by decide +kernel
theorem dX3_tell_4 : decode cX3_tell 4 = .ok (.bipush 7, 2) := by decide +kernel
theorem dX3_tell_6 : decode cX3_tell 6 = .ok (.iload_n 1, 1) := by decide +kernel
theorem dX3_tell_7 : decode cX3_tell 7 = .ok (.imul, 1) := by decide +kernel
theorem dX3_tell_8 : decode cX3_tell 8 = .ok (.iload_n 2, 1) := by decide +kernel
theorem dX3_tell_9 : decode cX3_tell 9 = .ok (.iadd, 1) := by decide +kernel
theorem dX3_tell_10 : decode cX3_tell 10 = .ok (.iaload, 1) := by decide +kernel
theorem dX3_tell_11 : decode cX3_tell 11 = .ok (.ireturn, 1) := by decide +kernel
theorem dX3_countOn_0 : decode cX3_countOn 0 = .ok (.iconst 0, 1) := by decide +kernel
theorem dX3_countOn_1 : decode cX3_countOn 1 = .ok (.istore 4, 2) := by decide +kernel
theorem dX3_countOn_3 : decode cX3_countOn 3 = .ok (.iconst 0, 1) := by decide +kernel
theorem dX3_countOn_4 : decode cX3_countOn 4 = .ok (.istore 5, 2) := by decide +kernel
theorem dX3_countOn_6 : decode cX3_countOn 6 = .ok (.iload 5, 2) := by decide +kernel
theorem dX3_countOn_8 : decode cX3_countOn 8 = .ok (.aload_n 0, 1) := by decide +kernel
theorem dX3_countOn_9 : decode cX3_countOn 9 = .ok (.getfield 36, 3) := by decide +kernel
theorem dX3_countOn_12 : decode cX3_countOn 12 = .ok (.if_icmp .ge 49, 3) := by decide +kernel
theorem dX3_countOn_15 : decode cX3_countOn 15 = .ok (.aload_n 0, 1) := by decide +kernel
theorem dX3_countOn_16 : decode cX3_countOn 16 = .ok (.iload 5, 2) := by decide +kernel
theorem dX3_countOn_18 : decode cX3_countOn 18 = .ok (.iconst 0, 1) := by decide +kernel
theorem dX3_countOn_19 : decode cX3_countOn 19 = .ok (.invokevirtual 59, 3) := by decide +kernel
theorem dX3_countOn_22 : decode cX3_countOn 22 = .ok (.iload_n 1, 1) := by decide +kernel
theorem dX3_countOn_23 : decode cX3_countOn 23 = .ok (.if_icmp .ne 32, 3) := by decide +kernel
theorem dX3_countOn_26 : decode cX3_countOn 26 = .ok (.aload_n 0, 1) := by decide +kernel
theorem dX3_countOn_27 : decode cX3_countOn 27 = .ok (.iload 5, 2) := by decide +kernel
theorem dX3_countOn_29 : decode cX3_countOn 29 = .ok (.iconst 1, 1) := by decide +kernel
theorem dX3_countOn_30 : decode cX3_countOn 30 = .ok (.invokevirtual 59, 3) := by decide +kernel
theorem dX3_countOn_33 : decode cX3_countOn 33 = .ok (.iload_n 2, 1) := by decide +kernel
theorem dX3_countOn_34 : decode cX3_countOn 34 = .ok (.if_icmp .ne 21, 3) := by decide +kernel
theorem dX3_countOn_37 : decode cX3_countOn 37 = .ok (.iload_n 3, 1) := by decide +kernel
theorem dX3_countOn_38 : decode cX3_countOn 38 = .ok (.ifCond .eq 14, 3) := by decide +kernel
theorem dX3_countOn_41 : decode cX3_countOn 41 = .ok (.aload_n 0, 1) := by decide +kernel
theorem dX3_countOn_42 : decode cX3_countOn 42 = .ok (.iload 5, 2) := by decide +kernel
theorem dX3_countOn_44 : decode cX3_countOn 44 = .ok (.iconst 4, 1) := by decide +kernel
theorem dX3_countOn_45 : decode cX3_countOn 45 = .ok (.invokevirtual 59, 3) := by decide +kernel
theorem dX3_countOn_48 : decode cX3_countOn 48 = .ok (.iload_n 3, 1) := by decide +kernel
theorem dX3_countOn_49 : decode cX3_countOn 49 = .ok (.if_icmp .ne 6, 3) := by decide +kernel
theorem dX3_countOn_52 : decode cX3_countOn 52 = .ok (.iinc 4 1, 3) := by decide +kernel
theorem dX3_countOn_55 : decode cX3_countOn 55 = .ok (.iinc 5 1, 3) := by decide +kernel
theorem dX3_countOn_58 : decode cX3_countOn 58 = .ok (.goto (-52), 3) := by decide +kernel
theorem dX3_countOn_61 : decode cX3_countOn 61 = .ok (.iload 4, 2) := by decide +kernel
theorem dX3_countOn_63 : decode cX3_countOn 63 = .ok (.ireturn, 1) := by decide +kernel
theorem dX3_takeBack_0 : decode cX3_takeBack 0 = .ok (.aload_n 0, 1) := by decide +kernel
theorem dX3_takeBack_1 : decode cX3_takeBack 1 = .ok (.getfield 29, 3) := by decide +kernel
theorem dX3_takeBack_4 : decode cX3_takeBack 4 = .ok (.ifnull 26, 3) := by decide +kernel
theorem dX3_takeBack_7 : decode cX3_takeBack 7 = .ok (.aload_n 0, 1) := by decide +kernel
theorem dX3_takeBack_8 : decode cX3_takeBack 8 = .ok (.getfield 29, 3) := by decide +kernel
theorem dX3_takeBack_11 : decode cX3_takeBack 11 = .ok (.getfield 63, 3) := by decide +kernel
theorem dX3_takeBack_14 : decode cX3_takeBack 14 = .ok (.aload_n 0, 1) := by decide +kernel
theorem dX3_takeBack_15 : decode cX3_takeBack 15 = .ok (.iload_n 1, 1) := by decide +kernel
theorem dX3_takeBack_16 : decode cX3_takeBack 16 = .ok (.iconst 0, 1) := by decide +kernel
theorem dX3_takeBack_17 : decode cX3_takeBack 17 = .ok (.invokevirtual 59, 3) := by decide +kernel
theorem dX3_takeBack_20 : decode cX3_takeBack 20 = .ok (.if_icmp .ne 10, 3) := by decide +kernel
theorem dX3_takeBack_23 : decode cX3_takeBack 23 = .ok (.aload_n 0, 1) := by decide +kernel
theorem dX3_takeBack_24 : decode cX3_takeBack 24 = .ok (.getfield 29, 3) := by decide +kernel
theorem dX3_takeBack_27 : decode cX3_takeBack 27 = .ok (.goto 7, 3) := by decide +kernel
theorem dX3_takeBack_30 : decode cX3_takeBack 30 = .ok (.aload_n 0, 1) := by decide +kernel
theorem dX3_takeBack_31 : decode cX3_takeBack 31 = .ok (.getfield 33, 3) := by decide +kernel
theorem dX3_takeBack_34 : decode cX3_takeBack 34 = .ok (.astore_n 2, 1) := by decide +kernel
theorem dX3_takeBack_35 : decode cX3_takeBack 35 = .ok (.aload_n 0, 1) := by decide +kernel
theorem dX3_takeBack_36 : decode cX3_takeBack 36 = .ok (.iload_n 1, 1) := by decide +kernel
theorem dX3_takeBack_37 : decode cX3_takeBack 37 = .ok (.iconst 1, 1) := by decide +kernel
theorem dX3_takeBack_38 : decode cX3_takeBack 38 = .ok (.invokevirtual 59, 3) := by decide +kernel
theorem dX3_takeBack_41 : decode cX3_takeBack 41 = .ok (.istore_n 3, 1) := by decide +kernel
theorem dX3_takeBack_42 : decode cX3_takeBack 42 = .ok (.aload_n 2, 1) := by decide +kernel
theorem dX3_takeBack_43 : decode cX3_takeBack 43 = .ok (.ifnull 51, 3) := by decide +kernel
theorem dX3_takeBack_46 : decode cX3_takeBack 46 = .ok (.aload_n 2, 1) := by decide +kernel
theorem dX3_takeBack_47 : decode cX3_takeBack 47 = .ok (.iload_n 3, 1) := by decide +kernel
theorem dX3_takeBack_48 : decode cX3_takeBack 48 = .ok (.invokevirtual 68, 3) := by decide +kernel
theorem dX3_takeBack_51 : decode cX3_takeBack 51 = .ok (.ifCond .eq 43, 3) := by decide +kernel
theorem dX3_takeBack_54 : decode cX3_takeBack 54 = .ok (.aload_n 2, 1) := by decide +kernel
theorem dX3_takeBack_55 : decode cX3_takeBack 55 = .ok (.getfield 72, 3) := by decide +kernel
theorem dX3_takeBack_58 : decode cX3_takeBack 58 = .ok (.iload_n 3, 1) := by decide +kernel
theorem dX3_takeBack_59 : decode cX3_takeBack 59 = .ok (.aaload, 1) := by decide +kernel
theorem dX3_takeBack_60 : decode cX3_takeBack 60 = .ok (.astore 4, 2) := by decide +kernel
theorem dX3_takeBack_62 : decode cX3_takeBack 62 = .ok (.aload 4, 2) := by decide +kernel
theorem dX3_takeBack_64 : decode cX3_takeBack 64 = .ok (.dup, 1) := by decide +kernel
theorem dX3_takeBack_65 : decode cX3_takeBack 65 = .ok (.getfield 76, 3) := by decide +kernel
theorem dX3_takeBack_68 : decode cX3_takeBack 68 = .ok (.aload_n 0, 1) := by decide +kernel
theorem dX3_takeBack_69 : decode cX3_takeBack 69 = .ok (.iload_n 1, 1) := by decide +kernel
theorem dX3_takeBack_70 : decode cX3_takeBack 70 = .ok (.iconst 2, 1) := by decide +kernel
theorem dX3_takeBack_71 : decode cX3_takeBack 71 = .ok (.invokevirtual 59, 3) := by decide +kernel
theorem dX3_takeBack_74 : decode cX3_takeBack 74 = .ok (.isub, 1) := by decide +kernel
theorem dX3_takeBack_75 : decode cX3_takeBack 75 = .ok (.putfield 76, 3) := by decide +kernel
theorem dX3_takeBack_78 : decode cX3_takeBack 78 = .ok (.aload 4, 2) := by decide +kernel
theorem dX3_takeBack_80 : decode cX3_takeBack 80 = .ok (.dup, 1) := by decide +kernel
theorem dX3_takeBack_81 : decode cX3_takeBack 81 = .ok (.getfield 81, 3) := by decide +kernel
theorem dX3_takeBack_84 : decode cX3_takeBack 84 = .ok (.aload_n 0, 1) := by decide +kernel
theorem dX3_takeBack_85 : decode cX3_takeBack 85 = .ok (.iload_n 1, 1) := by decide +kernel
theorem dX3_takeBack_86 : decode cX3_takeBack 86 = .ok (.iconst 3, 1) := by decide +kernel
theorem dX3_takeBack_87 : decode cX3_takeBack 87 = .ok (.invokevirtual 59, 3) := by decide +kernel
theorem dX3_takeBack_90 : decode cX3_takeBack 90 = .ok (.isub, 1) := by decide +kernel
theorem dX3_takeBack_91 : decode cX3_takeBack 91 = .ok (.putfield 81, 3) := by decide +kernel
theorem dX3_takeBack_94 : decode cX3_takeBack 94 = .ok (.return_, 1) := by decide +kernel
theorem dX3_canRead_0 : decode cX3_canRead 0 = .ok (.aload_n 1, 1) := by decide +kernel
theorem dX3_canRead_1 : decode cX3_canRead 1 = .ok (.iload_n 2, 1) := by decide +kernel
theorem dX3_canRead_2 : decode cX3_canRead 2 = .ok (.invokevirtual 68, 3) := by decide +kernel
theorem dX3_canRead_5 : decode cX3_canRead 5 = .ok (.ifCond .eq 15, 3) := by decide +kernel
theorem dX3_canRead_8 : decode cX3_canRead 8 = .ok (.aload_n 1, 1) := by decide +kernel
theorem dX3_canRead_9 : decode cX3_canRead 9 = .ok (.getfield 72, 3) := by decide +kernel
theorem dX3_canRead_12 : decode cX3_canRead 12 = .ok (.iload_n 2, 1) := by decide +kernel
theorem dX3_canRead_13 : decode cX3_canRead 13 = .ok (.aaload, 1) := by decide +kernel
theorem dX3_canRead_14 : decode cX3_canRead 14 = .ok (.invokevirtual 84, 3) := by decide +kernel
theorem dX3_canRead_17 : decode cX3_canRead 17 = .ok (.goto 4, 3) := by decide +kernel
theorem dX3_canRead_20 : decode cX3_canRead 20 = .ok (.iconst 2, 1) := by decide +kernel
theorem dX3_canRead_21 : decode cX3_canRead 21 = .ok (.istore_n 3, 1) := by decide +kernel
theorem dX3_canRead_22 : decode cX3_canRead 22 = .ok (.iload_n 3, 1) := by decide +kernel
theorem dX3_canRead_23 : decode cX3_canRead 23 = .ok (.ifCond .eq 21, 3) := by decide +kernel
theorem dX3_canRead_26 : decode cX3_canRead 26 = .ok (.aload_n 0, 1) := by decide +kernel
theorem dX3_canRead_27 : decode cX3_canRead 27 = .ok (.iload_n 3, 1) := by decide +kernel
theorem dX3_canRead_28 : decode cX3_canRead 28 = .ok (.putfield 46, 3) := by decide +kernel
theorem dX3_canRead_31 : decode cX3_canRead 31 = .ok (.aload_n 0, 1) := by decide +kernel
theorem dX3_canRead_32 : decode cX3_canRead 32 = .ok (.iload_n 2, 1) := by decide +kernel
theorem dX3_canRead_33 : decode cX3_canRead 33 = .ok (.putfield 22, 3) := by decide +kernel
theorem dX3_canRead_36 : decode cX3_canRead 36 = .ok (.aload_n 0, 1) := by decide +kernel
theorem dX3_canRead_37 : decode cX3_canRead 37 = .ok (.aload_n 1, 1) := by decide +kernel
theorem dX3_canRead_38 : decode cX3_canRead 38 = .ok (.getfield 63, 3) := by decide +kernel
theorem dX3_canRead_41 : decode cX3_canRead 41 = .ok (.putfield 26, 3) := by decide +kernel
theorem dX3_canRead_44 : decode cX3_canRead 44 = .ok (.iload_n 3, 1) := by decide +kernel
theorem dX3_canRead_45 : decode cX3_canRead 45 = .ok (.ifCond .ne 7, 3) := by decide +kernel
theorem dX3_canRead_48 : decode cX3_canRead 48 = .ok (.iconst 1, 1) := by decide +kernel
theorem dX3_canRead_49 : decode cX3_canRead 49 = .ok (.goto 4, 3) := by decide +kernel
theorem dX3_canRead_52 : decode cX3_canRead 52 = .ok (.iconst 0, 1) := by decide +kernel
theorem dX3_canRead_53 : decode cX3_canRead 53 = .ok (.ireturn, 1) := by decide +kernel
theorem dX3_oneStep_0 : decode cX3_oneStep 0 = .ok (.aload_n 0, 1) := by decide +kernel
theorem dX3_oneStep_1 : decode cX3_oneStep 1 = .ok (.aload_n 1, 1) := by decide +kernel
theorem dX3_oneStep_2 : decode cX3_oneStep 2 = .ok (.iload_n 2, 1) := by decide +kernel
theorem dX3_oneStep_3 : decode cX3_oneStep 3 = .ok (.invokevirtual 88, 3) := by decide +kernel
theorem dX3_oneStep_6 : decode cX3_oneStep 6 = .ok (.ifCond .ne 6, 3) := by decide +kernel
theorem dX3_oneStep_9 : decode cX3_oneStep 9 = .ok (.bipush 99, 2) := by decide +kernel
theorem dX3_oneStep_11 : decode cX3_oneStep 11 = .ok (.ireturn, 1) := by decide +kernel
theorem dX3_oneStep_12 : decode cX3_oneStep 12 = .ok (.aload_n 1, 1) := by decide +kernel
theorem dX3_oneStep_13 : decode cX3_oneStep 13 = .ok (.getfield 72, 3) := by decide +kernel
theorem dX3_oneStep_16 : decode cX3_oneStep 16 = .ok (.iload_n 2, 1) := by decide +kernel
theorem dX3_oneStep_17 : decode cX3_oneStep 17 = .ok (.aaload, 1) := by decide +kernel
theorem dX3_oneStep_18 : decode cX3_oneStep 18 = .ok (.astore 4, 2) := by decide +kernel
theorem dX3_oneStep_20 : decode cX3_oneStep 20 = .ok (.aload 4, 2) := by decide +kernel
theorem dX3_oneStep_22 : decode cX3_oneStep 22 = .ok (.getfield 76, 3) := by decide +kernel
theorem dX3_oneStep_25 : decode cX3_oneStep 25 = .ok (.istore 5, 2) := by decide +kernel
theorem dX3_oneStep_27 : decode cX3_oneStep 27 = .ok (.aload 4, 2) := by decide +kernel
theorem dX3_oneStep_29 : decode cX3_oneStep 29 = .ok (.getfield 81, 3) := by decide +kernel
theorem dX3_oneStep_32 : decode cX3_oneStep 32 = .ok (.istore 6, 2) := by decide +kernel
theorem dX3_oneStep_34 : decode cX3_oneStep 34 = .ok (.aload 4, 2) := by decide +kernel
theorem dX3_oneStep_36 : decode cX3_oneStep 36 = .ok (.invokevirtual 92, 3) := by decide +kernel
theorem dX3_oneStep_39 : decode cX3_oneStep 39 = .ok (.iload_n 3, 1) := by decide +kernel
theorem dX3_oneStep_40 : decode cX3_oneStep 40 = .ok (.iadd, 1) := by decide +kernel
theorem dX3_oneStep_41 : decode cX3_oneStep 41 = .ok (.istore 7, 2) := by decide +kernel
theorem dX3_oneStep_43 : decode cX3_oneStep 43 = .ok (.iload 7, 2) := by decide +kernel
theorem dX3_oneStep_45 : decode cX3_oneStep 45 = .ok (.aload_n 1, 1) := by decide +kernel
theorem dX3_oneStep_46 : decode cX3_oneStep 46 = .ok (.getfield 95, 3) := by decide +kernel
theorem dX3_oneStep_49 : decode cX3_oneStep 49 = .ok (.if_icmp .lt 7, 3) := by decide +kernel
theorem dX3_oneStep_52 : decode cX3_oneStep 52 = .ok (.iconst 1, 1) := by decide +kernel
theorem dX3_oneStep_53 : decode cX3_oneStep 53 = .ok (.goto 13, 3) := by decide +kernel
theorem dX3_oneStep_56 : decode cX3_oneStep 56 = .ok (.iload 7, 2) := by decide +kernel
theorem dX3_oneStep_58 : decode cX3_oneStep 58 = .ok (.ifCond .ge 7, 3) := by decide +kernel
theorem dX3_oneStep_61 : decode cX3_oneStep 61 = .ok (.iconst (-1), 1) := by decide +kernel
theorem dX3_oneStep_62 : decode cX3_oneStep 62 = .ok (.goto 4, 3) := by decide +kernel
theorem dX3_oneStep_65 : decode cX3_oneStep 65 = .ok (.iconst 0, 1) := by decide +kernel
theorem dX3_oneStep_66 : decode cX3_oneStep 66 = .ok (.istore 8, 2) := by decide +kernel
theorem dX3_oneStep_68 : decode cX3_oneStep 68 = .ok (.aload 4, 2) := by decide +kernel
theorem dX3_oneStep_70 : decode cX3_oneStep 70 = .ok (.iload 7, 2) := by decide +kernel
theorem dX3_oneStep_72 : decode cX3_oneStep 72 = .ok (.iload 8, 2) := by decide +kernel
theorem dX3_oneStep_74 : decode cX3_oneStep 74 = .ok (.aload_n 1, 1) := by decide +kernel
theorem dX3_oneStep_75 : decode cX3_oneStep 75 = .ok (.getfield 95, 3) := by decide +kernel
theorem dX3_oneStep_78 : decode cX3_oneStep 78 = .ok (.imul, 1) := by decide +kernel
theorem dX3_oneStep_79 : decode cX3_oneStep 79 = .ok (.isub, 1) := by decide +kernel
theorem dX3_oneStep_80 : decode cX3_oneStep 80 = .ok (.invokevirtual 98, 3) := by decide +kernel
theorem dX3_oneStep_83 : decode cX3_oneStep 83 = .ok (.bipush 7, 2) := by decide +kernel
theorem dX3_oneStep_85 : decode cX3_oneStep 85 = .ok (.aload_n 0, 1) := by decide +kernel
theorem dX3_oneStep_86 : decode cX3_oneStep 86 = .ok (.getfield 36, 3) := by decide +kernel
theorem dX3_oneStep_89 : decode cX3_oneStep 89 = .ok (.imul, 1) := by decide +kernel
theorem dX3_oneStep_90 : decode cX3_oneStep 90 = .ok (.istore 9, 2) := by decide +kernel
theorem dX3_oneStep_92 : decode cX3_oneStep 92 = .ok (.iload 9, 2) := by decide +kernel
theorem dX3_oneStep_94 : decode cX3_oneStep 94 = .ok (.bipush 7, 2) := by decide +kernel
theorem dX3_oneStep_96 : decode cX3_oneStep 96 = .ok (.iadd, 1) := by decide +kernel
theorem dX3_oneStep_97 : decode cX3_oneStep 97 = .ok (.aload_n 0, 1) := by decide +kernel
theorem dX3_oneStep_98 : decode cX3_oneStep 98 = .ok (.getfield 18, 3) := by decide +kernel
theorem dX3_oneStep_101 : decode cX3_oneStep 101 = .ok (.arraylength, 1) := by decide +kernel
theorem dX3_oneStep_102 : decode cX3_oneStep 102 = .ok (.if_icmp .le 21, 3) := by decide +kernel
theorem dX3_oneStep_105 : decode cX3_oneStep 105 = .ok (.aload_n 0, 1) := by decide +kernel
theorem dX3_oneStep_106 : decode cX3_oneStep 106 = .ok (.aload_n 0, 1) := by decide +kernel
theorem dX3_oneStep_107 : decode cX3_oneStep 107 = .ok (.getfield 18, 3) := by decide +kernel
theorem dX3_oneStep_110 : decode cX3_oneStep 110 = .ok (.iconst 2, 1) := by decide +kernel
theorem dX3_oneStep_111 : decode cX3_oneStep 111 = .ok (.aload_n 0, 1) := by decide +kernel
theorem dX3_oneStep_112 : decode cX3_oneStep 112 = .ok (.getfield 18, 3) := by decide +kernel
theorem dX3_oneStep_115 : decode cX3_oneStep 115 = .ok (.arraylength, 1) := by decide +kernel
theorem dX3_oneStep_116 : decode cX3_oneStep 116 = .ok (.imul, 1) := by decide +kernel
theorem dX3_oneStep_117 : decode cX3_oneStep 117 = .ok (.invokestatic 101, 3) := by decide +kernel
theorem dX3_oneStep_120 : decode cX3_oneStep 120 = .ok (.putfield 18, 3) := by decide +kernel
theorem dX3_oneStep_123 : decode cX3_oneStep 123 = .ok (.aload_n 0, 1) := by decide +kernel
theorem dX3_oneStep_124 : decode cX3_oneStep 124 = .ok (.getfield 18, 3) := by decide +kernel
theorem dX3_oneStep_127 : decode cX3_oneStep 127 = .ok (.iload 9, 2) := by decide +kernel
theorem dX3_oneStep_129 : decode cX3_oneStep 129 = .ok (.aload_n 1, 1) := by decide +kernel
theorem dX3_oneStep_130 : decode cX3_oneStep 130 = .ok (.getfield 63, 3) := by decide +kernel
theorem dX3_oneStep_133 : decode cX3_oneStep 133 = .ok (.iastore, 1) := by decide +kernel
theorem dX3_oneStep_134 : decode cX3_oneStep 134 = .ok (.aload_n 0, 1) := by decide +kernel
theorem dX3_oneStep_135 : decode cX3_oneStep 135 = .ok (.getfield 18, 3) := by decide +kernel
theorem dX3_oneStep_138 : decode cX3_oneStep 138 = .ok (.iload 9, 2) := by decide +kernel
theorem dX3_oneStep_140 : decode cX3_oneStep 140 = .ok (.iconst 1, 1) := by decide +kernel
theorem dX3_oneStep_141 : decode cX3_oneStep 141 = .ok (.iadd, 1) := by decide +kernel
theorem dX3_oneStep_142 : decode cX3_oneStep 142 = .ok (.iload_n 2, 1) := by decide +kernel
theorem dX3_oneStep_143 : decode cX3_oneStep 143 = .ok (.iastore, 1) := by decide +kernel
theorem dX3_oneStep_144 : decode cX3_oneStep 144 = .ok (.aload_n 0, 1) := by decide +kernel
theorem dX3_oneStep_145 : decode cX3_oneStep 145 = .ok (.getfield 18, 3) := by decide +kernel
theorem dX3_oneStep_148 : decode cX3_oneStep 148 = .ok (.iload 9, 2) := by decide +kernel
theorem dX3_oneStep_150 : decode cX3_oneStep 150 = .ok (.iconst 2, 1) := by decide +kernel
theorem dX3_oneStep_151 : decode cX3_oneStep 151 = .ok (.iadd, 1) := by decide +kernel
theorem dX3_oneStep_152 : decode cX3_oneStep 152 = .ok (.aload 4, 2) := by decide +kernel
theorem dX3_oneStep_154 : decode cX3_oneStep 154 = .ok (.getfield 76, 3) := by decide +kernel
theorem dX3_oneStep_157 : decode cX3_oneStep 157 = .ok (.iload 5, 2) := by decide +kernel
theorem dX3_oneStep_159 : decode cX3_oneStep 159 = .ok (.isub, 1) := by decide +kernel
theorem dX3_oneStep_160 : decode cX3_oneStep 160 = .ok (.iastore, 1) := by decide +kernel
theorem dX3_oneStep_161 : decode cX3_oneStep 161 = .ok (.aload_n 0, 1) := by decide +kernel
theorem dX3_oneStep_162 : decode cX3_oneStep 162 = .ok (.getfield 18, 3) := by decide +kernel
theorem dX3_oneStep_165 : decode cX3_oneStep 165 = .ok (.iload 9, 2) := by decide +kernel
theorem dX3_oneStep_167 : decode cX3_oneStep 167 = .ok (.iconst 3, 1) := by decide +kernel
theorem dX3_oneStep_168 : decode cX3_oneStep 168 = .ok (.iadd, 1) := by decide +kernel
theorem dX3_oneStep_169 : decode cX3_oneStep 169 = .ok (.aload 4, 2) := by decide +kernel
theorem dX3_oneStep_171 : decode cX3_oneStep 171 = .ok (.getfield 81, 3) := by decide +kernel
theorem dX3_oneStep_174 : decode cX3_oneStep 174 = .ok (.iload 6, 2) := by decide +kernel
theorem dX3_oneStep_176 : decode cX3_oneStep 176 = .ok (.isub, 1) := by decide +kernel
theorem dX3_oneStep_177 : decode cX3_oneStep 177 = .ok (.iastore, 1) := by decide +kernel
theorem dX3_oneStep_178 : decode cX3_oneStep 178 = .ok (.aload_n 0, 1) := by decide +kernel
theorem dX3_oneStep_179 : decode cX3_oneStep 179 = .ok (.getfield 18, 3) := by decide +kernel
theorem dX3_oneStep_182 : decode cX3_oneStep 182 = .ok (.iload 9, 2) := by decide +kernel
theorem dX3_oneStep_184 : decode cX3_oneStep 184 = .ok (.iconst 4, 1) := by decide +kernel
theorem dX3_oneStep_185 : decode cX3_oneStep 185 = .ok (.iadd, 1) := by decide +kernel
theorem dX3_oneStep_186 : decode cX3_oneStep 186 = .ok (.iload_n 3, 1) := by decide +kernel
theorem dX3_oneStep_187 : decode cX3_oneStep 187 = .ok (.iload 8, 2) := by decide +kernel
theorem dX3_oneStep_189 : decode cX3_oneStep 189 = .ok (.aload 4, 2) := by decide +kernel
theorem dX3_oneStep_191 : decode cX3_oneStep 191 = .ok (.getfield 76, 3) := by decide +kernel
theorem dX3_oneStep_194 : decode cX3_oneStep 194 = .ok (.iload 5, 2) := by decide +kernel
theorem dX3_oneStep_196 : decode cX3_oneStep 196 = .ok (.isub, 1) := by decide +kernel
theorem dX3_oneStep_197 : decode cX3_oneStep 197 = .ok (.aload 4, 2) := by decide +kernel
theorem dX3_oneStep_199 : decode cX3_oneStep 199 = .ok (.getfield 81, 3) := by decide +kernel
end
section
theorem dX3_oneStep_202 : decode cX3_oneStep 202 = .ok (.iload 6, 2) := by decide +kernel
theorem dX3_oneStep_204 : decode cX3_oneStep 204 = .ok (.isub, 1) := by decide +kernel
theorem dX3_oneStep_205 : decode cX3_oneStep 205 = .ok (.invokestatic 107, 3) := by decide +kernel
theorem dX3_oneStep_208 : decode cX3_oneStep 208 = .ok (.iastore, 1) := by decide +kernel
theorem dX3_oneStep_209 : decode cX3_oneStep 209 = .ok (.aload_n 0, 1) := by decide +kernel
theorem dX3_oneStep_210 : decode cX3_oneStep 210 = .ok (.getfield 18, 3) := by decide +kernel
theorem dX3_oneStep_213 : decode cX3_oneStep 213 = .ok (.iload 9, 2) := by decide +kernel
theorem dX3_oneStep_215 : decode cX3_oneStep 215 = .ok (.iconst 5, 1) := by decide +kernel
theorem dX3_oneStep_216 : decode cX3_oneStep 216 = .ok (.iadd, 1) := by decide +kernel
theorem dX3_oneStep_217 : decode cX3_oneStep 217 = .ok (.iload 8, 2) := by decide +kernel
theorem dX3_oneStep_219 : decode cX3_oneStep 219 = .ok (.iastore, 1) := by decide +kernel
theorem dX3_oneStep_220 : decode cX3_oneStep 220 = .ok (.aload_n 0, 1) := by decide +kernel
theorem dX3_oneStep_221 : decode cX3_oneStep 221 = .ok (.getfield 18, 3) := by decide +kernel
theorem dX3_oneStep_224 : decode cX3_oneStep 224 = .ok (.iload 9, 2) := by decide +kernel
theorem dX3_oneStep_226 : decode cX3_oneStep 226 = .ok (.bipush 6, 2) := by decide +kernel
theorem dX3_oneStep_228 : decode cX3_oneStep 228 = .ok (.iadd, 1) := by decide +kernel
theorem dX3_oneStep_229 : decode cX3_oneStep 229 = .ok (.iload_n 3, 1) := by decide +kernel
theorem dX3_oneStep_230 : decode cX3_oneStep 230 = .ok (.iastore, 1) := by decide +kernel
theorem dX3_oneStep_231 : decode cX3_oneStep 231 = .ok (.aload_n 0, 1) := by decide +kernel
theorem dX3_oneStep_232 : decode cX3_oneStep 232 = .ok (.dup, 1) := by decide +kernel
theorem dX3_oneStep_233 : decode cX3_oneStep 233 = .ok (.getfield 36, 3) := by decide +kernel
theorem dX3_oneStep_236 : decode cX3_oneStep 236 = .ok (.iconst 1, 1) := by decide +kernel
theorem dX3_oneStep_237 : decode cX3_oneStep 237 = .ok (.iadd, 1) := by decide +kernel
theorem dX3_oneStep_238 : decode cX3_oneStep 238 = .ok (.putfield 36, 3) := by decide +kernel
theorem dX3_oneStep_241 : decode cX3_oneStep 241 = .ok (.iload 8, 2) := by decide +kernel
theorem dX3_oneStep_243 : decode cX3_oneStep 243 = .ok (.ireturn, 1) := by decide +kernel
theorem dX3_reasonFor_0 : decode cX3_reasonFor 0 = .ok (.iload_n 0, 1) := by decide +kernel
theorem dX3_reasonFor_1 : decode cX3_reasonFor 1 = .ok (.ifCond .ge 8, 3) := by decide +kernel
theorem dX3_reasonFor_4 : decode cX3_reasonFor 4 = .ok (.iload_n 2, 1) := by decide +kernel
theorem dX3_reasonFor_5 : decode cX3_reasonFor 5 = .ok (.ineg, 1) := by decide +kernel
theorem dX3_reasonFor_6 : decode cX3_reasonFor 6 = .ok (.goto 4, 3) := by decide +kernel
theorem dX3_reasonFor_9 : decode cX3_reasonFor 9 = .ok (.iload_n 2, 1) := by decide +kernel
theorem dX3_reasonFor_10 : decode cX3_reasonFor 10 = .ok (.istore 4, 2) := by decide +kernel
theorem dX3_reasonFor_12 : decode cX3_reasonFor 12 = .ok (.iload_n 0, 1) := by decide +kernel
theorem dX3_reasonFor_13 : decode cX3_reasonFor 13 = .ok (.ifCond .ge 8, 3) := by decide +kernel
theorem dX3_reasonFor_16 : decode cX3_reasonFor 16 = .ok (.iload_n 3, 1) := by decide +kernel
theorem dX3_reasonFor_17 : decode cX3_reasonFor 17 = .ok (.ineg, 1) := by decide +kernel
theorem dX3_reasonFor_18 : decode cX3_reasonFor 18 = .ok (.goto 4, 3) := by decide +kernel
theorem dX3_reasonFor_21 : decode cX3_reasonFor 21 = .ok (.iload_n 3, 1) := by decide +kernel
theorem dX3_reasonFor_22 : decode cX3_reasonFor 22 = .ok (.istore 5, 2) := by decide +kernel
theorem dX3_reasonFor_24 : decode cX3_reasonFor 24 = .ok (.iload_n 1, 1) := by decide +kernel
theorem dX3_reasonFor_25 : decode cX3_reasonFor 25 = .ok (.ifCond .ne 19, 3) := by decide +kernel
theorem dX3_reasonFor_28 : decode cX3_reasonFor 28 = .ok (.iload 4, 2) := by decide +kernel
theorem dX3_reasonFor_30 : decode cX3_reasonFor 30 = .ok (.ifCond .lt 12, 3) := by decide +kernel
theorem dX3_reasonFor_33 : decode cX3_reasonFor 33 = .ok (.iload 5, 2) := by decide +kernel
theorem dX3_reasonFor_35 : decode cX3_reasonFor 35 = .ok (.ifCond .lt 7, 3) := by decide +kernel
theorem dX3_reasonFor_38 : decode cX3_reasonFor 38 = .ok (.iconst 1, 1) := by decide +kernel
theorem dX3_reasonFor_39 : decode cX3_reasonFor 39 = .ok (.goto 4, 3) := by decide +kernel
theorem dX3_reasonFor_42 : decode cX3_reasonFor 42 = .ok (.iconst 2, 1) := by decide +kernel
theorem dX3_reasonFor_43 : decode cX3_reasonFor 43 = .ok (.ireturn, 1) := by decide +kernel
theorem dX3_reasonFor_44 : decode cX3_reasonFor 44 = .ok (.iload 4, 2) := by decide +kernel
theorem dX3_reasonFor_46 : decode cX3_reasonFor 46 = .ok (.ifCond .gt 12, 3) := by decide +kernel
theorem dX3_reasonFor_49 : decode cX3_reasonFor 49 = .ok (.iload 5, 2) := by decide +kernel
theorem dX3_reasonFor_51 : decode cX3_reasonFor 51 = .ok (.ifCond .gt 7, 3) := by decide +kernel
theorem dX3_reasonFor_54 : decode cX3_reasonFor 54 = .ok (.iconst 3, 1) := by decide +kernel
theorem dX3_reasonFor_55 : decode cX3_reasonFor 55 = .ok (.goto 4, 3) := by decide +kernel
theorem dX3_reasonFor_58 : decode cX3_reasonFor 58 = .ok (.iconst 4, 1) := by decide +kernel
theorem dX3_reasonFor_59 : decode cX3_reasonFor 59 = .ok (.ireturn, 1) := by decide +kernel
theorem dX3_put_0 : decode cX3_put 0 = .ok (.iload_n 3, 1) := by decide +kernel
theorem dX3_put_1 : decode cX3_put 1 = .ok (.istore 4, 2) := by decide +kernel
theorem dX3_put_3 : decode cX3_put 3 = .ok (.iconst 0, 1) := by decide +kernel
theorem dX3_put_4 : decode cX3_put 4 = .ok (.istore 5, 2) := by decide +kernel
theorem dX3_put_6 : decode cX3_put 6 = .ok (.iload 5, 2) := by decide +kernel
theorem dX3_put_8 : decode cX3_put 8 = .ok (.bipush 64, 2) := by decide +kernel
theorem dX3_put_10 : decode cX3_put 10 = .ok (.if_icmp .ge 36, 3) := by decide +kernel
theorem dX3_put_13 : decode cX3_put 13 = .ok (.iload 4, 2) := by decide +kernel
theorem dX3_put_15 : decode cX3_put 15 = .ok (.ifCond .eq 31, 3) := by decide +kernel
theorem dX3_put_18 : decode cX3_put 18 = .ok (.aload_n 0, 1) := by decide +kernel
theorem dX3_put_19 : decode cX3_put 19 = .ok (.aload_n 1, 1) := by decide +kernel
theorem dX3_put_20 : decode cX3_put 20 = .ok (.iload_n 2, 1) := by decide +kernel
theorem dX3_put_21 : decode cX3_put 21 = .ok (.iload 5, 2) := by decide +kernel
theorem dX3_put_23 : decode cX3_put 23 = .ok (.iadd, 1) := by decide +kernel
theorem dX3_put_24 : decode cX3_put 24 = .ok (.iload 4, 2) := by decide +kernel
theorem dX3_put_26 : decode cX3_put 26 = .ok (.invokevirtual 111, 3) := by decide +kernel
theorem dX3_put_29 : decode cX3_put 29 = .ok (.istore 4, 2) := by decide +kernel
theorem dX3_put_31 : decode cX3_put 31 = .ok (.iload 4, 2) := by decide +kernel
theorem dX3_put_33 : decode cX3_put 33 = .ok (.bipush 99, 2) := by decide +kernel
theorem dX3_put_35 : decode cX3_put 35 = .ok (.if_icmp .ne 5, 3) := by decide +kernel
theorem dX3_put_38 : decode cX3_put 38 = .ok (.iconst 0, 1) := by decide +kernel
theorem dX3_put_39 : decode cX3_put 39 = .ok (.ireturn, 1) := by decide +kernel
theorem dX3_put_40 : decode cX3_put 40 = .ok (.iinc 5 1, 3) := by decide +kernel
theorem dX3_put_43 : decode cX3_put 43 = .ok (.goto (-37), 3) := by decide +kernel
theorem dX3_put_46 : decode cX3_put 46 = .ok (.iconst 1, 1) := by decide +kernel
theorem dX3_put_47 : decode cX3_put 47 = .ok (.ireturn, 1) := by decide +kernel
theorem dX3_putDigits_0 : decode cX3_putDigits 0 = .ok (.lload_n 2, 1) := by decide +kernel
theorem dX3_putDigits_1 : decode cX3_putDigits 1 = .ok (.aload_n 1, 1) := by decide +kernel
theorem dX3_putDigits_2 : decode cX3_putDigits 2 = .ok (.getfield 95, 3) := by decide +kernel
theorem dX3_putDigits_5 : decode cX3_putDigits 5 = .ok (.invokestatic 115, 3) := by decide +kernel
theorem dX3_putDigits_8 : decode cX3_putDigits 8 = .ok (.iconst 1, 1) := by decide +kernel
theorem dX3_putDigits_9 : decode cX3_putDigits 9 = .ok (.isub, 1) := by decide +kernel
theorem dX3_putDigits_10 : decode cX3_putDigits 10 = .ok (.istore 6, 2) := by decide +kernel
theorem dX3_putDigits_12 : decode cX3_putDigits 12 = .ok (.iload 6, 2) := by decide +kernel
theorem dX3_putDigits_14 : decode cX3_putDigits 14 = .ok (.ifCond .lt 37, 3) := by decide +kernel
theorem dX3_putDigits_17 : decode cX3_putDigits 17 = .ok (.aload_n 0, 1) := by decide +kernel
theorem dX3_putDigits_18 : decode cX3_putDigits 18 = .ok (.aload_n 1, 1) := by decide +kernel
theorem dX3_putDigits_19 : decode cX3_putDigits 19 = .ok (.iload 4, 2) := by decide +kernel
theorem dX3_putDigits_21 : decode cX3_putDigits 21 = .ok (.iload 6, 2) := by decide +kernel
theorem dX3_putDigits_23 : decode cX3_putDigits 23 = .ok (.iadd, 1) := by decide +kernel
theorem dX3_putDigits_24 : decode cX3_putDigits 24 = .ok (.iload 5, 2) := by decide +kernel
theorem dX3_putDigits_26 : decode cX3_putDigits 26 = .ok (.lload_n 2, 1) := by decide +kernel
theorem dX3_putDigits_27 : decode cX3_putDigits 27 = .ok (.aload_n 1, 1) := by decide +kernel
theorem dX3_putDigits_28 : decode cX3_putDigits 28 = .ok (.getfield 95, 3) := by decide +kernel
theorem dX3_putDigits_31 : decode cX3_putDigits 31 = .ok (.iload 6, 2) := by decide +kernel
theorem dX3_putDigits_33 : decode cX3_putDigits 33 = .ok (.invokestatic 119, 3) := by decide +kernel
theorem dX3_putDigits_36 : decode cX3_putDigits 36 = .ok (.imul, 1) := by decide +kernel
theorem dX3_putDigits_37 : decode cX3_putDigits 37 = .ok (.invokevirtual 123, 3) := by decide +kernel
theorem dX3_putDigits_40 : decode cX3_putDigits 40 = .ok (.ifCond .ne 5, 3) := by decide +kernel
theorem dX3_putDigits_43 : decode cX3_putDigits 43 = .ok (.iconst 0, 1) := by decide +kernel
theorem dX3_putDigits_44 : decode cX3_putDigits 44 = .ok (.ireturn, 1) := by decide +kernel
theorem dX3_putDigits_45 : decode cX3_putDigits 45 = .ok (.iinc 6 (-1), 3) := by decide +kernel
theorem dX3_putDigits_48 : decode cX3_putDigits 48 = .ok (.goto (-36), 3) := by decide +kernel
theorem dX3_putDigits_51 : decode cX3_putDigits 51 = .ok (.iconst 1, 1) := by decide +kernel
theorem dX3_putDigits_52 : decode cX3_putDigits 52 = .ok (.ireturn, 1) := by decide +kernel
theorem dX3_clear_0 : decode cX3_clear 0 = .ok (.aload_n 1, 1) := by decide +kernel
theorem dX3_clear_1 : decode cX3_clear 1 = .ok (.getfield 72, 3) := by decide +kernel
theorem dX3_clear_4 : decode cX3_clear 4 = .ok (.arraylength, 1) := by decide +kernel
theorem dX3_clear_5 : decode cX3_clear 5 = .ok (.iconst 1, 1) := by decide +kernel
theorem dX3_clear_6 : decode cX3_clear 6 = .ok (.isub, 1) := by decide +kernel
theorem dX3_clear_7 : decode cX3_clear 7 = .ok (.istore_n 2, 1) := by decide +kernel
theorem dX3_clear_8 : decode cX3_clear 8 = .ok (.iload_n 2, 1) := by decide +kernel
theorem dX3_clear_9 : decode cX3_clear 9 = .ok (.ifCond .lt 39, 3) := by decide +kernel
theorem dX3_clear_12 : decode cX3_clear 12 = .ok (.aload_n 0, 1) := by decide +kernel
theorem dX3_clear_13 : decode cX3_clear 13 = .ok (.aload_n 1, 1) := by decide +kernel
theorem dX3_clear_14 : decode cX3_clear 14 = .ok (.iload_n 2, 1) := by decide +kernel
theorem dX3_clear_15 : decode cX3_clear 15 = .ok (.invokevirtual 88, 3) := by decide +kernel
theorem dX3_clear_18 : decode cX3_clear 18 = .ok (.ifCond .eq 22, 3) := by decide +kernel
theorem dX3_clear_21 : decode cX3_clear 21 = .ok (.aload_n 0, 1) := by decide +kernel
theorem dX3_clear_22 : decode cX3_clear 22 = .ok (.aload_n 1, 1) := by decide +kernel
theorem dX3_clear_23 : decode cX3_clear 23 = .ok (.iload_n 2, 1) := by decide +kernel
theorem dX3_clear_24 : decode cX3_clear 24 = .ok (.aload_n 1, 1) := by decide +kernel
theorem dX3_clear_25 : decode cX3_clear 25 = .ok (.getfield 72, 3) := by decide +kernel
theorem dX3_clear_28 : decode cX3_clear 28 = .ok (.iload_n 2, 1) := by decide +kernel
theorem dX3_clear_29 : decode cX3_clear 29 = .ok (.aaload, 1) := by decide +kernel
theorem dX3_clear_30 : decode cX3_clear 30 = .ok (.invokevirtual 92, 3) := by decide +kernel
theorem dX3_clear_33 : decode cX3_clear 33 = .ok (.ineg, 1) := by decide +kernel
theorem dX3_clear_34 : decode cX3_clear 34 = .ok (.invokevirtual 123, 3) := by decide +kernel
theorem dX3_clear_37 : decode cX3_clear 37 = .ok (.ifCond .ne 5, 3) := by decide +kernel
theorem dX3_clear_40 : decode cX3_clear 40 = .ok (.iconst 0, 1) := by decide +kernel
theorem dX3_clear_41 : decode cX3_clear 41 = .ok (.ireturn, 1) := by decide +kernel
theorem dX3_clear_42 : decode cX3_clear 42 = .ok (.iinc 2 (-1), 3) := by decide +kernel
theorem dX3_clear_45 : decode cX3_clear 45 = .ok (.goto (-37), 3) := by decide +kernel
theorem dX3_clear_48 : decode cX3_clear 48 = .ok (.iconst 1, 1) := by decide +kernel
theorem dX3_clear_49 : decode cX3_clear 49 = .ok (.ireturn, 1) := by decide +kernel
theorem dX3_multiply_0 : decode cX3_multiply 0 = .ok (.aload_n 1, 1) := by decide +kernel
theorem dX3_multiply_1 : decode cX3_multiply 1 = .ok (.invokevirtual 127, 3) := by decide +kernel
theorem dX3_multiply_4 : decode cX3_multiply 4 = .ok (.lstore 4, 2) := by decide +kernel
theorem dX3_multiply_6 : decode cX3_multiply 6 = .ok (.lload_n 2, 1) := by decide +kernel
theorem dX3_multiply_7 : decode cX3_multiply 7 = .ok (.aload_n 1, 1) := by decide +kernel
theorem dX3_multiply_8 : decode cX3_multiply 8 = .ok (.getfield 95, 3) := by decide +kernel
theorem dX3_multiply_11 : decode cX3_multiply 11 = .ok (.invokestatic 115, 3) := by decide +kernel
theorem dX3_multiply_14 : decode cX3_multiply 14 = .ok (.istore 6, 2) := by decide +kernel
theorem dX3_multiply_16 : decode cX3_multiply 16 = .ok (.aload_n 0, 1) := by decide +kernel
theorem dX3_multiply_17 : decode cX3_multiply 17 = .ok (.getfield 12, 3) := by decide +kernel
theorem dX3_multiply_20 : decode cX3_multiply 20 = .ok (.aload_n 1, 1) := by decide +kernel
theorem dX3_multiply_21 : decode cX3_multiply 21 = .ok (.getfield 95, 3) := by decide +kernel
theorem dX3_multiply_24 : decode cX3_multiply 24 = .ok (.lload 4, 2) := by decide +kernel
theorem dX3_multiply_26 : decode cX3_multiply 26 = .ok (.lload_n 2, 1) := by decide +kernel
theorem dX3_multiply_27 : decode cX3_multiply 27 = .ok (.invokevirtual 131, 3) := by decide +kernel
theorem dX3_multiply_30 : decode cX3_multiply 30 = .ok (.aload_n 0, 1) := by decide +kernel
theorem dX3_multiply_31 : decode cX3_multiply 31 = .ok (.aload_n 1, 1) := by decide +kernel
theorem dX3_multiply_32 : decode cX3_multiply 32 = .ok (.invokevirtual 135, 3) := by decide +kernel
theorem dX3_multiply_35 : decode cX3_multiply 35 = .ok (.ifCond .ne 5, 3) := by decide +kernel
theorem dX3_multiply_38 : decode cX3_multiply 38 = .ok (.iconst 0, 1) := by decide +kernel
theorem dX3_multiply_39 : decode cX3_multiply 39 = .ok (.ireturn, 1) := by decide +kernel
theorem dX3_multiply_40 : decode cX3_multiply 40 = .ok (.lload 4, 2) := by decide +kernel
theorem dX3_multiply_42 : decode cX3_multiply 42 = .ok (.aload_n 1, 1) := by decide +kernel
theorem dX3_multiply_43 : decode cX3_multiply 43 = .ok (.getfield 95, 3) := by decide +kernel
theorem dX3_multiply_46 : decode cX3_multiply 46 = .ok (.invokestatic 115, 3) := by decide +kernel
theorem dX3_multiply_49 : decode cX3_multiply 49 = .ok (.iconst 1, 1) := by decide +kernel
theorem dX3_multiply_50 : decode cX3_multiply 50 = .ok (.isub, 1) := by decide +kernel
theorem dX3_multiply_51 : decode cX3_multiply 51 = .ok (.istore 7, 2) := by decide +kernel
theorem dX3_multiply_53 : decode cX3_multiply 53 = .ok (.iload 7, 2) := by decide +kernel
theorem dX3_multiply_55 : decode cX3_multiply 55 = .ok (.ifCond .lt 122, 3) := by decide +kernel
theorem dX3_multiply_58 : decode cX3_multiply 58 = .ok (.lload 4, 2) := by decide +kernel
theorem dX3_multiply_60 : decode cX3_multiply 60 = .ok (.aload_n 1, 1) := by decide +kernel
theorem dX3_multiply_61 : decode cX3_multiply 61 = .ok (.getfield 95, 3) := by decide +kernel
theorem dX3_multiply_64 : decode cX3_multiply 64 = .ok (.iload 7, 2) := by decide +kernel
theorem dX3_multiply_66 : decode cX3_multiply 66 = .ok (.invokestatic 119, 3) := by decide +kernel
theorem dX3_multiply_69 : decode cX3_multiply 69 = .ok (.istore 8, 2) := by decide +kernel
theorem dX3_multiply_71 : decode cX3_multiply 71 = .ok (.iload 6, 2) := by decide +kernel
theorem dX3_multiply_73 : decode cX3_multiply 73 = .ok (.iconst 1, 1) := by decide +kernel
theorem dX3_multiply_74 : decode cX3_multiply 74 = .ok (.isub, 1) := by decide +kernel
theorem dX3_multiply_75 : decode cX3_multiply 75 = .ok (.istore 9, 2) := by decide +kernel
theorem dX3_multiply_77 : decode cX3_multiply 77 = .ok (.iload 9, 2) := by decide +kernel
theorem dX3_multiply_79 : decode cX3_multiply 79 = .ok (.ifCond .lt 92, 3) := by decide +kernel
theorem dX3_multiply_82 : decode cX3_multiply 82 = .ok (.iload 8, 2) := by decide +kernel
theorem dX3_multiply_84 : decode cX3_multiply 84 = .ok (.ifCond .eq 87, 3) := by decide +kernel
theorem dX3_multiply_87 : decode cX3_multiply 87 = .ok (.aload_n 0, 1) := by decide +kernel
theorem dX3_multiply_88 : decode cX3_multiply 88 = .ok (.getfield 12, 3) := by decide +kernel
theorem dX3_multiply_91 : decode cX3_multiply 91 = .ok (.iload 7, 2) := by decide +kernel
theorem dX3_multiply_93 : decode cX3_multiply 93 = .ok (.iload 9, 2) := by decide +kernel
theorem dX3_multiply_95 : decode cX3_multiply 95 = .ok (.invokevirtual 139, 3) := by decide +kernel
theorem dX3_multiply_98 : decode cX3_multiply 98 = .ok (.iload 8, 2) := by decide +kernel
theorem dX3_multiply_100 : decode cX3_multiply 100 = .ok (.lload_n 2, 1) := by decide +kernel
theorem dX3_multiply_101 : decode cX3_multiply 101 = .ok (.aload_n 1, 1) := by decide +kernel
theorem dX3_multiply_102 : decode cX3_multiply 102 = .ok (.getfield 95, 3) := by decide +kernel
theorem dX3_multiply_105 : decode cX3_multiply 105 = .ok (.iload 9, 2) := by decide +kernel
theorem dX3_multiply_107 : decode cX3_multiply 107 = .ok (.invokestatic 119, 3) := by decide +kernel
theorem dX3_multiply_110 : decode cX3_multiply 110 = .ok (.imul, 1) := by decide +kernel
theorem dX3_multiply_111 : decode cX3_multiply 111 = .ok (.istore 10, 2) := by decide +kernel
theorem dX3_multiply_113 : decode cX3_multiply 113 = .ok (.aload_n 0, 1) := by decide +kernel
theorem dX3_multiply_114 : decode cX3_multiply 114 = .ok (.aload_n 1, 1) := by decide +kernel
theorem dX3_multiply_115 : decode cX3_multiply 115 = .ok (.iload 7, 2) := by decide +kernel
theorem dX3_multiply_117 : decode cX3_multiply 117 = .ok (.iload 9, 2) := by decide +kernel
theorem dX3_multiply_119 : decode cX3_multiply 119 = .ok (.iadd, 1) := by decide +kernel
theorem dX3_multiply_120 : decode cX3_multiply 120 = .ok (.iconst 1, 1) := by decide +kernel
theorem dX3_multiply_121 : decode cX3_multiply 121 = .ok (.iadd, 1) := by decide +kernel
theorem dX3_multiply_122 : decode cX3_multiply 122 = .ok (.iload 10, 2) := by decide +kernel
theorem dX3_multiply_124 : decode cX3_multiply 124 = .ok (.i2l, 1) := by decide +kernel
theorem dX3_multiply_125 : decode cX3_multiply 125 = .ok (.aload_n 1, 1) := by decide +kernel
theorem dX3_multiply_126 : decode cX3_multiply 126 = .ok (.getfield 95, 3) := by decide +kernel
theorem dX3_multiply_129 : decode cX3_multiply 129 = .ok (.iconst 1, 1) := by decide +kernel
theorem dX3_multiply_130 : decode cX3_multiply 130 = .ok (.invokestatic 119, 3) := by decide +kernel
theorem dX3_multiply_133 : decode cX3_multiply 133 = .ok (.invokevirtual 123, 3) := by decide +kernel
theorem dX3_multiply_136 : decode cX3_multiply 136 = .ok (.ifCond .eq 27, 3) := by decide +kernel
theorem dX3_multiply_139 : decode cX3_multiply 139 = .ok (.aload_n 0, 1) := by decide +kernel
theorem dX3_multiply_140 : decode cX3_multiply 140 = .ok (.aload_n 1, 1) := by decide +kernel
theorem dX3_multiply_141 : decode cX3_multiply 141 = .ok (.iload 7, 2) := by decide +kernel
theorem dX3_multiply_143 : decode cX3_multiply 143 = .ok (.iload 9, 2) := by decide +kernel
theorem dX3_multiply_145 : decode cX3_multiply 145 = .ok (.iadd, 1) := by decide +kernel
theorem dX3_multiply_146 : decode cX3_multiply 146 = .ok (.iload 10, 2) := by decide +kernel
theorem dX3_multiply_148 : decode cX3_multiply 148 = .ok (.i2l, 1) := by decide +kernel
theorem dX3_multiply_149 : decode cX3_multiply 149 = .ok (.aload_n 1, 1) := by decide +kernel
theorem dX3_multiply_150 : decode cX3_multiply 150 = .ok (.getfield 95, 3) := by decide +kernel
theorem dX3_multiply_153 : decode cX3_multiply 153 = .ok (.iconst 0, 1) := by decide +kernel
theorem dX3_multiply_154 : decode cX3_multiply 154 = .ok (.invokestatic 119, 3) := by decide +kernel
theorem dX3_multiply_157 : decode cX3_multiply 157 = .ok (.invokevirtual 123, 3) := by decide +kernel
theorem dX3_multiply_160 : decode cX3_multiply 160 = .ok (.ifCond .ne 5, 3) := by decide +kernel
theorem dX3_multiply_163 : decode cX3_multiply 163 = .ok (.iconst 0, 1) := by decide +kernel
theorem dX3_multiply_164 : decode cX3_multiply 164 = .ok (.ireturn, 1) := by decide +kernel
theorem dX3_multiply_165 : decode cX3_multiply 165 = .ok (.iinc 9 (-1), 3) := by decide +kernel
theorem dX3_multiply_168 : decode cX3_multiply 168 = .ok (.goto (-91), 3) := by decide +kernel
theorem dX3_multiply_171 : decode cX3_multiply 171 = .ok (.iinc 7 (-1), 3) := by decide +kernel
theorem dX3_multiply_174 : decode cX3_multiply 174 = .ok (.goto (-121), 3) := by decide +kernel
theorem dX3_multiply_177 : decode cX3_multiply 177 = .ok (.iconst 1, 1) := by decide +kernel
theorem dX3_multiply_178 : decode cX3_multiply 178 = .ok (.ireturn, 1) := by decide +kernel
theorem dX3_quotient_0 : decode cX3_quotient 0 = .ok (.lload_n 3, 1) := by decide +kernel
theorem dX3_quotient_1 : decode cX3_quotient 1 = .ok (.aload_n 1, 1) := by decide +kernel
theorem dX3_quotient_2 : decode cX3_quotient 2 = .ok (.getfield 95, 3) := by decide +kernel
theorem dX3_quotient_5 : decode cX3_quotient 5 = .ok (.invokestatic 115, 3) := by decide +kernel
theorem dX3_quotient_8 : decode cX3_quotient 8 = .ok (.istore 5, 2) := by decide +kernel
theorem dX3_quotient_10 : decode cX3_quotient 10 = .ok (.aload_n 1, 1) := by decide +kernel
theorem dX3_quotient_11 : decode cX3_quotient 11 = .ok (.invokevirtual 127, 3) := by decide +kernel
theorem dX3_quotient_14 : decode cX3_quotient 14 = .ok (.aload_n 1, 1) := by decide +kernel
theorem dX3_quotient_15 : decode cX3_quotient 15 = .ok (.getfield 95, 3) := by decide +kernel
theorem dX3_quotient_18 : decode cX3_quotient 18 = .ok (.invokestatic 115, 3) := by decide +kernel
theorem dX3_quotient_21 : decode cX3_quotient 21 = .ok (.iload 5, 2) := by decide +kernel
theorem dX3_quotient_23 : decode cX3_quotient 23 = .ok (.isub, 1) := by decide +kernel
theorem dX3_quotient_24 : decode cX3_quotient 24 = .ok (.istore 6, 2) := by decide +kernel
theorem dX3_quotient_26 : decode cX3_quotient 26 = .ok (.aload_n 0, 1) := by decide +kernel
theorem dX3_quotient_27 : decode cX3_quotient 27 = .ok (.aload_n 2, 1) := by decide +kernel
theorem dX3_quotient_28 : decode cX3_quotient 28 = .ok (.invokevirtual 135, 3) := by decide +kernel
theorem dX3_quotient_31 : decode cX3_quotient 31 = .ok (.ifCond .ne 5, 3) := by decide +kernel
theorem dX3_quotient_34 : decode cX3_quotient 34 = .ok (.iconst 0, 1) := by decide +kernel
theorem dX3_quotient_35 : decode cX3_quotient 35 = .ok (.ireturn, 1) := by decide +kernel
theorem dX3_quotient_36 : decode cX3_quotient 36 = .ok (.iload 6, 2) := by decide +kernel
theorem dX3_quotient_38 : decode cX3_quotient 38 = .ok (.istore 7, 2) := by decide +kernel
theorem dX3_quotient_40 : decode cX3_quotient 40 = .ok (.iload 7, 2) := by decide +kernel
theorem dX3_quotient_42 : decode cX3_quotient 42 = .ok (.ifCond .lt 123, 3) := by decide +kernel
theorem dX3_quotient_45 : decode cX3_quotient 45 = .ok (.aload_n 1, 1) := by decide +kernel
theorem dX3_quotient_46 : decode cX3_quotient 46 = .ok (.invokevirtual 127, 3) := by decide +kernel
theorem dX3_quotient_49 : decode cX3_quotient 49 = .ok (.lstore 8, 2) := by decide +kernel
theorem dX3_quotient_51 : decode cX3_quotient 51 = .ok (.lload 8, 2) := by decide +kernel
theorem dX3_quotient_53 : decode cX3_quotient 53 = .ok (.aload_n 1, 1) := by decide +kernel
theorem dX3_quotient_54 : decode cX3_quotient 54 = .ok (.getfield 95, 3) := by decide +kernel
theorem dX3_quotient_57 : decode cX3_quotient 57 = .ok (.lload_n 3, 1) := by decide +kernel
theorem dX3_quotient_58 : decode cX3_quotient 58 = .ok (.aload_n 1, 1) := by decide +kernel
theorem dX3_quotient_59 : decode cX3_quotient 59 = .ok (.getfield 95, 3) := by decide +kernel
theorem dX3_quotient_62 : decode cX3_quotient 62 = .ok (.iload 5, 2) := by decide +kernel
theorem dX3_quotient_64 : decode cX3_quotient 64 = .ok (.iconst 1, 1) := by decide +kernel
theorem dX3_quotient_65 : decode cX3_quotient 65 = .ok (.isub, 1) := by decide +kernel
theorem dX3_quotient_66 : decode cX3_quotient 66 = .ok (.invokestatic 119, 3) := by decide +kernel
theorem dX3_quotient_69 : decode cX3_quotient 69 = .ok (.iload 7, 2) := by decide +kernel
theorem dX3_quotient_71 : decode cX3_quotient 71 = .ok (.iload 5, 2) := by decide +kernel
theorem dX3_quotient_73 : decode cX3_quotient 73 = .ok (.iadd, 1) := by decide +kernel
theorem dX3_quotient_74 : decode cX3_quotient 74 = .ok (.iconst 1, 1) := by decide +kernel
theorem dX3_quotient_75 : decode cX3_quotient 75 = .ok (.isub, 1) := by decide +kernel
theorem dX3_quotient_76 : decode cX3_quotient 76 = .ok (.invokestatic 143, 3) := by decide +kernel
theorem dX3_quotient_79 : decode cX3_quotient 79 = .ok (.istore 10, 2) := by decide +kernel
theorem dX3_quotient_81 : decode cX3_quotient 81 = .ok (.aload_n 0, 1) := by decide +kernel
theorem dX3_quotient_82 : decode cX3_quotient 82 = .ok (.aload_n 2, 1) := by decide +kernel
theorem dX3_quotient_83 : decode cX3_quotient 83 = .ok (.iload 7, 2) := by decide +kernel
theorem dX3_quotient_85 : decode cX3_quotient 85 = .ok (.iload 10, 2) := by decide +kernel
theorem dX3_quotient_87 : decode cX3_quotient 87 = .ok (.invokevirtual 123, 3) := by decide +kernel
theorem dX3_quotient_90 : decode cX3_quotient 90 = .ok (.ifCond .ne 5, 3) := by decide +kernel
theorem dX3_quotient_93 : decode cX3_quotient 93 = .ok (.iconst 0, 1) := by decide +kernel
theorem dX3_quotient_94 : decode cX3_quotient 94 = .ok (.ireturn, 1) := by decide +kernel
theorem dX3_quotient_95 : decode cX3_quotient 95 = .ok (.lload_n 3, 1) := by decide +kernel
theorem dX3_quotient_96 : decode cX3_quotient 96 = .ok (.aload_n 1, 1) := by decide +kernel
theorem dX3_quotient_97 : decode cX3_quotient 97 = .ok (.getfield 95, 3) := by decide +kernel
theorem dX3_quotient_100 : decode cX3_quotient 100 = .ok (.iload 7, 2) := by decide +kernel
theorem dX3_quotient_102 : decode cX3_quotient 102 = .ok (.invokestatic 147, 3) := by decide +kernel
theorem dX3_quotient_105 : decode cX3_quotient 105 = .ok (.lmul, 1) := by decide +kernel
theorem dX3_quotient_106 : decode cX3_quotient 106 = .ok (.lstore 11, 2) := by decide +kernel
theorem dX3_quotient_108 : decode cX3_quotient 108 = .ok (.iload 10, 2) := by decide +kernel
theorem dX3_quotient_110 : decode cX3_quotient 110 = .ok (.ifCond .le 34, 3) := by decide +kernel
theorem dX3_quotient_113 : decode cX3_quotient 113 = .ok (.iload 10, 2) := by decide +kernel
theorem dX3_quotient_115 : decode cX3_quotient 115 = .ok (.i2l, 1) := by decide +kernel
theorem dX3_quotient_116 : decode cX3_quotient 116 = .ok (.lload 11, 2) := by decide +kernel
theorem dX3_quotient_118 : decode cX3_quotient 118 = .ok (.lmul, 1) := by decide +kernel
theorem dX3_quotient_119 : decode cX3_quotient 119 = .ok (.lload 8, 2) := by decide +kernel
theorem dX3_quotient_121 : decode cX3_quotient 121 = .ok (.lcmp, 1) := by decide +kernel
theorem dX3_quotient_122 : decode cX3_quotient 122 = .ok (.ifCond .le 22, 3) := by decide +kernel
theorem dX3_quotient_125 : decode cX3_quotient 125 = .ok (.aload_n 0, 1) := by decide +kernel
theorem dX3_quotient_126 : decode cX3_quotient 126 = .ok (.aload_n 2, 1) := by decide +kernel
theorem dX3_quotient_127 : decode cX3_quotient 127 = .ok (.iload 7, 2) := by decide +kernel
theorem dX3_quotient_129 : decode cX3_quotient 129 = .ok (.iconst (-1), 1) := by decide +kernel
theorem dX3_quotient_130 : decode cX3_quotient 130 = .ok (.invokevirtual 123, 3) := by decide +kernel
theorem dX3_quotient_133 : decode cX3_quotient 133 = .ok (.ifCond .ne 5, 3) := by decide +kernel
theorem dX3_quotient_136 : decode cX3_quotient 136 = .ok (.iconst 0, 1) := by decide +kernel
theorem dX3_quotient_137 : decode cX3_quotient 137 = .ok (.ireturn, 1) := by decide +kernel
theorem dX3_quotient_138 : decode cX3_quotient 138 = .ok (.iinc 10 (-1), 3) := by decide +kernel
theorem dX3_quotient_141 : decode cX3_quotient 141 = .ok (.goto (-33), 3) := by decide +kernel
theorem dX3_quotient_144 : decode cX3_quotient 144 = .ok (.aload_n 0, 1) := by decide +kernel
theorem dX3_quotient_145 : decode cX3_quotient 145 = .ok (.aload_n 1, 1) := by decide +kernel
theorem dX3_quotient_146 : decode cX3_quotient 146 = .ok (.lload_n 3, 1) := by decide +kernel
theorem dX3_quotient_147 : decode cX3_quotient 147 = .ok (.iload 7, 2) := by decide +kernel
theorem dX3_quotient_149 : decode cX3_quotient 149 = .ok (.iload 10, 2) := by decide +kernel
theorem dX3_quotient_151 : decode cX3_quotient 151 = .ok (.invokevirtual 151, 3) := by decide +kernel
theorem dX3_quotient_154 : decode cX3_quotient 154 = .ok (.ifCond .ne 5, 3) := by decide +kernel
theorem dX3_quotient_157 : decode cX3_quotient 157 = .ok (.iconst 0, 1) := by decide +kernel
theorem dX3_quotient_158 : decode cX3_quotient 158 = .ok (.ireturn, 1) := by decide +kernel
theorem dX3_quotient_159 : decode cX3_quotient 159 = .ok (.iinc 7 (-1), 3) := by decide +kernel
theorem dX3_quotient_162 : decode cX3_quotient 162 = .ok (.goto (-122), 3) := by decide +kernel
theorem dX3_quotient_165 : decode cX3_quotient 165 = .ok (.iconst 1, 1) := by decide +kernel
theorem dX3_quotient_166 : decode cX3_quotient 166 = .ok (.ireturn, 1) := by decide +kernel
theorem dX3_firstTrial_0 : decode cX3_firstTrial 0 = .ok (.iload_n 2, 1) := by decide +kernel
theorem dX3_firstTrial_1 : decode cX3_firstTrial 1 = .ok (.iload 4, 2) := by decide +kernel
theorem dX3_firstTrial_3 : decode cX3_firstTrial 3 = .ok (.invokestatic 147, 3) := by decide +kernel
theorem dX3_firstTrial_6 : decode cX3_firstTrial 6 = .ok (.lstore 5, 2) := by decide +kernel
theorem dX3_firstTrial_8 : decode cX3_firstTrial 8 = .ok (.lload 5, 2) := by decide +kernel
theorem dX3_firstTrial_10 : decode cX3_firstTrial 10 = .ok (.lconst 0, 1) := by decide +kernel
theorem dX3_firstTrial_11 : decode cX3_firstTrial 11 = .ok (.lcmp, 1) := by decide +kernel
theorem dX3_firstTrial_12 : decode cX3_firstTrial 12 = .ok (.ifCond .le 7, 3) := by decide +kernel
theorem dX3_firstTrial_15 : decode cX3_firstTrial 15 = .ok (.iload_n 3, 1) := by decide +kernel
theorem dX3_firstTrial_16 : decode cX3_firstTrial 16 = .ok (.ifCond .gt 7, 3) := by decide +kernel
theorem dX3_firstTrial_19 : decode cX3_firstTrial 19 = .ok (.iconst 0, 1) := by decide +kernel
theorem dX3_firstTrial_20 : decode cX3_firstTrial 20 = .ok (.goto 18, 3) := by decide +kernel
theorem dX3_firstTrial_23 : decode cX3_firstTrial 23 = .ok (.lload_n 0, 1) := by decide +kernel
theorem dX3_firstTrial_24 : decode cX3_firstTrial 24 = .ok (.lload 5, 2) := by decide +kernel
theorem dX3_firstTrial_26 : decode cX3_firstTrial 26 = .ok (.ldiv, 1) := by decide +kernel
theorem dX3_firstTrial_27 : decode cX3_firstTrial 27 = .ok (.iload_n 3, 1) := by decide +kernel
theorem dX3_firstTrial_28 : decode cX3_firstTrial 28 = .ok (.i2l, 1) := by decide +kernel
theorem dX3_firstTrial_29 : decode cX3_firstTrial 29 = .ok (.ldiv, 1) := by decide +kernel
theorem dX3_firstTrial_30 : decode cX3_firstTrial 30 = .ok (.iload_n 2, 1) := by decide +kernel
theorem dX3_firstTrial_31 : decode cX3_firstTrial 31 = .ok (.iconst 1, 1) := by decide +kernel
theorem dX3_firstTrial_32 : decode cX3_firstTrial 32 = .ok (.isub, 1) := by decide +kernel
theorem dX3_firstTrial_33 : decode cX3_firstTrial 33 = .ok (.i2l, 1) := by decide +kernel
theorem dX3_firstTrial_34 : decode cX3_firstTrial 34 = .ok (.invokestatic 155, 3) := by decide +kernel
theorem dX3_firstTrial_37 : decode cX3_firstTrial 37 = .ok (.l2i, 1) := by decide +kernel
theorem dX3_firstTrial_38 : decode cX3_firstTrial 38 = .ok (.ireturn, 1) := by decide +kernel
theorem dX3_takeProducts_0 : decode cX3_takeProducts 0 = .ok (.lload_n 2, 1) := by decide +kernel
theorem dX3_takeProducts_1 : decode cX3_takeProducts 1 = .ok (.aload_n 1, 1) := by decide +kernel
theorem dX3_takeProducts_2 : decode cX3_takeProducts 2 = .ok (.getfield 95, 3) := by decide +kernel
theorem dX3_takeProducts_5 : decode cX3_takeProducts 5 = .ok (.invokestatic 115, 3) := by decide +kernel
theorem dX3_takeProducts_8 : decode cX3_takeProducts 8 = .ok (.iconst 1, 1) := by decide +kernel
theorem dX3_takeProducts_9 : decode cX3_takeProducts 9 = .ok (.isub, 1) := by decide +kernel
theorem dX3_takeProducts_10 : decode cX3_takeProducts 10 = .ok (.istore 6, 2) := by decide +kernel
theorem dX3_takeProducts_12 : decode cX3_takeProducts 12 = .ok (.iload 6, 2) := by decide +kernel
theorem dX3_takeProducts_14 : decode cX3_takeProducts 14 = .ok (.ifCond .lt 78, 3) := by decide +kernel
theorem dX3_takeProducts_17 : decode cX3_takeProducts 17 = .ok (.iload 5, 2) := by decide +kernel
theorem dX3_takeProducts_19 : decode cX3_takeProducts 19 = .ok (.lload_n 2, 1) := by decide +kernel
theorem dX3_takeProducts_20 : decode cX3_takeProducts 20 = .ok (.aload_n 1, 1) := by decide +kernel
theorem dX3_takeProducts_21 : decode cX3_takeProducts 21 = .ok (.getfield 95, 3) := by decide +kernel
theorem dX3_takeProducts_24 : decode cX3_takeProducts 24 = .ok (.iload 6, 2) := by decide +kernel
theorem dX3_takeProducts_26 : decode cX3_takeProducts 26 = .ok (.invokestatic 119, 3) := by decide +kernel
theorem dX3_takeProducts_29 : decode cX3_takeProducts 29 = .ok (.imul, 1) := by decide +kernel
theorem dX3_takeProducts_30 : decode cX3_takeProducts 30 = .ok (.istore 7, 2) := by decide +kernel
theorem dX3_takeProducts_32 : decode cX3_takeProducts 32 = .ok (.aload_n 0, 1) := by decide +kernel
theorem dX3_takeProducts_33 : decode cX3_takeProducts 33 = .ok (.aload_n 1, 1) := by decide +kernel
theorem dX3_takeProducts_34 : decode cX3_takeProducts 34 = .ok (.iload 4, 2) := by decide +kernel
theorem dX3_takeProducts_36 : decode cX3_takeProducts 36 = .ok (.iload 6, 2) := by decide +kernel
theorem dX3_takeProducts_38 : decode cX3_takeProducts 38 = .ok (.iadd, 1) := by decide +kernel
theorem dX3_takeProducts_39 : decode cX3_takeProducts 39 = .ok (.iconst 1, 1) := by decide +kernel
theorem dX3_takeProducts_40 : decode cX3_takeProducts 40 = .ok (.iadd, 1) := by decide +kernel
theorem dX3_takeProducts_41 : decode cX3_takeProducts 41 = .ok (.iload 7, 2) := by decide +kernel
theorem dX3_takeProducts_43 : decode cX3_takeProducts 43 = .ok (.i2l, 1) := by decide +kernel
theorem dX3_takeProducts_44 : decode cX3_takeProducts 44 = .ok (.aload_n 1, 1) := by decide +kernel
theorem dX3_takeProducts_45 : decode cX3_takeProducts 45 = .ok (.getfield 95, 3) := by decide +kernel
theorem dX3_takeProducts_48 : decode cX3_takeProducts 48 = .ok (.iconst 1, 1) := by decide +kernel
theorem dX3_takeProducts_49 : decode cX3_takeProducts 49 = .ok (.invokestatic 119, 3) := by decide +kernel
theorem dX3_takeProducts_52 : decode cX3_takeProducts 52 = .ok (.ineg, 1) := by decide +kernel
theorem dX3_takeProducts_53 : decode cX3_takeProducts 53 = .ok (.invokevirtual 123, 3) := by decide +kernel
theorem dX3_takeProducts_56 : decode cX3_takeProducts 56 = .ok (.ifCond .eq 28, 3) := by decide +kernel
theorem dX3_takeProducts_59 : decode cX3_takeProducts 59 = .ok (.aload_n 0, 1) := by decide +kernel
theorem dX3_takeProducts_60 : decode cX3_takeProducts 60 = .ok (.aload_n 1, 1) := by decide +kernel
theorem dX3_takeProducts_61 : decode cX3_takeProducts 61 = .ok (.iload 4, 2) := by decide +kernel
theorem dX3_takeProducts_63 : decode cX3_takeProducts 63 = .ok (.iload 6, 2) := by decide +kernel
theorem dX3_takeProducts_65 : decode cX3_takeProducts 65 = .ok (.iadd, 1) := by decide +kernel
theorem dX3_takeProducts_66 : decode cX3_takeProducts 66 = .ok (.iload 7, 2) := by decide +kernel
theorem dX3_takeProducts_68 : decode cX3_takeProducts 68 = .ok (.i2l, 1) := by decide +kernel
theorem dX3_takeProducts_69 : decode cX3_takeProducts 69 = .ok (.aload_n 1, 1) := by decide +kernel
theorem dX3_takeProducts_70 : decode cX3_takeProducts 70 = .ok (.getfield 95, 3) := by decide +kernel
theorem dX3_takeProducts_73 : decode cX3_takeProducts 73 = .ok (.iconst 0, 1) := by decide +kernel
theorem dX3_takeProducts_74 : decode cX3_takeProducts 74 = .ok (.invokestatic 119, 3) := by decide +kernel
theorem dX3_takeProducts_77 : decode cX3_takeProducts 77 = .ok (.ineg, 1) := by decide +kernel
theorem dX3_takeProducts_78 : decode cX3_takeProducts 78 = .ok (.invokevirtual 123, 3) := by decide +kernel
theorem dX3_takeProducts_81 : decode cX3_takeProducts 81 = .ok (.ifCond .ne 5, 3) := by decide +kernel
theorem dX3_takeProducts_84 : decode cX3_takeProducts 84 = .ok (.iconst 0, 1) := by decide +kernel
theorem dX3_takeProducts_85 : decode cX3_takeProducts 85 = .ok (.ireturn, 1) := by decide +kernel
theorem dX3_takeProducts_86 : decode cX3_takeProducts 86 = .ok (.iinc 6 (-1), 3) := by decide +kernel
theorem dX3_takeProducts_89 : decode cX3_takeProducts 89 = .ok (.goto (-77), 3) := by decide +kernel
theorem dX3_takeProducts_92 : decode cX3_takeProducts 92 = .ok (.iconst 1, 1) := by decide +kernel
theorem dX3_takeProducts_93 : decode cX3_takeProducts 93 = .ok (.ireturn, 1) := by decide +kernel
theorem dX3_taken_0 : decode cX3_taken 0 = .ok (.iload_n 0, 1) := by decide +kernel
theorem dX3_taken_1 : decode cX3_taken 1 = .ok (.iconst 2, 1) := by decide +kernel
theorem dX3_taken_2 : decode cX3_taken 2 = .ok (.if_icmp .ne 19, 3) := by decide +kernel
theorem dX3_taken_5 : decode cX3_taken 5 = .ok (.ldc2_w 161, 3) := by decide +kernel
theorem dX3_taken_8 : decode cX3_taken 8 = .ok (.lload_n 1, 1) := by decide +kernel
theorem dX3_taken_9 : decode cX3_taken 9 = .ok (.lmul, 1) := by decide +kernel
theorem dX3_taken_10 : decode cX3_taken 10 = .ok (.lload_n 3, 1) := by decide +kernel
theorem dX3_taken_11 : decode cX3_taken 11 = .ok (.lmul, 1) := by decide +kernel
theorem dX3_taken_12 : decode cX3_taken 12 = .ok (.lload 5, 2) := by decide +kernel
theorem dX3_taken_14 : decode cX3_taken 14 = .ok (.ladd, 1) := by decide +kernel
theorem dX3_taken_15 : decode cX3_taken 15 = .ok (.lload 5, 2) := by decide +kernel
theorem dX3_taken_17 : decode cX3_taken 17 = .ok (.lmul, 1) := by decide +kernel
theorem dX3_taken_18 : decode cX3_taken 18 = .ok (.goto 34, 3) := by decide +kernel
theorem dX3_taken_21 : decode cX3_taken 21 = .ok (.ldc2_w 163, 3) := by decide +kernel
theorem dX3_taken_24 : decode cX3_taken 24 = .ok (.lload_n 1, 1) := by decide +kernel
theorem dX3_taken_25 : decode cX3_taken 25 = .ok (.lmul, 1) := by decide +kernel
theorem dX3_taken_26 : decode cX3_taken 26 = .ok (.lload_n 1, 1) := by decide +kernel
theorem dX3_taken_27 : decode cX3_taken 27 = .ok (.lmul, 1) := by decide +kernel
theorem dX3_taken_28 : decode cX3_taken 28 = .ok (.lload_n 3, 1) := by decide +kernel
theorem dX3_taken_29 : decode cX3_taken 29 = .ok (.lmul, 1) := by decide +kernel
theorem dX3_taken_30 : decode cX3_taken 30 = .ok (.lload_n 3, 1) := by decide +kernel
theorem dX3_taken_31 : decode cX3_taken 31 = .ok (.lmul, 1) := by decide +kernel
theorem dX3_taken_32 : decode cX3_taken 32 = .ok (.ldc2_w 163, 3) := by decide +kernel
theorem dX3_taken_35 : decode cX3_taken 35 = .ok (.lload_n 1, 1) := by decide +kernel
theorem dX3_taken_36 : decode cX3_taken 36 = .ok (.lmul, 1) := by decide +kernel
theorem dX3_taken_37 : decode cX3_taken 37 = .ok (.lload_n 3, 1) := by decide +kernel
theorem dX3_taken_38 : decode cX3_taken 38 = .ok (.lmul, 1) := by decide +kernel
theorem dX3_taken_39 : decode cX3_taken 39 = .ok (.lload 5, 2) := by decide +kernel
theorem dX3_taken_41 : decode cX3_taken 41 = .ok (.lmul, 1) := by decide +kernel
theorem dX3_taken_42 : decode cX3_taken 42 = .ok (.ladd, 1) := by decide +kernel
theorem dX3_taken_43 : decode cX3_taken 43 = .ok (.lload 5, 2) := by decide +kernel
theorem dX3_taken_45 : decode cX3_taken 45 = .ok (.lload 5, 2) := by decide +kernel
theorem dX3_taken_47 : decode cX3_taken 47 = .ok (.lmul, 1) := by decide +kernel
theorem dX3_taken_48 : decode cX3_taken 48 = .ok (.ladd, 1) := by decide +kernel
theorem dX3_taken_49 : decode cX3_taken 49 = .ok (.lload 5, 2) := by decide +kernel
theorem dX3_taken_51 : decode cX3_taken 51 = .ok (.lmul, 1) := by decide +kernel
theorem dX3_taken_52 : decode cX3_taken 52 = .ok (.lreturn, 1) := by decide +kernel
theorem dX3_extract_0 : decode cX3_extract 0 = .ok (.iload_n 3, 1) := by decide +kernel
theorem dX3_extract_1 : decode cX3_extract 1 = .ok (.iconst 2, 1) := by decide +kernel
theorem dX3_extract_2 : decode cX3_extract 2 = .ok (.if_icmp .ge 5, 3) := by decide +kernel
theorem dX3_extract_5 : decode cX3_extract 5 = .ok (.iconst 0, 1) := by decide +kernel
theorem dX3_extract_6 : decode cX3_extract 6 = .ok (.ireturn, 1) := by decide +kernel
theorem dX3_extract_7 : decode cX3_extract 7 = .ok (.aload_n 1, 1) := by decide +kernel
theorem dX3_extract_8 : decode cX3_extract 8 = .ok (.invokevirtual 127, 3) := by decide +kernel
theorem dX3_extract_11 : decode cX3_extract 11 = .ok (.aload_n 1, 1) := by decide +kernel
theorem dX3_extract_12 : decode cX3_extract 12 = .ok (.getfield 95, 3) := by decide +kernel
theorem dX3_extract_15 : decode cX3_extract 15 = .ok (.invokestatic 115, 3) := by decide +kernel
theorem dX3_extract_18 : decode cX3_extract 18 = .ok (.iload_n 3, 1) := by decide +kernel
theorem dX3_extract_19 : decode cX3_extract 19 = .ok (.iadd, 1) := by decide +kernel
theorem dX3_extract_20 : decode cX3_extract 20 = .ok (.iconst 1, 1) := by decide +kernel
theorem dX3_extract_21 : decode cX3_extract 21 = .ok (.isub, 1) := by decide +kernel
theorem dX3_extract_22 : decode cX3_extract 22 = .ok (.iload_n 3, 1) := by decide +kernel
theorem dX3_extract_23 : decode cX3_extract 23 = .ok (.idiv, 1) := by decide +kernel
theorem dX3_extract_24 : decode cX3_extract 24 = .ok (.iconst 1, 1) := by decide +kernel
theorem dX3_extract_25 : decode cX3_extract 25 = .ok (.isub, 1) := by decide +kernel
theorem dX3_extract_26 : decode cX3_extract 26 = .ok (.istore 4, 2) := by decide +kernel
theorem dX3_extract_28 : decode cX3_extract 28 = .ok (.aload_n 0, 1) := by decide +kernel
theorem dX3_extract_29 : decode cX3_extract 29 = .ok (.aload_n 2, 1) := by decide +kernel
theorem dX3_extract_30 : decode cX3_extract 30 = .ok (.invokevirtual 135, 3) := by decide +kernel
theorem dX3_extract_33 : decode cX3_extract 33 = .ok (.ifCond .ne 5, 3) := by decide +kernel
theorem dX3_extract_36 : decode cX3_extract 36 = .ok (.iconst 0, 1) := by decide +kernel
theorem dX3_extract_37 : decode cX3_extract 37 = .ok (.ireturn, 1) := by decide +kernel
theorem dX3_extract_38 : decode cX3_extract 38 = .ok (.lconst 0, 1) := by decide +kernel
theorem dX3_extract_39 : decode cX3_extract 39 = .ok (.lstore 5, 2) := by decide +kernel
theorem dX3_extract_41 : decode cX3_extract 41 = .ok (.iload 4, 2) := by decide +kernel
theorem dX3_extract_43 : decode cX3_extract 43 = .ok (.istore 7, 2) := by decide +kernel
theorem dX3_extract_45 : decode cX3_extract 45 = .ok (.iload 7, 2) := by decide +kernel
theorem dX3_extract_47 : decode cX3_extract 47 = .ok (.ifCond .lt 125, 3) := by decide +kernel
theorem dX3_extract_50 : decode cX3_extract 50 = .ok (.aload_n 1, 1) := by decide +kernel
theorem dX3_extract_51 : decode cX3_extract 51 = .ok (.invokevirtual 127, 3) := by decide +kernel
theorem dX3_extract_54 : decode cX3_extract 54 = .ok (.lstore 8, 2) := by decide +kernel
theorem dX3_extract_56 : decode cX3_extract 56 = .ok (.aload_n 1, 1) := by decide +kernel
theorem dX3_extract_57 : decode cX3_extract 57 = .ok (.getfield 95, 3) := by decide +kernel
theorem dX3_extract_60 : decode cX3_extract 60 = .ok (.iload_n 3, 1) := by decide +kernel
theorem dX3_extract_61 : decode cX3_extract 61 = .ok (.iload 7, 2) := by decide +kernel
theorem dX3_extract_63 : decode cX3_extract 63 = .ok (.imul, 1) := by decide +kernel
theorem dX3_extract_64 : decode cX3_extract 64 = .ok (.invokestatic 147, 3) := by decide +kernel
theorem dX3_extract_67 : decode cX3_extract 67 = .ok (.lstore 10, 2) := by decide +kernel
theorem dX3_extract_69 : decode cX3_extract 69 = .ok (.aload_n 1, 1) := by decide +kernel
theorem dX3_extract_70 : decode cX3_extract 70 = .ok (.getfield 95, 3) := by decide +kernel
theorem dX3_extract_73 : decode cX3_extract 73 = .ok (.iconst 1, 1) := by decide +kernel
theorem dX3_extract_74 : decode cX3_extract 74 = .ok (.isub, 1) := by decide +kernel
theorem dX3_extract_75 : decode cX3_extract 75 = .ok (.istore 12, 2) := by decide +kernel
theorem dX3_extract_77 : decode cX3_extract 77 = .ok (.iload 12, 2) := by decide +kernel
theorem dX3_extract_79 : decode cX3_extract 79 = .ok (.ifCond .le 32, 3) := by decide +kernel
theorem dX3_extract_82 : decode cX3_extract 82 = .ok (.iload_n 3, 1) := by decide +kernel
theorem dX3_extract_83 : decode cX3_extract 83 = .ok (.aload_n 1, 1) := by decide +kernel
theorem dX3_extract_84 : decode cX3_extract 84 = .ok (.getfield 95, 3) := by decide +kernel
theorem dX3_extract_87 : decode cX3_extract 87 = .ok (.i2l, 1) := by decide +kernel
theorem dX3_extract_88 : decode cX3_extract 88 = .ok (.lload 5, 2) := by decide +kernel
theorem dX3_extract_90 : decode cX3_extract 90 = .ok (.iload 12, 2) := by decide +kernel
theorem dX3_extract_92 : decode cX3_extract 92 = .ok (.i2l, 1) := by decide +kernel
theorem dX3_extract_93 : decode cX3_extract 93 = .ok (.invokestatic 165, 3) := by decide +kernel
theorem dX3_extract_96 : decode cX3_extract 96 = .ok (.lload 10, 2) := by decide +kernel
theorem dX3_extract_98 : decode cX3_extract 98 = .ok (.lmul, 1) := by decide +kernel
theorem dX3_extract_99 : decode cX3_extract 99 = .ok (.lload 8, 2) := by decide +kernel
theorem dX3_extract_101 : decode cX3_extract 101 = .ok (.lcmp, 1) := by decide +kernel
theorem dX3_extract_102 : decode cX3_extract 102 = .ok (.ifCond .le 9, 3) := by decide +kernel
theorem dX3_extract_105 : decode cX3_extract 105 = .ok (.iinc 12 (-1), 3) := by decide +kernel
theorem dX3_extract_108 : decode cX3_extract 108 = .ok (.goto (-31), 3) := by decide +kernel
theorem dX3_extract_111 : decode cX3_extract 111 = .ok (.aload_n 0, 1) := by decide +kernel
theorem dX3_extract_112 : decode cX3_extract 112 = .ok (.aload_n 2, 1) := by decide +kernel
theorem dX3_extract_113 : decode cX3_extract 113 = .ok (.iload 7, 2) := by decide +kernel
theorem dX3_extract_115 : decode cX3_extract 115 = .ok (.iload 12, 2) := by decide +kernel
theorem dX3_extract_117 : decode cX3_extract 117 = .ok (.invokevirtual 123, 3) := by decide +kernel
theorem dX3_extract_120 : decode cX3_extract 120 = .ok (.ifCond .eq 30, 3) := by decide +kernel
theorem dX3_extract_123 : decode cX3_extract 123 = .ok (.aload_n 0, 1) := by decide +kernel
theorem dX3_extract_124 : decode cX3_extract 124 = .ok (.aload_n 1, 1) := by decide +kernel
theorem dX3_extract_125 : decode cX3_extract 125 = .ok (.iload_n 3, 1) := by decide +kernel
theorem dX3_extract_126 : decode cX3_extract 126 = .ok (.aload_n 1, 1) := by decide +kernel
theorem dX3_extract_127 : decode cX3_extract 127 = .ok (.getfield 95, 3) := by decide +kernel
theorem dX3_extract_130 : decode cX3_extract 130 = .ok (.i2l, 1) := by decide +kernel
theorem dX3_extract_131 : decode cX3_extract 131 = .ok (.lload 5, 2) := by decide +kernel
theorem dX3_extract_133 : decode cX3_extract 133 = .ok (.iload 12, 2) := by decide +kernel
theorem dX3_extract_135 : decode cX3_extract 135 = .ok (.i2l, 1) := by decide +kernel
theorem dX3_extract_136 : decode cX3_extract 136 = .ok (.invokestatic 165, 3) := by decide +kernel
theorem dX3_extract_139 : decode cX3_extract 139 = .ok (.iload_n 3, 1) := by decide +kernel
theorem dX3_extract_140 : decode cX3_extract 140 = .ok (.iload 7, 2) := by decide +kernel
theorem dX3_extract_142 : decode cX3_extract 142 = .ok (.imul, 1) := by decide +kernel
theorem dX3_extract_143 : decode cX3_extract 143 = .ok (.iconst (-1), 1) := by decide +kernel
theorem dX3_extract_144 : decode cX3_extract 144 = .ok (.invokevirtual 169, 3) := by decide +kernel
theorem dX3_extract_147 : decode cX3_extract 147 = .ok (.ifCond .ne 5, 3) := by decide +kernel
theorem dX3_extract_150 : decode cX3_extract 150 = .ok (.iconst 0, 1) := by decide +kernel
theorem dX3_extract_151 : decode cX3_extract 151 = .ok (.ireturn, 1) := by decide +kernel
theorem dX3_extract_152 : decode cX3_extract 152 = .ok (.aload_n 1, 1) := by decide +kernel
theorem dX3_extract_153 : decode cX3_extract 153 = .ok (.getfield 95, 3) := by decide +kernel
theorem dX3_extract_156 : decode cX3_extract 156 = .ok (.i2l, 1) := by decide +kernel
theorem dX3_extract_157 : decode cX3_extract 157 = .ok (.lload 5, 2) := by decide +kernel
theorem dX3_extract_159 : decode cX3_extract 159 = .ok (.lmul, 1) := by decide +kernel
theorem dX3_extract_160 : decode cX3_extract 160 = .ok (.iload 12, 2) := by decide +kernel
theorem dX3_extract_162 : decode cX3_extract 162 = .ok (.i2l, 1) := by decide +kernel
theorem dX3_extract_163 : decode cX3_extract 163 = .ok (.ladd, 1) := by decide +kernel
theorem dX3_extract_164 : decode cX3_extract 164 = .ok (.lstore 5, 2) := by decide +kernel
theorem dX3_extract_166 : decode cX3_extract 166 = .ok (.iinc 7 (-1), 3) := by decide +kernel
theorem dX3_extract_169 : decode cX3_extract 169 = .ok (.goto (-124), 3) := by decide +kernel
theorem dX3_extract_172 : decode cX3_extract 172 = .ok (.iconst 1, 1) := by decide +kernel
theorem dX3_extract_173 : decode cX3_extract 173 = .ok (.ireturn, 1) := by decide +kernel
theorem dX3_turnOver_0 : decode cX3_turnOver 0 = .ok (.aload_n 1, 1) := by decide +kernel
theorem dX3_turnOver_1 : decode cX3_turnOver 1 = .ok (.invokevirtual 127, 3) := by decide +kernel
theorem dX3_turnOver_4 : decode cX3_turnOver 4 = .ok (.lstore_n 3, 1) := by decide +kernel
theorem dX3_turnOver_5 : decode cX3_turnOver 5 = .ok (.aload_n 0, 1) := by decide +kernel
theorem dX3_turnOver_6 : decode cX3_turnOver 6 = .ok (.aload_n 2, 1) := by decide +kernel
theorem dX3_turnOver_7 : decode cX3_turnOver 7 = .ok (.invokevirtual 135, 3) := by decide +kernel
theorem dX3_turnOver_10 : decode cX3_turnOver 10 = .ok (.ifCond .ne 5, 3) := by decide +kernel
theorem dX3_turnOver_13 : decode cX3_turnOver 13 = .ok (.iconst 0, 1) := by decide +kernel
theorem dX3_turnOver_14 : decode cX3_turnOver 14 = .ok (.ireturn, 1) := by decide +kernel
theorem dX3_turnOver_15 : decode cX3_turnOver 15 = .ok (.lload_n 3, 1) := by decide +kernel
theorem dX3_turnOver_16 : decode cX3_turnOver 16 = .ok (.aload_n 1, 1) := by decide +kernel
theorem dX3_turnOver_17 : decode cX3_turnOver 17 = .ok (.getfield 95, 3) := by decide +kernel
theorem dX3_turnOver_20 : decode cX3_turnOver 20 = .ok (.invokestatic 115, 3) := by decide +kernel
theorem dX3_turnOver_23 : decode cX3_turnOver 23 = .ok (.iconst 1, 1) := by decide +kernel
theorem dX3_turnOver_24 : decode cX3_turnOver 24 = .ok (.isub, 1) := by decide +kernel
theorem dX3_turnOver_25 : decode cX3_turnOver 25 = .ok (.istore 5, 2) := by decide +kernel
theorem dX3_turnOver_27 : decode cX3_turnOver 27 = .ok (.iload 5, 2) := by decide +kernel
theorem dX3_turnOver_29 : decode cX3_turnOver 29 = .ok (.ifCond .lt 45, 3) := by decide +kernel
theorem dX3_turnOver_32 : decode cX3_turnOver 32 = .ok (.aload_n 0, 1) := by decide +kernel
theorem dX3_turnOver_33 : decode cX3_turnOver 33 = .ok (.aload_n 2, 1) := by decide +kernel
theorem dX3_turnOver_34 : decode cX3_turnOver 34 = .ok (.aload_n 1, 1) := by decide +kernel
theorem dX3_turnOver_35 : decode cX3_turnOver 35 = .ok (.getfield 95, 3) := by decide +kernel
theorem dX3_turnOver_38 : decode cX3_turnOver 38 = .ok (.i2l, 1) := by decide +kernel
theorem dX3_turnOver_39 : decode cX3_turnOver 39 = .ok (.invokevirtual 172, 3) := by decide +kernel
theorem dX3_turnOver_42 : decode cX3_turnOver 42 = .ok (.ifCond .eq 24, 3) := by decide +kernel
theorem dX3_turnOver_45 : decode cX3_turnOver 45 = .ok (.aload_n 0, 1) := by decide +kernel
theorem dX3_turnOver_46 : decode cX3_turnOver 46 = .ok (.aload_n 2, 1) := by decide +kernel
theorem dX3_turnOver_47 : decode cX3_turnOver 47 = .ok (.lload_n 3, 1) := by decide +kernel
theorem dX3_turnOver_48 : decode cX3_turnOver 48 = .ok (.aload_n 1, 1) := by decide +kernel
theorem dX3_turnOver_49 : decode cX3_turnOver 49 = .ok (.getfield 95, 3) := by decide +kernel
theorem dX3_turnOver_52 : decode cX3_turnOver 52 = .ok (.iload 5, 2) := by decide +kernel
theorem dX3_turnOver_54 : decode cX3_turnOver 54 = .ok (.invokestatic 119, 3) := by decide +kernel
theorem dX3_turnOver_57 : decode cX3_turnOver 57 = .ok (.i2l, 1) := by decide +kernel
theorem dX3_turnOver_58 : decode cX3_turnOver 58 = .ok (.iconst 0, 1) := by decide +kernel
theorem dX3_turnOver_59 : decode cX3_turnOver 59 = .ok (.iconst 1, 1) := by decide +kernel
theorem dX3_turnOver_60 : decode cX3_turnOver 60 = .ok (.invokevirtual 169, 3) := by decide +kernel
theorem dX3_turnOver_63 : decode cX3_turnOver 63 = .ok (.ifCond .ne 5, 3) := by decide +kernel
theorem dX3_turnOver_66 : decode cX3_turnOver 66 = .ok (.iconst 0, 1) := by decide +kernel
theorem dX3_turnOver_67 : decode cX3_turnOver 67 = .ok (.ireturn, 1) := by decide +kernel
theorem dX3_turnOver_68 : decode cX3_turnOver 68 = .ok (.iinc 5 (-1), 3) := by decide +kernel
theorem dX3_turnOver_71 : decode cX3_turnOver 71 = .ok (.goto (-44), 3) := by decide +kernel
theorem dX3_turnOver_74 : decode cX3_turnOver 74 = .ok (.iconst 1, 1) := by decide +kernel
theorem dX3_turnOver_75 : decode cX3_turnOver 75 = .ok (.ireturn, 1) := by decide +kernel
theorem dX4_init_0 : decode cX4_init 0 = .ok (.aload_n 0, 1) := by decide +kernel
theorem dX4_init_1 : decode cX4_init 1 = .ok (.invokespecial 3, 3) := by decide +kernel
theorem dX4_init_4 : decode cX4_init 4 = .ok (.aload_n 0, 1) := by decide +kernel
theorem dX4_init_5 : decode cX4_init 5 = .ok (.iload_n 1, 1) := by decide +kernel
theorem dX4_init_6 : decode cX4_init 6 = .ok (.iconst 2, 1) := by decide +kernel
theorem dX4_init_7 : decode cX4_init 7 = .ok (.if_icmp .ne 7, 3) := by decide +kernel
theorem dX4_init_10 : decode cX4_init 10 = .ok (.iconst 1, 1) := by decide +kernel
theorem dX4_init_11 : decode cX4_init 11 = .ok (.goto 4, 3) := by decide +kernel
theorem dX4_init_14 : decode cX4_init 14 = .ok (.iconst 0, 1) := by decide +kernel
theorem dX4_init_15 : decode cX4_init 15 = .ok (.putfield 9, 3) := by decide +kernel
theorem dX4_init_18 : decode cX4_init 18 = .ok (.aload_n 0, 1) := by decide +kernel
theorem dX4_init_19 : decode cX4_init 19 = .ok (.aload_n 0, 1) := by decide +kernel
theorem dX4_init_20 : decode cX4_init 20 = .ok (.getfield 9, 3) := by decide +kernel
theorem dX4_init_23 : decode cX4_init 23 = .ok (.ifCond .eq 8, 3) := by decide +kernel
theorem dX4_init_26 : decode cX4_init 26 = .ok (.bipush 10, 2) := by decide +kernel
theorem dX4_init_28 : decode cX4_init 28 = .ok (.goto 12, 3) := by decide +kernel
theorem dX4_init_31 : decode cX4_init 31 = .ok (.iload_n 1, 1) := by decide +kernel
theorem dX4_init_32 : decode cX4_init 32 = .ok (.ifCond .ne 7, 3) := by decide +kernel
theorem dX4_init_35 : decode cX4_init 35 = .ok (.iconst 4, 1) := by decide +kernel
theorem dX4_init_36 : decode cX4_init 36 = .ok (.goto 4, 3) := by decide +kernel
theorem dX4_init_39 : decode cX4_init 39 = .ok (.iconst 5, 1) := by decide +kernel
theorem dX4_init_40 : decode cX4_init 40 = .ok (.putfield 15, 3) := by decide +kernel
theorem dX4_init_43 : decode cX4_init 43 = .ok (.aload_n 0, 1) := by decide +kernel
theorem dX4_init_44 : decode cX4_init 44 = .ok (.aload_n 0, 1) := by decide +kernel
theorem dX4_init_45 : decode cX4_init 45 = .ok (.getfield 9, 3) := by decide +kernel
theorem dX4_init_48 : decode cX4_init 48 = .ok (.ifCond .eq 7, 3) := by decide +kernel
theorem dX4_init_51 : decode cX4_init 51 = .ok (.iconst 0, 1) := by decide +kernel
theorem dX4_init_52 : decode cX4_init 52 = .ok (.goto 12, 3) := by decide +kernel
theorem dX4_init_55 : decode cX4_init 55 = .ok (.iload_n 1, 1) := by decide +kernel
theorem dX4_init_56 : decode cX4_init 56 = .ok (.ifCond .ne 7, 3) := by decide +kernel
theorem dX4_init_59 : decode cX4_init 59 = .ok (.iconst 1, 1) := by decide +kernel
theorem dX4_init_60 : decode cX4_init 60 = .ok (.goto 4, 3) := by decide +kernel
theorem dX4_init_63 : decode cX4_init 63 = .ok (.iconst 2, 1) := by decide +kernel
theorem dX4_init_64 : decode cX4_init 64 = .ok (.putfield 19, 3) := by decide +kernel
theorem dX4_init_67 : decode cX4_init 67 = .ok (.aload_n 0, 1) := by decide +kernel
theorem dX4_init_68 : decode cX4_init 68 = .ok (.aload_n 0, 1) := by decide +kernel
theorem dX4_init_69 : decode cX4_init 69 = .ok (.getfield 9, 3) := by decide +kernel
theorem dX4_init_72 : decode cX4_init 72 = .ok (.ifCond .eq 7, 3) := by decide +kernel
theorem dX4_init_75 : decode cX4_init 75 = .ok (.iconst 1, 1) := by decide +kernel
theorem dX4_init_76 : decode cX4_init 76 = .ok (.goto 4, 3) := by decide +kernel
theorem dX4_init_79 : decode cX4_init 79 = .ok (.iconst 2, 1) := by decide +kernel
theorem dX4_init_80 : decode cX4_init 80 = .ok (.putfield 22, 3) := by decide +kernel
theorem dX4_init_83 : decode cX4_init 83 = .ok (.aload_n 0, 1) := by decide +kernel
theorem dX4_init_84 : decode cX4_init 84 = .ok (.aload_n 0, 1) := by decide +kernel
theorem dX4_init_85 : decode cX4_init 85 = .ok (.getfield 22, 3) := by decide +kernel
theorem dX4_init_88 : decode cX4_init 88 = .ok (.putfield 25, 3) := by decide +kernel
theorem dX4_init_91 : decode cX4_init 91 = .ok (.return_, 1) := by decide +kernel
theorem dX4_renew_0 : decode cX4_renew 0 = .ok (.aload_n 0, 1) := by decide +kernel
theorem dX4_renew_1 : decode cX4_renew 1 = .ok (.iload_n 1, 1) := by decide +kernel
theorem dX4_renew_2 : decode cX4_renew 2 = .ok (.putfield 25, 3) := by decide +kernel
theorem dX4_renew_5 : decode cX4_renew 5 = .ok (.aload_n 0, 1) := by decide +kernel
theorem dX4_renew_6 : decode cX4_renew 6 = .ok (.iconst 0, 1) := by decide +kernel
theorem dX4_renew_7 : decode cX4_renew 7 = .ok (.putfield 28, 3) := by decide +kernel
theorem dX4_renew_10 : decode cX4_renew 10 = .ok (.aload_n 0, 1) := by decide +kernel
theorem dX4_renew_11 : decode cX4_renew 11 = .ok (.iconst 0, 1) := by decide +kernel
theorem dX4_renew_12 : decode cX4_renew 12 = .ok (.putfield 31, 3) := by decide +kernel
theorem dX4_renew_15 : decode cX4_renew 15 = .ok (.return_, 1) := by decide +kernel
theorem dX4_become_0 : decode cX4_become 0 = .ok (.aload_n 0, 1) := by decide +kernel
theorem dX4_become_1 : decode cX4_become 1 = .ok (.aload_n 1, 1) := by decide +kernel
theorem dX4_become_2 : decode cX4_become 2 = .ok (.getfield 25, 3) := by decide +kernel
theorem dX4_become_5 : decode cX4_become 5 = .ok (.putfield 25, 3) := by decide +kernel
theorem dX4_become_8 : decode cX4_become 8 = .ok (.aload_n 0, 1) := by decide +kernel
theorem dX4_become_9 : decode cX4_become 9 = .ok (.aload_n 1, 1) := by decide +kernel
theorem dX4_become_10 : decode cX4_become 10 = .ok (.getfield 28, 3) := by decide +kernel
theorem dX4_become_13 : decode cX4_become 13 = .ok (.putfield 28, 3) := by decide +kernel
theorem dX4_become_16 : decode cX4_become 16 = .ok (.aload_n 0, 1) := by decide +kernel
theorem dX4_become_17 : decode cX4_become 17 = .ok (.aload_n 1, 1) := by decide +kernel
theorem dX4_become_18 : decode cX4_become 18 = .ok (.getfield 31, 3) := by decide +kernel
theorem dX4_become_21 : decode cX4_become 21 = .ok (.putfield 31, 3) := by decide +kernel
theorem dX4_become_24 : decode cX4_become 24 = .ok (.return_, 1) := by decide +kernel
theorem dX4_readFault_0 : decode cX4_readFault 0 = .ok (.aload_n 0, 1) := by decide +kernel
theorem dX4_readFault_1 : decode cX4_readFault 1 = .ok (.getfield 25, 3) := by decide +kernel
theorem dX4_readFault_4 : decode cX4_readFault 4 = .ok (.ifCond .ge 7, 3) := by decide +kernel
theorem dX4_readFault_7 : decode cX4_readFault 7 = .ok (.iconst 1, 1) := by decide +kernel
theorem dX4_readFault_8 : decode cX4_readFault 8 = .ok (.goto 19, 3) := by decide +kernel
theorem dX4_readFault_11 : decode cX4_readFault 11 = .ok (.aload_n 0, 1) := by decide +kernel
theorem dX4_readFault_12 : decode cX4_readFault 12 = .ok (.getfield 25, 3) := by decide +kernel
theorem dX4_readFault_15 : decode cX4_readFault 15 = .ok (.aload_n 0, 1) := by decide +kernel
theorem dX4_readFault_16 : decode cX4_readFault 16 = .ok (.getfield 22, 3) := by decide +kernel
theorem dX4_readFault_19 : decode cX4_readFault 19 = .ok (.if_icmp .ge 7, 3) := by decide +kernel
theorem dX4_readFault_22 : decode cX4_readFault 22 = .ok (.iconst 2, 1) := by decide +kernel
theorem dX4_readFault_23 : decode cX4_readFault 23 = .ok (.goto 4, 3) := by decide +kernel
theorem dX4_readFault_26 : decode cX4_readFault 26 = .ok (.iconst 0, 1) := by decide +kernel
theorem dX4_readFault_27 : decode cX4_readFault 27 = .ok (.ireturn, 1) := by decide +kernel
theorem dX4_numberFault_0 : decode cX4_numberFault 0 = .ok (.aload_n 0, 1) := by decide +kernel
theorem dX4_numberFault_1 : decode cX4_numberFault 1 = .ok (.getfield 25, 3) := by decide +kernel
theorem dX4_numberFault_4 : decode cX4_numberFault 4 = .ok (.ifCond .ge 7, 3) := by decide +kernel
theorem dX4_numberFault_7 : decode cX4_numberFault 7 = .ok (.iconst 1, 1) := by decide +kernel
theorem dX4_numberFault_8 : decode cX4_numberFault 8 = .ok (.goto 16, 3) := by decide +kernel
theorem dX4_numberFault_11 : decode cX4_numberFault 11 = .ok (.iload_n 1, 1) := by decide +kernel
theorem dX4_numberFault_12 : decode cX4_numberFault 12 = .ok (.aload_n 0, 1) := by decide +kernel
theorem dX4_numberFault_13 : decode cX4_numberFault 13 = .ok (.getfield 25, 3) := by decide +kernel
theorem dX4_numberFault_16 : decode cX4_numberFault 16 = .ok (.if_icmp .lt 7, 3) := by decide +kernel
theorem dX4_numberFault_19 : decode cX4_numberFault 19 = .ok (.iconst 2, 1) := by decide +kernel
theorem dX4_numberFault_20 : decode cX4_numberFault 20 = .ok (.goto 4, 3) := by decide +kernel
theorem dX4_numberFault_23 : decode cX4_numberFault 23 = .ok (.iconst 0, 1) := by decide +kernel
theorem dX4_numberFault_24 : decode cX4_numberFault 24 = .ok (.ireturn, 1) := by decide +kernel
theorem dX4_number_0 : decode cX4_number 0 = .ok (.iload_n 1, 1) := by decide +kernel
theorem dX4_number_1 : decode cX4_number 1 = .ok (.ifCond .ne 10, 3) := by decide +kernel
theorem dX4_number_4 : decode cX4_number 4 = .ok (.aload_n 0, 1) := by decide +kernel
theorem dX4_number_5 : decode cX4_number 5 = .ok (.getfield 28, 3) := by decide +kernel
theorem dX4_number_8 : decode cX4_number 8 = .ok (.goto 7, 3) := by decide +kernel
theorem dX4_number_11 : decode cX4_number 11 = .ok (.aload_n 0, 1) := by decide +kernel
theorem dX4_number_12 : decode cX4_number 12 = .ok (.getfield 31, 3) := by decide +kernel
theorem dX4_number_15 : decode cX4_number 15 = .ok (.ireturn, 1) := by decide +kernel
theorem dX4_most_0 : decode cX4_most 0 = .ok (.iload_n 1, 1) := by decide +kernel
theorem dX4_most_1 : decode cX4_most 1 = .ok (.ifCond .ne 10, 3) := by decide +kernel
theorem dX4_most_4 : decode cX4_most 4 = .ok (.aload_n 0, 1) := by decide +kernel
theorem dX4_most_5 : decode cX4_most 5 = .ok (.getfield 15, 3) := by decide +kernel
theorem dX4_most_8 : decode cX4_most 8 = .ok (.goto 7, 3) := by decide +kernel
theorem dX4_most_11 : decode cX4_most 11 = .ok (.aload_n 0, 1) := by decide +kernel
theorem dX4_most_12 : decode cX4_most 12 = .ok (.getfield 19, 3) := by decide +kernel
theorem dX4_most_15 : decode cX4_most 15 = .ok (.ireturn, 1) := by decide +kernel
theorem dX4_put_0 : decode cX4_put 0 = .ok (.iload_n 1, 1) := by decide +kernel
theorem dX4_put_1 : decode cX4_put 1 = .ok (.ifCond .ne 11, 3) := by decide +kernel
theorem dX4_put_4 : decode cX4_put 4 = .ok (.aload_n 0, 1) := by decide +kernel
theorem dX4_put_5 : decode cX4_put 5 = .ok (.iload_n 2, 1) := by decide +kernel
theorem dX4_put_6 : decode cX4_put 6 = .ok (.putfield 28, 3) := by decide +kernel
theorem dX4_put_9 : decode cX4_put 9 = .ok (.goto 8, 3) := by decide +kernel
theorem dX4_put_12 : decode cX4_put 12 = .ok (.aload_n 0, 1) := by decide +kernel
theorem dX4_put_13 : decode cX4_put 13 = .ok (.iload_n 2, 1) := by decide +kernel
theorem dX4_put_14 : decode cX4_put 14 = .ok (.putfield 31, 3) := by decide +kernel
theorem dX4_put_17 : decode cX4_put 17 = .ok (.return_, 1) := by decide +kernel
theorem dX4_value_0 : decode cX4_value 0 = .ok (.aload_n 0, 1) := by decide +kernel
theorem dX4_value_1 : decode cX4_value 1 = .ok (.getfield 28, 3) := by decide +kernel
theorem dX4_value_4 : decode cX4_value 4 = .ok (.iconst 5, 1) := by decide +kernel
theorem dX4_value_5 : decode cX4_value 5 = .ok (.aload_n 0, 1) := by decide +kernel
theorem dX4_value_6 : decode cX4_value 6 = .ok (.getfield 31, 3) := by decide +kernel
theorem dX4_value_9 : decode cX4_value 9 = .ok (.imul, 1) := by decide +kernel
theorem dX4_value_10 : decode cX4_value 10 = .ok (.iadd, 1) := by decide +kernel
theorem dX4_value_11 : decode cX4_value 11 = .ok (.ireturn, 1) := by decide +kernel
theorem dX4_writtenUpper_0 : decode cX4_writtenUpper 0 = .ok (.aload_n 0, 1) := by decide +kernel
theorem dX4_writtenUpper_1 : decode cX4_writtenUpper 1 = .ok (.getfield 9, 3) := by decide +kernel
theorem dX4_writtenUpper_4 : decode cX4_writtenUpper 4 = .ok (.ifCond .eq 7, 3) := by decide +kernel
theorem dX4_writtenUpper_7 : decode cX4_writtenUpper 7 = .ok (.iconst 0, 1) := by decide +kernel
theorem dX4_writtenUpper_8 : decode cX4_writtenUpper 8 = .ok (.goto 16, 3) := by decide +kernel
theorem dX4_writtenUpper_11 : decode cX4_writtenUpper 11 = .ok (.iload_n 1, 1) := by decide +kernel
theorem dX4_writtenUpper_12 : decode cX4_writtenUpper 12 = .ok (.bipush 10, 2) := by decide +kernel
theorem dX4_writtenUpper_14 : decode cX4_writtenUpper 14 = .ok (.if_icmp .ge 9, 3) := by decide +kernel
theorem dX4_writtenUpper_17 : decode cX4_writtenUpper 17 = .ok (.iload_n 1, 1) := by decide +kernel
theorem dX4_writtenUpper_18 : decode cX4_writtenUpper 18 = .ok (.iconst 5, 1) := by decide +kernel
theorem dX4_writtenUpper_19 : decode cX4_writtenUpper 19 = .ok (.idiv, 1) := by decide +kernel
theorem dX4_writtenUpper_20 : decode cX4_writtenUpper 20 = .ok (.goto 4, 3) := by decide +kernel
theorem dX4_writtenUpper_23 : decode cX4_writtenUpper 23 = .ok (.iconst 2, 1) := by decide +kernel
theorem dX4_writtenUpper_24 : decode cX4_writtenUpper 24 = .ok (.ireturn, 1) := by decide +kernel
theorem dX4_write_0 : decode cX4_write 0 = .ok (.aload_n 0, 1) := by decide +kernel
theorem dX4_write_1 : decode cX4_write 1 = .ok (.aload_n 0, 1) := by decide +kernel
theorem dX4_write_2 : decode cX4_write 2 = .ok (.iload_n 1, 1) := by decide +kernel
theorem dX4_write_3 : decode cX4_write 3 = .ok (.invokevirtual 34, 3) := by decide +kernel
theorem dX4_write_6 : decode cX4_write 6 = .ok (.putfield 31, 3) := by decide +kernel
theorem dX4_write_9 : decode cX4_write 9 = .ok (.aload_n 0, 1) := by decide +kernel
theorem dX4_write_10 : decode cX4_write 10 = .ok (.iload_n 1, 1) := by decide +kernel
theorem dX4_write_11 : decode cX4_write 11 = .ok (.iconst 5, 1) := by decide +kernel
theorem dX4_write_12 : decode cX4_write 12 = .ok (.aload_n 0, 1) := by decide +kernel
theorem dX4_write_13 : decode cX4_write 13 = .ok (.getfield 31, 3) := by decide +kernel
theorem dX4_write_16 : decode cX4_write 16 = .ok (.imul, 1) := by decide +kernel
theorem dX4_write_17 : decode cX4_write 17 = .ok (.isub, 1) := by decide +kernel
theorem dX4_write_18 : decode cX4_write 18 = .ok (.putfield 28, 3) := by decide +kernel
theorem dX4_write_21 : decode cX4_write 21 = .ok (.return_, 1) := by decide +kernel
theorem dX4_isProper_0 : decode cX4_isProper 0 = .ok (.aload_n 0, 1) := by decide +kernel
theorem dX4_isProper_1 : decode cX4_isProper 1 = .ok (.invokevirtual 38, 3) := by decide +kernel
theorem dX4_isProper_4 : decode cX4_isProper 4 = .ok (.istore_n 2, 1) := by decide +kernel
theorem dX4_isProper_5 : decode cX4_isProper 5 = .ok (.iload_n 2, 1) := by decide +kernel
theorem dX4_isProper_6 : decode cX4_isProper 6 = .ok (.iload_n 1, 1) := by decide +kernel
theorem dX4_isProper_7 : decode cX4_isProper 7 = .ok (.if_icmp .ge 19, 3) := by decide +kernel
theorem dX4_isProper_10 : decode cX4_isProper 10 = .ok (.aload_n 0, 1) := by decide +kernel
theorem dX4_isProper_11 : decode cX4_isProper 11 = .ok (.getfield 31, 3) := by decide +kernel
theorem dX4_isProper_14 : decode cX4_isProper 14 = .ok (.aload_n 0, 1) := by decide +kernel
theorem dX4_isProper_15 : decode cX4_isProper 15 = .ok (.iload_n 2, 1) := by decide +kernel
theorem dX4_isProper_16 : decode cX4_isProper 16 = .ok (.invokevirtual 34, 3) := by decide +kernel
theorem dX4_isProper_19 : decode cX4_isProper 19 = .ok (.if_icmp .ne 7, 3) := by decide +kernel
theorem dX4_isProper_22 : decode cX4_isProper 22 = .ok (.iconst 1, 1) := by decide +kernel
theorem dX4_isProper_23 : decode cX4_isProper 23 = .ok (.goto 4, 3) := by decide +kernel
theorem dX4_isProper_26 : decode cX4_isProper 26 = .ok (.iconst 0, 1) := by decide +kernel
theorem dX4_isProper_27 : decode cX4_isProper 27 = .ok (.ireturn, 1) := by decide +kernel
theorem dX4_digestOn_0 : decode cX4_digestOn 0 = .ok (.ldc2_w 42, 3) := by decide +kernel
theorem dX4_digestOn_3 : decode cX4_digestOn 3 = .ok (.lload_n 1, 1) := by decide +kernel
theorem dX4_digestOn_4 : decode cX4_digestOn 4 = .ok (.lmul, 1) := by decide +kernel
theorem dX4_digestOn_5 : decode cX4_digestOn 5 = .ok (.aload_n 0, 1) := by decide +kernel
theorem dX4_digestOn_6 : decode cX4_digestOn 6 = .ok (.getfield 25, 3) := by decide +kernel
theorem dX4_digestOn_9 : decode cX4_digestOn 9 = .ok (.ifCond .ge 7, 3) := by decide +kernel
theorem dX4_digestOn_12 : decode cX4_digestOn 12 = .ok (.iconst 0, 1) := by decide +kernel
theorem dX4_digestOn_13 : decode cX4_digestOn 13 = .ok (.goto 9, 3) := by decide +kernel
theorem dX4_digestOn_16 : decode cX4_digestOn 16 = .ok (.iconst 1, 1) := by decide +kernel
theorem dX4_digestOn_17 : decode cX4_digestOn 17 = .ok (.aload_n 0, 1) := by decide +kernel
theorem dX4_digestOn_18 : decode cX4_digestOn 18 = .ok (.getfield 25, 3) := by decide +kernel
theorem dX4_digestOn_21 : decode cX4_digestOn 21 = .ok (.iadd, 1) := by decide +kernel
theorem dX4_digestOn_22 : decode cX4_digestOn 22 = .ok (.i2l, 1) := by decide +kernel
theorem dX4_digestOn_23 : decode cX4_digestOn 23 = .ok (.ladd, 1) := by decide +kernel
theorem dX4_digestOn_24 : decode cX4_digestOn 24 = .ok (.lstore_n 3, 1) := by decide +kernel
theorem dX4_digestOn_25 : decode cX4_digestOn 25 = .ok (.aload_n 0, 1) := by decide +kernel
theorem dX4_digestOn_26 : decode cX4_digestOn 26 = .ok (.getfield 25, 3) := by decide +kernel
theorem dX4_digestOn_29 : decode cX4_digestOn 29 = .ok (.ifCond .le 15, 3) := by decide +kernel
theorem dX4_digestOn_32 : decode cX4_digestOn 32 = .ok (.ldc2_w 42, 3) := by decide +kernel
theorem dX4_digestOn_35 : decode cX4_digestOn 35 = .ok (.lload_n 3, 1) := by decide +kernel
theorem dX4_digestOn_36 : decode cX4_digestOn 36 = .ok (.lmul, 1) := by decide +kernel
theorem dX4_digestOn_37 : decode cX4_digestOn 37 = .ok (.aload_n 0, 1) := by decide +kernel
theorem dX4_digestOn_38 : decode cX4_digestOn 38 = .ok (.getfield 28, 3) := by decide +kernel
theorem dX4_digestOn_41 : decode cX4_digestOn 41 = .ok (.i2l, 1) := by decide +kernel
theorem dX4_digestOn_42 : decode cX4_digestOn 42 = .ok (.ladd, 1) := by decide +kernel
theorem dX4_digestOn_43 : decode cX4_digestOn 43 = .ok (.lstore_n 3, 1) := by decide +kernel
theorem dX4_digestOn_44 : decode cX4_digestOn 44 = .ok (.aload_n 0, 1) := by decide +kernel
theorem dX4_digestOn_45 : decode cX4_digestOn 45 = .ok (.getfield 25, 3) := by decide +kernel
theorem dX4_digestOn_48 : decode cX4_digestOn 48 = .ok (.iconst 1, 1) := by decide +kernel
theorem dX4_digestOn_49 : decode cX4_digestOn 49 = .ok (.if_icmp .le 17, 3) := by decide +kernel
theorem dX4_digestOn_52 : decode cX4_digestOn 52 = .ok (.ldc2_w 42, 3) := by decide +kernel
theorem dX4_digestOn_55 : decode cX4_digestOn 55 = .ok (.lload_n 3, 1) := by decide +kernel
theorem dX4_digestOn_56 : decode cX4_digestOn 56 = .ok (.lmul, 1) := by decide +kernel
theorem dX4_digestOn_57 : decode cX4_digestOn 57 = .ok (.aload_n 0, 1) := by decide +kernel
theorem dX4_digestOn_58 : decode cX4_digestOn 58 = .ok (.getfield 31, 3) := by decide +kernel
theorem dX4_digestOn_61 : decode cX4_digestOn 61 = .ok (.i2l, 1) := by decide +kernel
theorem dX4_digestOn_62 : decode cX4_digestOn 62 = .ok (.ladd, 1) := by decide +kernel
theorem dX4_digestOn_63 : decode cX4_digestOn 63 = .ok (.goto 4, 3) := by decide +kernel
theorem dX4_digestOn_66 : decode cX4_digestOn 66 = .ok (.lload_n 3, 1) := by decide +kernel
theorem dX4_digestOn_67 : decode cX4_digestOn 67 = .ok (.lreturn, 1) := by decide +kernel
theorem dX5_init_0 : decode cX5_init 0 = .ok (.aload_n 0, 1) := by decide +kernel
theorem dX5_init_1 : decode cX5_init 1 = .ok (.invokespecial 3, 3) := by decide +kernel
theorem dX5_init_4 : decode cX5_init 4 = .ok (.aload_n 0, 1) := by decide +kernel
theorem dX5_init_5 : decode cX5_init 5 = .ok (.bipush 30, 2) := by decide +kernel
theorem dX5_init_7 : decode cX5_init 7 = .ok (.anewarray 11, 3) := by decide +kernel
theorem dX5_init_10 : decode cX5_init 10 = .ok (.putfield 13, 3) := by decide +kernel
theorem dX5_init_13 : decode cX5_init 13 = .ok (.aload_n 0, 1) := by decide +kernel
theorem dX5_init_14 : decode cX5_init 14 = .ok (.sipush 200, 3) := by decide +kernel
theorem dX5_init_17 : decode cX5_init 17 = .ok (.anewarray 17, 3) := by decide +kernel
theorem dX5_init_20 : decode cX5_init 20 = .ok (.putfield 19, 3) := by decide +kernel
theorem dX5_init_23 : decode cX5_init 23 = .ok (.aload_n 0, 1) := by decide +kernel
theorem dX5_init_24 : decode cX5_init 24 = .ok (.new 23, 3) := by decide +kernel
theorem dX5_init_27 : decode cX5_init 27 = .ok (.dup, 1) := by decide +kernel
theorem dX5_init_28 : decode cX5_init 28 = .ok (.invokespecial 25, 3) := by decide +kernel
theorem dX5_init_31 : decode cX5_init 31 = .ok (.putfield 26, 3) := by decide +kernel
theorem dX5_init_34 : decode cX5_init 34 = .ok (.aload_n 0, 1) := by decide +kernel
theorem dX5_init_35 : decode cX5_init 35 = .ok (.bipush 64, 2) := by decide +kernel
theorem dX5_init_37 : decode cX5_init 37 = .ok (.newarray .int, 2) := by decide +kernel
theorem dX5_init_39 : decode cX5_init 39 = .ok (.putfield 30, 3) := by decide +kernel
theorem dX5_init_42 : decode cX5_init 42 = .ok (.return_, 1) := by decide +kernel
theorem dX5_frame_0 : decode cX5_frame 0 = .ok (.iload_n 1, 1) := by decide +kernel
theorem dX5_frame_1 : decode cX5_frame 1 = .ok (.ifCond .lt 19, 3) := by decide +kernel
theorem dX5_frame_4 : decode cX5_frame 4 = .ok (.iload_n 1, 1) := by decide +kernel
theorem dX5_frame_5 : decode cX5_frame 5 = .ok (.iconst 3, 1) := by decide +kernel
theorem dX5_frame_6 : decode cX5_frame 6 = .ok (.if_icmp .gt 14, 3) := by decide +kernel
theorem dX5_frame_9 : decode cX5_frame 9 = .ok (.iload_n 2, 1) := by decide +kernel
theorem dX5_frame_10 : decode cX5_frame 10 = .ok (.iload_n 1, 1) := by decide +kernel
theorem dX5_frame_11 : decode cX5_frame 11 = .ok (.invokestatic 34, 3) := by decide +kernel
theorem dX5_frame_14 : decode cX5_frame 14 = .ok (.invokestatic 38, 3) := by decide +kernel
theorem dX5_frame_17 : decode cX5_frame 17 = .ok (.if_icmp .le 6, 3) := by decide +kernel
theorem dX5_frame_20 : decode cX5_frame 20 = .ok (.bipush (-2), 2) := by decide +kernel
theorem dX5_frame_22 : decode cX5_frame 22 = .ok (.ireturn, 1) := by decide +kernel
theorem dX5_frame_23 : decode cX5_frame 23 = .ok (.aload_n 0, 1) := by decide +kernel
theorem dX5_frame_24 : decode cX5_frame 24 = .ok (.getfield 41, 3) := by decide +kernel
theorem dX5_frame_27 : decode cX5_frame 27 = .ok (.bipush 30, 2) := by decide +kernel
theorem dX5_frame_29 : decode cX5_frame 29 = .ok (.if_icmp .lt 6, 3) := by decide +kernel
theorem dX5_frame_32 : decode cX5_frame 32 = .ok (.bipush (-4), 2) := by decide +kernel
theorem dX5_frame_34 : decode cX5_frame 34 = .ok (.ireturn, 1) := by decide +kernel
theorem dX5_frame_35 : decode cX5_frame 35 = .ok (.iload_n 2, 1) := by decide +kernel
theorem dX5_frame_36 : decode cX5_frame 36 = .ok (.ifCond .ge 9, 3) := by decide +kernel
theorem dX5_frame_39 : decode cX5_frame 39 = .ok (.aload_n 0, 1) := by decide +kernel
theorem dX5_frame_40 : decode cX5_frame 40 = .ok (.iconst 4, 1) := by decide +kernel
theorem dX5_frame_41 : decode cX5_frame 41 = .ok (.invokevirtual 45, 3) := by decide +kernel
theorem dX5_frame_44 : decode cX5_frame 44 = .ok (.ireturn, 1) := by decide +kernel
theorem dX5_frame_45 : decode cX5_frame 45 = .ok (.aload_n 0, 1) := by decide +kernel
theorem dX5_frame_46 : decode cX5_frame 46 = .ok (.getfield 13, 3) := by decide +kernel
theorem dX5_frame_49 : decode cX5_frame 49 = .ok (.aload_n 0, 1) := by decide +kernel
theorem dX5_frame_50 : decode cX5_frame 50 = .ok (.getfield 41, 3) := by decide +kernel
theorem dX5_frame_53 : decode cX5_frame 53 = .ok (.new 11, 3) := by decide +kernel
theorem dX5_frame_56 : decode cX5_frame 56 = .ok (.dup, 1) := by decide +kernel
theorem dX5_frame_57 : decode cX5_frame 57 = .ok (.aload_n 0, 1) := by decide +kernel
theorem dX5_frame_58 : decode cX5_frame 58 = .ok (.getfield 41, 3) := by decide +kernel
theorem dX5_frame_61 : decode cX5_frame 61 = .ok (.iload_n 1, 1) := by decide +kernel
theorem dX5_frame_62 : decode cX5_frame 62 = .ok (.iload_n 2, 1) := by decide +kernel
theorem dX5_frame_63 : decode cX5_frame 63 = .ok (.invokespecial 48, 3) := by decide +kernel
theorem dX5_frame_66 : decode cX5_frame 66 = .ok (.aastore, 1) := by decide +kernel
theorem dX5_frame_67 : decode cX5_frame 67 = .ok (.aload_n 0, 1) := by decide +kernel
theorem dX5_frame_68 : decode cX5_frame 68 = .ok (.dup, 1) := by decide +kernel
theorem dX5_frame_69 : decode cX5_frame 69 = .ok (.getfield 41, 3) := by decide +kernel
theorem dX5_frame_72 : decode cX5_frame 72 = .ok (.iconst 1, 1) := by decide +kernel
theorem dX5_frame_73 : decode cX5_frame 73 = .ok (.iadd, 1) := by decide +kernel
theorem dX5_frame_74 : decode cX5_frame 74 = .ok (.putfield 41, 3) := by decide +kernel
theorem dX5_frame_77 : decode cX5_frame 77 = .ok (.aload_n 0, 1) := by decide +kernel
theorem dX5_frame_78 : decode cX5_frame 78 = .ok (.getfield 41, 3) := by decide +kernel
theorem dX5_frame_81 : decode cX5_frame 81 = .ok (.iconst 1, 1) := by decide +kernel
theorem dX5_frame_82 : decode cX5_frame 82 = .ok (.isub, 1) := by decide +kernel
theorem dX5_frame_83 : decode cX5_frame 83 = .ok (.ireturn, 1) := by decide +kernel
theorem dX5_both_0 : decode cX5_both 0 = .ok (.aload_n 0, 1) := by decide +kernel
theorem dX5_both_1 : decode cX5_both 1 = .ok (.iload_n 1, 1) := by decide +kernel
theorem dX5_both_2 : decode cX5_both 2 = .ok (.invokevirtual 51, 3) := by decide +kernel
theorem dX5_both_5 : decode cX5_both 5 = .ok (.astore_n 3, 1) := by decide +kernel
theorem dX5_both_6 : decode cX5_both 6 = .ok (.aload_n 0, 1) := by decide +kernel
theorem dX5_both_7 : decode cX5_both 7 = .ok (.iload_n 2, 1) := by decide +kernel
theorem dX5_both_8 : decode cX5_both 8 = .ok (.invokevirtual 51, 3) := by decide +kernel
theorem dX5_both_11 : decode cX5_both 11 = .ok (.astore 4, 2) := by decide +kernel
theorem dX5_both_13 : decode cX5_both 13 = .ok (.aload_n 3, 1) := by decide +kernel
theorem dX5_both_14 : decode cX5_both 14 = .ok (.ifnull 8, 3) := by decide +kernel
theorem dX5_both_17 : decode cX5_both 17 = .ok (.aload 4, 2) := by decide +kernel
theorem dX5_both_19 : decode cX5_both 19 = .ok (.ifnonnull 5, 3) := by decide +kernel
theorem dX5_both_22 : decode cX5_both 22 = .ok (.iconst (-1), 1) := by decide +kernel
theorem dX5_both_23 : decode cX5_both 23 = .ok (.ireturn, 1) := by decide +kernel
theorem dX5_both_24 : decode cX5_both 24 = .ok (.aload_n 3, 1) := by decide +kernel
theorem dX5_both_25 : decode cX5_both 25 = .ok (.getfield 55, 3) := by decide +kernel
theorem dX5_both_28 : decode cX5_both 28 = .ok (.aload 4, 2) := by decide +kernel
theorem dX5_both_30 : decode cX5_both 30 = .ok (.getfield 55, 3) := by decide +kernel
theorem dX5_both_33 : decode cX5_both 33 = .ok (.if_icmp .ne 54, 3) := by decide +kernel
theorem dX5_both_36 : decode cX5_both 36 = .ok (.aload_n 3, 1) := by decide +kernel
theorem dX5_both_37 : decode cX5_both 37 = .ok (.getfield 58, 3) := by decide +kernel
theorem dX5_both_40 : decode cX5_both 40 = .ok (.aload 4, 2) := by decide +kernel
theorem dX5_both_42 : decode cX5_both 42 = .ok (.getfield 58, 3) := by decide +kernel
theorem dX5_both_45 : decode cX5_both 45 = .ok (.iand, 1) := by decide +kernel
theorem dX5_both_46 : decode cX5_both 46 = .ok (.ifCond .ne 41, 3) := by decide +kernel
theorem dX5_both_49 : decode cX5_both 49 = .ok (.aload_n 3, 1) := by decide +kernel
theorem dX5_both_50 : decode cX5_both 50 = .ok (.getfield 61, 3) := by decide +kernel
theorem dX5_both_53 : decode cX5_both 53 = .ok (.arraylength, 1) := by decide +kernel
theorem dX5_both_54 : decode cX5_both 54 = .ok (.aload 4, 2) := by decide +kernel
theorem dX5_both_56 : decode cX5_both 56 = .ok (.getfield 61, 3) := by decide +kernel
theorem dX5_both_59 : decode cX5_both 59 = .ok (.arraylength, 1) := by decide +kernel
theorem dX5_both_60 : decode cX5_both 60 = .ok (.iadd, 1) := by decide +kernel
theorem dX5_both_61 : decode cX5_both 61 = .ok (.aload_n 3, 1) := by decide +kernel
theorem dX5_both_62 : decode cX5_both 62 = .ok (.getfield 55, 3) := by decide +kernel
theorem dX5_both_65 : decode cX5_both 65 = .ok (.invokestatic 38, 3) := by decide +kernel
theorem dX5_both_68 : decode cX5_both 68 = .ok (.if_icmp .gt 19, 3) := by decide +kernel
theorem dX5_both_71 : decode cX5_both 71 = .ok (.aload_n 3, 1) := by decide +kernel
theorem dX5_both_72 : decode cX5_both 72 = .ok (.getfield 65, 3) := by decide +kernel
theorem dX5_both_75 : decode cX5_both 75 = .ok (.aload 4, 2) := by decide +kernel
theorem dX5_both_77 : decode cX5_both 77 = .ok (.getfield 65, 3) := by decide +kernel
theorem dX5_both_80 : decode cX5_both 80 = .ok (.invokestatic 68, 3) := by decide +kernel
theorem dX5_both_83 : decode cX5_both 83 = .ok (.iconst 5, 1) := by decide +kernel
theorem dX5_both_84 : decode cX5_both 84 = .ok (.if_icmp .lt 6, 3) := by decide +kernel
theorem dX5_both_87 : decode cX5_both 87 = .ok (.bipush (-3), 2) := by decide +kernel
theorem dX5_both_89 : decode cX5_both 89 = .ok (.ireturn, 1) := by decide +kernel
theorem dX5_both_90 : decode cX5_both 90 = .ok (.aload_n 0, 1) := by decide +kernel
theorem dX5_both_91 : decode cX5_both 91 = .ok (.getfield 41, 3) := by decide +kernel
theorem dX5_both_94 : decode cX5_both 94 = .ok (.bipush 30, 2) := by decide +kernel
theorem dX5_both_96 : decode cX5_both 96 = .ok (.if_icmp .lt 6, 3) := by decide +kernel
theorem dX5_both_99 : decode cX5_both 99 = .ok (.bipush (-4), 2) := by decide +kernel
theorem dX5_both_101 : decode cX5_both 101 = .ok (.ireturn, 1) := by decide +kernel
theorem dX5_both_102 : decode cX5_both 102 = .ok (.aload_n 0, 1) := by decide +kernel
theorem dX5_both_103 : decode cX5_both 103 = .ok (.getfield 13, 3) := by decide +kernel
theorem dX5_both_106 : decode cX5_both 106 = .ok (.aload_n 0, 1) := by decide +kernel
theorem dX5_both_107 : decode cX5_both 107 = .ok (.getfield 41, 3) := by decide +kernel
theorem dX5_both_110 : decode cX5_both 110 = .ok (.new 11, 3) := by decide +kernel
theorem dX5_both_113 : decode cX5_both 113 = .ok (.dup, 1) := by decide +kernel
theorem dX5_both_114 : decode cX5_both 114 = .ok (.aload_n 0, 1) := by decide +kernel
theorem dX5_both_115 : decode cX5_both 115 = .ok (.getfield 41, 3) := by decide +kernel
theorem dX5_both_118 : decode cX5_both 118 = .ok (.aload_n 3, 1) := by decide +kernel
theorem dX5_both_119 : decode cX5_both 119 = .ok (.aload 4, 2) := by decide +kernel
theorem dX5_both_121 : decode cX5_both 121 = .ok (.invokespecial 74, 3) := by decide +kernel
theorem dX5_both_124 : decode cX5_both 124 = .ok (.aastore, 1) := by decide +kernel
theorem dX5_both_125 : decode cX5_both 125 = .ok (.aload_n 0, 1) := by decide +kernel
theorem dX5_both_126 : decode cX5_both 126 = .ok (.dup, 1) := by decide +kernel
theorem dX5_both_127 : decode cX5_both 127 = .ok (.getfield 41, 3) := by decide +kernel
theorem dX5_both_130 : decode cX5_both 130 = .ok (.iconst 1, 1) := by decide +kernel
theorem dX5_both_131 : decode cX5_both 131 = .ok (.iadd, 1) := by decide +kernel
theorem dX5_both_132 : decode cX5_both 132 = .ok (.putfield 41, 3) := by decide +kernel
theorem dX5_both_135 : decode cX5_both 135 = .ok (.aload_n 0, 1) := by decide +kernel
theorem dX5_both_136 : decode cX5_both 136 = .ok (.getfield 41, 3) := by decide +kernel
theorem dX5_both_139 : decode cX5_both 139 = .ok (.iconst 1, 1) := by decide +kernel
theorem dX5_both_140 : decode cX5_both 140 = .ok (.isub, 1) := by decide +kernel
theorem dX5_both_141 : decode cX5_both 141 = .ok (.ireturn, 1) := by decide +kernel
theorem dX5_rod_0 : decode cX5_rod 0 = .ok (.aload_n 0, 1) := by decide +kernel
theorem dX5_rod_1 : decode cX5_rod 1 = .ok (.iload_n 1, 1) := by decide +kernel
theorem dX5_rod_2 : decode cX5_rod 2 = .ok (.invokevirtual 51, 3) := by decide +kernel
theorem dX5_rod_5 : decode cX5_rod 5 = .ok (.astore 4, 2) := by decide +kernel
theorem dX5_rod_7 : decode cX5_rod 7 = .ok (.aload 4, 2) := by decide +kernel
theorem dX5_rod_9 : decode cX5_rod 9 = .ok (.ifnonnull 5, 3) := by decide +kernel
theorem dX5_rod_12 : decode cX5_rod 12 = .ok (.iconst (-1), 1) := by decide +kernel
theorem dX5_rod_13 : decode cX5_rod 13 = .ok (.ireturn, 1) := by decide +kernel
theorem dX5_rod_14 : decode cX5_rod 14 = .ok (.iload_n 3, 1) := by decide +kernel
theorem dX5_rod_15 : decode cX5_rod 15 = .ok (.iconst (-1), 1) := by decide +kernel
theorem dX5_rod_16 : decode cX5_rod 16 = .ok (.if_icmp .lt 21, 3) := by decide +kernel
theorem dX5_rod_19 : decode cX5_rod 19 = .ok (.iload_n 3, 1) := by decide +kernel
theorem dX5_rod_20 : decode cX5_rod 20 = .ok (.aload 4, 2) := by decide +kernel
theorem dX5_rod_22 : decode cX5_rod 22 = .ok (.getfield 77, 3) := by decide +kernel
theorem dX5_rod_25 : decode cX5_rod 25 = .ok (.iconst 2, 1) := by decide +kernel
theorem dX5_rod_26 : decode cX5_rod 26 = .ok (.if_icmp .ne 7, 3) := by decide +kernel
theorem dX5_rod_29 : decode cX5_rod 29 = .ok (.iconst 1, 1) := by decide +kernel
theorem dX5_rod_30 : decode cX5_rod 30 = .ok (.goto 4, 3) := by decide +kernel
theorem dX5_rod_33 : decode cX5_rod 33 = .ok (.iconst 2, 1) := by decide +kernel
theorem dX5_rod_34 : decode cX5_rod 34 = .ok (.if_icmp .le 6, 3) := by decide +kernel
theorem dX5_rod_37 : decode cX5_rod 37 = .ok (.bipush (-2), 2) := by decide +kernel
theorem dX5_rod_39 : decode cX5_rod 39 = .ok (.ireturn, 1) := by decide +kernel
theorem dX5_rod_40 : decode cX5_rod 40 = .ok (.aload 4, 2) := by decide +kernel
theorem dX5_rod_42 : decode cX5_rod 42 = .ok (.getfield 77, 3) := by decide +kernel
theorem dX5_rod_45 : decode cX5_rod 45 = .ok (.iconst 4, 1) := by decide +kernel
theorem dX5_rod_46 : decode cX5_rod 46 = .ok (.if_icmp .ne 9, 3) := by decide +kernel
theorem dX5_rod_49 : decode cX5_rod 49 = .ok (.aload_n 0, 1) := by decide +kernel
theorem dX5_rod_50 : decode cX5_rod 50 = .ok (.iconst 3, 1) := by decide +kernel
theorem dX5_rod_51 : decode cX5_rod 51 = .ok (.invokevirtual 45, 3) := by decide +kernel
theorem dX5_rod_54 : decode cX5_rod 54 = .ok (.ireturn, 1) := by decide +kernel
theorem dX5_rod_55 : decode cX5_rod 55 = .ok (.aload 4, 2) := by decide +kernel
theorem dX5_rod_57 : decode cX5_rod 57 = .ok (.iload_n 2, 1) := by decide +kernel
theorem dX5_rod_58 : decode cX5_rod 58 = .ok (.invokevirtual 80, 3) := by decide +kernel
theorem dX5_rod_61 : decode cX5_rod 61 = .ok (.ifCond .ne 9, 3) := by decide +kernel
theorem dX5_rod_64 : decode cX5_rod 64 = .ok (.aload_n 0, 1) := by decide +kernel
theorem dX5_rod_65 : decode cX5_rod 65 = .ok (.iconst 2, 1) := by decide +kernel
theorem dX5_rod_66 : decode cX5_rod 66 = .ok (.invokevirtual 45, 3) := by decide +kernel
theorem dX5_rod_69 : decode cX5_rod 69 = .ok (.ireturn, 1) := by decide +kernel
theorem dX5_rod_70 : decode cX5_rod 70 = .ok (.aload 4, 2) := by decide +kernel
theorem dX5_rod_72 : decode cX5_rod 72 = .ok (.getfield 61, 3) := by decide +kernel
theorem dX5_rod_75 : decode cX5_rod 75 = .ok (.iload_n 2, 1) := by decide +kernel
theorem dX5_rod_76 : decode cX5_rod 76 = .ok (.aaload, 1) := by decide +kernel
theorem dX5_rod_77 : decode cX5_rod 77 = .ok (.iload_n 3, 1) := by decide +kernel
theorem dX5_rod_78 : decode cX5_rod 78 = .ok (.invokevirtual 84, 3) := by decide +kernel
theorem dX5_rod_81 : decode cX5_rod 81 = .ok (.aload_n 0, 1) := by decide +kernel
theorem dX5_rod_82 : decode cX5_rod 82 = .ok (.getfield 26, 3) := by decide +kernel
theorem dX5_rod_85 : decode cX5_rod 85 = .ok (.iconst 1, 1) := by decide +kernel
theorem dX5_rod_86 : decode cX5_rod 86 = .ok (.putfield 90, 3) := by decide +kernel
theorem dX5_rod_89 : decode cX5_rod 89 = .ok (.iconst 1, 1) := by decide +kernel
theorem dX5_rod_90 : decode cX5_rod 90 = .ok (.ireturn, 1) := by decide +kernel
theorem dX5_push_0 : decode cX5_push 0 = .ok (.aload_n 0, 1) := by decide +kernel
theorem dX5_push_1 : decode cX5_push 1 = .ok (.iload_n 1, 1) := by decide +kernel
theorem dX5_push_2 : decode cX5_push 2 = .ok (.invokevirtual 51, 3) := by decide +kernel
theorem dX5_push_5 : decode cX5_push 5 = .ok (.astore 5, 2) := by decide +kernel
theorem dX5_push_7 : decode cX5_push 7 = .ok (.aload 5, 2) := by decide +kernel
theorem dX5_push_9 : decode cX5_push 9 = .ok (.ifnonnull 5, 3) := by decide +kernel
theorem dX5_push_12 : decode cX5_push 12 = .ok (.iconst (-1), 1) := by decide +kernel
theorem dX5_push_13 : decode cX5_push 13 = .ok (.ireturn, 1) := by decide +kernel
theorem dX5_push_14 : decode cX5_push 14 = .ok (.iload_n 3, 1) := by decide +kernel
theorem dX5_push_15 : decode cX5_push 15 = .ok (.ifCond .lt 8, 3) := by decide +kernel
theorem dX5_push_18 : decode cX5_push 18 = .ok (.iload_n 3, 1) := by decide +kernel
theorem dX5_push_19 : decode cX5_push 19 = .ok (.iconst 1, 1) := by decide +kernel
theorem dX5_push_20 : decode cX5_push 20 = .ok (.if_icmp .le 6, 3) := by decide +kernel
theorem dX5_push_23 : decode cX5_push 23 = .ok (.bipush (-2), 2) := by decide +kernel
theorem dX5_push_25 : decode cX5_push 25 = .ok (.ireturn, 1) := by decide +kernel
theorem dX5_push_26 : decode cX5_push 26 = .ok (.aload 5, 2) := by decide +kernel
theorem dX5_push_28 : decode cX5_push 28 = .ok (.iload_n 2, 1) := by decide +kernel
theorem dX5_push_29 : decode cX5_push 29 = .ok (.iload_n 3, 1) := by decide +kernel
theorem dX5_push_30 : decode cX5_push 30 = .ok (.invokevirtual 94, 3) := by decide +kernel
theorem dX5_push_33 : decode cX5_push 33 = .ok (.istore 6, 2) := by decide +kernel
theorem dX5_push_35 : decode cX5_push 35 = .ok (.iload 6, 2) := by decide +kernel
theorem dX5_push_37 : decode cX5_push 37 = .ok (.ifCond .eq 10, 3) := by decide +kernel
theorem dX5_push_40 : decode cX5_push 40 = .ok (.aload_n 0, 1) := by decide +kernel
theorem dX5_push_41 : decode cX5_push 41 = .ok (.iload 6, 2) := by decide +kernel
theorem dX5_push_43 : decode cX5_push 43 = .ok (.invokevirtual 45, 3) := by decide +kernel
theorem dX5_push_46 : decode cX5_push 46 = .ok (.ireturn, 1) := by decide +kernel
theorem dX5_push_47 : decode cX5_push 47 = .ok (.aload 5, 2) := by decide +kernel
theorem dX5_push_49 : decode cX5_push 49 = .ok (.getfield 61, 3) := by decide +kernel
theorem dX5_push_52 : decode cX5_push 52 = .ok (.iload_n 2, 1) := by decide +kernel
theorem dX5_push_53 : decode cX5_push 53 = .ok (.aaload, 1) := by decide +kernel
theorem dX5_push_54 : decode cX5_push 54 = .ok (.astore 7, 2) := by decide +kernel
theorem dX5_push_56 : decode cX5_push 56 = .ok (.aload 7, 2) := by decide +kernel
theorem dX5_push_58 : decode cX5_push 58 = .ok (.iload_n 3, 1) := by decide +kernel
theorem dX5_push_59 : decode cX5_push 59 = .ok (.invokevirtual 97, 3) := by decide +kernel
theorem dX5_push_62 : decode cX5_push 62 = .ok (.i2l, 1) := by decide +kernel
theorem dX5_push_63 : decode cX5_push 63 = .ok (.iload 4, 2) := by decide +kernel
theorem dX5_push_65 : decode cX5_push 65 = .ok (.i2l, 1) := by decide +kernel
theorem dX5_push_66 : decode cX5_push 66 = .ok (.ladd, 1) := by decide +kernel
theorem dX5_push_67 : decode cX5_push 67 = .ok (.lstore 8, 2) := by decide +kernel
theorem dX5_push_69 : decode cX5_push 69 = .ok (.lload 8, 2) := by decide +kernel
theorem dX5_push_71 : decode cX5_push 71 = .ok (.lconst 0, 1) := by decide +kernel
theorem dX5_push_72 : decode cX5_push 72 = .ok (.lcmp, 1) := by decide +kernel
theorem dX5_push_73 : decode cX5_push 73 = .ok (.ifCond .lt 16, 3) := by decide +kernel
theorem dX5_push_76 : decode cX5_push 76 = .ok (.lload 8, 2) := by decide +kernel
theorem dX5_push_78 : decode cX5_push 78 = .ok (.aload 7, 2) := by decide +kernel
theorem dX5_push_80 : decode cX5_push 80 = .ok (.iload_n 3, 1) := by decide +kernel
theorem dX5_push_81 : decode cX5_push 81 = .ok (.invokevirtual 100, 3) := by decide +kernel
theorem dX5_push_84 : decode cX5_push 84 = .ok (.i2l, 1) := by decide +kernel
theorem dX5_push_85 : decode cX5_push 85 = .ok (.lcmp, 1) := by decide +kernel
theorem dX5_push_86 : decode cX5_push 86 = .ok (.ifCond .le 6, 3) := by decide +kernel
theorem dX5_push_89 : decode cX5_push 89 = .ok (.bipush (-3), 2) := by decide +kernel
theorem dX5_push_91 : decode cX5_push 91 = .ok (.ireturn, 1) := by decide +kernel
theorem dX5_push_92 : decode cX5_push 92 = .ok (.aload 7, 2) := by decide +kernel
theorem dX5_push_94 : decode cX5_push 94 = .ok (.iload_n 3, 1) := by decide +kernel
theorem dX5_push_95 : decode cX5_push 95 = .ok (.lload 8, 2) := by decide +kernel
theorem dX5_push_97 : decode cX5_push 97 = .ok (.l2i, 1) := by decide +kernel
theorem dX5_push_98 : decode cX5_push 98 = .ok (.invokevirtual 103, 3) := by decide +kernel
theorem dX5_push_101 : decode cX5_push 101 = .ok (.aload_n 0, 1) := by decide +kernel
theorem dX5_push_102 : decode cX5_push 102 = .ok (.getfield 26, 3) := by decide +kernel
theorem dX5_push_105 : decode cX5_push 105 = .ok (.iconst 1, 1) := by decide +kernel
theorem dX5_push_106 : decode cX5_push 106 = .ok (.putfield 90, 3) := by decide +kernel
theorem dX5_push_109 : decode cX5_push 109 = .ok (.lload 8, 2) := by decide +kernel
theorem dX5_push_111 : decode cX5_push 111 = .ok (.l2i, 1) := by decide +kernel
theorem dX5_push_112 : decode cX5_push 112 = .ok (.ireturn, 1) := by decide +kernel
theorem dX5_beads_0 : decode cX5_beads 0 = .ok (.aload_n 0, 1) := by decide +kernel
theorem dX5_beads_1 : decode cX5_beads 1 = .ok (.iload_n 1, 1) := by decide +kernel
theorem dX5_beads_2 : decode cX5_beads 2 = .ok (.invokevirtual 51, 3) := by decide +kernel
theorem dX5_beads_5 : decode cX5_beads 5 = .ok (.astore 4, 2) := by decide +kernel
theorem dX5_beads_7 : decode cX5_beads 7 = .ok (.aload 4, 2) := by decide +kernel
theorem dX5_beads_9 : decode cX5_beads 9 = .ok (.ifnonnull 5, 3) := by decide +kernel
theorem dX5_beads_12 : decode cX5_beads 12 = .ok (.iconst (-1), 1) := by decide +kernel
theorem dX5_beads_13 : decode cX5_beads 13 = .ok (.ireturn, 1) := by decide +kernel
theorem dX5_beads_14 : decode cX5_beads 14 = .ok (.iload_n 3, 1) := by decide +kernel
theorem dX5_beads_15 : decode cX5_beads 15 = .ok (.ifCond .lt 8, 3) := by decide +kernel
theorem dX5_beads_18 : decode cX5_beads 18 = .ok (.iload_n 3, 1) := by decide +kernel
theorem dX5_beads_19 : decode cX5_beads 19 = .ok (.iconst 1, 1) := by decide +kernel
theorem dX5_beads_20 : decode cX5_beads 20 = .ok (.if_icmp .le 6, 3) := by decide +kernel
theorem dX5_beads_23 : decode cX5_beads 23 = .ok (.bipush (-2), 2) := by decide +kernel
theorem dX5_beads_25 : decode cX5_beads 25 = .ok (.ireturn, 1) := by decide +kernel
theorem dX5_beads_26 : decode cX5_beads 26 = .ok (.aload 4, 2) := by decide +kernel
theorem dX5_beads_28 : decode cX5_beads 28 = .ok (.iload_n 2, 1) := by decide +kernel
theorem dX5_beads_29 : decode cX5_beads 29 = .ok (.iload_n 3, 1) := by decide +kernel
theorem dX5_beads_30 : decode cX5_beads 30 = .ok (.invokevirtual 94, 3) := by decide +kernel
theorem dX5_beads_33 : decode cX5_beads 33 = .ok (.istore 5, 2) := by decide +kernel
theorem dX5_beads_35 : decode cX5_beads 35 = .ok (.iload 5, 2) := by decide +kernel
theorem dX5_beads_37 : decode cX5_beads 37 = .ok (.ifCond .eq 12, 3) := by decide +kernel
theorem dX5_beads_40 : decode cX5_beads 40 = .ok (.aload_n 0, 1) := by decide +kernel
theorem dX5_beads_41 : decode cX5_beads 41 = .ok (.iload 5, 2) := by decide +kernel
theorem dX5_beads_43 : decode cX5_beads 43 = .ok (.invokevirtual 45, 3) := by decide +kernel
theorem dX5_beads_46 : decode cX5_beads 46 = .ok (.goto 14, 3) := by decide +kernel
theorem dX5_beads_49 : decode cX5_beads 49 = .ok (.aload 4, 2) := by decide +kernel
theorem dX5_beads_51 : decode cX5_beads 51 = .ok (.getfield 61, 3) := by decide +kernel
theorem dX5_beads_54 : decode cX5_beads 54 = .ok (.iload_n 2, 1) := by decide +kernel
theorem dX5_beads_55 : decode cX5_beads 55 = .ok (.aaload, 1) := by decide +kernel
theorem dX5_beads_56 : decode cX5_beads 56 = .ok (.iload_n 3, 1) := by decide +kernel
theorem dX5_beads_57 : decode cX5_beads 57 = .ok (.invokevirtual 97, 3) := by decide +kernel
theorem dX5_beads_60 : decode cX5_beads 60 = .ok (.ireturn, 1) := by decide +kernel
theorem dX5_digit_0 : decode cX5_digit 0 = .ok (.aload_n 0, 1) := by decide +kernel
theorem dX5_digit_1 : decode cX5_digit 1 = .ok (.iload_n 1, 1) := by decide +kernel
theorem dX5_digit_2 : decode cX5_digit 2 = .ok (.invokevirtual 51, 3) := by decide +kernel
theorem dX5_digit_5 : decode cX5_digit 5 = .ok (.astore_n 3, 1) := by decide +kernel
theorem dX5_digit_6 : decode cX5_digit 6 = .ok (.aload_n 3, 1) := by decide +kernel
theorem dX5_digit_7 : decode cX5_digit 7 = .ok (.ifnonnull 5, 3) := by decide +kernel
theorem dX5_digit_10 : decode cX5_digit 10 = .ok (.iconst (-1), 1) := by decide +kernel
theorem dX5_digit_11 : decode cX5_digit 11 = .ok (.ireturn, 1) := by decide +kernel
theorem dX5_digit_12 : decode cX5_digit 12 = .ok (.aload_n 3, 1) := by decide +kernel
theorem dX5_digit_13 : decode cX5_digit 13 = .ok (.iload_n 2, 1) := by decide +kernel
theorem dX5_digit_14 : decode cX5_digit 14 = .ok (.invokevirtual 107, 3) := by decide +kernel
theorem dX5_digit_17 : decode cX5_digit 17 = .ok (.istore 4, 2) := by decide +kernel
theorem dX5_digit_19 : decode cX5_digit 19 = .ok (.iload 4, 2) := by decide +kernel
end
section
theorem dX5_digit_21 : decode cX5_digit 21 = .ok (.ifCond .eq 12, 3) := by decide +kernel
theorem dX5_digit_24 : decode cX5_digit 24 = .ok (.aload_n 0, 1) := by decide +kernel
theorem dX5_digit_25 : decode cX5_digit 25 = .ok (.iload 4, 2) := by decide +kernel
theorem dX5_digit_27 : decode cX5_digit 27 = .ok (.invokevirtual 45, 3) := by decide +kernel
theorem dX5_digit_30 : decode cX5_digit 30 = .ok (.goto 12, 3) := by decide +kernel
theorem dX5_digit_33 : decode cX5_digit 33 = .ok (.aload_n 3, 1) := by decide +kernel
theorem dX5_digit_34 : decode cX5_digit 34 = .ok (.getfield 61, 3) := by decide +kernel
theorem dX5_digit_37 : decode cX5_digit 37 = .ok (.iload_n 2, 1) := by decide +kernel
theorem dX5_digit_38 : decode cX5_digit 38 = .ok (.aaload, 1) := by decide +kernel
theorem dX5_digit_39 : decode cX5_digit 39 = .ok (.invokevirtual 110, 3) := by decide +kernel
theorem dX5_digit_42 : decode cX5_digit 42 = .ok (.ireturn, 1) := by decide +kernel
theorem dX5_shows_0 : decode cX5_shows 0 = .ok (.aload_n 0, 1) := by decide +kernel
theorem dX5_shows_1 : decode cX5_shows 1 = .ok (.iload_n 1, 1) := by decide +kernel
theorem dX5_shows_2 : decode cX5_shows 2 = .ok (.invokevirtual 51, 3) := by decide +kernel
theorem dX5_shows_5 : decode cX5_shows 5 = .ok (.astore_n 2, 1) := by decide +kernel
theorem dX5_shows_6 : decode cX5_shows 6 = .ok (.aload_n 2, 1) := by decide +kernel
theorem dX5_shows_7 : decode cX5_shows 7 = .ok (.ifnonnull 7, 3) := by decide +kernel
theorem dX5_shows_10 : decode cX5_shows 10 = .ok (.ldc2_w 114, 3) := by decide +kernel
theorem dX5_shows_13 : decode cX5_shows 13 = .ok (.lreturn, 1) := by decide +kernel
theorem dX5_shows_14 : decode cX5_shows 14 = .ok (.aload_n 2, 1) := by decide +kernel
theorem dX5_shows_15 : decode cX5_shows 15 = .ok (.invokevirtual 116, 3) := by decide +kernel
theorem dX5_shows_18 : decode cX5_shows 18 = .ok (.istore_n 3, 1) := by decide +kernel
theorem dX5_shows_19 : decode cX5_shows 19 = .ok (.iload_n 3, 1) := by decide +kernel
theorem dX5_shows_20 : decode cX5_shows 20 = .ok (.ifCond .eq 11, 3) := by decide +kernel
theorem dX5_shows_23 : decode cX5_shows 23 = .ok (.aload_n 0, 1) := by decide +kernel
theorem dX5_shows_24 : decode cX5_shows 24 = .ok (.iload_n 3, 1) := by decide +kernel
theorem dX5_shows_25 : decode cX5_shows 25 = .ok (.invokevirtual 119, 3) := by decide +kernel
theorem dX5_shows_28 : decode cX5_shows 28 = .ok (.goto 7, 3) := by decide +kernel
theorem dX5_shows_31 : decode cX5_shows 31 = .ok (.aload_n 2, 1) := by decide +kernel
theorem dX5_shows_32 : decode cX5_shows 32 = .ok (.invokevirtual 123, 3) := by decide +kernel
theorem dX5_shows_35 : decode cX5_shows 35 = .ok (.lreturn, 1) := by decide +kernel
theorem dX5_set_0 : decode cX5_set 0 = .ok (.aload_n 0, 1) := by decide +kernel
theorem dX5_set_1 : decode cX5_set 1 = .ok (.aload_n 0, 1) := by decide +kernel
theorem dX5_set_2 : decode cX5_set 2 = .ok (.iload_n 1, 1) := by decide +kernel
theorem dX5_set_3 : decode cX5_set 3 = .ok (.invokevirtual 51, 3) := by decide +kernel
theorem dX5_set_6 : decode cX5_set 6 = .ok (.lload_n 2, 1) := by decide +kernel
theorem dX5_set_7 : decode cX5_set 7 = .ok (.invokevirtual 127, 3) := by decide +kernel
theorem dX5_set_10 : decode cX5_set 10 = .ok (.ireturn, 1) := by decide +kernel
theorem dX5_proper_0 : decode cX5_proper 0 = .ok (.aload_n 0, 1) := by decide +kernel
theorem dX5_proper_1 : decode cX5_proper 1 = .ok (.iload_n 1, 1) := by decide +kernel
theorem dX5_proper_2 : decode cX5_proper 2 = .ok (.invokevirtual 51, 3) := by decide +kernel
theorem dX5_proper_5 : decode cX5_proper 5 = .ok (.astore_n 2, 1) := by decide +kernel
theorem dX5_proper_6 : decode cX5_proper 6 = .ok (.aload_n 2, 1) := by decide +kernel
theorem dX5_proper_7 : decode cX5_proper 7 = .ok (.ifnonnull 5, 3) := by decide +kernel
theorem dX5_proper_10 : decode cX5_proper 10 = .ok (.iconst (-1), 1) := by decide +kernel
theorem dX5_proper_11 : decode cX5_proper 11 = .ok (.ireturn, 1) := by decide +kernel
theorem dX5_proper_12 : decode cX5_proper 12 = .ok (.aload_n 2, 1) := by decide +kernel
theorem dX5_proper_13 : decode cX5_proper 13 = .ok (.invokevirtual 131, 3) := by decide +kernel
theorem dX5_proper_16 : decode cX5_proper 16 = .ok (.ifCond .eq 7, 3) := by decide +kernel
theorem dX5_proper_19 : decode cX5_proper 19 = .ok (.iconst 1, 1) := by decide +kernel
theorem dX5_proper_20 : decode cX5_proper 20 = .ok (.goto 4, 3) := by decide +kernel
theorem dX5_proper_23 : decode cX5_proper 23 = .ok (.iconst 0, 1) := by decide +kernel
theorem dX5_proper_24 : decode cX5_proper 24 = .ok (.ireturn, 1) := by decide +kernel
theorem dX5_size_0 : decode cX5_size 0 = .ok (.aload_n 0, 1) := by decide +kernel
theorem dX5_size_1 : decode cX5_size 1 = .ok (.iload_n 1, 1) := by decide +kernel
theorem dX5_size_2 : decode cX5_size 2 = .ok (.invokevirtual 51, 3) := by decide +kernel
theorem dX5_size_5 : decode cX5_size 5 = .ok (.astore_n 3, 1) := by decide +kernel
theorem dX5_size_6 : decode cX5_size 6 = .ok (.aload_n 3, 1) := by decide +kernel
theorem dX5_size_7 : decode cX5_size 7 = .ok (.ifnonnull 5, 3) := by decide +kernel
theorem dX5_size_10 : decode cX5_size 10 = .ok (.iconst (-1), 1) := by decide +kernel
theorem dX5_size_11 : decode cX5_size 11 = .ok (.ireturn, 1) := by decide +kernel
theorem dX5_size_12 : decode cX5_size 12 = .ok (.iload_n 2, 1) := by decide +kernel
theorem dX5_size_13 : decode cX5_size 13 = .ok (.tableswitch 61 0 4 #[35, 41, 46, 51, 56], 35) := by decide +kernel
theorem dX5_size_48 : decode cX5_size 48 = .ok (.aload_n 3, 1) := by decide +kernel
theorem dX5_size_49 : decode cX5_size 49 = .ok (.getfield 61, 3) := by decide +kernel
theorem dX5_size_52 : decode cX5_size 52 = .ok (.arraylength, 1) := by decide +kernel
theorem dX5_size_53 : decode cX5_size 53 = .ok (.ireturn, 1) := by decide +kernel
theorem dX5_size_54 : decode cX5_size 54 = .ok (.aload_n 3, 1) := by decide +kernel
theorem dX5_size_55 : decode cX5_size 55 = .ok (.getfield 77, 3) := by decide +kernel
theorem dX5_size_58 : decode cX5_size 58 = .ok (.ireturn, 1) := by decide +kernel
theorem dX5_size_59 : decode cX5_size 59 = .ok (.aload_n 3, 1) := by decide +kernel
theorem dX5_size_60 : decode cX5_size 60 = .ok (.getfield 55, 3) := by decide +kernel
theorem dX5_size_63 : decode cX5_size 63 = .ok (.ireturn, 1) := by decide +kernel
theorem dX5_size_64 : decode cX5_size 64 = .ok (.aload_n 3, 1) := by decide +kernel
theorem dX5_size_65 : decode cX5_size 65 = .ok (.invokevirtual 135, 3) := by decide +kernel
theorem dX5_size_68 : decode cX5_size 68 = .ok (.ireturn, 1) := by decide +kernel
theorem dX5_size_69 : decode cX5_size 69 = .ok (.aload_n 3, 1) := by decide +kernel
theorem dX5_size_70 : decode cX5_size 70 = .ok (.getfield 65, 3) := by decide +kernel
theorem dX5_size_73 : decode cX5_size 73 = .ok (.ireturn, 1) := by decide +kernel
theorem dX5_size_74 : decode cX5_size 74 = .ok (.bipush (-2), 2) := by decide +kernel
theorem dX5_size_76 : decode cX5_size 76 = .ok (.ireturn, 1) := by decide +kernel
theorem dX5_meant_0 : decode cX5_meant 0 = .ok (.aload_n 0, 1) := by decide +kernel
theorem dX5_meant_1 : decode cX5_meant 1 = .ok (.iload_n 1, 1) := by decide +kernel
theorem dX5_meant_2 : decode cX5_meant 2 = .ok (.invokevirtual 51, 3) := by decide +kernel
theorem dX5_meant_5 : decode cX5_meant 5 = .ok (.astore_n 3, 1) := by decide +kernel
theorem dX5_meant_6 : decode cX5_meant 6 = .ok (.aload_n 3, 1) := by decide +kernel
theorem dX5_meant_7 : decode cX5_meant 7 = .ok (.ifnonnull 5, 3) := by decide +kernel
theorem dX5_meant_10 : decode cX5_meant 10 = .ok (.iconst (-1), 1) := by decide +kernel
theorem dX5_meant_11 : decode cX5_meant 11 = .ok (.ireturn, 1) := by decide +kernel
theorem dX5_meant_12 : decode cX5_meant 12 = .ok (.iload_n 2, 1) := by decide +kernel
theorem dX5_meant_13 : decode cX5_meant 13 = .ok (.ifCond .lt 8, 3) := by decide +kernel
theorem dX5_meant_16 : decode cX5_meant 16 = .ok (.iload_n 2, 1) := by decide +kernel
theorem dX5_meant_17 : decode cX5_meant 17 = .ok (.iconst 4, 1) := by decide +kernel
theorem dX5_meant_18 : decode cX5_meant 18 = .ok (.if_icmp .le 6, 3) := by decide +kernel
theorem dX5_meant_21 : decode cX5_meant 21 = .ok (.bipush (-2), 2) := by decide +kernel
theorem dX5_meant_23 : decode cX5_meant 23 = .ok (.ireturn, 1) := by decide +kernel
theorem dX5_meant_24 : decode cX5_meant 24 = .ok (.aload_n 3, 1) := by decide +kernel
theorem dX5_meant_25 : decode cX5_meant 25 = .ok (.getfield 77, 3) := by decide +kernel
theorem dX5_meant_28 : decode cX5_meant 28 = .ok (.iload_n 2, 1) := by decide +kernel
theorem dX5_meant_29 : decode cX5_meant 29 = .ok (.invokestatic 138, 3) := by decide +kernel
theorem dX5_meant_32 : decode cX5_meant 32 = .ok (.ifCond .eq 7, 3) := by decide +kernel
theorem dX5_meant_35 : decode cX5_meant 35 = .ok (.iconst 1, 1) := by decide +kernel
theorem dX5_meant_36 : decode cX5_meant 36 = .ok (.goto 8, 3) := by decide +kernel
theorem dX5_meant_39 : decode cX5_meant 39 = .ok (.aload_n 0, 1) := by decide +kernel
theorem dX5_meant_40 : decode cX5_meant 40 = .ok (.iconst 3, 1) := by decide +kernel
theorem dX5_meant_41 : decode cX5_meant 41 = .ok (.invokevirtual 45, 3) := by decide +kernel
theorem dX5_meant_44 : decode cX5_meant 44 = .ok (.ireturn, 1) := by decide +kernel
theorem dX5_asks_0 : decode cX5_asks 0 = .ok (.aload_n 0, 1) := by decide +kernel
theorem dX5_asks_1 : decode cX5_asks 1 = .ok (.iload_n 1, 1) := by decide +kernel
theorem dX5_asks_2 : decode cX5_asks 2 = .ok (.invokevirtual 51, 3) := by decide +kernel
theorem dX5_asks_5 : decode cX5_asks 5 = .ok (.astore_n 3, 1) := by decide +kernel
theorem dX5_asks_6 : decode cX5_asks 6 = .ok (.aload_n 3, 1) := by decide +kernel
theorem dX5_asks_7 : decode cX5_asks 7 = .ok (.ifnonnull 5, 3) := by decide +kernel
theorem dX5_asks_10 : decode cX5_asks 10 = .ok (.iconst (-1), 1) := by decide +kernel
theorem dX5_asks_11 : decode cX5_asks 11 = .ok (.ireturn, 1) := by decide +kernel
theorem dX5_asks_12 : decode cX5_asks 12 = .ok (.iload_n 2, 1) := by decide +kernel
theorem dX5_asks_13 : decode cX5_asks 13 = .ok (.ifCond .lt 8, 3) := by decide +kernel
theorem dX5_asks_16 : decode cX5_asks 16 = .ok (.iload_n 2, 1) := by decide +kernel
theorem dX5_asks_17 : decode cX5_asks 17 = .ok (.iconst 3, 1) := by decide +kernel
theorem dX5_asks_18 : decode cX5_asks 18 = .ok (.if_icmp .le 6, 3) := by decide +kernel
theorem dX5_asks_21 : decode cX5_asks 21 = .ok (.bipush (-2), 2) := by decide +kernel
theorem dX5_asks_23 : decode cX5_asks 23 = .ok (.ireturn, 1) := by decide +kernel
theorem dX5_asks_24 : decode cX5_asks 24 = .ok (.iload_n 2, 1) := by decide +kernel
theorem dX5_asks_25 : decode cX5_asks 25 = .ok (.ifCond .ne 12, 3) := by decide +kernel
theorem dX5_asks_28 : decode cX5_asks 28 = .ok (.aload_n 0, 1) := by decide +kernel
theorem dX5_asks_29 : decode cX5_asks 29 = .ok (.aload_n 3, 1) := by decide +kernel
theorem dX5_asks_30 : decode cX5_asks 30 = .ok (.iconst 0, 1) := by decide +kernel
theorem dX5_asks_31 : decode cX5_asks 31 = .ok (.invokevirtual 142, 3) := by decide +kernel
theorem dX5_asks_34 : decode cX5_asks 34 = .ok (.goto 35, 3) := by decide +kernel
theorem dX5_asks_37 : decode cX5_asks 37 = .ok (.iload_n 2, 1) := by decide +kernel
theorem dX5_asks_38 : decode cX5_asks 38 = .ok (.iconst 1, 1) := by decide +kernel
theorem dX5_asks_39 : decode cX5_asks 39 = .ok (.if_icmp .ne 11, 3) := by decide +kernel
theorem dX5_asks_42 : decode cX5_asks 42 = .ok (.aload_n 0, 1) := by decide +kernel
theorem dX5_asks_43 : decode cX5_asks 43 = .ok (.aload_n 3, 1) := by decide +kernel
theorem dX5_asks_44 : decode cX5_asks 44 = .ok (.invokevirtual 146, 3) := by decide +kernel
theorem dX5_asks_47 : decode cX5_asks 47 = .ok (.goto 22, 3) := by decide +kernel
theorem dX5_asks_50 : decode cX5_asks 50 = .ok (.iload_n 2, 1) := by decide +kernel
theorem dX5_asks_51 : decode cX5_asks 51 = .ok (.iconst 2, 1) := by decide +kernel
theorem dX5_asks_52 : decode cX5_asks 52 = .ok (.if_icmp .ne 12, 3) := by decide +kernel
theorem dX5_asks_55 : decode cX5_asks 55 = .ok (.aload_n 0, 1) := by decide +kernel
theorem dX5_asks_56 : decode cX5_asks 56 = .ok (.aload_n 3, 1) := by decide +kernel
theorem dX5_asks_57 : decode cX5_asks 57 = .ok (.iconst 0, 1) := by decide +kernel
theorem dX5_asks_58 : decode cX5_asks 58 = .ok (.invokevirtual 150, 3) := by decide +kernel
theorem dX5_asks_61 : decode cX5_asks 61 = .ok (.goto 8, 3) := by decide +kernel
theorem dX5_asks_64 : decode cX5_asks 64 = .ok (.aload_n 0, 1) := by decide +kernel
theorem dX5_asks_65 : decode cX5_asks 65 = .ok (.aload_n 3, 1) := by decide +kernel
theorem dX5_asks_66 : decode cX5_asks 66 = .ok (.invokevirtual 153, 3) := by decide +kernel
theorem dX5_asks_69 : decode cX5_asks 69 = .ok (.istore 4, 2) := by decide +kernel
theorem dX5_asks_71 : decode cX5_asks 71 = .ok (.iload 4, 2) := by decide +kernel
theorem dX5_asks_73 : decode cX5_asks 73 = .ok (.ifCond .ge 11, 3) := by decide +kernel
theorem dX5_asks_76 : decode cX5_asks 76 = .ok (.aload_n 0, 1) := by decide +kernel
theorem dX5_asks_77 : decode cX5_asks 77 = .ok (.iconst 3, 1) := by decide +kernel
theorem dX5_asks_78 : decode cX5_asks 78 = .ok (.invokevirtual 45, 3) := by decide +kernel
theorem dX5_asks_81 : decode cX5_asks 81 = .ok (.goto 5, 3) := by decide +kernel
theorem dX5_asks_84 : decode cX5_asks 84 = .ok (.iload 4, 2) := by decide +kernel
theorem dX5_asks_86 : decode cX5_asks 86 = .ok (.ireturn, 1) := by decide +kernel
theorem dX5_trace_0 : decode cX5_trace 0 = .ok (.aload_n 0, 1) := by decide +kernel
theorem dX5_trace_1 : decode cX5_trace 1 = .ok (.getfield 156, 3) := by decide +kernel
theorem dX5_trace_4 : decode cX5_trace 4 = .ok (.ireturn, 1) := by decide +kernel
theorem dX5_copy_0 : decode cX5_copy 0 = .ok (.aload_n 0, 1) := by decide +kernel
theorem dX5_copy_1 : decode cX5_copy 1 = .ok (.iload_n 1, 1) := by decide +kernel
theorem dX5_copy_2 : decode cX5_copy 2 = .ok (.invokevirtual 51, 3) := by decide +kernel
theorem dX5_copy_5 : decode cX5_copy 5 = .ok (.astore 6, 2) := by decide +kernel
theorem dX5_copy_7 : decode cX5_copy 7 = .ok (.aload_n 0, 1) := by decide +kernel
theorem dX5_copy_8 : decode cX5_copy 8 = .ok (.iload_n 3, 1) := by decide +kernel
theorem dX5_copy_9 : decode cX5_copy 9 = .ok (.invokevirtual 51, 3) := by decide +kernel
theorem dX5_copy_12 : decode cX5_copy 12 = .ok (.astore 7, 2) := by decide +kernel
theorem dX5_copy_14 : decode cX5_copy 14 = .ok (.aload 6, 2) := by decide +kernel
theorem dX5_copy_16 : decode cX5_copy 16 = .ok (.ifnull 8, 3) := by decide +kernel
theorem dX5_copy_19 : decode cX5_copy 19 = .ok (.aload 7, 2) := by decide +kernel
theorem dX5_copy_21 : decode cX5_copy 21 = .ok (.ifnonnull 5, 3) := by decide +kernel
theorem dX5_copy_24 : decode cX5_copy 24 = .ok (.iconst (-1), 1) := by decide +kernel
theorem dX5_copy_25 : decode cX5_copy 25 = .ok (.ireturn, 1) := by decide +kernel
theorem dX5_copy_26 : decode cX5_copy 26 = .ok (.aload 6, 2) := by decide +kernel
theorem dX5_copy_28 : decode cX5_copy 28 = .ok (.getfield 77, 3) := by decide +kernel
theorem dX5_copy_31 : decode cX5_copy 31 = .ok (.iconst 4, 1) := by decide +kernel
theorem dX5_copy_32 : decode cX5_copy 32 = .ok (.if_icmp .eq 12, 3) := by decide +kernel
theorem dX5_copy_35 : decode cX5_copy 35 = .ok (.aload 7, 2) := by decide +kernel
theorem dX5_copy_37 : decode cX5_copy 37 = .ok (.getfield 77, 3) := by decide +kernel
theorem dX5_copy_40 : decode cX5_copy 40 = .ok (.iconst 4, 1) := by decide +kernel
theorem dX5_copy_41 : decode cX5_copy 41 = .ok (.if_icmp .ne 7, 3) := by decide +kernel
theorem dX5_copy_44 : decode cX5_copy 44 = .ok (.iconst 1, 1) := by decide +kernel
theorem dX5_copy_45 : decode cX5_copy 45 = .ok (.goto 4, 3) := by decide +kernel
theorem dX5_copy_48 : decode cX5_copy 48 = .ok (.iconst 0, 1) := by decide +kernel
theorem dX5_copy_49 : decode cX5_copy 49 = .ok (.istore 8, 2) := by decide +kernel
theorem dX5_copy_51 : decode cX5_copy 51 = .ok (.iload 8, 2) := by decide +kernel
theorem dX5_copy_53 : decode cX5_copy 53 = .ok (.ifCond .ne 37, 3) := by decide +kernel
theorem dX5_copy_56 : decode cX5_copy 56 = .ok (.aload 6, 2) := by decide +kernel
theorem dX5_copy_58 : decode cX5_copy 58 = .ok (.getfield 77, 3) := by decide +kernel
theorem dX5_copy_61 : decode cX5_copy 61 = .ok (.iconst 2, 1) := by decide +kernel
theorem dX5_copy_62 : decode cX5_copy 62 = .ok (.if_icmp .ne 7, 3) := by decide +kernel
theorem dX5_copy_65 : decode cX5_copy 65 = .ok (.iconst 1, 1) := by decide +kernel
theorem dX5_copy_66 : decode cX5_copy 66 = .ok (.goto 4, 3) := by decide +kernel
theorem dX5_copy_69 : decode cX5_copy 69 = .ok (.iconst 0, 1) := by decide +kernel
theorem dX5_copy_70 : decode cX5_copy 70 = .ok (.aload 7, 2) := by decide +kernel
theorem dX5_copy_72 : decode cX5_copy 72 = .ok (.getfield 77, 3) := by decide +kernel
theorem dX5_copy_75 : decode cX5_copy 75 = .ok (.iconst 2, 1) := by decide +kernel
theorem dX5_copy_76 : decode cX5_copy 76 = .ok (.if_icmp .ne 7, 3) := by decide +kernel
theorem dX5_copy_79 : decode cX5_copy 79 = .ok (.iconst 1, 1) := by decide +kernel
theorem dX5_copy_80 : decode cX5_copy 80 = .ok (.goto 4, 3) := by decide +kernel
theorem dX5_copy_83 : decode cX5_copy 83 = .ok (.iconst 0, 1) := by decide +kernel
theorem dX5_copy_84 : decode cX5_copy 84 = .ok (.if_icmp .eq 6, 3) := by decide +kernel
theorem dX5_copy_87 : decode cX5_copy 87 = .ok (.bipush (-3), 2) := by decide +kernel
theorem dX5_copy_89 : decode cX5_copy 89 = .ok (.ireturn, 1) := by decide +kernel
theorem dX5_copy_90 : decode cX5_copy 90 = .ok (.iload 8, 2) := by decide +kernel
theorem dX5_copy_92 : decode cX5_copy 92 = .ok (.ifCond .eq 9, 3) := by decide +kernel
theorem dX5_copy_95 : decode cX5_copy 95 = .ok (.aload_n 0, 1) := by decide +kernel
theorem dX5_copy_96 : decode cX5_copy 96 = .ok (.iconst 3, 1) := by decide +kernel
theorem dX5_copy_97 : decode cX5_copy 97 = .ok (.invokevirtual 45, 3) := by decide +kernel
theorem dX5_copy_100 : decode cX5_copy 100 = .ok (.ireturn, 1) := by decide +kernel
theorem dX5_copy_101 : decode cX5_copy 101 = .ok (.aload_n 0, 1) := by decide +kernel
theorem dX5_copy_102 : decode cX5_copy 102 = .ok (.getfield 26, 3) := by decide +kernel
theorem dX5_copy_105 : decode cX5_copy 105 = .ok (.iconst 1, 1) := by decide +kernel
theorem dX5_copy_106 : decode cX5_copy 106 = .ok (.putfield 90, 3) := by decide +kernel
theorem dX5_copy_109 : decode cX5_copy 109 = .ok (.iload_n 1, 1) := by decide +kernel
theorem dX5_copy_110 : decode cX5_copy 110 = .ok (.iload_n 3, 1) := by decide +kernel
theorem dX5_copy_111 : decode cX5_copy 111 = .ok (.if_icmp .ne 27, 3) := by decide +kernel
theorem dX5_copy_114 : decode cX5_copy 114 = .ok (.aload 6, 2) := by decide +kernel
theorem dX5_copy_116 : decode cX5_copy 116 = .ok (.iload_n 2, 1) := by decide +kernel
theorem dX5_copy_117 : decode cX5_copy 117 = .ok (.iload 4, 2) := by decide +kernel
theorem dX5_copy_119 : decode cX5_copy 119 = .ok (.iload 5, 2) := by decide +kernel
theorem dX5_copy_121 : decode cX5_copy 121 = .ok (.invokevirtual 159, 3) := by decide +kernel
theorem dX5_copy_124 : decode cX5_copy 124 = .ok (.ifCond .ne 14, 3) := by decide +kernel
theorem dX5_copy_127 : decode cX5_copy 127 = .ok (.aload_n 0, 1) := by decide +kernel
theorem dX5_copy_128 : decode cX5_copy 128 = .ok (.iconst 0, 1) := by decide +kernel
theorem dX5_copy_129 : decode cX5_copy 129 = .ok (.putfield 163, 3) := by decide +kernel
theorem dX5_copy_132 : decode cX5_copy 132 = .ok (.aload_n 0, 1) := by decide +kernel
theorem dX5_copy_133 : decode cX5_copy 133 = .ok (.iconst 2, 1) := by decide +kernel
theorem dX5_copy_134 : decode cX5_copy 134 = .ok (.invokevirtual 45, 3) := by decide +kernel
theorem dX5_copy_137 : decode cX5_copy 137 = .ok (.ireturn, 1) := by decide +kernel
theorem dX5_copy_138 : decode cX5_copy 138 = .ok (.aload_n 0, 1) := by decide +kernel
theorem dX5_copy_139 : decode cX5_copy 139 = .ok (.iload_n 1, 1) := by decide +kernel
theorem dX5_copy_140 : decode cX5_copy 140 = .ok (.iload_n 3, 1) := by decide +kernel
theorem dX5_copy_141 : decode cX5_copy 141 = .ok (.if_icmp .ne 16, 3) := by decide +kernel
theorem dX5_copy_144 : decode cX5_copy 144 = .ok (.aload 6, 2) := by decide +kernel
theorem dX5_copy_146 : decode cX5_copy 146 = .ok (.iload_n 2, 1) := by decide +kernel
theorem dX5_copy_147 : decode cX5_copy 147 = .ok (.iload 4, 2) := by decide +kernel
theorem dX5_copy_149 : decode cX5_copy 149 = .ok (.iload 5, 2) := by decide +kernel
theorem dX5_copy_151 : decode cX5_copy 151 = .ok (.invokestatic 166, 3) := by decide +kernel
theorem dX5_copy_154 : decode cX5_copy 154 = .ok (.goto 15, 3) := by decide +kernel
theorem dX5_copy_157 : decode cX5_copy 157 = .ok (.aload 6, 2) := by decide +kernel
theorem dX5_copy_159 : decode cX5_copy 159 = .ok (.iload_n 2, 1) := by decide +kernel
theorem dX5_copy_160 : decode cX5_copy 160 = .ok (.aload 7, 2) := by decide +kernel
theorem dX5_copy_162 : decode cX5_copy 162 = .ok (.iload 4, 2) := by decide +kernel
theorem dX5_copy_164 : decode cX5_copy 164 = .ok (.iload 5, 2) := by decide +kernel
theorem dX5_copy_166 : decode cX5_copy 166 = .ok (.invokestatic 170, 3) := by decide +kernel
theorem dX5_copy_169 : decode cX5_copy 169 = .ok (.putfield 163, 3) := by decide +kernel
theorem dX5_copy_172 : decode cX5_copy 172 = .ok (.aload_n 0, 1) := by decide +kernel
theorem dX5_copy_173 : decode cX5_copy 173 = .ok (.getfield 163, 3) := by decide +kernel
theorem dX5_copy_176 : decode cX5_copy 176 = .ok (.iload 5, 2) := by decide +kernel
theorem dX5_copy_178 : decode cX5_copy 178 = .ok (.if_icmp .ge 11, 3) := by decide +kernel
theorem dX5_copy_181 : decode cX5_copy 181 = .ok (.aload_n 0, 1) := by decide +kernel
theorem dX5_copy_182 : decode cX5_copy 182 = .ok (.iconst 2, 1) := by decide +kernel
theorem dX5_copy_183 : decode cX5_copy 183 = .ok (.invokevirtual 45, 3) := by decide +kernel
theorem dX5_copy_186 : decode cX5_copy 186 = .ok (.goto 7, 3) := by decide +kernel
theorem dX5_copy_189 : decode cX5_copy 189 = .ok (.aload_n 0, 1) := by decide +kernel
theorem dX5_copy_190 : decode cX5_copy 190 = .ok (.getfield 163, 3) := by decide +kernel
theorem dX5_copy_193 : decode cX5_copy 193 = .ok (.ireturn, 1) := by decide +kernel
theorem dX5_copied_0 : decode cX5_copied 0 = .ok (.aload_n 0, 1) := by decide +kernel
theorem dX5_copied_1 : decode cX5_copied 1 = .ok (.getfield 163, 3) := by decide +kernel
theorem dX5_copied_4 : decode cX5_copied 4 = .ok (.ireturn, 1) := by decide +kernel
theorem dX5_digest_0 : decode cX5_digest 0 = .ok (.aload_n 0, 1) := by decide +kernel
theorem dX5_digest_1 : decode cX5_digest 1 = .ok (.iload_n 1, 1) := by decide +kernel
theorem dX5_digest_2 : decode cX5_digest 2 = .ok (.invokevirtual 51, 3) := by decide +kernel
theorem dX5_digest_5 : decode cX5_digest 5 = .ok (.astore_n 2, 1) := by decide +kernel
theorem dX5_digest_6 : decode cX5_digest 6 = .ok (.aload_n 2, 1) := by decide +kernel
theorem dX5_digest_7 : decode cX5_digest 7 = .ok (.ifnonnull 9, 3) := by decide +kernel
theorem dX5_digest_10 : decode cX5_digest 10 = .ok (.ldc2_w 114, 3) := by decide +kernel
theorem dX5_digest_13 : decode cX5_digest 13 = .ok (.goto 7, 3) := by decide +kernel
theorem dX5_digest_16 : decode cX5_digest 16 = .ok (.aload_n 2, 1) := by decide +kernel
theorem dX5_digest_17 : decode cX5_digest 17 = .ok (.invokevirtual 174, 3) := by decide +kernel
theorem dX5_digest_20 : decode cX5_digest 20 = .ok (.lreturn, 1) := by decide +kernel
theorem dX5_ofFloat_0 : decode cX5_ofFloat 0 = .ok (.aload_n 0, 1) := by decide +kernel
theorem dX5_ofFloat_1 : decode cX5_ofFloat 1 = .ok (.aload_n 0, 1) := by decide +kernel
theorem dX5_ofFloat_2 : decode cX5_ofFloat 2 = .ok (.iload_n 1, 1) := by decide +kernel
theorem dX5_ofFloat_3 : decode cX5_ofFloat 3 = .ok (.invokevirtual 51, 3) := by decide +kernel
theorem dX5_ofFloat_6 : decode cX5_ofFloat 6 = .ok (.iload_n 2, 1) := by decide +kernel
theorem dX5_ofFloat_7 : decode cX5_ofFloat 7 = .ok (.i2l, 1) := by decide +kernel
theorem dX5_ofFloat_8 : decode cX5_ofFloat 8 = .ok (.ldc2_w 177, 3) := by decide +kernel
theorem dX5_ofFloat_11 : decode cX5_ofFloat 11 = .ok (.land, 1) := by decide +kernel
theorem dX5_ofFloat_12 : decode cX5_ofFloat 12 = .ok (.bipush 23, 2) := by decide +kernel
theorem dX5_ofFloat_14 : decode cX5_ofFloat 14 = .ok (.invokevirtual 179, 3) := by decide +kernel
theorem dX5_ofFloat_17 : decode cX5_ofFloat 17 = .ok (.ireturn, 1) := by decide +kernel
theorem dX5_ofDouble_0 : decode cX5_ofDouble 0 = .ok (.aload_n 0, 1) := by decide +kernel
theorem dX5_ofDouble_1 : decode cX5_ofDouble 1 = .ok (.aload_n 0, 1) := by decide +kernel
theorem dX5_ofDouble_2 : decode cX5_ofDouble 2 = .ok (.iload_n 1, 1) := by decide +kernel
theorem dX5_ofDouble_3 : decode cX5_ofDouble 3 = .ok (.invokevirtual 51, 3) := by decide +kernel
theorem dX5_ofDouble_6 : decode cX5_ofDouble 6 = .ok (.lload_n 2, 1) := by decide +kernel
theorem dX5_ofDouble_7 : decode cX5_ofDouble 7 = .ok (.bipush 52, 2) := by decide +kernel
theorem dX5_ofDouble_9 : decode cX5_ofDouble 9 = .ok (.invokevirtual 179, 3) := by decide +kernel
theorem dX5_ofDouble_12 : decode cX5_ofDouble 12 = .ok (.ireturn, 1) := by decide +kernel
theorem dX5_restFloat_0 : decode cX5_restFloat 0 = .ok (.iload_n 1, 1) := by decide +kernel
theorem dX5_restFloat_1 : decode cX5_restFloat 1 = .ok (.i2l, 1) := by decide +kernel
theorem dX5_restFloat_2 : decode cX5_restFloat 2 = .ok (.ldc2_w 177, 3) := by decide +kernel
theorem dX5_restFloat_5 : decode cX5_restFloat 5 = .ok (.land, 1) := by decide +kernel
theorem dX5_restFloat_6 : decode cX5_restFloat 6 = .ok (.iload_n 2, 1) := by decide +kernel
theorem dX5_restFloat_7 : decode cX5_restFloat 7 = .ok (.i2l, 1) := by decide +kernel
theorem dX5_restFloat_8 : decode cX5_restFloat 8 = .ok (.ldc2_w 177, 3) := by decide +kernel
theorem dX5_restFloat_11 : decode cX5_restFloat 11 = .ok (.land, 1) := by decide +kernel
theorem dX5_restFloat_12 : decode cX5_restFloat 12 = .ok (.bipush 23, 2) := by decide +kernel
theorem dX5_restFloat_14 : decode cX5_restFloat 14 = .ok (.invokestatic 183, 3) := by decide +kernel
theorem dX5_restFloat_17 : decode cX5_restFloat 17 = .ok (.l2i, 1) := by decide +kernel
theorem dX5_restFloat_18 : decode cX5_restFloat 18 = .ok (.ireturn, 1) := by decide +kernel
theorem dX5_restDouble_0 : decode cX5_restDouble 0 = .ok (.lload_n 1, 1) := by decide +kernel
theorem dX5_restDouble_1 : decode cX5_restDouble 1 = .ok (.lload_n 3, 1) := by decide +kernel
theorem dX5_restDouble_2 : decode cX5_restDouble 2 = .ok (.bipush 52, 2) := by decide +kernel
theorem dX5_restDouble_4 : decode cX5_restDouble 4 = .ok (.invokestatic 183, 3) := by decide +kernel
theorem dX5_restDouble_7 : decode cX5_restDouble 7 = .ok (.lreturn, 1) := by decide +kernel
theorem dX5_add_0 : decode cX5_add 0 = .ok (.aload_n 0, 1) := by decide +kernel
theorem dX5_add_1 : decode cX5_add 1 = .ok (.aload_n 0, 1) := by decide +kernel
theorem dX5_add_2 : decode cX5_add 2 = .ok (.iload_n 1, 1) := by decide +kernel
theorem dX5_add_3 : decode cX5_add 3 = .ok (.invokevirtual 51, 3) := by decide +kernel
theorem dX5_add_6 : decode cX5_add 6 = .ok (.lload_n 2, 1) := by decide +kernel
theorem dX5_add_7 : decode cX5_add 7 = .ok (.iconst 1, 1) := by decide +kernel
theorem dX5_add_8 : decode cX5_add 8 = .ok (.invokevirtual 187, 3) := by decide +kernel
theorem dX5_add_11 : decode cX5_add 11 = .ok (.ireturn, 1) := by decide +kernel
theorem dX5_less_0 : decode cX5_less 0 = .ok (.aload_n 0, 1) := by decide +kernel
theorem dX5_less_1 : decode cX5_less 1 = .ok (.aload_n 0, 1) := by decide +kernel
theorem dX5_less_2 : decode cX5_less 2 = .ok (.iload_n 1, 1) := by decide +kernel
theorem dX5_less_3 : decode cX5_less 3 = .ok (.invokevirtual 51, 3) := by decide +kernel
theorem dX5_less_6 : decode cX5_less 6 = .ok (.lload_n 2, 1) := by decide +kernel
theorem dX5_less_7 : decode cX5_less 7 = .ok (.iconst (-1), 1) := by decide +kernel
theorem dX5_less_8 : decode cX5_less 8 = .ok (.invokevirtual 187, 3) := by decide +kernel
theorem dX5_less_11 : decode cX5_less 11 = .ok (.ireturn, 1) := by decide +kernel
theorem dX5_times_0 : decode cX5_times 0 = .ok (.aload_n 0, 1) := by decide +kernel
theorem dX5_times_1 : decode cX5_times 1 = .ok (.iload_n 1, 1) := by decide +kernel
theorem dX5_times_2 : decode cX5_times 2 = .ok (.invokevirtual 51, 3) := by decide +kernel
theorem dX5_times_5 : decode cX5_times 5 = .ok (.astore 4, 2) := by decide +kernel
theorem dX5_times_7 : decode cX5_times 7 = .ok (.aload 4, 2) := by decide +kernel
theorem dX5_times_9 : decode cX5_times 9 = .ok (.ifnonnull 5, 3) := by decide +kernel
theorem dX5_times_12 : decode cX5_times 12 = .ok (.iconst (-1), 1) := by decide +kernel
theorem dX5_times_13 : decode cX5_times 13 = .ok (.ireturn, 1) := by decide +kernel
theorem dX5_times_14 : decode cX5_times 14 = .ok (.aload_n 0, 1) := by decide +kernel
theorem dX5_times_15 : decode cX5_times 15 = .ok (.aload 4, 2) := by decide +kernel
theorem dX5_times_17 : decode cX5_times 17 = .ok (.aconst_null, 1) := by decide +kernel
theorem dX5_times_18 : decode cX5_times 18 = .ok (.aload 4, 2) := by decide +kernel
theorem dX5_times_20 : decode cX5_times 20 = .ok (.lload_n 2, 1) := by decide +kernel
theorem dX5_times_21 : decode cX5_times 21 = .ok (.invokestatic 190, 3) := by decide +kernel
theorem dX5_times_24 : decode cX5_times 24 = .ok (.iconst 0, 1) := by decide +kernel
theorem dX5_times_25 : decode cX5_times 25 = .ok (.invokevirtual 193, 3) := by decide +kernel
theorem dX5_times_28 : decode cX5_times 28 = .ok (.istore 5, 2) := by decide +kernel
theorem dX5_times_30 : decode cX5_times 30 = .ok (.iload 5, 2) := by decide +kernel
theorem dX5_times_32 : decode cX5_times 32 = .ok (.ifCond .eq 8, 3) := by decide +kernel
theorem dX5_times_35 : decode cX5_times 35 = .ok (.iload 5, 2) := by decide +kernel
theorem dX5_times_37 : decode cX5_times 37 = .ok (.goto 20, 3) := by decide +kernel
theorem dX5_times_40 : decode cX5_times 40 = .ok (.aload_n 0, 1) := by decide +kernel
theorem dX5_times_41 : decode cX5_times 41 = .ok (.getfield 26, 3) := by decide +kernel
theorem dX5_times_44 : decode cX5_times 44 = .ok (.aload_n 0, 1) := by decide +kernel
theorem dX5_times_45 : decode cX5_times 45 = .ok (.getfield 26, 3) := by decide +kernel
theorem dX5_times_48 : decode cX5_times 48 = .ok (.aload 4, 2) := by decide +kernel
theorem dX5_times_50 : decode cX5_times 50 = .ok (.lload_n 2, 1) := by decide +kernel
theorem dX5_times_51 : decode cX5_times 51 = .ok (.invokevirtual 197, 3) := by decide +kernel
theorem dX5_times_54 : decode cX5_times 54 = .ok (.invokevirtual 201, 3) := by decide +kernel
theorem dX5_times_57 : decode cX5_times 57 = .ok (.ireturn, 1) := by decide +kernel
theorem dX5_divide_0 : decode cX5_divide 0 = .ok (.aload_n 0, 1) := by decide +kernel
theorem dX5_divide_1 : decode cX5_divide 1 = .ok (.iload_n 1, 1) := by decide +kernel
theorem dX5_divide_2 : decode cX5_divide 2 = .ok (.invokevirtual 51, 3) := by decide +kernel
theorem dX5_divide_5 : decode cX5_divide 5 = .ok (.astore 5, 2) := by decide +kernel
theorem dX5_divide_7 : decode cX5_divide 7 = .ok (.aload_n 0, 1) := by decide +kernel
theorem dX5_divide_8 : decode cX5_divide 8 = .ok (.iload_n 2, 1) := by decide +kernel
theorem dX5_divide_9 : decode cX5_divide 9 = .ok (.invokevirtual 51, 3) := by decide +kernel
theorem dX5_divide_12 : decode cX5_divide 12 = .ok (.astore 6, 2) := by decide +kernel
theorem dX5_divide_14 : decode cX5_divide 14 = .ok (.aload 5, 2) := by decide +kernel
theorem dX5_divide_16 : decode cX5_divide 16 = .ok (.ifnull 8, 3) := by decide +kernel
theorem dX5_divide_19 : decode cX5_divide 19 = .ok (.aload 6, 2) := by decide +kernel
theorem dX5_divide_21 : decode cX5_divide 21 = .ok (.ifnonnull 5, 3) := by decide +kernel
theorem dX5_divide_24 : decode cX5_divide 24 = .ok (.iconst (-1), 1) := by decide +kernel
theorem dX5_divide_25 : decode cX5_divide 25 = .ok (.ireturn, 1) := by decide +kernel
theorem dX5_divide_26 : decode cX5_divide 26 = .ok (.aload_n 0, 1) := by decide +kernel
theorem dX5_divide_27 : decode cX5_divide 27 = .ok (.aload 5, 2) := by decide +kernel
theorem dX5_divide_29 : decode cX5_divide 29 = .ok (.aload 6, 2) := by decide +kernel
theorem dX5_divide_31 : decode cX5_divide 31 = .ok (.aload 5, 2) := by decide +kernel
theorem dX5_divide_33 : decode cX5_divide 33 = .ok (.aload 6, 2) := by decide +kernel
theorem dX5_divide_35 : decode cX5_divide 35 = .ok (.lload_n 3, 1) := by decide +kernel
theorem dX5_divide_36 : decode cX5_divide 36 = .ok (.iconst 1, 1) := by decide +kernel
theorem dX5_divide_37 : decode cX5_divide 37 = .ok (.invokestatic 205, 3) := by decide +kernel
theorem dX5_divide_40 : decode cX5_divide 40 = .ok (.lload_n 3, 1) := by decide +kernel
theorem dX5_divide_41 : decode cX5_divide 41 = .ok (.lconst 0, 1) := by decide +kernel
theorem dX5_divide_42 : decode cX5_divide 42 = .ok (.lcmp, 1) := by decide +kernel
theorem dX5_divide_43 : decode cX5_divide 43 = .ok (.ifCond .ne 7, 3) := by decide +kernel
theorem dX5_divide_46 : decode cX5_divide 46 = .ok (.iconst 1, 1) := by decide +kernel
theorem dX5_divide_47 : decode cX5_divide 47 = .ok (.goto 4, 3) := by decide +kernel
theorem dX5_divide_50 : decode cX5_divide 50 = .ok (.iconst 0, 1) := by decide +kernel
theorem dX5_divide_51 : decode cX5_divide 51 = .ok (.invokevirtual 193, 3) := by decide +kernel
theorem dX5_divide_54 : decode cX5_divide 54 = .ok (.istore 7, 2) := by decide +kernel
theorem dX5_divide_56 : decode cX5_divide 56 = .ok (.iload 7, 2) := by decide +kernel
theorem dX5_divide_58 : decode cX5_divide 58 = .ok (.ifCond .eq 8, 3) := by decide +kernel
theorem dX5_divide_61 : decode cX5_divide 61 = .ok (.iload 7, 2) := by decide +kernel
theorem dX5_divide_63 : decode cX5_divide 63 = .ok (.goto 22, 3) := by decide +kernel
theorem dX5_divide_66 : decode cX5_divide 66 = .ok (.aload_n 0, 1) := by decide +kernel
theorem dX5_divide_67 : decode cX5_divide 67 = .ok (.getfield 26, 3) := by decide +kernel
theorem dX5_divide_70 : decode cX5_divide 70 = .ok (.aload_n 0, 1) := by decide +kernel
theorem dX5_divide_71 : decode cX5_divide 71 = .ok (.getfield 26, 3) := by decide +kernel
theorem dX5_divide_74 : decode cX5_divide 74 = .ok (.aload 5, 2) := by decide +kernel
theorem dX5_divide_76 : decode cX5_divide 76 = .ok (.aload 6, 2) := by decide +kernel
theorem dX5_divide_78 : decode cX5_divide 78 = .ok (.lload_n 3, 1) := by decide +kernel
theorem dX5_divide_79 : decode cX5_divide 79 = .ok (.invokevirtual 209, 3) := by decide +kernel
theorem dX5_divide_82 : decode cX5_divide 82 = .ok (.invokevirtual 201, 3) := by decide +kernel
theorem dX5_divide_85 : decode cX5_divide 85 = .ok (.ireturn, 1) := by decide +kernel
theorem dX5_root_0 : decode cX5_root 0 = .ok (.aload_n 0, 1) := by decide +kernel
theorem dX5_root_1 : decode cX5_root 1 = .ok (.aload_n 0, 1) := by decide +kernel
theorem dX5_root_2 : decode cX5_root 2 = .ok (.iload_n 1, 1) := by decide +kernel
theorem dX5_root_3 : decode cX5_root 3 = .ok (.invokevirtual 51, 3) := by decide +kernel
theorem dX5_root_6 : decode cX5_root 6 = .ok (.aload_n 0, 1) := by decide +kernel
theorem dX5_root_7 : decode cX5_root 7 = .ok (.iload_n 2, 1) := by decide +kernel
theorem dX5_root_8 : decode cX5_root 8 = .ok (.invokevirtual 51, 3) := by decide +kernel
theorem dX5_root_11 : decode cX5_root 11 = .ok (.iconst 2, 1) := by decide +kernel
theorem dX5_root_12 : decode cX5_root 12 = .ok (.invokevirtual 213, 3) := by decide +kernel
theorem dX5_root_15 : decode cX5_root 15 = .ok (.ireturn, 1) := by decide +kernel
theorem dX5_cube_0 : decode cX5_cube 0 = .ok (.aload_n 0, 1) := by decide +kernel
theorem dX5_cube_1 : decode cX5_cube 1 = .ok (.aload_n 0, 1) := by decide +kernel
theorem dX5_cube_2 : decode cX5_cube 2 = .ok (.iload_n 1, 1) := by decide +kernel
theorem dX5_cube_3 : decode cX5_cube 3 = .ok (.invokevirtual 51, 3) := by decide +kernel
theorem dX5_cube_6 : decode cX5_cube 6 = .ok (.aload_n 0, 1) := by decide +kernel
theorem dX5_cube_7 : decode cX5_cube 7 = .ok (.iload_n 2, 1) := by decide +kernel
theorem dX5_cube_8 : decode cX5_cube 8 = .ok (.invokevirtual 51, 3) := by decide +kernel
theorem dX5_cube_11 : decode cX5_cube 11 = .ok (.iconst 3, 1) := by decide +kernel
theorem dX5_cube_12 : decode cX5_cube 12 = .ok (.invokevirtual 213, 3) := by decide +kernel
theorem dX5_cube_15 : decode cX5_cube 15 = .ok (.ireturn, 1) := by decide +kernel
theorem dX5_turn_0 : decode cX5_turn 0 = .ok (.aload_n 0, 1) := by decide +kernel
theorem dX5_turn_1 : decode cX5_turn 1 = .ok (.iload_n 1, 1) := by decide +kernel
theorem dX5_turn_2 : decode cX5_turn 2 = .ok (.invokevirtual 51, 3) := by decide +kernel
theorem dX5_turn_5 : decode cX5_turn 5 = .ok (.astore_n 3, 1) := by decide +kernel
theorem dX5_turn_6 : decode cX5_turn 6 = .ok (.aload_n 0, 1) := by decide +kernel
theorem dX5_turn_7 : decode cX5_turn 7 = .ok (.iload_n 2, 1) := by decide +kernel
theorem dX5_turn_8 : decode cX5_turn 8 = .ok (.invokevirtual 51, 3) := by decide +kernel
theorem dX5_turn_11 : decode cX5_turn 11 = .ok (.astore 4, 2) := by decide +kernel
theorem dX5_turn_13 : decode cX5_turn 13 = .ok (.aload_n 3, 1) := by decide +kernel
theorem dX5_turn_14 : decode cX5_turn 14 = .ok (.ifnull 8, 3) := by decide +kernel
theorem dX5_turn_17 : decode cX5_turn 17 = .ok (.aload 4, 2) := by decide +kernel
theorem dX5_turn_19 : decode cX5_turn 19 = .ok (.ifnonnull 5, 3) := by decide +kernel
theorem dX5_turn_22 : decode cX5_turn 22 = .ok (.iconst (-1), 1) := by decide +kernel
theorem dX5_turn_23 : decode cX5_turn 23 = .ok (.ireturn, 1) := by decide +kernel
theorem dX5_turn_24 : decode cX5_turn 24 = .ok (.aload_n 0, 1) := by decide +kernel
theorem dX5_turn_25 : decode cX5_turn 25 = .ok (.aload_n 3, 1) := by decide +kernel
theorem dX5_turn_26 : decode cX5_turn 26 = .ok (.aload 4, 2) := by decide +kernel
theorem dX5_turn_28 : decode cX5_turn 28 = .ok (.aload_n 3, 1) := by decide +kernel
theorem dX5_turn_29 : decode cX5_turn 29 = .ok (.aload 4, 2) := by decide +kernel
theorem dX5_turn_31 : decode cX5_turn 31 = .ok (.lconst 0, 1) := by decide +kernel
theorem dX5_turn_32 : decode cX5_turn 32 = .ok (.iconst 0, 1) := by decide +kernel
theorem dX5_turn_33 : decode cX5_turn 33 = .ok (.invokestatic 205, 3) := by decide +kernel
theorem dX5_turn_36 : decode cX5_turn 36 = .ok (.iconst 0, 1) := by decide +kernel
theorem dX5_turn_37 : decode cX5_turn 37 = .ok (.invokevirtual 193, 3) := by decide +kernel
theorem dX5_turn_40 : decode cX5_turn 40 = .ok (.istore 5, 2) := by decide +kernel
theorem dX5_turn_42 : decode cX5_turn 42 = .ok (.iload 5, 2) := by decide +kernel
theorem dX5_turn_44 : decode cX5_turn 44 = .ok (.ifCond .eq 8, 3) := by decide +kernel
theorem dX5_turn_47 : decode cX5_turn 47 = .ok (.iload 5, 2) := by decide +kernel
theorem dX5_turn_49 : decode cX5_turn 49 = .ok (.goto 20, 3) := by decide +kernel
theorem dX5_turn_52 : decode cX5_turn 52 = .ok (.aload_n 0, 1) := by decide +kernel
theorem dX5_turn_53 : decode cX5_turn 53 = .ok (.getfield 26, 3) := by decide +kernel
theorem dX5_turn_56 : decode cX5_turn 56 = .ok (.aload_n 0, 1) := by decide +kernel
theorem dX5_turn_57 : decode cX5_turn 57 = .ok (.getfield 26, 3) := by decide +kernel
theorem dX5_turn_60 : decode cX5_turn 60 = .ok (.aload_n 3, 1) := by decide +kernel
theorem dX5_turn_61 : decode cX5_turn 61 = .ok (.aload 4, 2) := by decide +kernel
theorem dX5_turn_63 : decode cX5_turn 63 = .ok (.invokevirtual 217, 3) := by decide +kernel
theorem dX5_turn_66 : decode cX5_turn 66 = .ok (.invokevirtual 201, 3) := by decide +kernel
theorem dX5_turn_69 : decode cX5_turn 69 = .ok (.ireturn, 1) := by decide +kernel
theorem dX5_part_0 : decode cX5_part 0 = .ok (.aload_n 0, 1) := by decide +kernel
theorem dX5_part_1 : decode cX5_part 1 = .ok (.getfield 26, 3) := by decide +kernel
theorem dX5_part_4 : decode cX5_part 4 = .ok (.getfield 221, 3) := by decide +kernel
theorem dX5_part_7 : decode cX5_part 7 = .ok (.astore_n 3, 1) := by decide +kernel
theorem dX5_part_8 : decode cX5_part 8 = .ok (.aload_n 3, 1) := by decide +kernel
theorem dX5_part_9 : decode cX5_part 9 = .ok (.iload_n 1, 1) := by decide +kernel
theorem dX5_part_10 : decode cX5_part 10 = .ok (.iload_n 2, 1) := by decide +kernel
theorem dX5_part_11 : decode cX5_part 11 = .ok (.invokevirtual 225, 3) := by decide +kernel
theorem dX5_part_14 : decode cX5_part 14 = .ok (.istore 4, 2) := by decide +kernel
theorem dX5_part_16 : decode cX5_part 16 = .ok (.iload 4, 2) := by decide +kernel
theorem dX5_part_18 : decode cX5_part 18 = .ok (.ifCond .eq 12, 3) := by decide +kernel
theorem dX5_part_21 : decode cX5_part 21 = .ok (.aload_n 0, 1) := by decide +kernel
theorem dX5_part_22 : decode cX5_part 22 = .ok (.iload 4, 2) := by decide +kernel
theorem dX5_part_24 : decode cX5_part 24 = .ok (.invokevirtual 119, 3) := by decide +kernel
theorem dX5_part_27 : decode cX5_part 27 = .ok (.goto 9, 3) := by decide +kernel
theorem dX5_part_30 : decode cX5_part 30 = .ok (.aload_n 3, 1) := by decide +kernel
theorem dX5_part_31 : decode cX5_part 31 = .ok (.iload_n 1, 1) := by decide +kernel
theorem dX5_part_32 : decode cX5_part 32 = .ok (.iload_n 2, 1) := by decide +kernel
theorem dX5_part_33 : decode cX5_part 33 = .ok (.invokevirtual 230, 3) := by decide +kernel
theorem dX5_part_36 : decode cX5_part 36 = .ok (.lreturn, 1) := by decide +kernel
theorem dX5_tally_0 : decode cX5_tally 0 = .ok (.aload_n 0, 1) := by decide +kernel
theorem dX5_tally_1 : decode cX5_tally 1 = .ok (.getfield 26, 3) := by decide +kernel
theorem dX5_tally_4 : decode cX5_tally 4 = .ok (.getfield 234, 3) := by decide +kernel
theorem dX5_tally_7 : decode cX5_tally 7 = .ok (.astore_n 3, 1) := by decide +kernel
theorem dX5_tally_8 : decode cX5_tally 8 = .ok (.aload_n 3, 1) := by decide +kernel
theorem dX5_tally_9 : decode cX5_tally 9 = .ok (.ifnonnull 9, 3) := by decide +kernel
theorem dX5_tally_12 : decode cX5_tally 12 = .ok (.aload_n 0, 1) := by decide +kernel
theorem dX5_tally_13 : decode cX5_tally 13 = .ok (.iconst 1, 1) := by decide +kernel
theorem dX5_tally_14 : decode cX5_tally 14 = .ok (.invokevirtual 45, 3) := by decide +kernel
theorem dX5_tally_17 : decode cX5_tally 17 = .ok (.ireturn, 1) := by decide +kernel
theorem dX5_tally_18 : decode cX5_tally 18 = .ok (.aload_n 3, 1) := by decide +kernel
theorem dX5_tally_19 : decode cX5_tally 19 = .ok (.iload_n 1, 1) := by decide +kernel
theorem dX5_tally_20 : decode cX5_tally 20 = .ok (.invokevirtual 80, 3) := by decide +kernel
theorem dX5_tally_23 : decode cX5_tally 23 = .ok (.ifCond .ne 9, 3) := by decide +kernel
theorem dX5_tally_26 : decode cX5_tally 26 = .ok (.aload_n 0, 1) := by decide +kernel
theorem dX5_tally_27 : decode cX5_tally 27 = .ok (.iconst 2, 1) := by decide +kernel
theorem dX5_tally_28 : decode cX5_tally 28 = .ok (.invokevirtual 45, 3) := by decide +kernel
theorem dX5_tally_31 : decode cX5_tally 31 = .ok (.ireturn, 1) := by decide +kernel
theorem dX5_tally_32 : decode cX5_tally 32 = .ok (.aload_n 0, 1) := by decide +kernel
theorem dX5_tally_33 : decode cX5_tally 33 = .ok (.getfield 26, 3) := by decide +kernel
theorem dX5_tally_36 : decode cX5_tally 36 = .ok (.aload_n 3, 1) := by decide +kernel
theorem dX5_tally_37 : decode cX5_tally 37 = .ok (.getfield 238, 3) := by decide +kernel
theorem dX5_tally_40 : decode cX5_tally 40 = .ok (.iload_n 1, 1) := by decide +kernel
theorem dX5_tally_41 : decode cX5_tally 41 = .ok (.iconst 0, 1) := by decide +kernel
theorem dX5_tally_42 : decode cX5_tally 42 = .ok (.invokevirtual 240, 3) := by decide +kernel
theorem dX5_tally_45 : decode cX5_tally 45 = .ok (.ifCond .ne 9, 3) := by decide +kernel
theorem dX5_tally_48 : decode cX5_tally 48 = .ok (.aload_n 0, 1) := by decide +kernel
theorem dX5_tally_49 : decode cX5_tally 49 = .ok (.iconst 1, 1) := by decide +kernel
theorem dX5_tally_50 : decode cX5_tally 50 = .ok (.invokevirtual 45, 3) := by decide +kernel
theorem dX5_tally_53 : decode cX5_tally 53 = .ok (.ireturn, 1) := by decide +kernel
theorem dX5_tally_54 : decode cX5_tally 54 = .ok (.iload_n 2, 1) := by decide +kernel
theorem dX5_tally_55 : decode cX5_tally 55 = .ok (.iconst 1, 1) := by decide +kernel
theorem dX5_tally_56 : decode cX5_tally 56 = .ok (.if_icmp .lt 8, 3) := by decide +kernel
theorem dX5_tally_59 : decode cX5_tally 59 = .ok (.iload_n 2, 1) := by decide +kernel
theorem dX5_tally_60 : decode cX5_tally 60 = .ok (.iconst 4, 1) := by decide +kernel
theorem dX5_tally_61 : decode cX5_tally 61 = .ok (.if_icmp .le 9, 3) := by decide +kernel
theorem dX5_tally_64 : decode cX5_tally 64 = .ok (.aload_n 0, 1) := by decide +kernel
theorem dX5_tally_65 : decode cX5_tally 65 = .ok (.iconst 2, 1) := by decide +kernel
theorem dX5_tally_66 : decode cX5_tally 66 = .ok (.invokevirtual 45, 3) := by decide +kernel
theorem dX5_tally_69 : decode cX5_tally 69 = .ok (.ireturn, 1) := by decide +kernel
theorem dX5_tally_70 : decode cX5_tally 70 = .ok (.aload_n 0, 1) := by decide +kernel
theorem dX5_tally_71 : decode cX5_tally 71 = .ok (.getfield 26, 3) := by decide +kernel
theorem dX5_tally_74 : decode cX5_tally 74 = .ok (.aload_n 3, 1) := by decide +kernel
theorem dX5_tally_75 : decode cX5_tally 75 = .ok (.getfield 238, 3) := by decide +kernel
theorem dX5_tally_78 : decode cX5_tally 78 = .ok (.iload_n 1, 1) := by decide +kernel
theorem dX5_tally_79 : decode cX5_tally 79 = .ok (.iload_n 2, 1) := by decide +kernel
theorem dX5_tally_80 : decode cX5_tally 80 = .ok (.invokevirtual 240, 3) := by decide +kernel
theorem dX5_tally_83 : decode cX5_tally 83 = .ok (.ireturn, 1) := by decide +kernel
theorem dX5_steps_0 : decode cX5_steps 0 = .ok (.aload_n 0, 1) := by decide +kernel
theorem dX5_steps_1 : decode cX5_steps 1 = .ok (.getfield 26, 3) := by decide +kernel
theorem dX5_steps_4 : decode cX5_steps 4 = .ok (.getfield 244, 3) := by decide +kernel
theorem dX5_steps_7 : decode cX5_steps 7 = .ok (.ireturn, 1) := by decide +kernel
theorem dX5_step_0 : decode cX5_step 0 = .ok (.iload_n 1, 1) := by decide +kernel
theorem dX5_step_1 : decode cX5_step 1 = .ok (.ifCond .lt 14, 3) := by decide +kernel
theorem dX5_step_4 : decode cX5_step 4 = .ok (.iload_n 1, 1) := by decide +kernel
theorem dX5_step_5 : decode cX5_step 5 = .ok (.aload_n 0, 1) := by decide +kernel
theorem dX5_step_6 : decode cX5_step 6 = .ok (.getfield 26, 3) := by decide +kernel
theorem dX5_step_9 : decode cX5_step 9 = .ok (.getfield 244, 3) := by decide +kernel
theorem dX5_step_12 : decode cX5_step 12 = .ok (.if_icmp .lt 5, 3) := by decide +kernel
theorem dX5_step_15 : decode cX5_step 15 = .ok (.iconst (-1), 1) := by decide +kernel
theorem dX5_step_16 : decode cX5_step 16 = .ok (.ireturn, 1) := by decide +kernel
theorem dX5_step_17 : decode cX5_step 17 = .ok (.iload_n 2, 1) := by decide +kernel
theorem dX5_step_18 : decode cX5_step 18 = .ok (.ifCond .lt 9, 3) := by decide +kernel
theorem dX5_step_21 : decode cX5_step 21 = .ok (.iload_n 2, 1) := by decide +kernel
theorem dX5_step_22 : decode cX5_step 22 = .ok (.bipush 7, 2) := by decide +kernel
theorem dX5_step_24 : decode cX5_step 24 = .ok (.if_icmp .lt 6, 3) := by decide +kernel
theorem dX5_step_27 : decode cX5_step 27 = .ok (.bipush (-2), 2) := by decide +kernel
theorem dX5_step_29 : decode cX5_step 29 = .ok (.ireturn, 1) := by decide +kernel
theorem dX5_step_30 : decode cX5_step 30 = .ok (.aload_n 0, 1) := by decide +kernel
theorem dX5_step_31 : decode cX5_step 31 = .ok (.getfield 26, 3) := by decide +kernel
theorem dX5_step_34 : decode cX5_step 34 = .ok (.iload_n 1, 1) := by decide +kernel
theorem dX5_step_35 : decode cX5_step 35 = .ok (.iload_n 2, 1) := by decide +kernel
theorem dX5_step_36 : decode cX5_step 36 = .ok (.invokevirtual 247, 3) := by decide +kernel
theorem dX5_step_39 : decode cX5_step 39 = .ok (.ireturn, 1) := by decide +kernel
theorem dX5_stuck_0 : decode cX5_stuck 0 = .ok (.iload_n 1, 1) := by decide +kernel
theorem dX5_stuck_1 : decode cX5_stuck 1 = .ok (.tableswitch 51 0 2 #[27, 35, 43], 27) := by decide +kernel
theorem dX5_stuck_28 : decode cX5_stuck 28 = .ok (.aload_n 0, 1) := by decide +kernel
theorem dX5_stuck_29 : decode cX5_stuck 29 = .ok (.getfield 26, 3) := by decide +kernel
theorem dX5_stuck_32 : decode cX5_stuck 32 = .ok (.getfield 250, 3) := by decide +kernel
theorem dX5_stuck_35 : decode cX5_stuck 35 = .ok (.ireturn, 1) := by decide +kernel
theorem dX5_stuck_36 : decode cX5_stuck 36 = .ok (.aload_n 0, 1) := by decide +kernel
theorem dX5_stuck_37 : decode cX5_stuck 37 = .ok (.getfield 26, 3) := by decide +kernel
theorem dX5_stuck_40 : decode cX5_stuck 40 = .ok (.getfield 253, 3) := by decide +kernel
theorem dX5_stuck_43 : decode cX5_stuck 43 = .ok (.ireturn, 1) := by decide +kernel
theorem dX5_stuck_44 : decode cX5_stuck 44 = .ok (.aload_n 0, 1) := by decide +kernel
theorem dX5_stuck_45 : decode cX5_stuck 45 = .ok (.getfield 26, 3) := by decide +kernel
theorem dX5_stuck_48 : decode cX5_stuck 48 = .ok (.getfield 256, 3) := by decide +kernel
theorem dX5_stuck_51 : decode cX5_stuck 51 = .ok (.ireturn, 1) := by decide +kernel
theorem dX5_stuck_52 : decode cX5_stuck 52 = .ok (.bipush (-2), 2) := by decide +kernel
theorem dX5_stuck_54 : decode cX5_stuck 54 = .ok (.ireturn, 1) := by decide +kernel
theorem dX5_undo_0 : decode cX5_undo 0 = .ok (.aload_n 0, 1) := by decide +kernel
theorem dX5_undo_1 : decode cX5_undo 1 = .ok (.getfield 26, 3) := by decide +kernel
theorem dX5_undo_4 : decode cX5_undo 4 = .ok (.getfield 259, 3) := by decide +kernel
theorem dX5_undo_7 : decode cX5_undo 7 = .ok (.ifCond .le 13, 3) := by decide +kernel
theorem dX5_undo_10 : decode cX5_undo 10 = .ok (.aload_n 0, 1) := by decide +kernel
theorem dX5_undo_11 : decode cX5_undo 11 = .ok (.getfield 26, 3) := by decide +kernel
theorem dX5_undo_14 : decode cX5_undo 14 = .ok (.getfield 90, 3) := by decide +kernel
theorem dX5_undo_17 : decode cX5_undo 17 = .ok (.ifCond .eq 6, 3) := by decide +kernel
theorem dX5_undo_20 : decode cX5_undo 20 = .ok (.bipush (-3), 2) := by decide +kernel
theorem dX5_undo_22 : decode cX5_undo 22 = .ok (.ireturn, 1) := by decide +kernel
theorem dX5_undo_23 : decode cX5_undo 23 = .ok (.aload_n 0, 1) := by decide +kernel
theorem dX5_undo_24 : decode cX5_undo 24 = .ok (.getfield 26, 3) := by decide +kernel
theorem dX5_undo_27 : decode cX5_undo 27 = .ok (.dup, 1) := by decide +kernel
theorem dX5_undo_28 : decode cX5_undo 28 = .ok (.getfield 259, 3) := by decide +kernel
theorem dX5_undo_31 : decode cX5_undo 31 = .ok (.iconst 1, 1) := by decide +kernel
theorem dX5_undo_32 : decode cX5_undo 32 = .ok (.isub, 1) := by decide +kernel
theorem dX5_undo_33 : decode cX5_undo 33 = .ok (.putfield 259, 3) := by decide +kernel
theorem dX5_undo_36 : decode cX5_undo 36 = .ok (.aload_n 0, 1) := by decide +kernel
theorem dX5_undo_37 : decode cX5_undo 37 = .ok (.getfield 26, 3) := by decide +kernel
theorem dX5_undo_40 : decode cX5_undo 40 = .ok (.aload_n 0, 1) := by decide +kernel
theorem dX5_undo_41 : decode cX5_undo 41 = .ok (.getfield 26, 3) := by decide +kernel
theorem dX5_undo_44 : decode cX5_undo 44 = .ok (.getfield 259, 3) := by decide +kernel
theorem dX5_undo_47 : decode cX5_undo 47 = .ok (.invokevirtual 262, 3) := by decide +kernel
theorem dX5_undo_50 : decode cX5_undo 50 = .ok (.aload_n 0, 1) := by decide +kernel
theorem dX5_undo_51 : decode cX5_undo 51 = .ok (.getfield 26, 3) := by decide +kernel
theorem dX5_undo_54 : decode cX5_undo 54 = .ok (.getfield 259, 3) := by decide +kernel
theorem dX5_undo_57 : decode cX5_undo 57 = .ok (.ireturn, 1) := by decide +kernel
theorem dX5_pupil_0 : decode cX5_pupil 0 = .ok (.aload_n 0, 1) := by decide +kernel
theorem dX5_pupil_1 : decode cX5_pupil 1 = .ok (.getfield 265, 3) := by decide +kernel
theorem dX5_pupil_4 : decode cX5_pupil 4 = .ok (.sipush 300, 3) := by decide +kernel
theorem dX5_pupil_7 : decode cX5_pupil 7 = .ok (.if_icmp .lt 6, 3) := by decide +kernel
theorem dX5_pupil_10 : decode cX5_pupil 10 = .ok (.bipush (-4), 2) := by decide +kernel
theorem dX5_pupil_12 : decode cX5_pupil 12 = .ok (.ireturn, 1) := by decide +kernel
theorem dX5_pupil_13 : decode cX5_pupil 13 = .ok (.aload_n 0, 1) := by decide +kernel
theorem dX5_pupil_14 : decode cX5_pupil 14 = .ok (.dup, 1) := by decide +kernel
theorem dX5_pupil_15 : decode cX5_pupil 15 = .ok (.getfield 265, 3) := by decide +kernel
theorem dX5_pupil_18 : decode cX5_pupil 18 = .ok (.iconst 1, 1) := by decide +kernel
theorem dX5_pupil_19 : decode cX5_pupil 19 = .ok (.iadd, 1) := by decide +kernel
theorem dX5_pupil_20 : decode cX5_pupil 20 = .ok (.putfield 265, 3) := by decide +kernel
theorem dX5_pupil_23 : decode cX5_pupil 23 = .ok (.aload_n 0, 1) := by decide +kernel
theorem dX5_pupil_24 : decode cX5_pupil 24 = .ok (.aload_n 0, 1) := by decide +kernel
theorem dX5_pupil_25 : decode cX5_pupil 25 = .ok (.getfield 265, 3) := by decide +kernel
theorem dX5_pupil_28 : decode cX5_pupil 28 = .ok (.iconst 1, 1) := by decide +kernel
theorem dX5_pupil_29 : decode cX5_pupil 29 = .ok (.isub, 1) := by decide +kernel
theorem dX5_pupil_30 : decode cX5_pupil 30 = .ok (.iload_n 1, 1) := by decide +kernel
theorem dX5_pupil_31 : decode cX5_pupil 31 = .ok (.iload_n 2, 1) := by decide +kernel
theorem dX5_pupil_32 : decode cX5_pupil 32 = .ok (.iload_n 3, 1) := by decide +kernel
theorem dX5_pupil_33 : decode cX5_pupil 33 = .ok (.iload 4, 2) := by decide +kernel
theorem dX5_pupil_35 : decode cX5_pupil 35 = .ok (.invokevirtual 268, 3) := by decide +kernel
theorem dX5_pupil_38 : decode cX5_pupil 38 = .ok (.aload_n 0, 1) := by decide +kernel
theorem dX5_pupil_39 : decode cX5_pupil 39 = .ok (.getfield 265, 3) := by decide +kernel
theorem dX5_pupil_42 : decode cX5_pupil 42 = .ok (.ireturn, 1) := by decide +kernel
theorem dX5_begin_0 : decode cX5_begin 0 = .ok (.aload_n 0, 1) := by decide +kernel
theorem dX5_begin_1 : decode cX5_begin 1 = .ok (.getfield 265, 3) := by decide +kernel
theorem dX5_begin_4 : decode cX5_begin 4 = .ok (.istore_n 1, 1) := by decide +kernel
theorem dX5_begin_5 : decode cX5_begin 5 = .ok (.aload_n 0, 1) := by decide +kernel
theorem dX5_begin_6 : decode cX5_begin 6 = .ok (.iconst 0, 1) := by decide +kernel
theorem dX5_begin_7 : decode cX5_begin 7 = .ok (.putfield 265, 3) := by decide +kernel
theorem dX5_begin_10 : decode cX5_begin 10 = .ok (.iload_n 1, 1) := by decide +kernel
theorem dX5_begin_11 : decode cX5_begin 11 = .ok (.ireturn, 1) := by decide +kernel
theorem dX5_slip_0 : decode cX5_slip 0 = .ok (.aload_n 0, 1) := by decide +kernel
theorem dX5_slip_1 : decode cX5_slip 1 = .ok (.invokevirtual 272, 3) := by decide +kernel
theorem dX5_slip_4 : decode cX5_slip 4 = .ok (.ireturn, 1) := by decide +kernel
theorem dX5_lapse_0 : decode cX5_lapse 0 = .ok (.aload_n 0, 1) := by decide +kernel
theorem dX5_lapse_1 : decode cX5_lapse 1 = .ok (.aload_n 0, 1) := by decide +kernel
theorem dX5_lapse_2 : decode cX5_lapse 2 = .ok (.invokevirtual 272, 3) := by decide +kernel
theorem dX5_lapse_5 : decode cX5_lapse 5 = .ok (.invokevirtual 275, 3) := by decide +kernel
theorem dX5_lapse_8 : decode cX5_lapse 8 = .ok (.ireturn, 1) := by decide +kernel
theorem dX5_fix_0 : decode cX5_fix 0 = .ok (.aload_n 0, 1) := by decide +kernel
theorem dX5_fix_1 : decode cX5_fix 1 = .ok (.invokevirtual 272, 3) := by decide +kernel
theorem dX5_fix_4 : decode cX5_fix 4 = .ok (.istore_n 1, 1) := by decide +kernel
theorem dX5_fix_5 : decode cX5_fix 5 = .ok (.aload_n 0, 1) := by decide +kernel
theorem dX5_fix_6 : decode cX5_fix 6 = .ok (.iload_n 1, 1) := by decide +kernel
theorem dX5_fix_7 : decode cX5_fix 7 = .ok (.invokevirtual 275, 3) := by decide +kernel
theorem dX5_fix_10 : decode cX5_fix 10 = .ok (.istore_n 2, 1) := by decide +kernel
theorem dX5_fix_11 : decode cX5_fix 11 = .ok (.iload_n 2, 1) := by decide +kernel
theorem dX5_fix_12 : decode cX5_fix 12 = .ok (.ifCond .ne 6, 3) := by decide +kernel
theorem dX5_fix_15 : decode cX5_fix 15 = .ok (.bipush (-3), 2) := by decide +kernel
theorem dX5_fix_17 : decode cX5_fix 17 = .ok (.ireturn, 1) := by decide +kernel
theorem dX5_fix_18 : decode cX5_fix 18 = .ok (.iload_n 2, 1) := by decide +kernel
theorem dX5_fix_19 : decode cX5_fix 19 = .ok (.iconst 4, 1) := by decide +kernel
theorem dX5_fix_20 : decode cX5_fix 20 = .ok (.if_icmp .ne 13, 3) := by decide +kernel
theorem dX5_fix_23 : decode cX5_fix 23 = .ok (.aload_n 0, 1) := by decide +kernel
theorem dX5_fix_24 : decode cX5_fix 24 = .ok (.iload_n 1, 1) := by decide +kernel
theorem dX5_fix_25 : decode cX5_fix 25 = .ok (.putfield 265, 3) := by decide +kernel
theorem dX5_fix_28 : decode cX5_fix 28 = .ok (.aload_n 0, 1) := by decide +kernel
theorem dX5_fix_29 : decode cX5_fix 29 = .ok (.invokevirtual 272, 3) := by decide +kernel
theorem dX5_fix_32 : decode cX5_fix 32 = .ok (.ireturn, 1) := by decide +kernel
theorem dX5_fix_33 : decode cX5_fix 33 = .ok (.iload_n 2, 1) := by decide +kernel
theorem dX5_fix_34 : decode cX5_fix 34 = .ok (.iconst 3, 1) := by decide +kernel
theorem dX5_fix_35 : decode cX5_fix 35 = .ok (.if_icmp .ne 26, 3) := by decide +kernel
theorem dX5_fix_38 : decode cX5_fix 38 = .ok (.aload_n 0, 1) := by decide +kernel
theorem dX5_fix_39 : decode cX5_fix 39 = .ok (.getfield 265, 3) := by decide +kernel
theorem dX5_fix_42 : decode cX5_fix 42 = .ok (.sipush 300, 3) := by decide +kernel
theorem dX5_fix_45 : decode cX5_fix 45 = .ok (.if_icmp .lt 6, 3) := by decide +kernel
theorem dX5_fix_48 : decode cX5_fix 48 = .ok (.bipush (-4), 2) := by decide +kernel
theorem dX5_fix_50 : decode cX5_fix 50 = .ok (.ireturn, 1) := by decide +kernel
theorem dX5_fix_51 : decode cX5_fix 51 = .ok (.aload_n 0, 1) := by decide +kernel
theorem dX5_fix_52 : decode cX5_fix 52 = .ok (.dup, 1) := by decide +kernel
theorem dX5_fix_53 : decode cX5_fix 53 = .ok (.getfield 265, 3) := by decide +kernel
theorem dX5_fix_56 : decode cX5_fix 56 = .ok (.iconst 1, 1) := by decide +kernel
theorem dX5_fix_57 : decode cX5_fix 57 = .ok (.iadd, 1) := by decide +kernel
theorem dX5_fix_58 : decode cX5_fix 58 = .ok (.putfield 265, 3) := by decide +kernel
theorem dX5_fix_61 : decode cX5_fix 61 = .ok (.aload_n 0, 1) := by decide +kernel
theorem dX5_fix_62 : decode cX5_fix 62 = .ok (.iload_n 1, 1) := by decide +kernel
theorem dX5_fix_63 : decode cX5_fix 63 = .ok (.aload_n 0, 1) := by decide +kernel
theorem dX5_fix_64 : decode cX5_fix 64 = .ok (.getfield 26, 3) := by decide +kernel
theorem dX5_fix_67 : decode cX5_fix 67 = .ok (.iload_n 1, 1) := by decide +kernel
theorem dX5_fix_68 : decode cX5_fix 68 = .ok (.iconst 0, 1) := by decide +kernel
theorem dX5_fix_69 : decode cX5_fix 69 = .ok (.invokevirtual 247, 3) := by decide +kernel
theorem dX5_fix_72 : decode cX5_fix 72 = .ok (.aload_n 0, 1) := by decide +kernel
theorem dX5_fix_73 : decode cX5_fix 73 = .ok (.getfield 26, 3) := by decide +kernel
theorem dX5_fix_76 : decode cX5_fix 76 = .ok (.iload_n 1, 1) := by decide +kernel
theorem dX5_fix_77 : decode cX5_fix 77 = .ok (.iconst 1, 1) := by decide +kernel
theorem dX5_fix_78 : decode cX5_fix 78 = .ok (.invokevirtual 247, 3) := by decide +kernel
theorem dX5_fix_81 : decode cX5_fix 81 = .ok (.aload_n 0, 1) := by decide +kernel
theorem dX5_fix_82 : decode cX5_fix 82 = .ok (.getfield 26, 3) := by decide +kernel
theorem dX5_fix_85 : decode cX5_fix 85 = .ok (.iload_n 1, 1) := by decide +kernel
theorem dX5_fix_86 : decode cX5_fix 86 = .ok (.iconst 2, 1) := by decide +kernel
theorem dX5_fix_87 : decode cX5_fix 87 = .ok (.invokevirtual 247, 3) := by decide +kernel
theorem dX5_fix_90 : decode cX5_fix 90 = .ok (.aload_n 0, 1) := by decide +kernel
theorem dX5_fix_91 : decode cX5_fix 91 = .ok (.getfield 26, 3) := by decide +kernel
theorem dX5_fix_94 : decode cX5_fix 94 = .ok (.iload_n 1, 1) := by decide +kernel
theorem dX5_fix_95 : decode cX5_fix 95 = .ok (.iconst 3, 1) := by decide +kernel
theorem dX5_fix_96 : decode cX5_fix 96 = .ok (.invokevirtual 247, 3) := by decide +kernel
theorem dX5_fix_99 : decode cX5_fix 99 = .ok (.invokevirtual 268, 3) := by decide +kernel
theorem dX5_fix_102 : decode cX5_fix 102 = .ok (.aload_n 0, 1) := by decide +kernel
theorem dX5_fix_103 : decode cX5_fix 103 = .ok (.invokevirtual 272, 3) := by decide +kernel
theorem dX5_fix_106 : decode cX5_fix 106 = .ok (.ireturn, 1) := by decide +kernel
theorem dX5_exercise_0 : decode cX5_exercise 0 = .ok (.iload_n 1, 1) := by decide +kernel
theorem dX5_exercise_1 : decode cX5_exercise 1 = .ok (.ifCond .lt 8, 3) := by decide +kernel
theorem dX5_exercise_4 : decode cX5_exercise 4 = .ok (.iload_n 1, 1) := by decide +kernel
theorem dX5_exercise_5 : decode cX5_exercise 5 = .ok (.iconst 2, 1) := by decide +kernel
theorem dX5_exercise_6 : decode cX5_exercise 6 = .ok (.if_icmp .le 6, 3) := by decide +kernel
theorem dX5_exercise_9 : decode cX5_exercise 9 = .ok (.bipush (-2), 2) := by decide +kernel
theorem dX5_exercise_11 : decode cX5_exercise 11 = .ok (.ireturn, 1) := by decide +kernel
theorem dX5_exercise_12 : decode cX5_exercise 12 = .ok (.aload_n 0, 1) := by decide +kernel
theorem dX5_exercise_13 : decode cX5_exercise 13 = .ok (.getfield 278, 3) := by decide +kernel
theorem dX5_exercise_16 : decode cX5_exercise 16 = .ok (.sipush 200, 3) := by decide +kernel
theorem dX5_exercise_19 : decode cX5_exercise 19 = .ok (.if_icmp .lt 6, 3) := by decide +kernel
theorem dX5_exercise_22 : decode cX5_exercise 22 = .ok (.bipush (-4), 2) := by decide +kernel
theorem dX5_exercise_24 : decode cX5_exercise 24 = .ok (.ireturn, 1) := by decide +kernel
theorem dX5_exercise_25 : decode cX5_exercise 25 = .ok (.new 17, 3) := by decide +kernel
theorem dX5_exercise_28 : decode cX5_exercise 28 = .ok (.dup, 1) := by decide +kernel
theorem dX5_exercise_29 : decode cX5_exercise 29 = .ok (.iload_n 1, 1) := by decide +kernel
theorem dX5_exercise_30 : decode cX5_exercise 30 = .ok (.iload_n 2, 1) := by decide +kernel
theorem dX5_exercise_31 : decode cX5_exercise 31 = .ok (.invokespecial 281, 3) := by decide +kernel
theorem dX5_exercise_34 : decode cX5_exercise 34 = .ok (.astore_n 3, 1) := by decide +kernel
theorem dX5_exercise_35 : decode cX5_exercise 35 = .ok (.aload_n 3, 1) := by decide +kernel
theorem dX5_exercise_36 : decode cX5_exercise 36 = .ok (.invokevirtual 283, 3) := by decide +kernel
theorem dX5_exercise_39 : decode cX5_exercise 39 = .ok (.aload_n 0, 1) := by decide +kernel
theorem dX5_exercise_40 : decode cX5_exercise 40 = .ok (.getfield 19, 3) := by decide +kernel
theorem dX5_exercise_43 : decode cX5_exercise 43 = .ok (.aload_n 0, 1) := by decide +kernel
theorem dX5_exercise_44 : decode cX5_exercise 44 = .ok (.getfield 278, 3) := by decide +kernel
theorem dX5_exercise_47 : decode cX5_exercise 47 = .ok (.aload_n 3, 1) := by decide +kernel
theorem dX5_exercise_48 : decode cX5_exercise 48 = .ok (.aastore, 1) := by decide +kernel
theorem dX5_exercise_49 : decode cX5_exercise 49 = .ok (.aload_n 0, 1) := by decide +kernel
theorem dX5_exercise_50 : decode cX5_exercise 50 = .ok (.dup, 1) := by decide +kernel
theorem dX5_exercise_51 : decode cX5_exercise 51 = .ok (.getfield 278, 3) := by decide +kernel
theorem dX5_exercise_54 : decode cX5_exercise 54 = .ok (.iconst 1, 1) := by decide +kernel
theorem dX5_exercise_55 : decode cX5_exercise 55 = .ok (.iadd, 1) := by decide +kernel
theorem dX5_exercise_56 : decode cX5_exercise 56 = .ok (.putfield 278, 3) := by decide +kernel
theorem dX5_exercise_59 : decode cX5_exercise 59 = .ok (.aload_n 0, 1) := by decide +kernel
theorem dX5_exercise_60 : decode cX5_exercise 60 = .ok (.getfield 278, 3) := by decide +kernel
theorem dX5_exercise_63 : decode cX5_exercise 63 = .ok (.iconst 1, 1) := by decide +kernel
theorem dX5_exercise_64 : decode cX5_exercise 64 = .ok (.isub, 1) := by decide +kernel
theorem dX5_exercise_65 : decode cX5_exercise 65 = .ok (.ireturn, 1) := by decide +kernel
theorem dX5_place_0 : decode cX5_place 0 = .ok (.aload_n 0, 1) := by decide +kernel
theorem dX5_place_1 : decode cX5_place 1 = .ok (.iload_n 1, 1) := by decide +kernel
theorem dX5_place_2 : decode cX5_place 2 = .ok (.invokevirtual 286, 3) := by decide +kernel
theorem dX5_place_5 : decode cX5_place 5 = .ok (.astore_n 3, 1) := by decide +kernel
theorem dX5_place_6 : decode cX5_place 6 = .ok (.aload_n 3, 1) := by decide +kernel
theorem dX5_place_7 : decode cX5_place 7 = .ok (.ifnonnull 5, 3) := by decide +kernel
theorem dX5_place_10 : decode cX5_place 10 = .ok (.iconst (-1), 1) := by decide +kernel
theorem dX5_place_11 : decode cX5_place 11 = .ok (.ireturn, 1) := by decide +kernel
theorem dX5_place_12 : decode cX5_place 12 = .ok (.iload_n 2, 1) := by decide +kernel
theorem dX5_place_13 : decode cX5_place 13 = .ok (.ifCond .lt 9, 3) := by decide +kernel
theorem dX5_place_16 : decode cX5_place 16 = .ok (.iload_n 2, 1) := by decide +kernel
theorem dX5_place_17 : decode cX5_place 17 = .ok (.bipush 12, 2) := by decide +kernel
theorem dX5_place_19 : decode cX5_place 19 = .ok (.if_icmp .lt 6, 3) := by decide +kernel
theorem dX5_place_22 : decode cX5_place 22 = .ok (.bipush (-2), 2) := by decide +kernel
theorem dX5_place_24 : decode cX5_place 24 = .ok (.ireturn, 1) := by decide +kernel
theorem dX5_place_25 : decode cX5_place 25 = .ok (.aload_n 3, 1) := by decide +kernel
theorem dX5_place_26 : decode cX5_place 26 = .ok (.iload_n 2, 1) := by decide +kernel
theorem dX5_place_27 : decode cX5_place 27 = .ok (.invokevirtual 290, 3) := by decide +kernel
theorem dX5_place_30 : decode cX5_place 30 = .ok (.ifCond .eq 8, 3) := by decide +kernel
theorem dX5_place_33 : decode cX5_place 33 = .ok (.bipush (-5), 2) := by decide +kernel
theorem dX5_place_35 : decode cX5_place 35 = .ok (.goto 9, 3) := by decide +kernel
theorem dX5_place_38 : decode cX5_place 38 = .ok (.aload_n 3, 1) := by decide +kernel
theorem dX5_place_39 : decode cX5_place 39 = .ok (.getfield 293, 3) := by decide +kernel
theorem dX5_place_42 : decode cX5_place 42 = .ok (.iload_n 2, 1) := by decide +kernel
theorem dX5_place_43 : decode cX5_place 43 = .ok (.iaload, 1) := by decide +kernel
theorem dX5_place_44 : decode cX5_place 44 = .ok (.ireturn, 1) := by decide +kernel
theorem dX5_fillings_0 : decode cX5_fillings 0 = .ok (.aload_n 0, 1) := by decide +kernel
theorem dX5_fillings_1 : decode cX5_fillings 1 = .ok (.iload_n 1, 1) := by decide +kernel
theorem dX5_fillings_2 : decode cX5_fillings 2 = .ok (.invokevirtual 286, 3) := by decide +kernel
theorem dX5_fillings_5 : decode cX5_fillings 5 = .ok (.astore_n 2, 1) := by decide +kernel
theorem dX5_fillings_6 : decode cX5_fillings 6 = .ok (.aload_n 2, 1) := by decide +kernel
theorem dX5_fillings_7 : decode cX5_fillings 7 = .ok (.ifnonnull 7, 3) := by decide +kernel
theorem dX5_fillings_10 : decode cX5_fillings 10 = .ok (.iconst (-1), 1) := by decide +kernel
theorem dX5_fillings_11 : decode cX5_fillings 11 = .ok (.goto 7, 3) := by decide +kernel
theorem dX5_fillings_14 : decode cX5_fillings 14 = .ok (.aload_n 2, 1) := by decide +kernel
theorem dX5_fillings_15 : decode cX5_fillings 15 = .ok (.getfield 296, 3) := by decide +kernel
theorem dX5_fillings_18 : decode cX5_fillings 18 = .ok (.ireturn, 1) := by decide +kernel
theorem dX5_answer_0 : decode cX5_answer 0 = .ok (.aload_n 0, 1) := by decide +kernel
theorem dX5_answer_1 : decode cX5_answer 1 = .ok (.iload_n 1, 1) := by decide +kernel
theorem dX5_answer_2 : decode cX5_answer 2 = .ok (.invokevirtual 286, 3) := by decide +kernel
theorem dX5_answer_5 : decode cX5_answer 5 = .ok (.astore_n 3, 1) := by decide +kernel
theorem dX5_answer_6 : decode cX5_answer 6 = .ok (.aload_n 3, 1) := by decide +kernel
theorem dX5_answer_7 : decode cX5_answer 7 = .ok (.ifnonnull 5, 3) := by decide +kernel
theorem dX5_answer_10 : decode cX5_answer 10 = .ok (.iconst (-1), 1) := by decide +kernel
theorem dX5_answer_11 : decode cX5_answer 11 = .ok (.ireturn, 1) := by decide +kernel
theorem dX5_answer_12 : decode cX5_answer 12 = .ok (.iload_n 2, 1) := by decide +kernel
theorem dX5_answer_13 : decode cX5_answer 13 = .ok (.ifCond .lt 9, 3) := by decide +kernel
theorem dX5_answer_16 : decode cX5_answer 16 = .ok (.iload_n 2, 1) := by decide +kernel
theorem dX5_answer_17 : decode cX5_answer 17 = .ok (.bipush 12, 2) := by decide +kernel
theorem dX5_answer_19 : decode cX5_answer 19 = .ok (.if_icmp .lt 8, 3) := by decide +kernel
theorem dX5_answer_22 : decode cX5_answer 22 = .ok (.bipush (-2), 2) := by decide +kernel
theorem dX5_answer_24 : decode cX5_answer 24 = .ok (.goto 9, 3) := by decide +kernel
theorem dX5_answer_27 : decode cX5_answer 27 = .ok (.aload_n 3, 1) := by decide +kernel
theorem dX5_answer_28 : decode cX5_answer 28 = .ok (.getfield 293, 3) := by decide +kernel
theorem dX5_answer_31 : decode cX5_answer 31 = .ok (.iload_n 2, 1) := by decide +kernel
theorem dX5_answer_32 : decode cX5_answer 32 = .ok (.iaload, 1) := by decide +kernel
theorem dX5_answer_33 : decode cX5_answer 33 = .ok (.ireturn, 1) := by decide +kernel
theorem dX5_told_0 : decode cX5_told 0 = .ok (.iload_n 1, 1) := by decide +kernel
theorem dX5_told_1 : decode cX5_told 1 = .ok (.tableswitch 84 0 6 #[43, 48, 53, 61, 69, 74, 79], 43) := by decide +kernel
theorem dX5_told_44 : decode cX5_told 44 = .ok (.aload_n 0, 1) := by decide +kernel
theorem dX5_told_45 : decode cX5_told 45 = .ok (.getfield 41, 3) := by decide +kernel
theorem dX5_told_48 : decode cX5_told 48 = .ok (.ireturn, 1) := by decide +kernel
theorem dX5_told_49 : decode cX5_told 49 = .ok (.aload_n 0, 1) := by decide +kernel
theorem dX5_told_50 : decode cX5_told 50 = .ok (.getfield 278, 3) := by decide +kernel
theorem dX5_told_53 : decode cX5_told 53 = .ok (.ireturn, 1) := by decide +kernel
theorem dX5_told_54 : decode cX5_told 54 = .ok (.aload_n 0, 1) := by decide +kernel
theorem dX5_told_55 : decode cX5_told 55 = .ok (.getfield 26, 3) := by decide +kernel
theorem dX5_told_58 : decode cX5_told 58 = .ok (.getfield 299, 3) := by decide +kernel
theorem dX5_told_61 : decode cX5_told 61 = .ok (.ireturn, 1) := by decide +kernel
theorem dX5_told_62 : decode cX5_told 62 = .ok (.aload_n 0, 1) := by decide +kernel
theorem dX5_told_63 : decode cX5_told 63 = .ok (.getfield 26, 3) := by decide +kernel
theorem dX5_told_66 : decode cX5_told 66 = .ok (.getfield 302, 3) := by decide +kernel
theorem dX5_told_69 : decode cX5_told 69 = .ok (.ireturn, 1) := by decide +kernel
theorem dX5_told_70 : decode cX5_told 70 = .ok (.aload_n 0, 1) := by decide +kernel
theorem dX5_told_71 : decode cX5_told 71 = .ok (.getfield 305, 3) := by decide +kernel
theorem dX5_told_74 : decode cX5_told 74 = .ok (.ireturn, 1) := by decide +kernel
theorem dX5_told_75 : decode cX5_told 75 = .ok (.aload_n 0, 1) := by decide +kernel
theorem dX5_told_76 : decode cX5_told 76 = .ok (.getfield 265, 3) := by decide +kernel
theorem dX5_told_79 : decode cX5_told 79 = .ok (.ireturn, 1) := by decide +kernel
theorem dX5_told_80 : decode cX5_told 80 = .ok (.aload_n 0, 1) := by decide +kernel
theorem dX5_told_81 : decode cX5_told 81 = .ok (.invokevirtual 308, 3) := by decide +kernel
theorem dX5_told_84 : decode cX5_told 84 = .ok (.ireturn, 1) := by decide +kernel
theorem dX5_told_85 : decode cX5_told 85 = .ok (.bipush (-2), 2) := by decide +kernel
theorem dX5_told_87 : decode cX5_told 87 = .ok (.ireturn, 1) := by decide +kernel
theorem dX5_fault_0 : decode cX5_fault 0 = .ok (.aload_n 0, 1) := by decide +kernel
theorem dX5_fault_1 : decode cX5_fault 1 = .ok (.getfield 311, 3) := by decide +kernel
theorem dX5_fault_4 : decode cX5_fault 4 = .ok (.ireturn, 1) := by decide +kernel
theorem dX5_known_0 : decode cX5_known 0 = .ok (.iload_n 1, 1) := by decide +kernel
theorem dX5_known_1 : decode cX5_known 1 = .ok (.ifCond .lt 11, 3) := by decide +kernel
theorem dX5_known_4 : decode cX5_known 4 = .ok (.iload_n 1, 1) := by decide +kernel
theorem dX5_known_5 : decode cX5_known 5 = .ok (.aload_n 0, 1) := by decide +kernel
theorem dX5_known_6 : decode cX5_known 6 = .ok (.getfield 41, 3) := by decide +kernel
theorem dX5_known_9 : decode cX5_known 9 = .ok (.if_icmp .lt 7, 3) := by decide +kernel
theorem dX5_known_12 : decode cX5_known 12 = .ok (.aconst_null, 1) := by decide +kernel
theorem dX5_known_13 : decode cX5_known 13 = .ok (.goto 9, 3) := by decide +kernel
theorem dX5_known_16 : decode cX5_known 16 = .ok (.aload_n 0, 1) := by decide +kernel
theorem dX5_known_17 : decode cX5_known 17 = .ok (.getfield 13, 3) := by decide +kernel
theorem dX5_known_20 : decode cX5_known 20 = .ok (.iload_n 1, 1) := by decide +kernel
theorem dX5_known_21 : decode cX5_known 21 = .ok (.aaload, 1) := by decide +kernel
theorem dX5_known_22 : decode cX5_known 22 = .ok (.areturn, 1) := by decide +kernel
theorem dX5_knownExercise_0 : decode cX5_knownExercise 0 = .ok (.iload_n 1, 1) := by decide +kernel
theorem dX5_knownExercise_1 : decode cX5_knownExercise 1 = .ok (.ifCond .lt 11, 3) := by decide +kernel
theorem dX5_knownExercise_4 : decode cX5_knownExercise 4 = .ok (.iload_n 1, 1) := by decide +kernel
theorem dX5_knownExercise_5 : decode cX5_knownExercise 5 = .ok (.aload_n 0, 1) := by decide +kernel
theorem dX5_knownExercise_6 : decode cX5_knownExercise 6 = .ok (.getfield 278, 3) := by decide +kernel
theorem dX5_knownExercise_9 : decode cX5_knownExercise 9 = .ok (.if_icmp .lt 7, 3) := by decide +kernel
theorem dX5_knownExercise_12 : decode cX5_knownExercise 12 = .ok (.aconst_null, 1) := by decide +kernel
theorem dX5_knownExercise_13 : decode cX5_knownExercise 13 = .ok (.goto 9, 3) := by decide +kernel
theorem dX5_knownExercise_16 : decode cX5_knownExercise 16 = .ok (.aload_n 0, 1) := by decide +kernel
theorem dX5_knownExercise_17 : decode cX5_knownExercise 17 = .ok (.getfield 19, 3) := by decide +kernel
theorem dX5_knownExercise_20 : decode cX5_knownExercise 20 = .ok (.iload_n 1, 1) := by decide +kernel
theorem dX5_knownExercise_21 : decode cX5_knownExercise 21 = .ok (.aaload, 1) := by decide +kernel
theorem dX5_knownExercise_22 : decode cX5_knownExercise 22 = .ok (.areturn, 1) := by decide +kernel
theorem dX5_faulted_0 : decode cX5_faulted 0 = .ok (.aload_n 0, 1) := by decide +kernel
theorem dX5_faulted_1 : decode cX5_faulted 1 = .ok (.iload_n 1, 1) := by decide +kernel
theorem dX5_faulted_2 : decode cX5_faulted 2 = .ok (.putfield 311, 3) := by decide +kernel
theorem dX5_faulted_5 : decode cX5_faulted 5 = .ok (.aload_n 0, 1) := by decide +kernel
theorem dX5_faulted_6 : decode cX5_faulted 6 = .ok (.dup, 1) := by decide +kernel
theorem dX5_faulted_7 : decode cX5_faulted 7 = .ok (.getfield 305, 3) := by decide +kernel
theorem dX5_faulted_10 : decode cX5_faulted 10 = .ok (.iconst 1, 1) := by decide +kernel
theorem dX5_faulted_11 : decode cX5_faulted 11 = .ok (.iadd, 1) := by decide +kernel
theorem dX5_faulted_12 : decode cX5_faulted 12 = .ok (.putfield 305, 3) := by decide +kernel
theorem dX5_faulted_15 : decode cX5_faulted 15 = .ok (.bipush (-10), 2) := by decide +kernel
theorem dX5_faulted_17 : decode cX5_faulted 17 = .ok (.iload_n 1, 1) := by decide +kernel
theorem dX5_faulted_18 : decode cX5_faulted 18 = .ok (.isub, 1) := by decide +kernel
theorem dX5_faulted_19 : decode cX5_faulted 19 = .ok (.ireturn, 1) := by decide +kernel
theorem dX5_lost_0 : decode cX5_lost 0 = .ok (.aload_n 0, 1) := by decide +kernel
theorem dX5_lost_1 : decode cX5_lost 1 = .ok (.iload_n 1, 1) := by decide +kernel
theorem dX5_lost_2 : decode cX5_lost 2 = .ok (.invokevirtual 45, 3) := by decide +kernel
theorem dX5_lost_5 : decode cX5_lost 5 = .ok (.pop, 1) := by decide +kernel
theorem dX5_lost_6 : decode cX5_lost 6 = .ok (.ldc2_w 114, 3) := by decide +kernel
theorem dX5_lost_9 : decode cX5_lost 9 = .ok (.lreturn, 1) := by decide +kernel
theorem dX5_baseOf_0 : decode cX5_baseOf 0 = .ok (.iload_n 0, 1) := by decide +kernel
theorem dX5_baseOf_1 : decode cX5_baseOf 1 = .ok (.iconst 3, 1) := by decide +kernel
theorem dX5_baseOf_2 : decode cX5_baseOf 2 = .ok (.if_icmp .ne 8, 3) := by decide +kernel
theorem dX5_baseOf_5 : decode cX5_baseOf 5 = .ok (.bipush 16, 2) := by decide +kernel
theorem dX5_baseOf_7 : decode cX5_baseOf 7 = .ok (.goto 5, 3) := by decide +kernel
theorem dX5_baseOf_10 : decode cX5_baseOf 10 = .ok (.bipush 10, 2) := by decide +kernel
theorem dX5_baseOf_12 : decode cX5_baseOf 12 = .ok (.ireturn, 1) := by decide +kernel
theorem dX5_mostRods_0 : decode cX5_mostRods 0 = .ok (.iload_n 0, 1) := by decide +kernel
theorem dX5_mostRods_1 : decode cX5_mostRods 1 = .ok (.bipush 16, 2) := by decide +kernel
theorem dX5_mostRods_3 : decode cX5_mostRods 3 = .ok (.if_icmp .ne 8, 3) := by decide +kernel
theorem dX5_mostRods_6 : decode cX5_mostRods 6 = .ok (.bipush 14, 2) := by decide +kernel
theorem dX5_mostRods_8 : decode cX5_mostRods 8 = .ok (.goto 5, 3) := by decide +kernel
theorem dX5_mostRods_11 : decode cX5_mostRods 11 = .ok (.bipush 18, 2) := by decide +kernel
theorem dX5_mostRods_13 : decode cX5_mostRods 13 = .ok (.ireturn, 1) := by decide +kernel
theorem dX5_isA_0 : decode cX5_isA 0 = .ok (.iload_n 0, 1) := by decide +kernel
theorem dX5_isA_1 : decode cX5_isA 1 = .ok (.iload_n 1, 1) := by decide +kernel
theorem dX5_isA_2 : decode cX5_isA 2 = .ok (.if_icmp .eq 26, 3) := by decide +kernel
theorem dX5_isA_5 : decode cX5_isA 5 = .ok (.iload_n 0, 1) := by decide +kernel
theorem dX5_isA_6 : decode cX5_isA 6 = .ok (.iconst 1, 1) := by decide +kernel
theorem dX5_isA_7 : decode cX5_isA 7 = .ok (.if_icmp .ne 7, 3) := by decide +kernel
theorem dX5_isA_10 : decode cX5_isA 10 = .ok (.iload_n 1, 1) := by decide +kernel
theorem dX5_isA_11 : decode cX5_isA 11 = .ok (.ifCond .eq 17, 3) := by decide +kernel
theorem dX5_isA_14 : decode cX5_isA 14 = .ok (.iload_n 0, 1) := by decide +kernel
theorem dX5_isA_15 : decode cX5_isA 15 = .ok (.iconst 3, 1) := by decide +kernel
theorem dX5_isA_16 : decode cX5_isA 16 = .ok (.if_icmp .ne 16, 3) := by decide +kernel
theorem dX5_isA_19 : decode cX5_isA 19 = .ok (.iload_n 1, 1) := by decide +kernel
theorem dX5_isA_20 : decode cX5_isA 20 = .ok (.iconst 1, 1) := by decide +kernel
theorem dX5_isA_21 : decode cX5_isA 21 = .ok (.if_icmp .eq 7, 3) := by decide +kernel
theorem dX5_isA_24 : decode cX5_isA 24 = .ok (.iload_n 1, 1) := by decide +kernel
theorem dX5_isA_25 : decode cX5_isA 25 = .ok (.ifCond .ne 7, 3) := by decide +kernel
theorem dX5_isA_28 : decode cX5_isA 28 = .ok (.iconst 1, 1) := by decide +kernel
theorem dX5_isA_29 : decode cX5_isA 29 = .ok (.goto 4, 3) := by decide +kernel
theorem dX5_isA_32 : decode cX5_isA 32 = .ok (.iconst 0, 1) := by decide +kernel
theorem dX5_isA_33 : decode cX5_isA 33 = .ok (.ireturn, 1) := by decide +kernel
theorem dX5_writeAll_0 : decode cX5_writeAll 0 = .ok (.aload_n 1, 1) := by decide +kernel
theorem dX5_writeAll_1 : decode cX5_writeAll 1 = .ok (.ifnonnull 5, 3) := by decide +kernel
theorem dX5_writeAll_4 : decode cX5_writeAll 4 = .ok (.iconst (-1), 1) := by decide +kernel
theorem dX5_writeAll_5 : decode cX5_writeAll 5 = .ok (.ireturn, 1) := by decide +kernel
theorem dX5_writeAll_6 : decode cX5_writeAll 6 = .ok (.lload_n 2, 1) := by decide +kernel
theorem dX5_writeAll_7 : decode cX5_writeAll 7 = .ok (.lconst 0, 1) := by decide +kernel
theorem dX5_writeAll_8 : decode cX5_writeAll 8 = .ok (.lcmp, 1) := by decide +kernel
theorem dX5_writeAll_9 : decode cX5_writeAll 9 = .ok (.ifCond .ge 6, 3) := by decide +kernel
theorem dX5_writeAll_12 : decode cX5_writeAll 12 = .ok (.bipush (-2), 2) := by decide +kernel
theorem dX5_writeAll_14 : decode cX5_writeAll 14 = .ok (.ireturn, 1) := by decide +kernel
theorem dX5_writeAll_15 : decode cX5_writeAll 15 = .ok (.lload_n 2, 1) := by decide +kernel
theorem dX5_writeAll_16 : decode cX5_writeAll 16 = .ok (.aload_n 1, 1) := by decide +kernel
theorem dX5_writeAll_17 : decode cX5_writeAll 17 = .ok (.getfield 55, 3) := by decide +kernel
theorem dX5_writeAll_20 : decode cX5_writeAll 20 = .ok (.invokestatic 314, 3) := by decide +kernel
theorem dX5_writeAll_23 : decode cX5_writeAll 23 = .ok (.aload_n 1, 1) := by decide +kernel
theorem dX5_writeAll_24 : decode cX5_writeAll 24 = .ok (.getfield 61, 3) := by decide +kernel
theorem dX5_writeAll_27 : decode cX5_writeAll 27 = .ok (.arraylength, 1) := by decide +kernel
theorem dX5_writeAll_28 : decode cX5_writeAll 28 = .ok (.if_icmp .le 6, 3) := by decide +kernel
theorem dX5_writeAll_31 : decode cX5_writeAll 31 = .ok (.bipush (-3), 2) := by decide +kernel
theorem dX5_writeAll_33 : decode cX5_writeAll 33 = .ok (.ireturn, 1) := by decide +kernel
theorem dX5_writeAll_34 : decode cX5_writeAll 34 = .ok (.aload_n 1, 1) := by decide +kernel
theorem dX5_writeAll_35 : decode cX5_writeAll 35 = .ok (.invokevirtual 116, 3) := by decide +kernel
theorem dX5_writeAll_38 : decode cX5_writeAll 38 = .ok (.istore 4, 2) := by decide +kernel
theorem dX5_writeAll_40 : decode cX5_writeAll 40 = .ok (.iload 4, 2) := by decide +kernel
theorem dX5_writeAll_42 : decode cX5_writeAll 42 = .ok (.ifCond .eq 10, 3) := by decide +kernel
theorem dX5_writeAll_45 : decode cX5_writeAll 45 = .ok (.aload_n 0, 1) := by decide +kernel
theorem dX5_writeAll_46 : decode cX5_writeAll 46 = .ok (.iload 4, 2) := by decide +kernel
theorem dX5_writeAll_48 : decode cX5_writeAll 48 = .ok (.invokevirtual 45, 3) := by decide +kernel
theorem dX5_writeAll_51 : decode cX5_writeAll 51 = .ok (.ireturn, 1) := by decide +kernel
theorem dX5_writeAll_52 : decode cX5_writeAll 52 = .ok (.aload_n 1, 1) := by decide +kernel
theorem dX5_writeAll_53 : decode cX5_writeAll 53 = .ok (.lload_n 2, 1) := by decide +kernel
theorem dX5_writeAll_54 : decode cX5_writeAll 54 = .ok (.invokevirtual 318, 3) := by decide +kernel
theorem dX5_writeAll_57 : decode cX5_writeAll 57 = .ok (.aload_n 0, 1) := by decide +kernel
theorem dX5_writeAll_58 : decode cX5_writeAll 58 = .ok (.getfield 26, 3) := by decide +kernel
theorem dX5_writeAll_61 : decode cX5_writeAll 61 = .ok (.iconst 1, 1) := by decide +kernel
theorem dX5_writeAll_62 : decode cX5_writeAll 62 = .ok (.putfield 90, 3) := by decide +kernel
theorem dX5_writeAll_65 : decode cX5_writeAll 65 = .ok (.iconst 1, 1) := by decide +kernel
theorem dX5_writeAll_66 : decode cX5_writeAll 66 = .ok (.ireturn, 1) := by decide +kernel
theorem dX5_copyWithin_0 : decode cX5_copyWithin 0 = .ok (.iconst 0, 1) := by decide +kernel
theorem dX5_copyWithin_1 : decode cX5_copyWithin 1 = .ok (.istore 4, 2) := by decide +kernel
theorem dX5_copyWithin_3 : decode cX5_copyWithin 3 = .ok (.iload 4, 2) := by decide +kernel
theorem dX5_copyWithin_5 : decode cX5_copyWithin 5 = .ok (.iload_n 3, 1) := by decide +kernel
theorem dX5_copyWithin_6 : decode cX5_copyWithin 6 = .ok (.if_icmp .ge 48, 3) := by decide +kernel
theorem dX5_copyWithin_9 : decode cX5_copyWithin 9 = .ok (.iload_n 2, 1) := by decide +kernel
theorem dX5_copyWithin_10 : decode cX5_copyWithin 10 = .ok (.iload_n 1, 1) := by decide +kernel
theorem dX5_copyWithin_11 : decode cX5_copyWithin 11 = .ok (.if_icmp .gt 8, 3) := by decide +kernel
theorem dX5_copyWithin_14 : decode cX5_copyWithin 14 = .ok (.iload 4, 2) := by decide +kernel
theorem dX5_copyWithin_16 : decode cX5_copyWithin 16 = .ok (.goto 9, 3) := by decide +kernel
theorem dX5_copyWithin_19 : decode cX5_copyWithin 19 = .ok (.iload_n 3, 1) := by decide +kernel
theorem dX5_copyWithin_20 : decode cX5_copyWithin 20 = .ok (.iconst 1, 1) := by decide +kernel
theorem dX5_copyWithin_21 : decode cX5_copyWithin 21 = .ok (.isub, 1) := by decide +kernel
theorem dX5_copyWithin_22 : decode cX5_copyWithin 22 = .ok (.iload 4, 2) := by decide +kernel
theorem dX5_copyWithin_24 : decode cX5_copyWithin 24 = .ok (.isub, 1) := by decide +kernel
theorem dX5_copyWithin_25 : decode cX5_copyWithin 25 = .ok (.istore 5, 2) := by decide +kernel
theorem dX5_copyWithin_27 : decode cX5_copyWithin 27 = .ok (.aload_n 0, 1) := by decide +kernel
theorem dX5_copyWithin_28 : decode cX5_copyWithin 28 = .ok (.getfield 61, 3) := by decide +kernel
theorem dX5_copyWithin_31 : decode cX5_copyWithin 31 = .ok (.iload_n 2, 1) := by decide +kernel
theorem dX5_copyWithin_32 : decode cX5_copyWithin 32 = .ok (.iload 5, 2) := by decide +kernel
theorem dX5_copyWithin_34 : decode cX5_copyWithin 34 = .ok (.iadd, 1) := by decide +kernel
theorem dX5_copyWithin_35 : decode cX5_copyWithin 35 = .ok (.aaload, 1) := by decide +kernel
theorem dX5_copyWithin_36 : decode cX5_copyWithin 36 = .ok (.aload_n 0, 1) := by decide +kernel
theorem dX5_copyWithin_37 : decode cX5_copyWithin 37 = .ok (.getfield 61, 3) := by decide +kernel
theorem dX5_copyWithin_40 : decode cX5_copyWithin 40 = .ok (.iload_n 1, 1) := by decide +kernel
theorem dX5_copyWithin_41 : decode cX5_copyWithin 41 = .ok (.iload 5, 2) := by decide +kernel
theorem dX5_copyWithin_43 : decode cX5_copyWithin 43 = .ok (.iadd, 1) := by decide +kernel
theorem dX5_copyWithin_44 : decode cX5_copyWithin 44 = .ok (.aaload, 1) := by decide +kernel
theorem dX5_copyWithin_45 : decode cX5_copyWithin 45 = .ok (.invokevirtual 322, 3) := by decide +kernel
theorem dX5_copyWithin_48 : decode cX5_copyWithin 48 = .ok (.iinc 4 1, 3) := by decide +kernel
theorem dX5_copyWithin_51 : decode cX5_copyWithin 51 = .ok (.goto (-48), 3) := by decide +kernel
theorem dX5_copyWithin_54 : decode cX5_copyWithin 54 = .ok (.iload_n 3, 1) := by decide +kernel
theorem dX5_copyWithin_55 : decode cX5_copyWithin 55 = .ok (.ireturn, 1) := by decide +kernel
theorem dX5_copyAcross_0 : decode cX5_copyAcross 0 = .ok (.iconst 0, 1) := by decide +kernel
theorem dX5_copyAcross_1 : decode cX5_copyAcross 1 = .ok (.istore 5, 2) := by decide +kernel
theorem dX5_copyAcross_3 : decode cX5_copyAcross 3 = .ok (.iload 5, 2) := by decide +kernel
theorem dX5_copyAcross_5 : decode cX5_copyAcross 5 = .ok (.iload 4, 2) := by decide +kernel
theorem dX5_copyAcross_7 : decode cX5_copyAcross 7 = .ok (.if_icmp .ge 55, 3) := by decide +kernel
theorem dX5_copyAcross_10 : decode cX5_copyAcross 10 = .ok (.aload_n 0, 1) := by decide +kernel
theorem dX5_copyAcross_11 : decode cX5_copyAcross 11 = .ok (.iload_n 1, 1) := by decide +kernel
theorem dX5_copyAcross_12 : decode cX5_copyAcross 12 = .ok (.iload 5, 2) := by decide +kernel
theorem dX5_copyAcross_14 : decode cX5_copyAcross 14 = .ok (.iadd, 1) := by decide +kernel
theorem dX5_copyAcross_15 : decode cX5_copyAcross 15 = .ok (.invokevirtual 80, 3) := by decide +kernel
theorem dX5_copyAcross_18 : decode cX5_copyAcross 18 = .ok (.ifCond .eq 14, 3) := by decide +kernel
theorem dX5_copyAcross_21 : decode cX5_copyAcross 21 = .ok (.aload_n 2, 1) := by decide +kernel
theorem dX5_copyAcross_22 : decode cX5_copyAcross 22 = .ok (.iload_n 3, 1) := by decide +kernel
theorem dX5_copyAcross_23 : decode cX5_copyAcross 23 = .ok (.iload 5, 2) := by decide +kernel
theorem dX5_copyAcross_25 : decode cX5_copyAcross 25 = .ok (.iadd, 1) := by decide +kernel
theorem dX5_copyAcross_26 : decode cX5_copyAcross 26 = .ok (.invokevirtual 80, 3) := by decide +kernel
theorem dX5_copyAcross_29 : decode cX5_copyAcross 29 = .ok (.ifCond .ne 6, 3) := by decide +kernel
theorem dX5_copyAcross_32 : decode cX5_copyAcross 32 = .ok (.iload 5, 2) := by decide +kernel
theorem dX5_copyAcross_34 : decode cX5_copyAcross 34 = .ok (.ireturn, 1) := by decide +kernel
theorem dX5_copyAcross_35 : decode cX5_copyAcross 35 = .ok (.aload_n 2, 1) := by decide +kernel
theorem dX5_copyAcross_36 : decode cX5_copyAcross 36 = .ok (.getfield 61, 3) := by decide +kernel
theorem dX5_copyAcross_39 : decode cX5_copyAcross 39 = .ok (.iload_n 3, 1) := by decide +kernel
theorem dX5_copyAcross_40 : decode cX5_copyAcross 40 = .ok (.iload 5, 2) := by decide +kernel
theorem dX5_copyAcross_42 : decode cX5_copyAcross 42 = .ok (.iadd, 1) := by decide +kernel
theorem dX5_copyAcross_43 : decode cX5_copyAcross 43 = .ok (.aaload, 1) := by decide +kernel
theorem dX5_copyAcross_44 : decode cX5_copyAcross 44 = .ok (.aload_n 0, 1) := by decide +kernel
theorem dX5_copyAcross_45 : decode cX5_copyAcross 45 = .ok (.getfield 61, 3) := by decide +kernel
theorem dX5_copyAcross_48 : decode cX5_copyAcross 48 = .ok (.iload_n 1, 1) := by decide +kernel
theorem dX5_copyAcross_49 : decode cX5_copyAcross 49 = .ok (.iload 5, 2) := by decide +kernel
theorem dX5_copyAcross_51 : decode cX5_copyAcross 51 = .ok (.iadd, 1) := by decide +kernel
theorem dX5_copyAcross_52 : decode cX5_copyAcross 52 = .ok (.aaload, 1) := by decide +kernel
theorem dX5_copyAcross_53 : decode cX5_copyAcross 53 = .ok (.invokevirtual 322, 3) := by decide +kernel
theorem dX5_copyAcross_56 : decode cX5_copyAcross 56 = .ok (.iinc 5 1, 3) := by decide +kernel
theorem dX5_copyAcross_59 : decode cX5_copyAcross 59 = .ok (.goto (-56), 3) := by decide +kernel
theorem dX5_copyAcross_62 : decode cX5_copyAcross 62 = .ok (.iload 4, 2) := by decide +kernel
theorem dX5_copyAcross_64 : decode cX5_copyAcross 64 = .ok (.iconst 0, 1) := by decide +kernel
theorem dX5_copyAcross_65 : decode cX5_copyAcross 65 = .ok (.invokestatic 68, 3) := by decide +kernel
theorem dX5_copyAcross_68 : decode cX5_copyAcross 68 = .ok (.ireturn, 1) := by decide +kernel
theorem dX5_refusalOf_0 : decode cX5_refusalOf 0 = .ok (.lload_n 1, 1) := by decide +kernel
theorem dX5_refusalOf_1 : decode cX5_refusalOf 1 = .ok (.lconst 0, 1) := by decide +kernel
theorem dX5_refusalOf_2 : decode cX5_refusalOf 2 = .ok (.lcmp, 1) := by decide +kernel
theorem dX5_refusalOf_3 : decode cX5_refusalOf 3 = .ok (.ifCond .ge 6, 3) := by decide +kernel
theorem dX5_refusalOf_6 : decode cX5_refusalOf 6 = .ok (.bipush (-2), 2) := by decide +kernel
theorem dX5_refusalOf_8 : decode cX5_refusalOf 8 = .ok (.ireturn, 1) := by decide +kernel
theorem dX5_refusalOf_9 : decode cX5_refusalOf 9 = .ok (.aload_n 0, 1) := by decide +kernel
theorem dX5_refusalOf_10 : decode cX5_refusalOf 10 = .ok (.invokevirtual 131, 3) := by decide +kernel
theorem dX5_refusalOf_13 : decode cX5_refusalOf 13 = .ok (.ifCond .eq 7, 3) := by decide +kernel
theorem dX5_refusalOf_16 : decode cX5_refusalOf 16 = .ok (.iconst 0, 1) := by decide +kernel
theorem dX5_refusalOf_17 : decode cX5_refusalOf 17 = .ok (.goto 5, 3) := by decide +kernel
theorem dX5_refusalOf_20 : decode cX5_refusalOf 20 = .ok (.bipush (-3), 2) := by decide +kernel
theorem dX5_refusalOf_22 : decode cX5_refusalOf 22 = .ok (.ireturn, 1) := by decide +kernel
theorem dX5_refusalOfTwo_0 : decode cX5_refusalOfTwo 0 = .ok (.lload_n 2, 1) := by decide +kernel
theorem dX5_refusalOfTwo_1 : decode cX5_refusalOfTwo 1 = .ok (.lconst 0, 1) := by decide +kernel
theorem dX5_refusalOfTwo_2 : decode cX5_refusalOfTwo 2 = .ok (.lcmp, 1) := by decide +kernel
theorem dX5_refusalOfTwo_3 : decode cX5_refusalOfTwo 3 = .ok (.ifCond .ge 6, 3) := by decide +kernel
theorem dX5_refusalOfTwo_6 : decode cX5_refusalOfTwo 6 = .ok (.bipush (-2), 2) := by decide +kernel
theorem dX5_refusalOfTwo_8 : decode cX5_refusalOfTwo 8 = .ok (.ireturn, 1) := by decide +kernel
theorem dX5_refusalOfTwo_9 : decode cX5_refusalOfTwo 9 = .ok (.aload_n 0, 1) := by decide +kernel
theorem dX5_refusalOfTwo_10 : decode cX5_refusalOfTwo 10 = .ok (.invokevirtual 131, 3) := by decide +kernel
theorem dX5_refusalOfTwo_13 : decode cX5_refusalOfTwo 13 = .ok (.ifCond .eq 38, 3) := by decide +kernel
theorem dX5_refusalOfTwo_16 : decode cX5_refusalOfTwo 16 = .ok (.aload_n 1, 1) := by decide +kernel
theorem dX5_refusalOfTwo_17 : decode cX5_refusalOfTwo 17 = .ok (.invokevirtual 131, 3) := by decide +kernel
theorem dX5_refusalOfTwo_20 : decode cX5_refusalOfTwo 20 = .ok (.ifCond .eq 31, 3) := by decide +kernel
theorem dX5_refusalOfTwo_23 : decode cX5_refusalOfTwo 23 = .ok (.aload_n 0, 1) := by decide +kernel
theorem dX5_refusalOfTwo_24 : decode cX5_refusalOfTwo 24 = .ok (.getfield 58, 3) := by decide +kernel
theorem dX5_refusalOfTwo_27 : decode cX5_refusalOfTwo 27 = .ok (.aload_n 1, 1) := by decide +kernel
theorem dX5_refusalOfTwo_28 : decode cX5_refusalOfTwo 28 = .ok (.getfield 58, 3) := by decide +kernel
theorem dX5_refusalOfTwo_31 : decode cX5_refusalOfTwo 31 = .ok (.iand, 1) := by decide +kernel
theorem dX5_refusalOfTwo_32 : decode cX5_refusalOfTwo 32 = .ok (.ifCond .ne 19, 3) := by decide +kernel
theorem dX5_refusalOfTwo_35 : decode cX5_refusalOfTwo 35 = .ok (.iload 4, 2) := by decide +kernel
theorem dX5_refusalOfTwo_37 : decode cX5_refusalOfTwo 37 = .ok (.ifCond .eq 18, 3) := by decide +kernel
theorem dX5_refusalOfTwo_40 : decode cX5_refusalOfTwo 40 = .ok (.aload_n 0, 1) := by decide +kernel
theorem dX5_refusalOfTwo_41 : decode cX5_refusalOfTwo 41 = .ok (.getfield 55, 3) := by decide +kernel
theorem dX5_refusalOfTwo_44 : decode cX5_refusalOfTwo 44 = .ok (.aload_n 1, 1) := by decide +kernel
theorem dX5_refusalOfTwo_45 : decode cX5_refusalOfTwo 45 = .ok (.getfield 55, 3) := by decide +kernel
theorem dX5_refusalOfTwo_48 : decode cX5_refusalOfTwo 48 = .ok (.if_icmp .eq 7, 3) := by decide +kernel
theorem dX5_refusalOfTwo_51 : decode cX5_refusalOfTwo 51 = .ok (.iconst 1, 1) := by decide +kernel
theorem dX5_refusalOfTwo_52 : decode cX5_refusalOfTwo 52 = .ok (.goto 4, 3) := by decide +kernel
theorem dX5_refusalOfTwo_55 : decode cX5_refusalOfTwo 55 = .ok (.iconst 0, 1) := by decide +kernel
theorem dX5_refusalOfTwo_56 : decode cX5_refusalOfTwo 56 = .ok (.istore 5, 2) := by decide +kernel
theorem dX5_refusalOfTwo_58 : decode cX5_refusalOfTwo 58 = .ok (.iload 5, 2) := by decide +kernel
theorem dX5_refusalOfTwo_60 : decode cX5_refusalOfTwo 60 = .ok (.ifCond .eq 8, 3) := by decide +kernel
theorem dX5_refusalOfTwo_63 : decode cX5_refusalOfTwo 63 = .ok (.bipush (-3), 2) := by decide +kernel
theorem dX5_refusalOfTwo_65 : decode cX5_refusalOfTwo 65 = .ok (.goto 4, 3) := by decide +kernel
theorem dX5_refusalOfTwo_68 : decode cX5_refusalOfTwo 68 = .ok (.iconst 0, 1) := by decide +kernel
theorem dX5_refusalOfTwo_69 : decode cX5_refusalOfTwo 69 = .ok (.ireturn, 1) := by decide +kernel
theorem dX5_opened_0 : decode cX5_opened 0 = .ok (.iload_n 3, 1) := by decide +kernel
theorem dX5_opened_1 : decode cX5_opened 1 = .ok (.ifCond .eq 5, 3) := by decide +kernel
theorem dX5_opened_4 : decode cX5_opened 4 = .ok (.iload_n 3, 1) := by decide +kernel
theorem dX5_opened_5 : decode cX5_opened 5 = .ok (.ireturn, 1) := by decide +kernel
theorem dX5_opened_6 : decode cX5_opened 6 = .ok (.aload_n 1, 1) := by decide +kernel
theorem dX5_opened_7 : decode cX5_opened 7 = .ok (.invokevirtual 116, 3) := by decide +kernel
theorem dX5_opened_10 : decode cX5_opened 10 = .ok (.istore 5, 2) := by decide +kernel
theorem dX5_opened_12 : decode cX5_opened 12 = .ok (.iload 5, 2) := by decide +kernel
theorem dX5_opened_14 : decode cX5_opened 14 = .ok (.ifCond .ne 11, 3) := by decide +kernel
theorem dX5_opened_17 : decode cX5_opened 17 = .ok (.iload 4, 2) := by decide +kernel
theorem dX5_opened_19 : decode cX5_opened 19 = .ok (.ifCond .eq 6, 3) := by decide +kernel
theorem dX5_opened_22 : decode cX5_opened 22 = .ok (.iconst 5, 1) := by decide +kernel
theorem dX5_opened_23 : decode cX5_opened 23 = .ok (.istore 5, 2) := by decide +kernel
theorem dX5_opened_25 : decode cX5_opened 25 = .ok (.iload 5, 2) := by decide +kernel
theorem dX5_opened_27 : decode cX5_opened 27 = .ok (.ifCond .eq 10, 3) := by decide +kernel
theorem dX5_opened_30 : decode cX5_opened 30 = .ok (.aload_n 0, 1) := by decide +kernel
theorem dX5_opened_31 : decode cX5_opened 31 = .ok (.iload 5, 2) := by decide +kernel
theorem dX5_opened_33 : decode cX5_opened 33 = .ok (.invokevirtual 45, 3) := by decide +kernel
theorem dX5_opened_36 : decode cX5_opened 36 = .ok (.ireturn, 1) := by decide +kernel
theorem dX5_opened_37 : decode cX5_opened 37 = .ok (.aload_n 0, 1) := by decide +kernel
theorem dX5_opened_38 : decode cX5_opened 38 = .ok (.getfield 26, 3) := by decide +kernel
theorem dX5_opened_41 : decode cX5_opened 41 = .ok (.aload_n 1, 1) := by decide +kernel
theorem dX5_opened_42 : decode cX5_opened 42 = .ok (.aload_n 2, 1) := by decide +kernel
theorem dX5_opened_43 : decode cX5_opened 43 = .ok (.invokevirtual 326, 3) := by decide +kernel
theorem dX5_opened_46 : decode cX5_opened 46 = .ok (.iconst 0, 1) := by decide +kernel
theorem dX5_opened_47 : decode cX5_opened 47 = .ok (.ireturn, 1) := by decide +kernel
theorem dX5_sumUp_0 : decode cX5_sumUp 0 = .ok (.aload_n 1, 1) := by decide +kernel
theorem dX5_sumUp_1 : decode cX5_sumUp 1 = .ok (.ifnonnull 5, 3) := by decide +kernel
theorem dX5_sumUp_4 : decode cX5_sumUp 4 = .ok (.iconst (-1), 1) := by decide +kernel
theorem dX5_sumUp_5 : decode cX5_sumUp 5 = .ok (.ireturn, 1) := by decide +kernel
theorem dX5_sumUp_6 : decode cX5_sumUp 6 = .ok (.aload_n 1, 1) := by decide +kernel
theorem dX5_sumUp_7 : decode cX5_sumUp 7 = .ok (.lload_n 2, 1) := by decide +kernel
theorem dX5_sumUp_8 : decode cX5_sumUp 8 = .ok (.invokestatic 190, 3) := by decide +kernel
theorem dX5_sumUp_11 : decode cX5_sumUp 11 = .ok (.istore 5, 2) := by decide +kernel
theorem dX5_sumUp_13 : decode cX5_sumUp 13 = .ok (.iload 5, 2) := by decide +kernel
theorem dX5_sumUp_15 : decode cX5_sumUp 15 = .ok (.ifCond .eq 6, 3) := by decide +kernel
theorem dX5_sumUp_18 : decode cX5_sumUp 18 = .ok (.iload 5, 2) := by decide +kernel
theorem dX5_sumUp_20 : decode cX5_sumUp 20 = .ok (.ireturn, 1) := by decide +kernel
theorem dX5_sumUp_21 : decode cX5_sumUp 21 = .ok (.aload_n 0, 1) := by decide +kernel
theorem dX5_sumUp_22 : decode cX5_sumUp 22 = .ok (.getfield 26, 3) := by decide +kernel
theorem dX5_sumUp_25 : decode cX5_sumUp 25 = .ok (.aload_n 1, 1) := by decide +kernel
theorem dX5_sumUp_26 : decode cX5_sumUp 26 = .ok (.aconst_null, 1) := by decide +kernel
theorem dX5_sumUp_27 : decode cX5_sumUp 27 = .ok (.invokevirtual 326, 3) := by decide +kernel
end
section
theorem dX5_sumUp_30 : decode cX5_sumUp 30 = .ok (.aload_n 0, 1) := by decide +kernel
theorem dX5_sumUp_31 : decode cX5_sumUp 31 = .ok (.getfield 26, 3) := by decide +kernel
theorem dX5_sumUp_34 : decode cX5_sumUp 34 = .ok (.aload_n 0, 1) := by decide +kernel
theorem dX5_sumUp_35 : decode cX5_sumUp 35 = .ok (.getfield 26, 3) := by decide +kernel
theorem dX5_sumUp_38 : decode cX5_sumUp 38 = .ok (.aload_n 1, 1) := by decide +kernel
theorem dX5_sumUp_39 : decode cX5_sumUp 39 = .ok (.lload_n 2, 1) := by decide +kernel
theorem dX5_sumUp_40 : decode cX5_sumUp 40 = .ok (.iconst 0, 1) := by decide +kernel
theorem dX5_sumUp_41 : decode cX5_sumUp 41 = .ok (.iload 4, 2) := by decide +kernel
theorem dX5_sumUp_43 : decode cX5_sumUp 43 = .ok (.invokevirtual 330, 3) := by decide +kernel
theorem dX5_sumUp_46 : decode cX5_sumUp 46 = .ok (.invokevirtual 201, 3) := by decide +kernel
theorem dX5_sumUp_49 : decode cX5_sumUp 49 = .ok (.ireturn, 1) := by decide +kernel
theorem dX5_rootBy_0 : decode cX5_rootBy 0 = .ok (.aload_n 1, 1) := by decide +kernel
theorem dX5_rootBy_1 : decode cX5_rootBy 1 = .ok (.ifnull 7, 3) := by decide +kernel
theorem dX5_rootBy_4 : decode cX5_rootBy 4 = .ok (.aload_n 2, 1) := by decide +kernel
theorem dX5_rootBy_5 : decode cX5_rootBy 5 = .ok (.ifnonnull 5, 3) := by decide +kernel
theorem dX5_rootBy_8 : decode cX5_rootBy 8 = .ok (.iconst (-1), 1) := by decide +kernel
theorem dX5_rootBy_9 : decode cX5_rootBy 9 = .ok (.ireturn, 1) := by decide +kernel
theorem dX5_rootBy_10 : decode cX5_rootBy 10 = .ok (.aload_n 0, 1) := by decide +kernel
theorem dX5_rootBy_11 : decode cX5_rootBy 11 = .ok (.aload_n 1, 1) := by decide +kernel
theorem dX5_rootBy_12 : decode cX5_rootBy 12 = .ok (.aload_n 2, 1) := by decide +kernel
theorem dX5_rootBy_13 : decode cX5_rootBy 13 = .ok (.aload_n 1, 1) := by decide +kernel
theorem dX5_rootBy_14 : decode cX5_rootBy 14 = .ok (.aload_n 2, 1) := by decide +kernel
theorem dX5_rootBy_15 : decode cX5_rootBy 15 = .ok (.lconst 0, 1) := by decide +kernel
theorem dX5_rootBy_16 : decode cX5_rootBy 16 = .ok (.iconst 1, 1) := by decide +kernel
theorem dX5_rootBy_17 : decode cX5_rootBy 17 = .ok (.invokestatic 205, 3) := by decide +kernel
theorem dX5_rootBy_20 : decode cX5_rootBy 20 = .ok (.iconst 0, 1) := by decide +kernel
theorem dX5_rootBy_21 : decode cX5_rootBy 21 = .ok (.invokevirtual 193, 3) := by decide +kernel
theorem dX5_rootBy_24 : decode cX5_rootBy 24 = .ok (.istore 4, 2) := by decide +kernel
theorem dX5_rootBy_26 : decode cX5_rootBy 26 = .ok (.iload 4, 2) := by decide +kernel
theorem dX5_rootBy_28 : decode cX5_rootBy 28 = .ok (.ifCond .eq 8, 3) := by decide +kernel
theorem dX5_rootBy_31 : decode cX5_rootBy 31 = .ok (.iload 4, 2) := by decide +kernel
theorem dX5_rootBy_33 : decode cX5_rootBy 33 = .ok (.goto 20, 3) := by decide +kernel
theorem dX5_rootBy_36 : decode cX5_rootBy 36 = .ok (.aload_n 0, 1) := by decide +kernel
theorem dX5_rootBy_37 : decode cX5_rootBy 37 = .ok (.getfield 26, 3) := by decide +kernel
theorem dX5_rootBy_40 : decode cX5_rootBy 40 = .ok (.aload_n 0, 1) := by decide +kernel
theorem dX5_rootBy_41 : decode cX5_rootBy 41 = .ok (.getfield 26, 3) := by decide +kernel
theorem dX5_rootBy_44 : decode cX5_rootBy 44 = .ok (.aload_n 1, 1) := by decide +kernel
theorem dX5_rootBy_45 : decode cX5_rootBy 45 = .ok (.aload_n 2, 1) := by decide +kernel
theorem dX5_rootBy_46 : decode cX5_rootBy 46 = .ok (.iload_n 3, 1) := by decide +kernel
theorem dX5_rootBy_47 : decode cX5_rootBy 47 = .ok (.invokevirtual 334, 3) := by decide +kernel
theorem dX5_rootBy_50 : decode cX5_rootBy 50 = .ok (.invokevirtual 201, 3) := by decide +kernel
theorem dX5_rootBy_53 : decode cX5_rootBy 53 = .ok (.ireturn, 1) := by decide +kernel
theorem dX5_begun_0 : decode cX5_begun 0 = .ok (.aload_n 0, 1) := by decide +kernel
theorem dX5_begun_1 : decode cX5_begun 1 = .ok (.bipush 31, 2) := by decide +kernel
theorem dX5_begun_3 : decode cX5_begun 3 = .ok (.aload_n 0, 1) := by decide +kernel
theorem dX5_begun_4 : decode cX5_begun 4 = .ok (.getfield 156, 3) := by decide +kernel
theorem dX5_begun_7 : decode cX5_begun 7 = .ok (.imul, 1) := by decide +kernel
theorem dX5_begun_8 : decode cX5_begun 8 = .ok (.iload_n 1, 1) := by decide +kernel
theorem dX5_begun_9 : decode cX5_begun 9 = .ok (.iadd, 1) := by decide +kernel
theorem dX5_begun_10 : decode cX5_begun 10 = .ok (.putfield 156, 3) := by decide +kernel
theorem dX5_begun_13 : decode cX5_begun 13 = .ok (.return_, 1) := by decide +kernel
theorem dX5_askBase_0 : decode cX5_askBase 0 = .ok (.aload_n 1, 1) := by decide +kernel
theorem dX5_askBase_1 : decode cX5_askBase 1 = .ok (.getfield 77, 3) := by decide +kernel
theorem dX5_askBase_4 : decode cX5_askBase 4 = .ok (.iconst 4, 1) := by decide +kernel
theorem dX5_askBase_5 : decode cX5_askBase 5 = .ok (.if_icmp .ne 35, 3) := by decide +kernel
theorem dX5_askBase_8 : decode cX5_askBase 8 = .ok (.aload_n 0, 1) := by decide +kernel
theorem dX5_askBase_9 : decode cX5_askBase 9 = .ok (.iconst 3, 1) := by decide +kernel
theorem dX5_askBase_10 : decode cX5_askBase 10 = .ok (.invokevirtual 338, 3) := by decide +kernel
theorem dX5_askBase_13 : decode cX5_askBase 13 = .ok (.aload_n 1, 1) := by decide +kernel
theorem dX5_askBase_14 : decode cX5_askBase 14 = .ok (.getfield 341, 3) := by decide +kernel
theorem dX5_askBase_17 : decode cX5_askBase 17 = .ok (.astore_n 3, 1) := by decide +kernel
theorem dX5_askBase_18 : decode cX5_askBase 18 = .ok (.aload_n 3, 1) := by decide +kernel
theorem dX5_askBase_19 : decode cX5_askBase 19 = .ok (.ifnull 8, 3) := by decide +kernel
theorem dX5_askBase_22 : decode cX5_askBase 22 = .ok (.iload_n 2, 1) := by decide +kernel
theorem dX5_askBase_23 : decode cX5_askBase 23 = .ok (.iconst 5, 1) := by decide +kernel
theorem dX5_askBase_24 : decode cX5_askBase 24 = .ok (.if_icmp .le 7, 3) := by decide +kernel
theorem dX5_askBase_27 : decode cX5_askBase 27 = .ok (.iconst (-1), 1) := by decide +kernel
theorem dX5_askBase_28 : decode cX5_askBase 28 = .ok (.goto 11, 3) := by decide +kernel
theorem dX5_askBase_31 : decode cX5_askBase 31 = .ok (.aload_n 0, 1) := by decide +kernel
theorem dX5_askBase_32 : decode cX5_askBase 32 = .ok (.aload_n 3, 1) := by decide +kernel
theorem dX5_askBase_33 : decode cX5_askBase 33 = .ok (.iload_n 2, 1) := by decide +kernel
theorem dX5_askBase_34 : decode cX5_askBase 34 = .ok (.iconst 1, 1) := by decide +kernel
theorem dX5_askBase_35 : decode cX5_askBase 35 = .ok (.iadd, 1) := by decide +kernel
theorem dX5_askBase_36 : decode cX5_askBase 36 = .ok (.invokevirtual 142, 3) := by decide +kernel
theorem dX5_askBase_39 : decode cX5_askBase 39 = .ok (.ireturn, 1) := by decide +kernel
theorem dX5_askBase_40 : decode cX5_askBase 40 = .ok (.aload_n 1, 1) := by decide +kernel
theorem dX5_askBase_41 : decode cX5_askBase 41 = .ok (.getfield 77, 3) := by decide +kernel
theorem dX5_askBase_44 : decode cX5_askBase 44 = .ok (.iconst 3, 1) := by decide +kernel
theorem dX5_askBase_45 : decode cX5_askBase 45 = .ok (.if_icmp .ne 11, 3) := by decide +kernel
theorem dX5_askBase_48 : decode cX5_askBase 48 = .ok (.aload_n 0, 1) := by decide +kernel
theorem dX5_askBase_49 : decode cX5_askBase 49 = .ok (.iconst 2, 1) := by decide +kernel
theorem dX5_askBase_50 : decode cX5_askBase 50 = .ok (.invokevirtual 338, 3) := by decide +kernel
theorem dX5_askBase_53 : decode cX5_askBase 53 = .ok (.bipush 16, 2) := by decide +kernel
theorem dX5_askBase_55 : decode cX5_askBase 55 = .ok (.ireturn, 1) := by decide +kernel
theorem dX5_askBase_56 : decode cX5_askBase 56 = .ok (.aload_n 0, 1) := by decide +kernel
theorem dX5_askBase_57 : decode cX5_askBase 57 = .ok (.iconst 1, 1) := by decide +kernel
theorem dX5_askBase_58 : decode cX5_askBase 58 = .ok (.invokevirtual 338, 3) := by decide +kernel
theorem dX5_askBase_61 : decode cX5_askBase 61 = .ok (.bipush 10, 2) := by decide +kernel
theorem dX5_askBase_63 : decode cX5_askBase 63 = .ok (.ireturn, 1) := by decide +kernel
theorem dX5_askBeads_0 : decode cX5_askBeads 0 = .ok (.aload_n 1, 1) := by decide +kernel
theorem dX5_askBeads_1 : decode cX5_askBeads 1 = .ok (.getfield 77, 3) := by decide +kernel
theorem dX5_askBeads_4 : decode cX5_askBeads 4 = .ok (.iconst 4, 1) := by decide +kernel
theorem dX5_askBeads_5 : decode cX5_askBeads 5 = .ok (.if_icmp .ne 5, 3) := by decide +kernel
theorem dX5_askBeads_8 : decode cX5_askBeads 8 = .ok (.iconst (-1), 1) := by decide +kernel
theorem dX5_askBeads_9 : decode cX5_askBeads 9 = .ok (.ireturn, 1) := by decide +kernel
theorem dX5_askBeads_10 : decode cX5_askBeads 10 = .ok (.aload_n 1, 1) := by decide +kernel
theorem dX5_askBeads_11 : decode cX5_askBeads 11 = .ok (.getfield 77, 3) := by decide +kernel
theorem dX5_askBeads_14 : decode cX5_askBeads 14 = .ok (.iconst 2, 1) := by decide +kernel
theorem dX5_askBeads_15 : decode cX5_askBeads 15 = .ok (.if_icmp .ne 12, 3) := by decide +kernel
theorem dX5_askBeads_18 : decode cX5_askBeads 18 = .ok (.aload_n 0, 1) := by decide +kernel
theorem dX5_askBeads_19 : decode cX5_askBeads 19 = .ok (.bipush 6, 2) := by decide +kernel
theorem dX5_askBeads_21 : decode cX5_askBeads 21 = .ok (.invokevirtual 338, 3) := by decide +kernel
theorem dX5_askBeads_24 : decode cX5_askBeads 24 = .ok (.bipush 10, 2) := by decide +kernel
theorem dX5_askBeads_26 : decode cX5_askBeads 26 = .ok (.ireturn, 1) := by decide +kernel
theorem dX5_askBeads_27 : decode cX5_askBeads 27 = .ok (.aload_n 1, 1) := by decide +kernel
theorem dX5_askBeads_28 : decode cX5_askBeads 28 = .ok (.getfield 77, 3) := by decide +kernel
theorem dX5_askBeads_31 : decode cX5_askBeads 31 = .ok (.ifCond .ne 10, 3) := by decide +kernel
theorem dX5_askBeads_34 : decode cX5_askBeads 34 = .ok (.aload_n 0, 1) := by decide +kernel
theorem dX5_askBeads_35 : decode cX5_askBeads 35 = .ok (.iconst 4, 1) := by decide +kernel
theorem dX5_askBeads_36 : decode cX5_askBeads 36 = .ok (.invokevirtual 338, 3) := by decide +kernel
theorem dX5_askBeads_39 : decode cX5_askBeads 39 = .ok (.iconst 5, 1) := by decide +kernel
theorem dX5_askBeads_40 : decode cX5_askBeads 40 = .ok (.ireturn, 1) := by decide +kernel
theorem dX5_askBeads_41 : decode cX5_askBeads 41 = .ok (.aload_n 0, 1) := by decide +kernel
theorem dX5_askBeads_42 : decode cX5_askBeads 42 = .ok (.iconst 5, 1) := by decide +kernel
theorem dX5_askBeads_43 : decode cX5_askBeads 43 = .ok (.invokevirtual 338, 3) := by decide +kernel
theorem dX5_askBeads_46 : decode cX5_askBeads 46 = .ok (.aload_n 0, 1) := by decide +kernel
theorem dX5_askBeads_47 : decode cX5_askBeads 47 = .ok (.iconst 4, 1) := by decide +kernel
theorem dX5_askBeads_48 : decode cX5_askBeads 48 = .ok (.invokevirtual 338, 3) := by decide +kernel
theorem dX5_askBeads_51 : decode cX5_askBeads 51 = .ok (.bipush 7, 2) := by decide +kernel
theorem dX5_askBeads_53 : decode cX5_askBeads 53 = .ok (.ireturn, 1) := by decide +kernel
theorem dX5_askCarry_0 : decode cX5_askCarry 0 = .ok (.aload_n 1, 1) := by decide +kernel
theorem dX5_askCarry_1 : decode cX5_askCarry 1 = .ok (.getfield 77, 3) := by decide +kernel
theorem dX5_askCarry_4 : decode cX5_askCarry 4 = .ok (.iconst 2, 1) := by decide +kernel
theorem dX5_askCarry_5 : decode cX5_askCarry 5 = .ok (.if_icmp .ne 5, 3) := by decide +kernel
theorem dX5_askCarry_8 : decode cX5_askCarry 8 = .ok (.iconst (-1), 1) := by decide +kernel
theorem dX5_askCarry_9 : decode cX5_askCarry 9 = .ok (.ireturn, 1) := by decide +kernel
theorem dX5_askCarry_10 : decode cX5_askCarry 10 = .ok (.aload_n 1, 1) := by decide +kernel
theorem dX5_askCarry_11 : decode cX5_askCarry 11 = .ok (.getfield 77, 3) := by decide +kernel
theorem dX5_askCarry_14 : decode cX5_askCarry 14 = .ok (.ifCond .ne 18, 3) := by decide +kernel
theorem dX5_askCarry_17 : decode cX5_askCarry 17 = .ok (.aload_n 0, 1) := by decide +kernel
theorem dX5_askCarry_18 : decode cX5_askCarry 18 = .ok (.bipush 7, 2) := by decide +kernel
theorem dX5_askCarry_20 : decode cX5_askCarry 20 = .ok (.invokevirtual 338, 3) := by decide +kernel
theorem dX5_askCarry_23 : decode cX5_askCarry 23 = .ok (.aload_n 0, 1) := by decide +kernel
theorem dX5_askCarry_24 : decode cX5_askCarry 24 = .ok (.aload_n 1, 1) := by decide +kernel
theorem dX5_askCarry_25 : decode cX5_askCarry 25 = .ok (.iload_n 2, 1) := by decide +kernel
theorem dX5_askCarry_26 : decode cX5_askCarry 26 = .ok (.invokevirtual 142, 3) := by decide +kernel
theorem dX5_askCarry_29 : decode cX5_askCarry 29 = .ok (.iconst 1, 1) := by decide +kernel
theorem dX5_askCarry_30 : decode cX5_askCarry 30 = .ok (.isub, 1) := by decide +kernel
theorem dX5_askCarry_31 : decode cX5_askCarry 31 = .ok (.ireturn, 1) := by decide +kernel
theorem dX5_askCarry_32 : decode cX5_askCarry 32 = .ok (.aload_n 1, 1) := by decide +kernel
theorem dX5_askCarry_33 : decode cX5_askCarry 33 = .ok (.getfield 77, 3) := by decide +kernel
theorem dX5_askCarry_36 : decode cX5_askCarry 36 = .ok (.iconst 4, 1) := by decide +kernel
theorem dX5_askCarry_37 : decode cX5_askCarry 37 = .ok (.if_icmp .eq 17, 3) := by decide +kernel
theorem dX5_askCarry_40 : decode cX5_askCarry 40 = .ok (.aload_n 0, 1) := by decide +kernel
theorem dX5_askCarry_41 : decode cX5_askCarry 41 = .ok (.bipush 8, 2) := by decide +kernel
theorem dX5_askCarry_43 : decode cX5_askCarry 43 = .ok (.invokevirtual 338, 3) := by decide +kernel
theorem dX5_askCarry_46 : decode cX5_askCarry 46 = .ok (.iconst 5, 1) := by decide +kernel
theorem dX5_askCarry_47 : decode cX5_askCarry 47 = .ok (.aload_n 0, 1) := by decide +kernel
theorem dX5_askCarry_48 : decode cX5_askCarry 48 = .ok (.aload_n 1, 1) := by decide +kernel
theorem dX5_askCarry_49 : decode cX5_askCarry 49 = .ok (.invokevirtual 146, 3) := by decide +kernel
theorem dX5_askCarry_52 : decode cX5_askCarry 52 = .ok (.iadd, 1) := by decide +kernel
theorem dX5_askCarry_53 : decode cX5_askCarry 53 = .ok (.ireturn, 1) := by decide +kernel
theorem dX5_askCarry_54 : decode cX5_askCarry 54 = .ok (.aload_n 0, 1) := by decide +kernel
theorem dX5_askCarry_55 : decode cX5_askCarry 55 = .ok (.bipush 9, 2) := by decide +kernel
theorem dX5_askCarry_57 : decode cX5_askCarry 57 = .ok (.invokevirtual 338, 3) := by decide +kernel
theorem dX5_askCarry_60 : decode cX5_askCarry 60 = .ok (.aload_n 1, 1) := by decide +kernel
theorem dX5_askCarry_61 : decode cX5_askCarry 61 = .ok (.getfield 341, 3) := by decide +kernel
theorem dX5_askCarry_64 : decode cX5_askCarry 64 = .ok (.astore_n 3, 1) := by decide +kernel
theorem dX5_askCarry_65 : decode cX5_askCarry 65 = .ok (.aload_n 1, 1) := by decide +kernel
theorem dX5_askCarry_66 : decode cX5_askCarry 66 = .ok (.getfield 344, 3) := by decide +kernel
theorem dX5_askCarry_69 : decode cX5_askCarry 69 = .ok (.astore 4, 2) := by decide +kernel
theorem dX5_askCarry_71 : decode cX5_askCarry 71 = .ok (.aload_n 3, 1) := by decide +kernel
theorem dX5_askCarry_72 : decode cX5_askCarry 72 = .ok (.ifnull 13, 3) := by decide +kernel
theorem dX5_askCarry_75 : decode cX5_askCarry 75 = .ok (.aload 4, 2) := by decide +kernel
theorem dX5_askCarry_77 : decode cX5_askCarry 77 = .ok (.ifnull 8, 3) := by decide +kernel
theorem dX5_askCarry_80 : decode cX5_askCarry 80 = .ok (.iload_n 2, 1) := by decide +kernel
theorem dX5_askCarry_81 : decode cX5_askCarry 81 = .ok (.iconst 5, 1) := by decide +kernel
theorem dX5_askCarry_82 : decode cX5_askCarry 82 = .ok (.if_icmp .le 5, 3) := by decide +kernel
theorem dX5_askCarry_85 : decode cX5_askCarry 85 = .ok (.iconst (-1), 1) := by decide +kernel
theorem dX5_askCarry_86 : decode cX5_askCarry 86 = .ok (.ireturn, 1) := by decide +kernel
theorem dX5_askCarry_87 : decode cX5_askCarry 87 = .ok (.aload_n 0, 1) := by decide +kernel
theorem dX5_askCarry_88 : decode cX5_askCarry 88 = .ok (.aload_n 3, 1) := by decide +kernel
theorem dX5_askCarry_89 : decode cX5_askCarry 89 = .ok (.iload_n 2, 1) := by decide +kernel
theorem dX5_askCarry_90 : decode cX5_askCarry 90 = .ok (.iconst 1, 1) := by decide +kernel
theorem dX5_askCarry_91 : decode cX5_askCarry 91 = .ok (.iadd, 1) := by decide +kernel
theorem dX5_askCarry_92 : decode cX5_askCarry 92 = .ok (.invokevirtual 150, 3) := by decide +kernel
theorem dX5_askCarry_95 : decode cX5_askCarry 95 = .ok (.istore 5, 2) := by decide +kernel
theorem dX5_askCarry_97 : decode cX5_askCarry 97 = .ok (.iload 5, 2) := by decide +kernel
theorem dX5_askCarry_99 : decode cX5_askCarry 99 = .ok (.ifCond .ge 6, 3) := by decide +kernel
theorem dX5_askCarry_102 : decode cX5_askCarry 102 = .ok (.iload 5, 2) := by decide +kernel
theorem dX5_askCarry_104 : decode cX5_askCarry 104 = .ok (.ireturn, 1) := by decide +kernel
theorem dX5_askCarry_105 : decode cX5_askCarry 105 = .ok (.aload_n 0, 1) := by decide +kernel
theorem dX5_askCarry_106 : decode cX5_askCarry 106 = .ok (.aload 4, 2) := by decide +kernel
theorem dX5_askCarry_108 : decode cX5_askCarry 108 = .ok (.iload_n 2, 1) := by decide +kernel
theorem dX5_askCarry_109 : decode cX5_askCarry 109 = .ok (.iconst 1, 1) := by decide +kernel
theorem dX5_askCarry_110 : decode cX5_askCarry 110 = .ok (.iadd, 1) := by decide +kernel
theorem dX5_askCarry_111 : decode cX5_askCarry 111 = .ok (.invokevirtual 150, 3) := by decide +kernel
theorem dX5_askCarry_114 : decode cX5_askCarry 114 = .ok (.istore 6, 2) := by decide +kernel
theorem dX5_askCarry_116 : decode cX5_askCarry 116 = .ok (.iload 6, 2) := by decide +kernel
theorem dX5_askCarry_118 : decode cX5_askCarry 118 = .ok (.ifCond .ge 8, 3) := by decide +kernel
theorem dX5_askCarry_121 : decode cX5_askCarry 121 = .ok (.iload 6, 2) := by decide +kernel
theorem dX5_askCarry_123 : decode cX5_askCarry 123 = .ok (.goto 8, 3) := by decide +kernel
theorem dX5_askCarry_126 : decode cX5_askCarry 126 = .ok (.iload 5, 2) := by decide +kernel
theorem dX5_askCarry_128 : decode cX5_askCarry 128 = .ok (.iload 6, 2) := by decide +kernel
theorem dX5_askCarry_130 : decode cX5_askCarry 130 = .ok (.iadd, 1) := by decide +kernel
theorem dX5_askCarry_131 : decode cX5_askCarry 131 = .ok (.ireturn, 1) := by decide +kernel
theorem dX5_askJudge_0 : decode cX5_askJudge 0 = .ok (.aload_n 1, 1) := by decide +kernel
theorem dX5_askJudge_1 : decode cX5_askJudge 1 = .ok (.getfield 77, 3) := by decide +kernel
theorem dX5_askJudge_4 : decode cX5_askJudge 4 = .ok (.iconst 4, 1) := by decide +kernel
theorem dX5_askJudge_5 : decode cX5_askJudge 5 = .ok (.if_icmp .eq 11, 3) := by decide +kernel
theorem dX5_askJudge_8 : decode cX5_askJudge 8 = .ok (.aload_n 1, 1) := by decide +kernel
theorem dX5_askJudge_9 : decode cX5_askJudge 9 = .ok (.getfield 77, 3) := by decide +kernel
theorem dX5_askJudge_12 : decode cX5_askJudge 12 = .ok (.iconst 2, 1) := by decide +kernel
theorem dX5_askJudge_13 : decode cX5_askJudge 13 = .ok (.if_icmp .ne 5, 3) := by decide +kernel
theorem dX5_askJudge_16 : decode cX5_askJudge 16 = .ok (.iconst (-1), 1) := by decide +kernel
theorem dX5_askJudge_17 : decode cX5_askJudge 17 = .ok (.ireturn, 1) := by decide +kernel
theorem dX5_askJudge_18 : decode cX5_askJudge 18 = .ok (.aload_n 1, 1) := by decide +kernel
theorem dX5_askJudge_19 : decode cX5_askJudge 19 = .ok (.getfield 61, 3) := by decide +kernel
theorem dX5_askJudge_22 : decode cX5_askJudge 22 = .ok (.arraylength, 1) := by decide +kernel
theorem dX5_askJudge_23 : decode cX5_askJudge 23 = .ok (.istore_n 2, 1) := by decide +kernel
theorem dX5_askJudge_24 : decode cX5_askJudge 24 = .ok (.aload_n 1, 1) := by decide +kernel
theorem dX5_askJudge_25 : decode cX5_askJudge 25 = .ok (.getfield 77, 3) := by decide +kernel
theorem dX5_askJudge_28 : decode cX5_askJudge 28 = .ok (.iconst 3, 1) := by decide +kernel
theorem dX5_askJudge_29 : decode cX5_askJudge 29 = .ok (.if_icmp .ne 9, 3) := by decide +kernel
theorem dX5_askJudge_32 : decode cX5_askJudge 32 = .ok (.aload_n 0, 1) := by decide +kernel
theorem dX5_askJudge_33 : decode cX5_askJudge 33 = .ok (.bipush 12, 2) := by decide +kernel
theorem dX5_askJudge_35 : decode cX5_askJudge 35 = .ok (.invokevirtual 338, 3) := by decide +kernel
theorem dX5_askJudge_38 : decode cX5_askJudge 38 = .ok (.aload_n 1, 1) := by decide +kernel
theorem dX5_askJudge_39 : decode cX5_askJudge 39 = .ok (.getfield 77, 3) := by decide +kernel
theorem dX5_askJudge_42 : decode cX5_askJudge 42 = .ok (.ifCond .eq 13, 3) := by decide +kernel
theorem dX5_askJudge_45 : decode cX5_askJudge 45 = .ok (.aload_n 0, 1) := by decide +kernel
theorem dX5_askJudge_46 : decode cX5_askJudge 46 = .ok (.bipush 11, 2) := by decide +kernel
theorem dX5_askJudge_48 : decode cX5_askJudge 48 = .ok (.invokevirtual 338, 3) := by decide +kernel
theorem dX5_askJudge_51 : decode cX5_askJudge 51 = .ok (.iconst 2, 1) := by decide +kernel
theorem dX5_askJudge_52 : decode cX5_askJudge 52 = .ok (.iload_n 2, 1) := by decide +kernel
theorem dX5_askJudge_53 : decode cX5_askJudge 53 = .ok (.imul, 1) := by decide +kernel
theorem dX5_askJudge_54 : decode cX5_askJudge 54 = .ok (.istore_n 2, 1) := by decide +kernel
theorem dX5_askJudge_55 : decode cX5_askJudge 55 = .ok (.aload_n 0, 1) := by decide +kernel
theorem dX5_askJudge_56 : decode cX5_askJudge 56 = .ok (.bipush 10, 2) := by decide +kernel
theorem dX5_askJudge_58 : decode cX5_askJudge 58 = .ok (.invokevirtual 338, 3) := by decide +kernel
theorem dX5_askJudge_61 : decode cX5_askJudge 61 = .ok (.aload_n 1, 1) := by decide +kernel
theorem dX5_askJudge_62 : decode cX5_askJudge 62 = .ok (.getfield 77, 3) := by decide +kernel
theorem dX5_askJudge_65 : decode cX5_askJudge 65 = .ok (.iconst 3, 1) := by decide +kernel
theorem dX5_askJudge_66 : decode cX5_askJudge 66 = .ok (.if_icmp .ne 9, 3) := by decide +kernel
theorem dX5_askJudge_69 : decode cX5_askJudge 69 = .ok (.iload_n 2, 1) := by decide +kernel
theorem dX5_askJudge_70 : decode cX5_askJudge 70 = .ok (.iconst 1, 1) := by decide +kernel
theorem dX5_askJudge_71 : decode cX5_askJudge 71 = .ok (.iadd, 1) := by decide +kernel
theorem dX5_askJudge_72 : decode cX5_askJudge 72 = .ok (.goto 4, 3) := by decide +kernel
theorem dX5_askJudge_75 : decode cX5_askJudge 75 = .ok (.iload_n 2, 1) := by decide +kernel
theorem dX5_askJudge_76 : decode cX5_askJudge 76 = .ok (.ireturn, 1) := by decide +kernel
theorem dX5_digitCount_0 : decode cX5_digitCount 0 = .ok (.iload_n 2, 1) := by decide +kernel
theorem dX5_digitCount_1 : decode cX5_digitCount 1 = .ok (.iconst 1, 1) := by decide +kernel
theorem dX5_digitCount_2 : decode cX5_digitCount 2 = .ok (.if_icmp .gt 5, 3) := by decide +kernel
theorem dX5_digitCount_5 : decode cX5_digitCount 5 = .ok (.iconst 0, 1) := by decide +kernel
theorem dX5_digitCount_6 : decode cX5_digitCount 6 = .ok (.ireturn, 1) := by decide +kernel
theorem dX5_digitCount_7 : decode cX5_digitCount 7 = .ok (.lload_n 0, 1) := by decide +kernel
theorem dX5_digitCount_8 : decode cX5_digitCount 8 = .ok (.lstore_n 3, 1) := by decide +kernel
theorem dX5_digitCount_9 : decode cX5_digitCount 9 = .ok (.iconst 0, 1) := by decide +kernel
theorem dX5_digitCount_10 : decode cX5_digitCount 10 = .ok (.istore 5, 2) := by decide +kernel
theorem dX5_digitCount_12 : decode cX5_digitCount 12 = .ok (.iload 5, 2) := by decide +kernel
theorem dX5_digitCount_14 : decode cX5_digitCount 14 = .ok (.bipush 64, 2) := by decide +kernel
theorem dX5_digitCount_16 : decode cX5_digitCount 16 = .ok (.if_icmp .ge 20, 3) := by decide +kernel
theorem dX5_digitCount_19 : decode cX5_digitCount 19 = .ok (.lload_n 3, 1) := by decide +kernel
theorem dX5_digitCount_20 : decode cX5_digitCount 20 = .ok (.lconst 0, 1) := by decide +kernel
theorem dX5_digitCount_21 : decode cX5_digitCount 21 = .ok (.lcmp, 1) := by decide +kernel
theorem dX5_digitCount_22 : decode cX5_digitCount 22 = .ok (.ifCond .le 14, 3) := by decide +kernel
theorem dX5_digitCount_25 : decode cX5_digitCount 25 = .ok (.lload_n 3, 1) := by decide +kernel
theorem dX5_digitCount_26 : decode cX5_digitCount 26 = .ok (.iload_n 2, 1) := by decide +kernel
theorem dX5_digitCount_27 : decode cX5_digitCount 27 = .ok (.i2l, 1) := by decide +kernel
theorem dX5_digitCount_28 : decode cX5_digitCount 28 = .ok (.ldiv, 1) := by decide +kernel
theorem dX5_digitCount_29 : decode cX5_digitCount 29 = .ok (.lstore_n 3, 1) := by decide +kernel
theorem dX5_digitCount_30 : decode cX5_digitCount 30 = .ok (.iinc 5 1, 3) := by decide +kernel
theorem dX5_digitCount_33 : decode cX5_digitCount 33 = .ok (.goto (-21), 3) := by decide +kernel
theorem dX5_digitCount_36 : decode cX5_digitCount 36 = .ok (.iload 5, 2) := by decide +kernel
theorem dX5_digitCount_38 : decode cX5_digitCount 38 = .ok (.ireturn, 1) := by decide +kernel
theorem dX5_digitAt_0 : decode cX5_digitAt 0 = .ok (.iload_n 2, 1) := by decide +kernel
theorem dX5_digitAt_1 : decode cX5_digitAt 1 = .ok (.iconst 1, 1) := by decide +kernel
theorem dX5_digitAt_2 : decode cX5_digitAt 2 = .ok (.if_icmp .gt 5, 3) := by decide +kernel
theorem dX5_digitAt_5 : decode cX5_digitAt 5 = .ok (.iconst 0, 1) := by decide +kernel
theorem dX5_digitAt_6 : decode cX5_digitAt 6 = .ok (.ireturn, 1) := by decide +kernel
theorem dX5_digitAt_7 : decode cX5_digitAt 7 = .ok (.lload_n 0, 1) := by decide +kernel
theorem dX5_digitAt_8 : decode cX5_digitAt 8 = .ok (.lstore 4, 2) := by decide +kernel
theorem dX5_digitAt_10 : decode cX5_digitAt 10 = .ok (.iconst 0, 1) := by decide +kernel
theorem dX5_digitAt_11 : decode cX5_digitAt 11 = .ok (.istore 6, 2) := by decide +kernel
theorem dX5_digitAt_13 : decode cX5_digitAt 13 = .ok (.iload 6, 2) := by decide +kernel
theorem dX5_digitAt_15 : decode cX5_digitAt 15 = .ok (.iload_n 3, 1) := by decide +kernel
theorem dX5_digitAt_16 : decode cX5_digitAt 16 = .ok (.if_icmp .ge 16, 3) := by decide +kernel
theorem dX5_digitAt_19 : decode cX5_digitAt 19 = .ok (.lload 4, 2) := by decide +kernel
theorem dX5_digitAt_21 : decode cX5_digitAt 21 = .ok (.iload_n 2, 1) := by decide +kernel
theorem dX5_digitAt_22 : decode cX5_digitAt 22 = .ok (.i2l, 1) := by decide +kernel
theorem dX5_digitAt_23 : decode cX5_digitAt 23 = .ok (.ldiv, 1) := by decide +kernel
theorem dX5_digitAt_24 : decode cX5_digitAt 24 = .ok (.lstore 4, 2) := by decide +kernel
theorem dX5_digitAt_26 : decode cX5_digitAt 26 = .ok (.iinc 6 1, 3) := by decide +kernel
theorem dX5_digitAt_29 : decode cX5_digitAt 29 = .ok (.goto (-16), 3) := by decide +kernel
theorem dX5_digitAt_32 : decode cX5_digitAt 32 = .ok (.lload 4, 2) := by decide +kernel
theorem dX5_digitAt_34 : decode cX5_digitAt 34 = .ok (.iload_n 2, 1) := by decide +kernel
theorem dX5_digitAt_35 : decode cX5_digitAt 35 = .ok (.i2l, 1) := by decide +kernel
theorem dX5_digitAt_36 : decode cX5_digitAt 36 = .ok (.lrem, 1) := by decide +kernel
theorem dX5_digitAt_37 : decode cX5_digitAt 37 = .ok (.l2i, 1) := by decide +kernel
theorem dX5_digitAt_38 : decode cX5_digitAt 38 = .ok (.ireturn, 1) := by decide +kernel
theorem dX5_power_0 : decode cX5_power 0 = .ok (.lconst 1, 1) := by decide +kernel
theorem dX5_power_1 : decode cX5_power 1 = .ok (.lstore_n 2, 1) := by decide +kernel
theorem dX5_power_2 : decode cX5_power 2 = .ok (.iconst 0, 1) := by decide +kernel
theorem dX5_power_3 : decode cX5_power 3 = .ok (.istore 4, 2) := by decide +kernel
theorem dX5_power_5 : decode cX5_power 5 = .ok (.iload 4, 2) := by decide +kernel
theorem dX5_power_7 : decode cX5_power 7 = .ok (.iload_n 1, 1) := by decide +kernel
theorem dX5_power_8 : decode cX5_power 8 = .ok (.if_icmp .ge 14, 3) := by decide +kernel
theorem dX5_power_11 : decode cX5_power 11 = .ok (.lload_n 2, 1) := by decide +kernel
theorem dX5_power_12 : decode cX5_power 12 = .ok (.iload_n 0, 1) := by decide +kernel
theorem dX5_power_13 : decode cX5_power 13 = .ok (.i2l, 1) := by decide +kernel
theorem dX5_power_14 : decode cX5_power 14 = .ok (.lmul, 1) := by decide +kernel
theorem dX5_power_15 : decode cX5_power 15 = .ok (.lstore_n 2, 1) := by decide +kernel
theorem dX5_power_16 : decode cX5_power 16 = .ok (.iinc 4 1, 3) := by decide +kernel
theorem dX5_power_19 : decode cX5_power 19 = .ok (.goto (-14), 3) := by decide +kernel
theorem dX5_power_22 : decode cX5_power 22 = .ok (.lload_n 2, 1) := by decide +kernel
theorem dX5_power_23 : decode cX5_power 23 = .ok (.lreturn, 1) := by decide +kernel
theorem dX5_endlessField_0 : decode cX5_endlessField 0 = .ok (.iload_n 0, 1) := by decide +kernel
theorem dX5_endlessField_1 : decode cX5_endlessField 1 = .ok (.bipush 23, 2) := by decide +kernel
theorem dX5_endlessField_3 : decode cX5_endlessField 3 = .ok (.if_icmp .ne 9, 3) := by decide +kernel
theorem dX5_endlessField_6 : decode cX5_endlessField 6 = .ok (.sipush 255, 3) := by decide +kernel
theorem dX5_endlessField_9 : decode cX5_endlessField 9 = .ok (.goto 6, 3) := by decide +kernel
theorem dX5_endlessField_12 : decode cX5_endlessField 12 = .ok (.sipush 2047, 3) := by decide +kernel
theorem dX5_endlessField_15 : decode cX5_endlessField 15 = .ok (.ireturn, 1) := by decide +kernel
theorem dX5_exponentField_0 : decode cX5_exponentField 0 = .ok (.lload_n 0, 1) := by decide +kernel
theorem dX5_exponentField_1 : decode cX5_exponentField 1 = .ok (.iload_n 2, 1) := by decide +kernel
theorem dX5_exponentField_2 : decode cX5_exponentField 2 = .ok (.lushr, 1) := by decide +kernel
theorem dX5_exponentField_3 : decode cX5_exponentField 3 = .ok (.l2i, 1) := by decide +kernel
theorem dX5_exponentField_4 : decode cX5_exponentField 4 = .ok (.iload_n 2, 1) := by decide +kernel
theorem dX5_exponentField_5 : decode cX5_exponentField 5 = .ok (.invokestatic 347, 3) := by decide +kernel
theorem dX5_exponentField_8 : decode cX5_exponentField 8 = .ok (.iand, 1) := by decide +kernel
theorem dX5_exponentField_9 : decode cX5_exponentField 9 = .ok (.ireturn, 1) := by decide +kernel
theorem dX5_fraction_0 : decode cX5_fraction 0 = .ok (.lload_n 0, 1) := by decide +kernel
theorem dX5_fraction_1 : decode cX5_fraction 1 = .ok (.lconst 1, 1) := by decide +kernel
theorem dX5_fraction_2 : decode cX5_fraction 2 = .ok (.iload_n 2, 1) := by decide +kernel
theorem dX5_fraction_3 : decode cX5_fraction 3 = .ok (.lshl, 1) := by decide +kernel
theorem dX5_fraction_4 : decode cX5_fraction 4 = .ok (.lconst 1, 1) := by decide +kernel
theorem dX5_fraction_5 : decode cX5_fraction 5 = .ok (.lsub, 1) := by decide +kernel
theorem dX5_fraction_6 : decode cX5_fraction 6 = .ok (.land, 1) := by decide +kernel
theorem dX5_fraction_7 : decode cX5_fraction 7 = .ok (.lreturn, 1) := by decide +kernel
theorem dX5_significand_0 : decode cX5_significand 0 = .ok (.lload_n 0, 1) := by decide +kernel
theorem dX5_significand_1 : decode cX5_significand 1 = .ok (.iload_n 2, 1) := by decide +kernel
theorem dX5_significand_2 : decode cX5_significand 2 = .ok (.invokestatic 350, 3) := by decide +kernel
theorem dX5_significand_5 : decode cX5_significand 5 = .ok (.lstore_n 3, 1) := by decide +kernel
theorem dX5_significand_6 : decode cX5_significand 6 = .ok (.lload_n 0, 1) := by decide +kernel
theorem dX5_significand_7 : decode cX5_significand 7 = .ok (.iload_n 2, 1) := by decide +kernel
theorem dX5_significand_8 : decode cX5_significand 8 = .ok (.invokestatic 354, 3) := by decide +kernel
theorem dX5_significand_11 : decode cX5_significand 11 = .ok (.ifCond .ne 7, 3) := by decide +kernel
theorem dX5_significand_14 : decode cX5_significand 14 = .ok (.lload_n 3, 1) := by decide +kernel
theorem dX5_significand_15 : decode cX5_significand 15 = .ok (.goto 8, 3) := by decide +kernel
theorem dX5_significand_18 : decode cX5_significand 18 = .ok (.lload_n 3, 1) := by decide +kernel
theorem dX5_significand_19 : decode cX5_significand 19 = .ok (.lconst 1, 1) := by decide +kernel
theorem dX5_significand_20 : decode cX5_significand 20 = .ok (.iload_n 2, 1) := by decide +kernel
theorem dX5_significand_21 : decode cX5_significand 21 = .ok (.lshl, 1) := by decide +kernel
theorem dX5_significand_22 : decode cX5_significand 22 = .ok (.lor, 1) := by decide +kernel
theorem dX5_significand_23 : decode cX5_significand 23 = .ok (.lreturn, 1) := by decide +kernel
theorem dX5_signBit_0 : decode cX5_signBit 0 = .ok (.lload_n 0, 1) := by decide +kernel
theorem dX5_signBit_1 : decode cX5_signBit 1 = .ok (.iload_n 2, 1) := by decide +kernel
theorem dX5_signBit_2 : decode cX5_signBit 2 = .ok (.bipush 23, 2) := by decide +kernel
theorem dX5_signBit_4 : decode cX5_signBit 4 = .ok (.if_icmp .ne 9, 3) := by decide +kernel
theorem dX5_signBit_7 : decode cX5_signBit 7 = .ok (.ldc2_w 357, 3) := by decide +kernel
theorem dX5_signBit_10 : decode cX5_signBit 10 = .ok (.goto 6, 3) := by decide +kernel
theorem dX5_signBit_13 : decode cX5_signBit 13 = .ok (.ldc2_w 114, 3) := by decide +kernel
theorem dX5_signBit_16 : decode cX5_signBit 16 = .ok (.land, 1) := by decide +kernel
theorem dX5_signBit_17 : decode cX5_signBit 17 = .ok (.lreturn, 1) := by decide +kernel
theorem dX5_writeWhole_0 : decode cX5_writeWhole 0 = .ok (.aload_n 1, 1) := by decide +kernel
theorem dX5_writeWhole_1 : decode cX5_writeWhole 1 = .ok (.ifnonnull 5, 3) := by decide +kernel
theorem dX5_writeWhole_4 : decode cX5_writeWhole 4 = .ok (.iconst (-1), 1) := by decide +kernel
theorem dX5_writeWhole_5 : decode cX5_writeWhole 5 = .ok (.ireturn, 1) := by decide +kernel
theorem dX5_writeWhole_6 : decode cX5_writeWhole 6 = .ok (.lload_n 2, 1) := by decide +kernel
theorem dX5_writeWhole_7 : decode cX5_writeWhole 7 = .ok (.iload 4, 2) := by decide +kernel
theorem dX5_writeWhole_9 : decode cX5_writeWhole 9 = .ok (.invokestatic 354, 3) := by decide +kernel
theorem dX5_writeWhole_12 : decode cX5_writeWhole 12 = .ok (.istore 5, 2) := by decide +kernel
theorem dX5_writeWhole_14 : decode cX5_writeWhole 14 = .ok (.lload_n 2, 1) := by decide +kernel
theorem dX5_writeWhole_15 : decode cX5_writeWhole 15 = .ok (.iload 4, 2) := by decide +kernel
theorem dX5_writeWhole_17 : decode cX5_writeWhole 17 = .ok (.invokestatic 359, 3) := by decide +kernel
theorem dX5_writeWhole_20 : decode cX5_writeWhole 20 = .ok (.lstore 6, 2) := by decide +kernel
theorem dX5_writeWhole_22 : decode cX5_writeWhole 22 = .ok (.iload 5, 2) := by decide +kernel
theorem dX5_writeWhole_24 : decode cX5_writeWhole 24 = .ok (.iload 4, 2) := by decide +kernel
theorem dX5_writeWhole_26 : decode cX5_writeWhole 26 = .ok (.invokestatic 347, 3) := by decide +kernel
theorem dX5_writeWhole_29 : decode cX5_writeWhole 29 = .ok (.if_icmp .eq 21, 3) := by decide +kernel
theorem dX5_writeWhole_32 : decode cX5_writeWhole 32 = .ok (.lload_n 2, 1) := by decide +kernel
theorem dX5_writeWhole_33 : decode cX5_writeWhole 33 = .ok (.iload 4, 2) := by decide +kernel
theorem dX5_writeWhole_35 : decode cX5_writeWhole 35 = .ok (.invokestatic 362, 3) := by decide +kernel
theorem dX5_writeWhole_38 : decode cX5_writeWhole 38 = .ok (.lconst 0, 1) := by decide +kernel
theorem dX5_writeWhole_39 : decode cX5_writeWhole 39 = .ok (.lcmp, 1) := by decide +kernel
theorem dX5_writeWhole_40 : decode cX5_writeWhole 40 = .ok (.ifCond .eq 13, 3) := by decide +kernel
theorem dX5_writeWhole_43 : decode cX5_writeWhole 43 = .ok (.lload 6, 2) := by decide +kernel
theorem dX5_writeWhole_45 : decode cX5_writeWhole 45 = .ok (.lconst 0, 1) := by decide +kernel
theorem dX5_writeWhole_46 : decode cX5_writeWhole 46 = .ok (.lcmp, 1) := by decide +kernel
theorem dX5_writeWhole_47 : decode cX5_writeWhole 47 = .ok (.ifCond .eq 6, 3) := by decide +kernel
theorem dX5_writeWhole_50 : decode cX5_writeWhole 50 = .ok (.bipush (-2), 2) := by decide +kernel
theorem dX5_writeWhole_52 : decode cX5_writeWhole 52 = .ok (.ireturn, 1) := by decide +kernel
theorem dX5_writeWhole_53 : decode cX5_writeWhole 53 = .ok (.iload 4, 2) := by decide +kernel
theorem dX5_writeWhole_55 : decode cX5_writeWhole 55 = .ok (.invokestatic 347, 3) := by decide +kernel
theorem dX5_writeWhole_58 : decode cX5_writeWhole 58 = .ok (.iconst 2, 1) := by decide +kernel
theorem dX5_writeWhole_59 : decode cX5_writeWhole 59 = .ok (.idiv, 1) := by decide +kernel
theorem dX5_writeWhole_60 : decode cX5_writeWhole 60 = .ok (.istore 8, 2) := by decide +kernel
theorem dX5_writeWhole_62 : decode cX5_writeWhole 62 = .ok (.aload_n 0, 1) := by decide +kernel
theorem dX5_writeWhole_63 : decode cX5_writeWhole 63 = .ok (.aload_n 1, 1) := by decide +kernel
theorem dX5_writeWhole_64 : decode cX5_writeWhole 64 = .ok (.lload 6, 2) := by decide +kernel
theorem dX5_writeWhole_66 : decode cX5_writeWhole 66 = .ok (.iload 5, 2) := by decide +kernel
theorem dX5_writeWhole_68 : decode cX5_writeWhole 68 = .ok (.iconst 1, 1) := by decide +kernel
theorem dX5_writeWhole_69 : decode cX5_writeWhole 69 = .ok (.invokestatic 68, 3) := by decide +kernel
theorem dX5_writeWhole_72 : decode cX5_writeWhole 72 = .ok (.iload 8, 2) := by decide +kernel
theorem dX5_writeWhole_74 : decode cX5_writeWhole 74 = .ok (.isub, 1) := by decide +kernel
theorem dX5_writeWhole_75 : decode cX5_writeWhole 75 = .ok (.iload 4, 2) := by decide +kernel
theorem dX5_writeWhole_77 : decode cX5_writeWhole 77 = .ok (.isub, 1) := by decide +kernel
theorem dX5_writeWhole_78 : decode cX5_writeWhole 78 = .ok (.invokestatic 365, 3) := by decide +kernel
theorem dX5_writeWhole_81 : decode cX5_writeWhole 81 = .ok (.invokevirtual 127, 3) := by decide +kernel
theorem dX5_writeWhole_84 : decode cX5_writeWhole 84 = .ok (.ireturn, 1) := by decide +kernel
theorem dX5_shifted_0 : decode cX5_shifted 0 = .ok (.lload_n 0, 1) := by decide +kernel
theorem dX5_shifted_1 : decode cX5_shifted 1 = .ok (.lconst 0, 1) := by decide +kernel
theorem dX5_shifted_2 : decode cX5_shifted 2 = .ok (.lcmp, 1) := by decide +kernel
theorem dX5_shifted_3 : decode cX5_shifted 3 = .ok (.ifCond .eq 9, 3) := by decide +kernel
theorem dX5_shifted_6 : decode cX5_shifted 6 = .ok (.iload_n 2, 1) := by decide +kernel
theorem dX5_shifted_7 : decode cX5_shifted 7 = .ok (.bipush (-64), 2) := by decide +kernel
theorem dX5_shifted_9 : decode cX5_shifted 9 = .ok (.if_icmp .gt 5, 3) := by decide +kernel
theorem dX5_shifted_12 : decode cX5_shifted 12 = .ok (.lconst 0, 1) := by decide +kernel
theorem dX5_shifted_13 : decode cX5_shifted 13 = .ok (.lreturn, 1) := by decide +kernel
theorem dX5_shifted_14 : decode cX5_shifted 14 = .ok (.iload_n 2, 1) := by decide +kernel
theorem dX5_shifted_15 : decode cX5_shifted 15 = .ok (.ifCond .gt 8, 3) := by decide +kernel
theorem dX5_shifted_18 : decode cX5_shifted 18 = .ok (.lload_n 0, 1) := by decide +kernel
theorem dX5_shifted_19 : decode cX5_shifted 19 = .ok (.iload_n 2, 1) := by decide +kernel
theorem dX5_shifted_20 : decode cX5_shifted 20 = .ok (.ineg, 1) := by decide +kernel
theorem dX5_shifted_21 : decode cX5_shifted 21 = .ok (.lushr, 1) := by decide +kernel
theorem dX5_shifted_22 : decode cX5_shifted 22 = .ok (.lreturn, 1) := by decide +kernel
theorem dX5_shifted_23 : decode cX5_shifted 23 = .ok (.iload_n 2, 1) := by decide +kernel
theorem dX5_shifted_24 : decode cX5_shifted 24 = .ok (.bipush 62, 2) := by decide +kernel
theorem dX5_shifted_26 : decode cX5_shifted 26 = .ok (.if_icmp .gt 13, 3) := by decide +kernel
theorem dX5_shifted_29 : decode cX5_shifted 29 = .ok (.lload_n 0, 1) := by decide +kernel
theorem dX5_shifted_30 : decode cX5_shifted 30 = .ok (.ldc2_w 368, 3) := by decide +kernel
theorem dX5_shifted_33 : decode cX5_shifted 33 = .ok (.iload_n 2, 1) := by decide +kernel
theorem dX5_shifted_34 : decode cX5_shifted 34 = .ok (.lshr, 1) := by decide +kernel
theorem dX5_shifted_35 : decode cX5_shifted 35 = .ok (.lcmp, 1) := by decide +kernel
theorem dX5_shifted_36 : decode cX5_shifted 36 = .ok (.ifCond .le 9, 3) := by decide +kernel
theorem dX5_shifted_39 : decode cX5_shifted 39 = .ok (.ldc2_w 368, 3) := by decide +kernel
theorem dX5_shifted_42 : decode cX5_shifted 42 = .ok (.goto 6, 3) := by decide +kernel
theorem dX5_shifted_45 : decode cX5_shifted 45 = .ok (.lload_n 0, 1) := by decide +kernel
theorem dX5_shifted_46 : decode cX5_shifted 46 = .ok (.iload_n 2, 1) := by decide +kernel
theorem dX5_shifted_47 : decode cX5_shifted 47 = .ok (.lshl, 1) := by decide +kernel
theorem dX5_shifted_48 : decode cX5_shifted 48 = .ok (.lreturn, 1) := by decide +kernel
theorem dX5_rest_0 : decode cX5_rest 0 = .ok (.iload 4, 2) := by decide +kernel
theorem dX5_rest_2 : decode cX5_rest 2 = .ok (.bipush 23, 2) := by decide +kernel
theorem dX5_rest_4 : decode cX5_rest 4 = .ok (.if_icmp .ne 9, 3) := by decide +kernel
theorem dX5_rest_7 : decode cX5_rest 7 = .ok (.ldc2_w 370, 3) := by decide +kernel
theorem dX5_rest_10 : decode cX5_rest 10 = .ok (.goto 6, 3) := by decide +kernel
theorem dX5_rest_13 : decode cX5_rest 13 = .ok (.ldc2_w 372, 3) := by decide +kernel
theorem dX5_rest_16 : decode cX5_rest 16 = .ok (.lstore 5, 2) := by decide +kernel
theorem dX5_rest_18 : decode cX5_rest 18 = .ok (.iload 4, 2) := by decide +kernel
theorem dX5_rest_20 : decode cX5_rest 20 = .ok (.invokestatic 347, 3) := by decide +kernel
theorem dX5_rest_23 : decode cX5_rest 23 = .ok (.istore 7, 2) := by decide +kernel
theorem dX5_rest_25 : decode cX5_rest 25 = .ok (.lload_n 2, 1) := by decide +kernel
theorem dX5_rest_26 : decode cX5_rest 26 = .ok (.iload 4, 2) := by decide +kernel
theorem dX5_rest_28 : decode cX5_rest 28 = .ok (.invokestatic 359, 3) := by decide +kernel
theorem dX5_rest_31 : decode cX5_rest 31 = .ok (.lstore 8, 2) := by decide +kernel
theorem dX5_rest_33 : decode cX5_rest 33 = .ok (.lload_n 0, 1) := by decide +kernel
theorem dX5_rest_34 : decode cX5_rest 34 = .ok (.iload 4, 2) := by decide +kernel
theorem dX5_rest_36 : decode cX5_rest 36 = .ok (.invokestatic 354, 3) := by decide +kernel
theorem dX5_rest_39 : decode cX5_rest 39 = .ok (.iload 7, 2) := by decide +kernel
theorem dX5_rest_41 : decode cX5_rest 41 = .ok (.if_icmp .eq 10, 3) := by decide +kernel
theorem dX5_rest_44 : decode cX5_rest 44 = .ok (.lload 8, 2) := by decide +kernel
theorem dX5_rest_46 : decode cX5_rest 46 = .ok (.lconst 0, 1) := by decide +kernel
theorem dX5_rest_47 : decode cX5_rest 47 = .ok (.lcmp, 1) := by decide +kernel
theorem dX5_rest_48 : decode cX5_rest 48 = .ok (.ifCond .ne 6, 3) := by decide +kernel
theorem dX5_rest_51 : decode cX5_rest 51 = .ok (.lload 5, 2) := by decide +kernel
theorem dX5_rest_53 : decode cX5_rest 53 = .ok (.lreturn, 1) := by decide +kernel
theorem dX5_rest_54 : decode cX5_rest 54 = .ok (.lload_n 2, 1) := by decide +kernel
theorem dX5_rest_55 : decode cX5_rest 55 = .ok (.iload 4, 2) := by decide +kernel
theorem dX5_rest_57 : decode cX5_rest 57 = .ok (.invokestatic 354, 3) := by decide +kernel
theorem dX5_rest_60 : decode cX5_rest 60 = .ok (.iload 7, 2) := by decide +kernel
theorem dX5_rest_62 : decode cX5_rest 62 = .ok (.if_icmp .ne 21, 3) := by decide +kernel
theorem dX5_rest_65 : decode cX5_rest 65 = .ok (.lload_n 2, 1) := by decide +kernel
theorem dX5_rest_66 : decode cX5_rest 66 = .ok (.iload 4, 2) := by decide +kernel
theorem dX5_rest_68 : decode cX5_rest 68 = .ok (.invokestatic 350, 3) := by decide +kernel
theorem dX5_rest_71 : decode cX5_rest 71 = .ok (.lconst 0, 1) := by decide +kernel
theorem dX5_rest_72 : decode cX5_rest 72 = .ok (.lcmp, 1) := by decide +kernel
theorem dX5_rest_73 : decode cX5_rest 73 = .ok (.ifCond .ne 7, 3) := by decide +kernel
theorem dX5_rest_76 : decode cX5_rest 76 = .ok (.lload_n 0, 1) := by decide +kernel
theorem dX5_rest_77 : decode cX5_rest 77 = .ok (.goto 5, 3) := by decide +kernel
theorem dX5_rest_80 : decode cX5_rest 80 = .ok (.lload 5, 2) := by decide +kernel
theorem dX5_rest_82 : decode cX5_rest 82 = .ok (.lreturn, 1) := by decide +kernel
theorem dX5_rest_83 : decode cX5_rest 83 = .ok (.lload_n 0, 1) := by decide +kernel
theorem dX5_rest_84 : decode cX5_rest 84 = .ok (.iload 4, 2) := by decide +kernel
theorem dX5_rest_86 : decode cX5_rest 86 = .ok (.invokestatic 354, 3) := by decide +kernel
theorem dX5_rest_89 : decode cX5_rest 89 = .ok (.iconst 1, 1) := by decide +kernel
theorem dX5_rest_90 : decode cX5_rest 90 = .ok (.invokestatic 68, 3) := by decide +kernel
theorem dX5_rest_93 : decode cX5_rest 93 = .ok (.istore 10, 2) := by decide +kernel
theorem dX5_rest_95 : decode cX5_rest 95 = .ok (.lload_n 2, 1) := by decide +kernel
theorem dX5_rest_96 : decode cX5_rest 96 = .ok (.iload 4, 2) := by decide +kernel
theorem dX5_rest_98 : decode cX5_rest 98 = .ok (.invokestatic 354, 3) := by decide +kernel
theorem dX5_rest_101 : decode cX5_rest 101 = .ok (.iconst 1, 1) := by decide +kernel
theorem dX5_rest_102 : decode cX5_rest 102 = .ok (.invokestatic 68, 3) := by decide +kernel
theorem dX5_rest_105 : decode cX5_rest 105 = .ok (.istore 11, 2) := by decide +kernel
theorem dX5_rest_107 : decode cX5_rest 107 = .ok (.iload 10, 2) := by decide +kernel
theorem dX5_rest_109 : decode cX5_rest 109 = .ok (.iload 11, 2) := by decide +kernel
theorem dX5_rest_111 : decode cX5_rest 111 = .ok (.if_icmp .ge 5, 3) := by decide +kernel
theorem dX5_rest_114 : decode cX5_rest 114 = .ok (.lload_n 0, 1) := by decide +kernel
theorem dX5_rest_115 : decode cX5_rest 115 = .ok (.lreturn, 1) := by decide +kernel
theorem dX5_rest_116 : decode cX5_rest 116 = .ok (.lload_n 0, 1) := by decide +kernel
theorem dX5_rest_117 : decode cX5_rest 117 = .ok (.iload 4, 2) := by decide +kernel
theorem dX5_rest_119 : decode cX5_rest 119 = .ok (.invokestatic 359, 3) := by decide +kernel
theorem dX5_rest_122 : decode cX5_rest 122 = .ok (.lload 8, 2) := by decide +kernel
theorem dX5_rest_124 : decode cX5_rest 124 = .ok (.lrem, 1) := by decide +kernel
theorem dX5_rest_125 : decode cX5_rest 125 = .ok (.lstore 12, 2) := by decide +kernel
theorem dX5_rest_127 : decode cX5_rest 127 = .ok (.iload 10, 2) := by decide +kernel
theorem dX5_rest_129 : decode cX5_rest 129 = .ok (.iload 11, 2) := by decide +kernel
theorem dX5_rest_131 : decode cX5_rest 131 = .ok (.isub, 1) := by decide +kernel
theorem dX5_rest_132 : decode cX5_rest 132 = .ok (.istore 14, 2) := by decide +kernel
theorem dX5_rest_134 : decode cX5_rest 134 = .ok (.iload 14, 2) := by decide +kernel
theorem dX5_rest_136 : decode cX5_rest 136 = .ok (.ifCond .le 24, 3) := by decide +kernel
theorem dX5_rest_139 : decode cX5_rest 139 = .ok (.lload 12, 2) := by decide +kernel
theorem dX5_rest_141 : decode cX5_rest 141 = .ok (.iload 14, 2) := by decide +kernel
theorem dX5_rest_143 : decode cX5_rest 143 = .ok (.bipush 10, 2) := by decide +kernel
theorem dX5_rest_145 : decode cX5_rest 145 = .ok (.invokestatic 374, 3) := by decide +kernel
theorem dX5_rest_148 : decode cX5_rest 148 = .ok (.lshl, 1) := by decide +kernel
theorem dX5_rest_149 : decode cX5_rest 149 = .ok (.lload 8, 2) := by decide +kernel
theorem dX5_rest_151 : decode cX5_rest 151 = .ok (.lrem, 1) := by decide +kernel
theorem dX5_rest_152 : decode cX5_rest 152 = .ok (.lstore 12, 2) := by decide +kernel
theorem dX5_rest_154 : decode cX5_rest 154 = .ok (.iinc 14 (-10), 3) := by decide +kernel
theorem dX5_rest_157 : decode cX5_rest 157 = .ok (.goto (-23), 3) := by decide +kernel
theorem dX5_rest_160 : decode cX5_rest 160 = .ok (.lload_n 0, 1) := by decide +kernel
theorem dX5_rest_161 : decode cX5_rest 161 = .ok (.iload 4, 2) := by decide +kernel
theorem dX5_rest_163 : decode cX5_rest 163 = .ok (.invokestatic 362, 3) := by decide +kernel
theorem dX5_rest_166 : decode cX5_rest 166 = .ok (.lload 12, 2) := by decide +kernel
theorem dX5_rest_168 : decode cX5_rest 168 = .ok (.iload 11, 2) := by decide +kernel
theorem dX5_rest_170 : decode cX5_rest 170 = .ok (.iload 4, 2) := by decide +kernel
theorem dX5_rest_172 : decode cX5_rest 172 = .ok (.invokestatic 377, 3) := by decide +kernel
theorem dX5_rest_175 : decode cX5_rest 175 = .ok (.lor, 1) := by decide +kernel
theorem dX5_rest_176 : decode cX5_rest 176 = .ok (.lreturn, 1) := by decide +kernel
theorem dX5_packed_0 : decode cX5_packed 0 = .ok (.lload_n 0, 1) := by decide +kernel
theorem dX5_packed_1 : decode cX5_packed 1 = .ok (.lstore 4, 2) := by decide +kernel
theorem dX5_packed_3 : decode cX5_packed 3 = .ok (.iload_n 2, 1) := by decide +kernel
theorem dX5_packed_4 : decode cX5_packed 4 = .ok (.istore 6, 2) := by decide +kernel
theorem dX5_packed_6 : decode cX5_packed 6 = .ok (.iconst 0, 1) := by decide +kernel
theorem dX5_packed_7 : decode cX5_packed 7 = .ok (.istore 7, 2) := by decide +kernel
theorem dX5_packed_9 : decode cX5_packed 9 = .ok (.iload 7, 2) := by decide +kernel
theorem dX5_packed_11 : decode cX5_packed 11 = .ok (.iload_n 3, 1) := by decide +kernel
theorem dX5_packed_12 : decode cX5_packed 12 = .ok (.if_icmp .ge 33, 3) := by decide +kernel
theorem dX5_packed_15 : decode cX5_packed 15 = .ok (.iload 6, 2) := by decide +kernel
theorem dX5_packed_17 : decode cX5_packed 17 = .ok (.iconst 1, 1) := by decide +kernel
theorem dX5_packed_18 : decode cX5_packed 18 = .ok (.if_icmp .le 27, 3) := by decide +kernel
theorem dX5_packed_21 : decode cX5_packed 21 = .ok (.lload 4, 2) := by decide +kernel
theorem dX5_packed_23 : decode cX5_packed 23 = .ok (.lconst 1, 1) := by decide +kernel
theorem dX5_packed_24 : decode cX5_packed 24 = .ok (.iload_n 3, 1) := by decide +kernel
theorem dX5_packed_25 : decode cX5_packed 25 = .ok (.lshl, 1) := by decide +kernel
theorem dX5_packed_26 : decode cX5_packed 26 = .ok (.lcmp, 1) := by decide +kernel
theorem dX5_packed_27 : decode cX5_packed 27 = .ok (.ifCond .ge 18, 3) := by decide +kernel
theorem dX5_packed_30 : decode cX5_packed 30 = .ok (.lload 4, 2) := by decide +kernel
theorem dX5_packed_32 : decode cX5_packed 32 = .ok (.iconst 1, 1) := by decide +kernel
theorem dX5_packed_33 : decode cX5_packed 33 = .ok (.lshl, 1) := by decide +kernel
theorem dX5_packed_34 : decode cX5_packed 34 = .ok (.lstore 4, 2) := by decide +kernel
theorem dX5_packed_36 : decode cX5_packed 36 = .ok (.iinc 6 (-1), 3) := by decide +kernel
theorem dX5_packed_39 : decode cX5_packed 39 = .ok (.iinc 7 1, 3) := by decide +kernel
theorem dX5_packed_42 : decode cX5_packed 42 = .ok (.goto (-33), 3) := by decide +kernel
theorem dX5_packed_45 : decode cX5_packed 45 = .ok (.lload 4, 2) := by decide +kernel
theorem dX5_packed_47 : decode cX5_packed 47 = .ok (.lconst 1, 1) := by decide +kernel
theorem dX5_packed_48 : decode cX5_packed 48 = .ok (.iload_n 3, 1) := by decide +kernel
theorem dX5_packed_49 : decode cX5_packed 49 = .ok (.lshl, 1) := by decide +kernel
theorem dX5_packed_50 : decode cX5_packed 50 = .ok (.lcmp, 1) := by decide +kernel
theorem dX5_packed_51 : decode cX5_packed 51 = .ok (.ifCond .ge 8, 3) := by decide +kernel
theorem dX5_packed_54 : decode cX5_packed 54 = .ok (.lload 4, 2) := by decide +kernel
theorem dX5_packed_56 : decode cX5_packed 56 = .ok (.goto 15, 3) := by decide +kernel
theorem dX5_packed_59 : decode cX5_packed 59 = .ok (.iload 6, 2) := by decide +kernel
theorem dX5_packed_61 : decode cX5_packed 61 = .ok (.i2l, 1) := by decide +kernel
theorem dX5_packed_62 : decode cX5_packed 62 = .ok (.iload_n 3, 1) := by decide +kernel
theorem dX5_packed_63 : decode cX5_packed 63 = .ok (.lshl, 1) := by decide +kernel
theorem dX5_packed_64 : decode cX5_packed 64 = .ok (.lload 4, 2) := by decide +kernel
theorem dX5_packed_66 : decode cX5_packed 66 = .ok (.iload_n 3, 1) := by decide +kernel
theorem dX5_packed_67 : decode cX5_packed 67 = .ok (.invokestatic 350, 3) := by decide +kernel
theorem dX5_packed_70 : decode cX5_packed 70 = .ok (.lor, 1) := by decide +kernel
theorem dX5_packed_71 : decode cX5_packed 71 = .ok (.lreturn, 1) := by decide +kernel
theorem dX5_writePupil_0 : decode cX5_writePupil 0 = .ok (.iconst 4, 1) := by decide +kernel
theorem dX5_writePupil_1 : decode cX5_writePupil 1 = .ok (.iload_n 1, 1) := by decide +kernel
theorem dX5_writePupil_2 : decode cX5_writePupil 2 = .ok (.imul, 1) := by decide +kernel
theorem dX5_writePupil_3 : decode cX5_writePupil 3 = .ok (.istore 6, 2) := by decide +kernel
theorem dX5_writePupil_5 : decode cX5_writePupil 5 = .ok (.iload 6, 2) := by decide +kernel
theorem dX5_writePupil_7 : decode cX5_writePupil 7 = .ok (.iconst 4, 1) := by decide +kernel
theorem dX5_writePupil_8 : decode cX5_writePupil 8 = .ok (.iadd, 1) := by decide +kernel
theorem dX5_writePupil_9 : decode cX5_writePupil 9 = .ok (.aload_n 0, 1) := by decide +kernel
theorem dX5_writePupil_10 : decode cX5_writePupil 10 = .ok (.getfield 30, 3) := by decide +kernel
theorem dX5_writePupil_13 : decode cX5_writePupil 13 = .ok (.arraylength, 1) := by decide +kernel
theorem dX5_writePupil_14 : decode cX5_writePupil 14 = .ok (.if_icmp .le 21, 3) := by decide +kernel
theorem dX5_writePupil_17 : decode cX5_writePupil 17 = .ok (.aload_n 0, 1) := by decide +kernel
theorem dX5_writePupil_18 : decode cX5_writePupil 18 = .ok (.aload_n 0, 1) := by decide +kernel
theorem dX5_writePupil_19 : decode cX5_writePupil 19 = .ok (.getfield 30, 3) := by decide +kernel
theorem dX5_writePupil_22 : decode cX5_writePupil 22 = .ok (.iconst 2, 1) := by decide +kernel
theorem dX5_writePupil_23 : decode cX5_writePupil 23 = .ok (.aload_n 0, 1) := by decide +kernel
theorem dX5_writePupil_24 : decode cX5_writePupil 24 = .ok (.getfield 30, 3) := by decide +kernel
theorem dX5_writePupil_27 : decode cX5_writePupil 27 = .ok (.arraylength, 1) := by decide +kernel
theorem dX5_writePupil_28 : decode cX5_writePupil 28 = .ok (.imul, 1) := by decide +kernel
theorem dX5_writePupil_29 : decode cX5_writePupil 29 = .ok (.invokestatic 381, 3) := by decide +kernel
theorem dX5_writePupil_32 : decode cX5_writePupil 32 = .ok (.putfield 30, 3) := by decide +kernel
theorem dX5_writePupil_35 : decode cX5_writePupil 35 = .ok (.aload_n 0, 1) := by decide +kernel
theorem dX5_writePupil_36 : decode cX5_writePupil 36 = .ok (.getfield 30, 3) := by decide +kernel
theorem dX5_writePupil_39 : decode cX5_writePupil 39 = .ok (.iload 6, 2) := by decide +kernel
theorem dX5_writePupil_41 : decode cX5_writePupil 41 = .ok (.iload_n 2, 1) := by decide +kernel
theorem dX5_writePupil_42 : decode cX5_writePupil 42 = .ok (.iastore, 1) := by decide +kernel
theorem dX5_writePupil_43 : decode cX5_writePupil 43 = .ok (.aload_n 0, 1) := by decide +kernel
theorem dX5_writePupil_44 : decode cX5_writePupil 44 = .ok (.getfield 30, 3) := by decide +kernel
theorem dX5_writePupil_47 : decode cX5_writePupil 47 = .ok (.iload 6, 2) := by decide +kernel
theorem dX5_writePupil_49 : decode cX5_writePupil 49 = .ok (.iconst 1, 1) := by decide +kernel
theorem dX5_writePupil_50 : decode cX5_writePupil 50 = .ok (.iadd, 1) := by decide +kernel
theorem dX5_writePupil_51 : decode cX5_writePupil 51 = .ok (.iload_n 3, 1) := by decide +kernel
theorem dX5_writePupil_52 : decode cX5_writePupil 52 = .ok (.iastore, 1) := by decide +kernel
theorem dX5_writePupil_53 : decode cX5_writePupil 53 = .ok (.aload_n 0, 1) := by decide +kernel
theorem dX5_writePupil_54 : decode cX5_writePupil 54 = .ok (.getfield 30, 3) := by decide +kernel
theorem dX5_writePupil_57 : decode cX5_writePupil 57 = .ok (.iload 6, 2) := by decide +kernel
theorem dX5_writePupil_59 : decode cX5_writePupil 59 = .ok (.iconst 2, 1) := by decide +kernel
theorem dX5_writePupil_60 : decode cX5_writePupil 60 = .ok (.iadd, 1) := by decide +kernel
theorem dX5_writePupil_61 : decode cX5_writePupil 61 = .ok (.iload 4, 2) := by decide +kernel
theorem dX5_writePupil_63 : decode cX5_writePupil 63 = .ok (.iastore, 1) := by decide +kernel
theorem dX5_writePupil_64 : decode cX5_writePupil 64 = .ok (.aload_n 0, 1) := by decide +kernel
theorem dX5_writePupil_65 : decode cX5_writePupil 65 = .ok (.getfield 30, 3) := by decide +kernel
theorem dX5_writePupil_68 : decode cX5_writePupil 68 = .ok (.iload 6, 2) := by decide +kernel
theorem dX5_writePupil_70 : decode cX5_writePupil 70 = .ok (.iconst 3, 1) := by decide +kernel
theorem dX5_writePupil_71 : decode cX5_writePupil 71 = .ok (.iadd, 1) := by decide +kernel
theorem dX5_writePupil_72 : decode cX5_writePupil 72 = .ok (.iload 5, 2) := by decide +kernel
theorem dX5_writePupil_74 : decode cX5_writePupil 74 = .ok (.iastore, 1) := by decide +kernel
theorem dX5_writePupil_75 : decode cX5_writePupil 75 = .ok (.return_, 1) := by decide +kernel
theorem dX5_alike_0 : decode cX5_alike 0 = .ok (.aload_n 0, 1) := by decide +kernel
theorem dX5_alike_1 : decode cX5_alike 1 = .ok (.getfield 30, 3) := by decide +kernel
theorem dX5_alike_4 : decode cX5_alike 4 = .ok (.iconst 4, 1) := by decide +kernel
theorem dX5_alike_5 : decode cX5_alike 5 = .ok (.iload_n 1, 1) := by decide +kernel
theorem dX5_alike_6 : decode cX5_alike 6 = .ok (.imul, 1) := by decide +kernel
theorem dX5_alike_7 : decode cX5_alike 7 = .ok (.iload_n 2, 1) := by decide +kernel
theorem dX5_alike_8 : decode cX5_alike 8 = .ok (.iadd, 1) := by decide +kernel
theorem dX5_alike_9 : decode cX5_alike 9 = .ok (.iaload, 1) := by decide +kernel
theorem dX5_alike_10 : decode cX5_alike 10 = .ok (.aload_n 0, 1) := by decide +kernel
theorem dX5_alike_11 : decode cX5_alike 11 = .ok (.getfield 26, 3) := by decide +kernel
theorem dX5_alike_14 : decode cX5_alike 14 = .ok (.iload_n 1, 1) := by decide +kernel
theorem dX5_alike_15 : decode cX5_alike 15 = .ok (.iload_n 2, 1) := by decide +kernel
theorem dX5_alike_16 : decode cX5_alike 16 = .ok (.invokevirtual 247, 3) := by decide +kernel
theorem dX5_alike_19 : decode cX5_alike 19 = .ok (.if_icmp .ne 7, 3) := by decide +kernel
theorem dX5_alike_22 : decode cX5_alike 22 = .ok (.iconst 1, 1) := by decide +kernel
theorem dX5_alike_23 : decode cX5_alike 23 = .ok (.goto 4, 3) := by decide +kernel
theorem dX5_alike_26 : decode cX5_alike 26 = .ok (.iconst 0, 1) := by decide +kernel
theorem dX5_alike_27 : decode cX5_alike 27 = .ok (.ireturn, 1) := by decide +kernel
theorem dX5_slipPlace_0 : decode cX5_slipPlace 0 = .ok (.aload_n 0, 1) := by decide +kernel
theorem dX5_slipPlace_1 : decode cX5_slipPlace 1 = .ok (.getfield 265, 3) := by decide +kernel
theorem dX5_slipPlace_4 : decode cX5_slipPlace 4 = .ok (.aload_n 0, 1) := by decide +kernel
theorem dX5_slipPlace_5 : decode cX5_slipPlace 5 = .ok (.getfield 26, 3) := by decide +kernel
theorem dX5_slipPlace_8 : decode cX5_slipPlace 8 = .ok (.getfield 244, 3) := by decide +kernel
theorem dX5_slipPlace_11 : decode cX5_slipPlace 11 = .ok (.invokestatic 374, 3) := by decide +kernel
theorem dX5_slipPlace_14 : decode cX5_slipPlace 14 = .ok (.istore_n 1, 1) := by decide +kernel
theorem dX5_slipPlace_15 : decode cX5_slipPlace 15 = .ok (.iconst 0, 1) := by decide +kernel
theorem dX5_slipPlace_16 : decode cX5_slipPlace 16 = .ok (.istore_n 2, 1) := by decide +kernel
theorem dX5_slipPlace_17 : decode cX5_slipPlace 17 = .ok (.iload_n 2, 1) := by decide +kernel
theorem dX5_slipPlace_18 : decode cX5_slipPlace 18 = .ok (.iload_n 1, 1) := by decide +kernel
theorem dX5_slipPlace_19 : decode cX5_slipPlace 19 = .ok (.if_icmp .ge 47, 3) := by decide +kernel
theorem dX5_slipPlace_22 : decode cX5_slipPlace 22 = .ok (.aload_n 0, 1) := by decide +kernel
theorem dX5_slipPlace_23 : decode cX5_slipPlace 23 = .ok (.iload_n 2, 1) := by decide +kernel
theorem dX5_slipPlace_24 : decode cX5_slipPlace 24 = .ok (.iconst 0, 1) := by decide +kernel
theorem dX5_slipPlace_25 : decode cX5_slipPlace 25 = .ok (.invokevirtual 387, 3) := by decide +kernel
theorem dX5_slipPlace_28 : decode cX5_slipPlace 28 = .ok (.ifCond .eq 30, 3) := by decide +kernel
theorem dX5_slipPlace_31 : decode cX5_slipPlace 31 = .ok (.aload_n 0, 1) := by decide +kernel
theorem dX5_slipPlace_32 : decode cX5_slipPlace 32 = .ok (.iload_n 2, 1) := by decide +kernel
theorem dX5_slipPlace_33 : decode cX5_slipPlace 33 = .ok (.iconst 1, 1) := by decide +kernel
theorem dX5_slipPlace_34 : decode cX5_slipPlace 34 = .ok (.invokevirtual 387, 3) := by decide +kernel
theorem dX5_slipPlace_37 : decode cX5_slipPlace 37 = .ok (.ifCond .eq 21, 3) := by decide +kernel
theorem dX5_slipPlace_40 : decode cX5_slipPlace 40 = .ok (.aload_n 0, 1) := by decide +kernel
theorem dX5_slipPlace_41 : decode cX5_slipPlace 41 = .ok (.iload_n 2, 1) := by decide +kernel
theorem dX5_slipPlace_42 : decode cX5_slipPlace 42 = .ok (.iconst 2, 1) := by decide +kernel
theorem dX5_slipPlace_43 : decode cX5_slipPlace 43 = .ok (.invokevirtual 387, 3) := by decide +kernel
theorem dX5_slipPlace_46 : decode cX5_slipPlace 46 = .ok (.ifCond .eq 12, 3) := by decide +kernel
theorem dX5_slipPlace_49 : decode cX5_slipPlace 49 = .ok (.aload_n 0, 1) := by decide +kernel
theorem dX5_slipPlace_50 : decode cX5_slipPlace 50 = .ok (.iload_n 2, 1) := by decide +kernel
theorem dX5_slipPlace_51 : decode cX5_slipPlace 51 = .ok (.iconst 3, 1) := by decide +kernel
theorem dX5_slipPlace_52 : decode cX5_slipPlace 52 = .ok (.invokevirtual 387, 3) := by decide +kernel
theorem dX5_slipPlace_55 : decode cX5_slipPlace 55 = .ok (.ifCond .ne 5, 3) := by decide +kernel
theorem dX5_slipPlace_58 : decode cX5_slipPlace 58 = .ok (.iload_n 2, 1) := by decide +kernel
theorem dX5_slipPlace_59 : decode cX5_slipPlace 59 = .ok (.ireturn, 1) := by decide +kernel
theorem dX5_slipPlace_60 : decode cX5_slipPlace 60 = .ok (.iinc 2 1, 3) := by decide +kernel
theorem dX5_slipPlace_63 : decode cX5_slipPlace 63 = .ok (.goto (-46), 3) := by decide +kernel
theorem dX5_slipPlace_66 : decode cX5_slipPlace 66 = .ok (.aload_n 0, 1) := by decide +kernel
theorem dX5_slipPlace_67 : decode cX5_slipPlace 67 = .ok (.getfield 265, 3) := by decide +kernel
theorem dX5_slipPlace_70 : decode cX5_slipPlace 70 = .ok (.aload_n 0, 1) := by decide +kernel
theorem dX5_slipPlace_71 : decode cX5_slipPlace 71 = .ok (.getfield 26, 3) := by decide +kernel
theorem dX5_slipPlace_74 : decode cX5_slipPlace 74 = .ok (.getfield 244, 3) := by decide +kernel
theorem dX5_slipPlace_77 : decode cX5_slipPlace 77 = .ok (.if_icmp .ne 8, 3) := by decide +kernel
theorem dX5_slipPlace_80 : decode cX5_slipPlace 80 = .ok (.bipush (-5), 2) := by decide +kernel
theorem dX5_slipPlace_82 : decode cX5_slipPlace 82 = .ok (.goto 4, 3) := by decide +kernel
theorem dX5_slipPlace_85 : decode cX5_slipPlace 85 = .ok (.iload_n 1, 1) := by decide +kernel
theorem dX5_slipPlace_86 : decode cX5_slipPlace 86 = .ok (.ireturn, 1) := by decide +kernel
theorem dX5_lapseAt_0 : decode cX5_lapseAt 0 = .ok (.iload_n 1, 1) := by decide +kernel
theorem dX5_lapseAt_1 : decode cX5_lapseAt 1 = .ok (.ifCond .ge 5, 3) := by decide +kernel
theorem dX5_lapseAt_4 : decode cX5_lapseAt 4 = .ok (.iconst 0, 1) := by decide +kernel
theorem dX5_lapseAt_5 : decode cX5_lapseAt 5 = .ok (.ireturn, 1) := by decide +kernel
theorem dX5_lapseAt_6 : decode cX5_lapseAt 6 = .ok (.iload_n 1, 1) := by decide +kernel
theorem dX5_lapseAt_7 : decode cX5_lapseAt 7 = .ok (.aload_n 0, 1) := by decide +kernel
theorem dX5_lapseAt_8 : decode cX5_lapseAt 8 = .ok (.getfield 265, 3) := by decide +kernel
theorem dX5_lapseAt_11 : decode cX5_lapseAt 11 = .ok (.if_icmp .lt 5, 3) := by decide +kernel
theorem dX5_lapseAt_14 : decode cX5_lapseAt 14 = .ok (.iconst 3, 1) := by decide +kernel
theorem dX5_lapseAt_15 : decode cX5_lapseAt 15 = .ok (.ireturn, 1) := by decide +kernel
theorem dX5_lapseAt_16 : decode cX5_lapseAt 16 = .ok (.iload_n 1, 1) := by decide +kernel
theorem dX5_lapseAt_17 : decode cX5_lapseAt 17 = .ok (.aload_n 0, 1) := by decide +kernel
theorem dX5_lapseAt_18 : decode cX5_lapseAt 18 = .ok (.getfield 26, 3) := by decide +kernel
theorem dX5_lapseAt_21 : decode cX5_lapseAt 21 = .ok (.getfield 244, 3) := by decide +kernel
theorem dX5_lapseAt_24 : decode cX5_lapseAt 24 = .ok (.if_icmp .lt 5, 3) := by decide +kernel
theorem dX5_lapseAt_27 : decode cX5_lapseAt 27 = .ok (.iconst 4, 1) := by decide +kernel
theorem dX5_lapseAt_28 : decode cX5_lapseAt 28 = .ok (.ireturn, 1) := by decide +kernel
theorem dX5_lapseAt_29 : decode cX5_lapseAt 29 = .ok (.aload_n 0, 1) := by decide +kernel
theorem dX5_lapseAt_30 : decode cX5_lapseAt 30 = .ok (.iload_n 1, 1) := by decide +kernel
theorem dX5_lapseAt_31 : decode cX5_lapseAt 31 = .ok (.iconst 0, 1) := by decide +kernel
theorem dX5_lapseAt_32 : decode cX5_lapseAt 32 = .ok (.invokevirtual 387, 3) := by decide +kernel
theorem dX5_lapseAt_35 : decode cX5_lapseAt 35 = .ok (.ifCond .eq 16, 3) := by decide +kernel
theorem dX5_lapseAt_38 : decode cX5_lapseAt 38 = .ok (.aload_n 0, 1) := by decide +kernel
theorem dX5_lapseAt_39 : decode cX5_lapseAt 39 = .ok (.iload_n 1, 1) := by decide +kernel
theorem dX5_lapseAt_40 : decode cX5_lapseAt 40 = .ok (.iconst 1, 1) := by decide +kernel
theorem dX5_lapseAt_41 : decode cX5_lapseAt 41 = .ok (.invokevirtual 387, 3) := by decide +kernel
theorem dX5_lapseAt_44 : decode cX5_lapseAt 44 = .ok (.ifCond .eq 7, 3) := by decide +kernel
theorem dX5_lapseAt_47 : decode cX5_lapseAt 47 = .ok (.iconst 2, 1) := by decide +kernel
theorem dX5_lapseAt_48 : decode cX5_lapseAt 48 = .ok (.goto 4, 3) := by decide +kernel
theorem dX5_lapseAt_51 : decode cX5_lapseAt 51 = .ok (.iconst 1, 1) := by decide +kernel
theorem dX5_lapseAt_52 : decode cX5_lapseAt 52 = .ok (.ireturn, 1) := by decide +kernel
theorem dX5_singleExercises_0 : decode cX5_singleExercises 0 = .ok (.iconst 0, 1) := by decide +kernel
theorem dX5_singleExercises_1 : decode cX5_singleExercises 1 = .ok (.istore_n 1, 1) := by decide +kernel
theorem dX5_singleExercises_2 : decode cX5_singleExercises 2 = .ok (.iconst 0, 1) := by decide +kernel
theorem dX5_singleExercises_3 : decode cX5_singleExercises 3 = .ok (.istore_n 2, 1) := by decide +kernel
theorem dX5_singleExercises_4 : decode cX5_singleExercises 4 = .ok (.iload_n 2, 1) := by decide +kernel
theorem dX5_singleExercises_5 : decode cX5_singleExercises 5 = .ok (.aload_n 0, 1) := by decide +kernel
theorem dX5_singleExercises_6 : decode cX5_singleExercises 6 = .ok (.getfield 278, 3) := by decide +kernel
theorem dX5_singleExercises_9 : decode cX5_singleExercises 9 = .ok (.if_icmp .ge 25, 3) := by decide +kernel
theorem dX5_singleExercises_12 : decode cX5_singleExercises 12 = .ok (.aload_n 0, 1) := by decide +kernel
theorem dX5_singleExercises_13 : decode cX5_singleExercises 13 = .ok (.getfield 19, 3) := by decide +kernel
theorem dX5_singleExercises_16 : decode cX5_singleExercises 16 = .ok (.iload_n 2, 1) := by decide +kernel
theorem dX5_singleExercises_17 : decode cX5_singleExercises 17 = .ok (.aaload, 1) := by decide +kernel
theorem dX5_singleExercises_18 : decode cX5_singleExercises 18 = .ok (.getfield 296, 3) := by decide +kernel
theorem dX5_singleExercises_21 : decode cX5_singleExercises 21 = .ok (.iconst 1, 1) := by decide +kernel
theorem dX5_singleExercises_22 : decode cX5_singleExercises 22 = .ok (.if_icmp .ne 6, 3) := by decide +kernel
theorem dX5_singleExercises_25 : decode cX5_singleExercises 25 = .ok (.iinc 1 1, 3) := by decide +kernel
theorem dX5_singleExercises_28 : decode cX5_singleExercises 28 = .ok (.iinc 2 1, 3) := by decide +kernel
theorem dX5_singleExercises_31 : decode cX5_singleExercises 31 = .ok (.goto (-27), 3) := by decide +kernel
theorem dX5_singleExercises_34 : decode cX5_singleExercises 34 = .ok (.iload_n 1, 1) := by decide +kernel
theorem dX5_singleExercises_35 : decode cX5_singleExercises 35 = .ok (.ireturn, 1) := by decide +kernel
theorem dX6_init_0 : decode cX6_init 0 = .ok (.aload_n 0, 1) := by decide +kernel
theorem dX6_init_1 : decode cX6_init 1 = .ok (.invokespecial 1, 3) := by decide +kernel
theorem dX6_init_4 : decode cX6_init 4 = .ok (.aload_n 0, 1) := by decide +kernel
theorem dX6_init_5 : decode cX6_init 5 = .ok (.bipush 30, 2) := by decide +kernel
theorem dX6_init_7 : decode cX6_init 7 = .ok (.newarray .int, 2) := by decide +kernel
theorem dX6_init_9 : decode cX6_init 9 = .ok (.putfield 7, 3) := by decide +kernel
theorem dX6_init_12 : decode cX6_init 12 = .ok (.aload_n 0, 1) := by decide +kernel
theorem dX6_init_13 : decode cX6_init 13 = .ok (.bipush 30, 2) := by decide +kernel
theorem dX6_init_15 : decode cX6_init 15 = .ok (.newarray .int, 2) := by decide +kernel
theorem dX6_init_17 : decode cX6_init 17 = .ok (.putfield 13, 3) := by decide +kernel
theorem dX6_init_20 : decode cX6_init 20 = .ok (.aload_n 0, 1) := by decide +kernel
theorem dX6_init_21 : decode cX6_init 21 = .ok (.bipush 30, 2) := by decide +kernel
theorem dX6_init_23 : decode cX6_init 23 = .ok (.newarray .int, 2) := by decide +kernel
theorem dX6_init_25 : decode cX6_init 25 = .ok (.putfield 16, 3) := by decide +kernel
theorem dX6_init_28 : decode cX6_init 28 = .ok (.aload_n 0, 1) := by decide +kernel
theorem dX6_init_29 : decode cX6_init 29 = .ok (.bipush 30, 2) := by decide +kernel
theorem dX6_init_31 : decode cX6_init 31 = .ok (.newarray .int, 2) := by decide +kernel
theorem dX6_init_33 : decode cX6_init 33 = .ok (.putfield 19, 3) := by decide +kernel
theorem dX6_init_36 : decode cX6_init 36 = .ok (.aload_n 0, 1) := by decide +kernel
theorem dX6_init_37 : decode cX6_init 37 = .ok (.bipush 30, 2) := by decide +kernel
theorem dX6_init_39 : decode cX6_init 39 = .ok (.newarray .int, 2) := by decide +kernel
theorem dX6_init_41 : decode cX6_init 41 = .ok (.putfield 22, 3) := by decide +kernel
theorem dX6_init_44 : decode cX6_init 44 = .ok (.aload_n 0, 1) := by decide +kernel
theorem dX6_init_45 : decode cX6_init 45 = .ok (.bipush 30, 2) := by decide +kernel
theorem dX6_init_47 : decode cX6_init 47 = .ok (.newarray .int, 2) := by decide +kernel
theorem dX6_init_49 : decode cX6_init 49 = .ok (.putfield 25, 3) := by decide +kernel
theorem dX6_init_52 : decode cX6_init 52 = .ok (.aload_n 0, 1) := by decide +kernel
theorem dX6_init_53 : decode cX6_init 53 = .ok (.bipush 30, 2) := by decide +kernel
theorem dX6_init_55 : decode cX6_init 55 = .ok (.newarray .int, 2) := by decide +kernel
theorem dX6_init_57 : decode cX6_init 57 = .ok (.putfield 28, 3) := by decide +kernel
theorem dX6_init_60 : decode cX6_init 60 = .ok (.aload_n 0, 1) := by decide +kernel
theorem dX6_init_61 : decode cX6_init 61 = .ok (.sipush 540, 3) := by decide +kernel
theorem dX6_init_64 : decode cX6_init 64 = .ok (.newarray .int, 2) := by decide +kernel
theorem dX6_init_66 : decode cX6_init 66 = .ok (.putfield 31, 3) := by decide +kernel
theorem dX6_init_69 : decode cX6_init 69 = .ok (.aload_n 0, 1) := by decide +kernel
theorem dX6_init_70 : decode cX6_init 70 = .ok (.sipush 540, 3) := by decide +kernel
theorem dX6_init_73 : decode cX6_init 73 = .ok (.newarray .int, 2) := by decide +kernel
theorem dX6_init_75 : decode cX6_init 75 = .ok (.putfield 34, 3) := by decide +kernel
theorem dX6_init_78 : decode cX6_init 78 = .ok (.aload_n 0, 1) := by decide +kernel
theorem dX6_init_79 : decode cX6_init 79 = .ok (.sipush 540, 3) := by decide +kernel
theorem dX6_init_82 : decode cX6_init 82 = .ok (.newarray .int, 2) := by decide +kernel
theorem dX6_init_84 : decode cX6_init 84 = .ok (.putfield 37, 3) := by decide +kernel
theorem dX6_init_87 : decode cX6_init 87 = .ok (.aload_n 0, 1) := by decide +kernel
theorem dX6_init_88 : decode cX6_init 88 = .ok (.sipush 540, 3) := by decide +kernel
theorem dX6_init_91 : decode cX6_init 91 = .ok (.newarray .int, 2) := by decide +kernel
theorem dX6_init_93 : decode cX6_init 93 = .ok (.putfield 40, 3) := by decide +kernel
theorem dX6_init_96 : decode cX6_init 96 = .ok (.aload_n 0, 1) := by decide +kernel
theorem dX6_init_97 : decode cX6_init 97 = .ok (.bipush 60, 2) := by decide +kernel
theorem dX6_init_99 : decode cX6_init 99 = .ok (.newarray .int, 2) := by decide +kernel
theorem dX6_init_101 : decode cX6_init 101 = .ok (.putfield 43, 3) := by decide +kernel
theorem dX6_init_104 : decode cX6_init 104 = .ok (.aload_n 0, 1) := by decide +kernel
theorem dX6_init_105 : decode cX6_init 105 = .ok (.bipush (-5), 2) := by decide +kernel
theorem dX6_init_107 : decode cX6_init 107 = .ok (.putfield 46, 3) := by decide +kernel
theorem dX6_init_110 : decode cX6_init 110 = .ok (.aload_n 0, 1) := by decide +kernel
theorem dX6_init_111 : decode cX6_init 111 = .ok (.bipush (-5), 2) := by decide +kernel
theorem dX6_init_113 : decode cX6_init 113 = .ok (.putfield 50, 3) := by decide +kernel
theorem dX6_init_116 : decode cX6_init 116 = .ok (.aload_n 0, 1) := by decide +kernel
theorem dX6_init_117 : decode cX6_init 117 = .ok (.ldc 53, 2) := by decide +kernel
theorem dX6_init_119 : decode cX6_init 119 = .ok (.newarray .int, 2) := by decide +kernel
theorem dX6_init_121 : decode cX6_init 121 = .ok (.putfield 54, 3) := by decide +kernel
theorem dX6_init_124 : decode cX6_init 124 = .ok (.aload_n 0, 1) := by decide +kernel
theorem dX6_init_125 : decode cX6_init 125 = .ok (.bipush 20, 2) := by decide +kernel
theorem dX6_init_127 : decode cX6_init 127 = .ok (.newarray .boolean, 2) := by decide +kernel
theorem dX6_init_129 : decode cX6_init 129 = .ok (.putfield 57, 3) := by decide +kernel
theorem dX6_init_132 : decode cX6_init 132 = .ok (.aload_n 0, 1) := by decide +kernel
theorem dX6_init_133 : decode cX6_init 133 = .ok (.sipush 400, 3) := by decide +kernel
theorem dX6_init_136 : decode cX6_init 136 = .ok (.newarray .long, 2) := by decide +kernel
theorem dX6_init_138 : decode cX6_init 138 = .ok (.putfield 61, 3) := by decide +kernel
theorem dX6_init_141 : decode cX6_init 141 = .ok (.aload_n 0, 1) := by decide +kernel
theorem dX6_init_142 : decode cX6_init 142 = .ok (.sipush 1200, 3) := by decide +kernel
theorem dX6_init_145 : decode cX6_init 145 = .ok (.newarray .int, 2) := by decide +kernel
theorem dX6_init_147 : decode cX6_init 147 = .ok (.putfield 65, 3) := by decide +kernel
theorem dX6_init_150 : decode cX6_init 150 = .ok (.aload_n 0, 1) := by decide +kernel
theorem dX6_init_151 : decode cX6_init 151 = .ok (.sipush 200, 3) := by decide +kernel
theorem dX6_init_154 : decode cX6_init 154 = .ok (.newarray .int, 2) := by decide +kernel
theorem dX6_init_156 : decode cX6_init 156 = .ok (.putfield 68, 3) := by decide +kernel
theorem dX6_init_159 : decode cX6_init 159 = .ok (.aload_n 0, 1) := by decide +kernel
theorem dX6_init_160 : decode cX6_init 160 = .ok (.sipush 2400, 3) := by decide +kernel
theorem dX6_init_163 : decode cX6_init 163 = .ok (.newarray .int, 2) := by decide +kernel
theorem dX6_init_165 : decode cX6_init 165 = .ok (.putfield 71, 3) := by decide +kernel
theorem dX6_init_168 : decode cX6_init 168 = .ok (.aload_n 0, 1) := by decide +kernel
theorem dX6_init_169 : decode cX6_init 169 = .ok (.sipush 2400, 3) := by decide +kernel
theorem dX6_init_172 : decode cX6_init 172 = .ok (.newarray .boolean, 2) := by decide +kernel
theorem dX6_init_174 : decode cX6_init 174 = .ok (.putfield 74, 3) := by decide +kernel
theorem dX6_init_177 : decode cX6_init 177 = .ok (.aload_n 0, 1) := by decide +kernel
theorem dX6_init_178 : decode cX6_init 178 = .ok (.sipush 2400, 3) := by decide +kernel
theorem dX6_init_181 : decode cX6_init 181 = .ok (.newarray .int, 2) := by decide +kernel
theorem dX6_init_183 : decode cX6_init 183 = .ok (.putfield 77, 3) := by decide +kernel
theorem dX6_init_186 : decode cX6_init 186 = .ok (.aload_n 0, 1) := by decide +kernel
theorem dX6_init_187 : decode cX6_init 187 = .ok (.sipush 200, 3) := by decide +kernel
theorem dX6_init_190 : decode cX6_init 190 = .ok (.newarray .int, 2) := by decide +kernel
theorem dX6_init_192 : decode cX6_init 192 = .ok (.putfield 80, 3) := by decide +kernel
theorem dX6_init_195 : decode cX6_init 195 = .ok (.aload_n 0, 1) := by decide +kernel
theorem dX6_init_196 : decode cX6_init 196 = .ok (.bipush 12, 2) := by decide +kernel
theorem dX6_init_198 : decode cX6_init 198 = .ok (.newarray .int, 2) := by decide +kernel
theorem dX6_init_200 : decode cX6_init 200 = .ok (.putfield 83, 3) := by decide +kernel
theorem dX6_init_203 : decode cX6_init 203 = .ok (.aload_n 0, 1) := by decide +kernel
theorem dX6_init_204 : decode cX6_init 204 = .ok (.iconst 4, 1) := by decide +kernel
theorem dX6_init_205 : decode cX6_init 205 = .ok (.newarray .int, 2) := by decide +kernel
theorem dX6_init_207 : decode cX6_init 207 = .ok (.putfield 86, 3) := by decide +kernel
theorem dX6_init_210 : decode cX6_init 210 = .ok (.return_, 1) := by decide +kernel
theorem dX6_in_0 : decode cX6_in 0 = .ok (.lload_n 0, 1) := by decide +kernel
theorem dX6_in_1 : decode cX6_in 1 = .ok (.lload_n 2, 1) := by decide +kernel
theorem dX6_in_2 : decode cX6_in 2 = .ok (.lcmp, 1) := by decide +kernel
theorem dX6_in_3 : decode cX6_in 3 = .ok (.ifCond .lt 14, 3) := by decide +kernel
theorem dX6_in_6 : decode cX6_in 6 = .ok (.lload_n 0, 1) := by decide +kernel
theorem dX6_in_7 : decode cX6_in 7 = .ok (.lload 4, 2) := by decide +kernel
theorem dX6_in_9 : decode cX6_in 9 = .ok (.lcmp, 1) := by decide +kernel
theorem dX6_in_10 : decode cX6_in 10 = .ok (.ifCond .gt 7, 3) := by decide +kernel
theorem dX6_in_13 : decode cX6_in 13 = .ok (.iconst 1, 1) := by decide +kernel
theorem dX6_in_14 : decode cX6_in 14 = .ok (.goto 4, 3) := by decide +kernel
theorem dX6_in_17 : decode cX6_in 17 = .ok (.iconst 0, 1) := by decide +kernel
theorem dX6_in_18 : decode cX6_in 18 = .ok (.ireturn, 1) := by decide +kernel
theorem dX6_isFrame_0 : decode cX6_isFrame 0 = .ok (.iload_n 1, 1) := by decide +kernel
theorem dX6_isFrame_1 : decode cX6_isFrame 1 = .ok (.i2l, 1) := by decide +kernel
theorem dX6_isFrame_2 : decode cX6_isFrame 2 = .ok (.lconst 0, 1) := by decide +kernel
theorem dX6_isFrame_3 : decode cX6_isFrame 3 = .ok (.aload_n 0, 1) := by decide +kernel
theorem dX6_isFrame_4 : decode cX6_isFrame 4 = .ok (.getfield 89, 3) := by decide +kernel
theorem dX6_isFrame_7 : decode cX6_isFrame 7 = .ok (.iconst 1, 1) := by decide +kernel
theorem dX6_isFrame_8 : decode cX6_isFrame 8 = .ok (.isub, 1) := by decide +kernel
theorem dX6_isFrame_9 : decode cX6_isFrame 9 = .ok (.i2l, 1) := by decide +kernel
theorem dX6_isFrame_10 : decode cX6_isFrame 10 = .ok (.invokestatic 92, 3) := by decide +kernel
theorem dX6_isFrame_13 : decode cX6_isFrame 13 = .ok (.ireturn, 1) := by decide +kernel
theorem dX6_meets_0 : decode cX6_meets 0 = .ok (.aload_n 0, 1) := by decide +kernel
theorem dX6_meets_1 : decode cX6_meets 1 = .ok (.dup, 1) := by decide +kernel
theorem dX6_meets_2 : decode cX6_meets 2 = .ok (.getfield 96, 3) := by decide +kernel
theorem dX6_meets_5 : decode cX6_meets 5 = .ok (.iconst 1, 1) := by decide +kernel
theorem dX6_meets_6 : decode cX6_meets 6 = .ok (.iadd, 1) := by decide +kernel
theorem dX6_meets_7 : decode cX6_meets 7 = .ok (.putfield 96, 3) := by decide +kernel
theorem dX6_meets_10 : decode cX6_meets 10 = .ok (.aload_n 0, 1) := by decide +kernel
theorem dX6_meets_11 : decode cX6_meets 11 = .ok (.iload_n 1, 1) := by decide +kernel
theorem dX6_meets_12 : decode cX6_meets 12 = .ok (.putfield 99, 3) := by decide +kernel
theorem dX6_meets_15 : decode cX6_meets 15 = .ok (.bipush (-10), 2) := by decide +kernel
theorem dX6_meets_17 : decode cX6_meets 17 = .ok (.iload_n 1, 1) := by decide +kernel
theorem dX6_meets_18 : decode cX6_meets 18 = .ok (.isub, 1) := by decide +kernel
theorem dX6_meets_19 : decode cX6_meets 19 = .ok (.ireturn, 1) := by decide +kernel
theorem dX6_loses_0 : decode cX6_loses 0 = .ok (.aload_n 0, 1) := by decide +kernel
theorem dX6_loses_1 : decode cX6_loses 1 = .ok (.iload_n 1, 1) := by decide +kernel
theorem dX6_loses_2 : decode cX6_loses 2 = .ok (.invokevirtual 102, 3) := by decide +kernel
theorem dX6_loses_5 : decode cX6_loses 5 = .ok (.istore_n 2, 1) := by decide +kernel
theorem dX6_loses_6 : decode cX6_loses 6 = .ok (.ldc2_w 106, 3) := by decide +kernel
theorem dX6_loses_9 : decode cX6_loses 9 = .ok (.lreturn, 1) := by decide +kernel
theorem dX6_kindOf_0 : decode cX6_kindOf 0 = .ok (.aload_n 0, 1) := by decide +kernel
theorem dX6_kindOf_1 : decode cX6_kindOf 1 = .ok (.getfield 7, 3) := by decide +kernel
theorem dX6_kindOf_4 : decode cX6_kindOf 4 = .ok (.iload_n 1, 1) := by decide +kernel
theorem dX6_kindOf_5 : decode cX6_kindOf 5 = .ok (.bipush 18, 2) := by decide +kernel
theorem dX6_kindOf_7 : decode cX6_kindOf 7 = .ok (.idiv, 1) := by decide +kernel
theorem dX6_kindOf_8 : decode cX6_kindOf 8 = .ok (.iaload, 1) := by decide +kernel
theorem dX6_kindOf_9 : decode cX6_kindOf 9 = .ok (.ireturn, 1) := by decide +kernel
theorem dX6_rodOf_0 : decode cX6_rodOf 0 = .ok (.aload_n 0, 1) := by decide +kernel
theorem dX6_rodOf_1 : decode cX6_rodOf 1 = .ok (.getfield 31, 3) := by decide +kernel
theorem dX6_rodOf_4 : decode cX6_rodOf 4 = .ok (.bipush 18, 2) := by decide +kernel
theorem dX6_rodOf_6 : decode cX6_rodOf 6 = .ok (.iload_n 1, 1) := by decide +kernel
theorem dX6_rodOf_7 : decode cX6_rodOf 7 = .ok (.imul, 1) := by decide +kernel
theorem dX6_rodOf_8 : decode cX6_rodOf 8 = .ok (.iload_n 2, 1) := by decide +kernel
theorem dX6_rodOf_9 : decode cX6_rodOf 9 = .ok (.iadd, 1) := by decide +kernel
theorem dX6_rodOf_10 : decode cX6_rodOf 10 = .ok (.iaload, 1) := by decide +kernel
theorem dX6_rodOf_11 : decode cX6_rodOf 11 = .ok (.ireturn, 1) := by decide +kernel
theorem dX6_against_0 : decode cX6_against 0 = .ok (.iload_n 2, 1) := by decide +kernel
theorem dX6_against_1 : decode cX6_against 1 = .ok (.i2l, 1) := by decide +kernel
theorem dX6_against_2 : decode cX6_against 2 = .ok (.lconst 0, 1) := by decide +kernel
theorem dX6_against_3 : decode cX6_against 3 = .ok (.aload_n 0, 1) := by decide +kernel
theorem dX6_against_4 : decode cX6_against 4 = .ok (.getfield 13, 3) := by decide +kernel
theorem dX6_against_7 : decode cX6_against 7 = .ok (.iload_n 1, 1) := by decide +kernel
theorem dX6_against_8 : decode cX6_against 8 = .ok (.iaload, 1) := by decide +kernel
theorem dX6_against_9 : decode cX6_against 9 = .ok (.iconst 1, 1) := by decide +kernel
theorem dX6_against_10 : decode cX6_against 10 = .ok (.isub, 1) := by decide +kernel
theorem dX6_against_11 : decode cX6_against 11 = .ok (.i2l, 1) := by decide +kernel
theorem dX6_against_12 : decode cX6_against 12 = .ok (.invokestatic 92, 3) := by decide +kernel
theorem dX6_against_15 : decode cX6_against 15 = .ok (.ifCond .ne 5, 3) := by decide +kernel
theorem dX6_against_18 : decode cX6_against 18 = .ok (.iconst 2, 1) := by decide +kernel
theorem dX6_against_19 : decode cX6_against 19 = .ok (.ireturn, 1) := by decide +kernel
theorem dX6_against_20 : decode cX6_against 20 = .ok (.aload_n 0, 1) := by decide +kernel
theorem dX6_against_21 : decode cX6_against 21 = .ok (.iload_n 1, 1) := by decide +kernel
theorem dX6_against_22 : decode cX6_against 22 = .ok (.iload_n 2, 1) := by decide +kernel
theorem dX6_against_23 : decode cX6_against 23 = .ok (.invokevirtual 108, 3) := by decide +kernel
theorem dX6_against_26 : decode cX6_against 26 = .ok (.istore_n 3, 1) := by decide +kernel
theorem dX6_against_27 : decode cX6_against 27 = .ok (.aload_n 0, 1) := by decide +kernel
theorem dX6_against_28 : decode cX6_against 28 = .ok (.iload_n 3, 1) := by decide +kernel
theorem dX6_against_29 : decode cX6_against 29 = .ok (.invokevirtual 112, 3) := by decide +kernel
theorem dX6_against_32 : decode cX6_against 32 = .ok (.iconst 2, 1) := by decide +kernel
theorem dX6_against_33 : decode cX6_against 33 = .ok (.if_icmp .ne 7, 3) := by decide +kernel
theorem dX6_against_36 : decode cX6_against 36 = .ok (.iconst 1, 1) := by decide +kernel
theorem dX6_against_37 : decode cX6_against 37 = .ok (.goto 4, 3) := by decide +kernel
theorem dX6_against_40 : decode cX6_against 40 = .ok (.iconst 2, 1) := by decide +kernel
theorem dX6_against_41 : decode cX6_against 41 = .ok (.istore 4, 2) := by decide +kernel
theorem dX6_against_43 : decode cX6_against 43 = .ok (.aload_n 0, 1) := by decide +kernel
theorem dX6_against_44 : decode cX6_against 44 = .ok (.getfield 34, 3) := by decide +kernel
theorem dX6_against_47 : decode cX6_against 47 = .ok (.iload_n 3, 1) := by decide +kernel
theorem dX6_against_48 : decode cX6_against 48 = .ok (.iaload, 1) := by decide +kernel
theorem dX6_against_49 : decode cX6_against 49 = .ok (.ifCond .ge 7, 3) := by decide +kernel
theorem dX6_against_52 : decode cX6_against 52 = .ok (.iconst 1, 1) := by decide +kernel
theorem dX6_against_53 : decode cX6_against 53 = .ok (.goto 19, 3) := by decide +kernel
theorem dX6_against_56 : decode cX6_against 56 = .ok (.aload_n 0, 1) := by decide +kernel
theorem dX6_against_57 : decode cX6_against 57 = .ok (.getfield 34, 3) := by decide +kernel
theorem dX6_against_60 : decode cX6_against 60 = .ok (.iload_n 3, 1) := by decide +kernel
theorem dX6_against_61 : decode cX6_against 61 = .ok (.iaload, 1) := by decide +kernel
theorem dX6_against_62 : decode cX6_against 62 = .ok (.iload 4, 2) := by decide +kernel
theorem dX6_against_64 : decode cX6_against 64 = .ok (.if_icmp .ge 7, 3) := by decide +kernel
theorem dX6_against_67 : decode cX6_against 67 = .ok (.iconst 2, 1) := by decide +kernel
theorem dX6_against_68 : decode cX6_against 68 = .ok (.goto 4, 3) := by decide +kernel
theorem dX6_against_71 : decode cX6_against 71 = .ok (.iconst 0, 1) := by decide +kernel
theorem dX6_against_72 : decode cX6_against 72 = .ok (.ireturn, 1) := by decide +kernel
theorem dX6_digitAt_0 : decode cX6_digitAt 0 = .ok (.aload_n 0, 1) := by decide +kernel
theorem dX6_digitAt_1 : decode cX6_digitAt 1 = .ok (.iload_n 1, 1) := by decide +kernel
theorem dX6_digitAt_2 : decode cX6_digitAt 2 = .ok (.invokevirtual 112, 3) := by decide +kernel
theorem dX6_digitAt_5 : decode cX6_digitAt 5 = .ok (.iconst 2, 1) := by decide +kernel
theorem dX6_digitAt_6 : decode cX6_digitAt 6 = .ok (.if_icmp .ne 12, 3) := by decide +kernel
theorem dX6_digitAt_9 : decode cX6_digitAt 9 = .ok (.aload_n 0, 1) := by decide +kernel
theorem dX6_digitAt_10 : decode cX6_digitAt 10 = .ok (.getfield 37, 3) := by decide +kernel
theorem dX6_digitAt_13 : decode cX6_digitAt 13 = .ok (.iload_n 1, 1) := by decide +kernel
theorem dX6_digitAt_14 : decode cX6_digitAt 14 = .ok (.iaload, 1) := by decide +kernel
theorem dX6_digitAt_15 : decode cX6_digitAt 15 = .ok (.goto 18, 3) := by decide +kernel
theorem dX6_digitAt_18 : decode cX6_digitAt 18 = .ok (.aload_n 0, 1) := by decide +kernel
theorem dX6_digitAt_19 : decode cX6_digitAt 19 = .ok (.getfield 37, 3) := by decide +kernel
theorem dX6_digitAt_22 : decode cX6_digitAt 22 = .ok (.iload_n 1, 1) := by decide +kernel
theorem dX6_digitAt_23 : decode cX6_digitAt 23 = .ok (.iaload, 1) := by decide +kernel
theorem dX6_digitAt_24 : decode cX6_digitAt 24 = .ok (.iconst 5, 1) := by decide +kernel
theorem dX6_digitAt_25 : decode cX6_digitAt 25 = .ok (.aload_n 0, 1) := by decide +kernel
theorem dX6_digitAt_26 : decode cX6_digitAt 26 = .ok (.getfield 40, 3) := by decide +kernel
theorem dX6_digitAt_29 : decode cX6_digitAt 29 = .ok (.iload_n 1, 1) := by decide +kernel
theorem dX6_digitAt_30 : decode cX6_digitAt 30 = .ok (.iaload, 1) := by decide +kernel
theorem dX6_digitAt_31 : decode cX6_digitAt 31 = .ok (.imul, 1) := by decide +kernel
theorem dX6_digitAt_32 : decode cX6_digitAt 32 = .ok (.iadd, 1) := by decide +kernel
theorem dX6_digitAt_33 : decode cX6_digitAt 33 = .ok (.ireturn, 1) := by decide +kernel
theorem dX6_upperOf_0 : decode cX6_upperOf 0 = .ok (.iload_n 0, 1) := by decide +kernel
theorem dX6_upperOf_1 : decode cX6_upperOf 1 = .ok (.iconst 5, 1) := by decide +kernel
theorem dX6_upperOf_2 : decode cX6_upperOf 2 = .ok (.idiv, 1) := by decide +kernel
theorem dX6_upperOf_3 : decode cX6_upperOf 3 = .ok (.iconst 2, 1) := by decide +kernel
theorem dX6_upperOf_4 : decode cX6_upperOf 4 = .ok (.if_icmp .le 7, 3) := by decide +kernel
theorem dX6_upperOf_7 : decode cX6_upperOf 7 = .ok (.iconst 2, 1) := by decide +kernel
theorem dX6_upperOf_8 : decode cX6_upperOf 8 = .ok (.goto 6, 3) := by decide +kernel
theorem dX6_upperOf_11 : decode cX6_upperOf 11 = .ok (.iload_n 0, 1) := by decide +kernel
theorem dX6_upperOf_12 : decode cX6_upperOf 12 = .ok (.iconst 5, 1) := by decide +kernel
theorem dX6_upperOf_13 : decode cX6_upperOf 13 = .ok (.idiv, 1) := by decide +kernel
theorem dX6_upperOf_14 : decode cX6_upperOf 14 = .ok (.ireturn, 1) := by decide +kernel
theorem dX6_write_0 : decode cX6_write 0 = .ok (.aload_n 0, 1) := by decide +kernel
theorem dX6_write_1 : decode cX6_write 1 = .ok (.iload_n 1, 1) := by decide +kernel
theorem dX6_write_2 : decode cX6_write 2 = .ok (.invokevirtual 112, 3) := by decide +kernel
theorem dX6_write_5 : decode cX6_write 5 = .ok (.iconst 2, 1) := by decide +kernel
theorem dX6_write_6 : decode cX6_write 6 = .ok (.if_icmp .ne 7, 3) := by decide +kernel
theorem dX6_write_9 : decode cX6_write 9 = .ok (.iconst 1, 1) := by decide +kernel
theorem dX6_write_10 : decode cX6_write 10 = .ok (.goto 4, 3) := by decide +kernel
theorem dX6_write_13 : decode cX6_write 13 = .ok (.iconst 0, 1) := by decide +kernel
theorem dX6_write_14 : decode cX6_write 14 = .ok (.istore_n 3, 1) := by decide +kernel
theorem dX6_write_15 : decode cX6_write 15 = .ok (.aload_n 0, 1) := by decide +kernel
theorem dX6_write_16 : decode cX6_write 16 = .ok (.getfield 40, 3) := by decide +kernel
theorem dX6_write_19 : decode cX6_write 19 = .ok (.iload_n 1, 1) := by decide +kernel
theorem dX6_write_20 : decode cX6_write 20 = .ok (.iload_n 3, 1) := by decide +kernel
theorem dX6_write_21 : decode cX6_write 21 = .ok (.ifCond .eq 7, 3) := by decide +kernel
theorem dX6_write_24 : decode cX6_write 24 = .ok (.iconst 0, 1) := by decide +kernel
theorem dX6_write_25 : decode cX6_write 25 = .ok (.goto 7, 3) := by decide +kernel
theorem dX6_write_28 : decode cX6_write 28 = .ok (.iload_n 2, 1) := by decide +kernel
theorem dX6_write_29 : decode cX6_write 29 = .ok (.invokestatic 115, 3) := by decide +kernel
theorem dX6_write_32 : decode cX6_write 32 = .ok (.iastore, 1) := by decide +kernel
theorem dX6_write_33 : decode cX6_write 33 = .ok (.aload_n 0, 1) := by decide +kernel
theorem dX6_write_34 : decode cX6_write 34 = .ok (.getfield 37, 3) := by decide +kernel
theorem dX6_write_37 : decode cX6_write 37 = .ok (.iload_n 1, 1) := by decide +kernel
theorem dX6_write_38 : decode cX6_write 38 = .ok (.iload_n 3, 1) := by decide +kernel
theorem dX6_write_39 : decode cX6_write 39 = .ok (.ifCond .eq 7, 3) := by decide +kernel
theorem dX6_write_42 : decode cX6_write 42 = .ok (.iload_n 2, 1) := by decide +kernel
theorem dX6_write_43 : decode cX6_write 43 = .ok (.goto 11, 3) := by decide +kernel
theorem dX6_write_46 : decode cX6_write 46 = .ok (.iload_n 2, 1) := by decide +kernel
theorem dX6_write_47 : decode cX6_write 47 = .ok (.iconst 5, 1) := by decide +kernel
theorem dX6_write_48 : decode cX6_write 48 = .ok (.iload_n 2, 1) := by decide +kernel
theorem dX6_write_49 : decode cX6_write 49 = .ok (.invokestatic 115, 3) := by decide +kernel
theorem dX6_write_52 : decode cX6_write 52 = .ok (.imul, 1) := by decide +kernel
theorem dX6_write_53 : decode cX6_write 53 = .ok (.isub, 1) := by decide +kernel
theorem dX6_write_54 : decode cX6_write 54 = .ok (.iastore, 1) := by decide +kernel
theorem dX6_write_55 : decode cX6_write 55 = .ok (.return_, 1) := by decide +kernel
theorem dX6_isProper_0 : decode cX6_isProper 0 = .ok (.iconst 1, 1) := by decide +kernel
theorem dX6_isProper_1 : decode cX6_isProper 1 = .ok (.istore_n 2, 1) := by decide +kernel
theorem dX6_isProper_2 : decode cX6_isProper 2 = .ok (.iconst 0, 1) := by decide +kernel
theorem dX6_isProper_3 : decode cX6_isProper 3 = .ok (.istore_n 3, 1) := by decide +kernel
theorem dX6_isProper_4 : decode cX6_isProper 4 = .ok (.iload_n 3, 1) := by decide +kernel
theorem dX6_isProper_5 : decode cX6_isProper 5 = .ok (.aload_n 0, 1) := by decide +kernel
theorem dX6_isProper_6 : decode cX6_isProper 6 = .ok (.getfield 13, 3) := by decide +kernel
theorem dX6_isProper_9 : decode cX6_isProper 9 = .ok (.iload_n 1, 1) := by decide +kernel
theorem dX6_isProper_10 : decode cX6_isProper 10 = .ok (.iaload, 1) := by decide +kernel
theorem dX6_isProper_11 : decode cX6_isProper 11 = .ok (.if_icmp .ge 80, 3) := by decide +kernel
theorem dX6_isProper_14 : decode cX6_isProper 14 = .ok (.aload_n 0, 1) := by decide +kernel
theorem dX6_isProper_15 : decode cX6_isProper 15 = .ok (.iload_n 1, 1) := by decide +kernel
theorem dX6_isProper_16 : decode cX6_isProper 16 = .ok (.iload_n 3, 1) := by decide +kernel
theorem dX6_isProper_17 : decode cX6_isProper 17 = .ok (.invokevirtual 118, 3) := by decide +kernel
theorem dX6_isProper_20 : decode cX6_isProper 20 = .ok (.ifCond .ne 65, 3) := by decide +kernel
theorem dX6_isProper_23 : decode cX6_isProper 23 = .ok (.aload_n 0, 1) := by decide +kernel
theorem dX6_isProper_24 : decode cX6_isProper 24 = .ok (.iload_n 1, 1) := by decide +kernel
theorem dX6_isProper_25 : decode cX6_isProper 25 = .ok (.iload_n 3, 1) := by decide +kernel
theorem dX6_isProper_26 : decode cX6_isProper 26 = .ok (.invokevirtual 108, 3) := by decide +kernel
theorem dX6_isProper_29 : decode cX6_isProper 29 = .ok (.istore 4, 2) := by decide +kernel
theorem dX6_isProper_31 : decode cX6_isProper 31 = .ok (.aload_n 0, 1) := by decide +kernel
theorem dX6_isProper_32 : decode cX6_isProper 32 = .ok (.iload 4, 2) := by decide +kernel
theorem dX6_isProper_34 : decode cX6_isProper 34 = .ok (.invokevirtual 121, 3) := by decide +kernel
theorem dX6_isProper_37 : decode cX6_isProper 37 = .ok (.istore 5, 2) := by decide +kernel
theorem dX6_isProper_39 : decode cX6_isProper 39 = .ok (.iload_n 2, 1) := by decide +kernel
theorem dX6_isProper_40 : decode cX6_isProper 40 = .ok (.ifCond .eq 43, 3) := by decide +kernel
theorem dX6_isProper_43 : decode cX6_isProper 43 = .ok (.iload 5, 2) := by decide +kernel
theorem dX6_isProper_45 : decode cX6_isProper 45 = .ok (.aload_n 0, 1) := by decide +kernel
theorem dX6_isProper_46 : decode cX6_isProper 46 = .ok (.getfield 16, 3) := by decide +kernel
theorem dX6_isProper_49 : decode cX6_isProper 49 = .ok (.iload_n 1, 1) := by decide +kernel
theorem dX6_isProper_50 : decode cX6_isProper 50 = .ok (.iaload, 1) := by decide +kernel
theorem dX6_isProper_51 : decode cX6_isProper 51 = .ok (.if_icmp .ge 32, 3) := by decide +kernel
theorem dX6_isProper_54 : decode cX6_isProper 54 = .ok (.aload_n 0, 1) := by decide +kernel
theorem dX6_isProper_55 : decode cX6_isProper 55 = .ok (.iload 4, 2) := by decide +kernel
theorem dX6_isProper_57 : decode cX6_isProper 57 = .ok (.invokevirtual 112, 3) := by decide +kernel
theorem dX6_isProper_60 : decode cX6_isProper 60 = .ok (.iconst 2, 1) := by decide +kernel
theorem dX6_isProper_61 : decode cX6_isProper 61 = .ok (.if_icmp .eq 18, 3) := by decide +kernel
theorem dX6_isProper_64 : decode cX6_isProper 64 = .ok (.aload_n 0, 1) := by decide +kernel
theorem dX6_isProper_65 : decode cX6_isProper 65 = .ok (.getfield 40, 3) := by decide +kernel
theorem dX6_isProper_68 : decode cX6_isProper 68 = .ok (.iload 4, 2) := by decide +kernel
theorem dX6_isProper_70 : decode cX6_isProper 70 = .ok (.iaload, 1) := by decide +kernel
theorem dX6_isProper_71 : decode cX6_isProper 71 = .ok (.iload 5, 2) := by decide +kernel
theorem dX6_isProper_73 : decode cX6_isProper 73 = .ok (.invokestatic 115, 3) := by decide +kernel
theorem dX6_isProper_76 : decode cX6_isProper 76 = .ok (.if_icmp .ne 7, 3) := by decide +kernel
theorem dX6_isProper_79 : decode cX6_isProper 79 = .ok (.iconst 1, 1) := by decide +kernel
theorem dX6_isProper_80 : decode cX6_isProper 80 = .ok (.goto 4, 3) := by decide +kernel
theorem dX6_isProper_83 : decode cX6_isProper 83 = .ok (.iconst 0, 1) := by decide +kernel
theorem dX6_isProper_84 : decode cX6_isProper 84 = .ok (.istore_n 2, 1) := by decide +kernel
theorem dX6_isProper_85 : decode cX6_isProper 85 = .ok (.iinc 3 1, 3) := by decide +kernel
theorem dX6_isProper_88 : decode cX6_isProper 88 = .ok (.goto (-84), 3) := by decide +kernel
theorem dX6_isProper_91 : decode cX6_isProper 91 = .ok (.iload_n 2, 1) := by decide +kernel
theorem dX6_isProper_92 : decode cX6_isProper 92 = .ok (.ireturn, 1) := by decide +kernel
theorem dX6_shown_0 : decode cX6_shown 0 = .ok (.lconst 0, 1) := by decide +kernel
theorem dX6_shown_1 : decode cX6_shown 1 = .ok (.lstore_n 2, 1) := by decide +kernel
theorem dX6_shown_2 : decode cX6_shown 2 = .ok (.lconst 1, 1) := by decide +kernel
theorem dX6_shown_3 : decode cX6_shown 3 = .ok (.lstore 4, 2) := by decide +kernel
theorem dX6_shown_5 : decode cX6_shown 5 = .ok (.aload_n 0, 1) := by decide +kernel
theorem dX6_shown_6 : decode cX6_shown 6 = .ok (.iconst 0, 1) := by decide +kernel
theorem dX6_shown_7 : decode cX6_shown 7 = .ok (.putfield 124, 3) := by decide +kernel
theorem dX6_shown_10 : decode cX6_shown 10 = .ok (.iconst 0, 1) := by decide +kernel
theorem dX6_shown_11 : decode cX6_shown 11 = .ok (.istore 6, 2) := by decide +kernel
theorem dX6_shown_13 : decode cX6_shown 13 = .ok (.iload 6, 2) := by decide +kernel
theorem dX6_shown_15 : decode cX6_shown 15 = .ok (.aload_n 0, 1) := by decide +kernel
theorem dX6_shown_16 : decode cX6_shown 16 = .ok (.getfield 13, 3) := by decide +kernel
theorem dX6_shown_19 : decode cX6_shown 19 = .ok (.iload_n 1, 1) := by decide +kernel
theorem dX6_shown_20 : decode cX6_shown 20 = .ok (.iaload, 1) := by decide +kernel
theorem dX6_shown_21 : decode cX6_shown 21 = .ok (.if_icmp .ge 68, 3) := by decide +kernel
theorem dX6_shown_24 : decode cX6_shown 24 = .ok (.aload_n 0, 1) := by decide +kernel
theorem dX6_shown_25 : decode cX6_shown 25 = .ok (.getfield 124, 3) := by decide +kernel
theorem dX6_shown_28 : decode cX6_shown 28 = .ok (.ifCond .ne 61, 3) := by decide +kernel
theorem dX6_shown_31 : decode cX6_shown 31 = .ok (.aload_n 0, 1) := by decide +kernel
theorem dX6_shown_32 : decode cX6_shown 32 = .ok (.aload_n 0, 1) := by decide +kernel
theorem dX6_shown_33 : decode cX6_shown 33 = .ok (.iload_n 1, 1) := by decide +kernel
theorem dX6_shown_34 : decode cX6_shown 34 = .ok (.iload 6, 2) := by decide +kernel
theorem dX6_shown_36 : decode cX6_shown 36 = .ok (.invokevirtual 118, 3) := by decide +kernel
theorem dX6_shown_39 : decode cX6_shown 39 = .ok (.putfield 124, 3) := by decide +kernel
theorem dX6_shown_42 : decode cX6_shown 42 = .ok (.lload_n 2, 1) := by decide +kernel
theorem dX6_shown_43 : decode cX6_shown 43 = .ok (.aload_n 0, 1) := by decide +kernel
theorem dX6_shown_44 : decode cX6_shown 44 = .ok (.getfield 124, 3) := by decide +kernel
theorem dX6_shown_47 : decode cX6_shown 47 = .ok (.ifCond .ne 21, 3) := by decide +kernel
theorem dX6_shown_50 : decode cX6_shown 50 = .ok (.aload_n 0, 1) := by decide +kernel
theorem dX6_shown_51 : decode cX6_shown 51 = .ok (.aload_n 0, 1) := by decide +kernel
theorem dX6_shown_52 : decode cX6_shown 52 = .ok (.iload_n 1, 1) := by decide +kernel
theorem dX6_shown_53 : decode cX6_shown 53 = .ok (.iload 6, 2) := by decide +kernel
theorem dX6_shown_55 : decode cX6_shown 55 = .ok (.invokevirtual 108, 3) := by decide +kernel
theorem dX6_shown_58 : decode cX6_shown 58 = .ok (.invokevirtual 121, 3) := by decide +kernel
theorem dX6_shown_61 : decode cX6_shown 61 = .ok (.i2l, 1) := by decide +kernel
theorem dX6_shown_62 : decode cX6_shown 62 = .ok (.lload 4, 2) := by decide +kernel
theorem dX6_shown_64 : decode cX6_shown 64 = .ok (.lmul, 1) := by decide +kernel
theorem dX6_shown_65 : decode cX6_shown 65 = .ok (.goto 4, 3) := by decide +kernel
theorem dX6_shown_68 : decode cX6_shown 68 = .ok (.lconst 0, 1) := by decide +kernel
theorem dX6_shown_69 : decode cX6_shown 69 = .ok (.ladd, 1) := by decide +kernel
theorem dX6_shown_70 : decode cX6_shown 70 = .ok (.lstore_n 2, 1) := by decide +kernel
theorem dX6_shown_71 : decode cX6_shown 71 = .ok (.lload 4, 2) := by decide +kernel
theorem dX6_shown_73 : decode cX6_shown 73 = .ok (.aload_n 0, 1) := by decide +kernel
theorem dX6_shown_74 : decode cX6_shown 74 = .ok (.getfield 16, 3) := by decide +kernel
theorem dX6_shown_77 : decode cX6_shown 77 = .ok (.iload_n 1, 1) := by decide +kernel
theorem dX6_shown_78 : decode cX6_shown 78 = .ok (.iaload, 1) := by decide +kernel
theorem dX6_shown_79 : decode cX6_shown 79 = .ok (.i2l, 1) := by decide +kernel
theorem dX6_shown_80 : decode cX6_shown 80 = .ok (.lmul, 1) := by decide +kernel
theorem dX6_shown_81 : decode cX6_shown 81 = .ok (.lstore 4, 2) := by decide +kernel
theorem dX6_shown_83 : decode cX6_shown 83 = .ok (.iinc 6 1, 3) := by decide +kernel
theorem dX6_shown_86 : decode cX6_shown 86 = .ok (.goto (-73), 3) := by decide +kernel
theorem dX6_shown_89 : decode cX6_shown 89 = .ok (.lload_n 2, 1) := by decide +kernel
theorem dX6_shown_90 : decode cX6_shown 90 = .ok (.lreturn, 1) := by decide +kernel
theorem dX6_digits_0 : decode cX6_digits 0 = .ok (.iconst 0, 1) := by decide +kernel
end
section
theorem dX6_digits_1 : decode cX6_digits 1 = .ok (.istore_n 3, 1) := by decide +kernel
theorem dX6_digits_2 : decode cX6_digits 2 = .ok (.lload_n 0, 1) := by decide +kernel
theorem dX6_digits_3 : decode cX6_digits 3 = .ok (.lstore 4, 2) := by decide +kernel
theorem dX6_digits_5 : decode cX6_digits 5 = .ok (.lload 4, 2) := by decide +kernel
theorem dX6_digits_7 : decode cX6_digits 7 = .ok (.lconst 0, 1) := by decide +kernel
theorem dX6_digits_8 : decode cX6_digits 8 = .ok (.lcmp, 1) := by decide +kernel
theorem dX6_digits_9 : decode cX6_digits 9 = .ok (.ifCond .le 16, 3) := by decide +kernel
theorem dX6_digits_12 : decode cX6_digits 12 = .ok (.iinc 3 1, 3) := by decide +kernel
theorem dX6_digits_15 : decode cX6_digits 15 = .ok (.lload 4, 2) := by decide +kernel
theorem dX6_digits_17 : decode cX6_digits 17 = .ok (.iload_n 2, 1) := by decide +kernel
theorem dX6_digits_18 : decode cX6_digits 18 = .ok (.i2l, 1) := by decide +kernel
theorem dX6_digits_19 : decode cX6_digits 19 = .ok (.ldiv, 1) := by decide +kernel
theorem dX6_digits_20 : decode cX6_digits 20 = .ok (.lstore 4, 2) := by decide +kernel
theorem dX6_digits_22 : decode cX6_digits 22 = .ok (.goto (-17), 3) := by decide +kernel
theorem dX6_digits_25 : decode cX6_digits 25 = .ok (.iload_n 3, 1) := by decide +kernel
theorem dX6_digits_26 : decode cX6_digits 26 = .ok (.ireturn, 1) := by decide +kernel
theorem dX6_power_0 : decode cX6_power 0 = .ok (.lconst 1, 1) := by decide +kernel
theorem dX6_power_1 : decode cX6_power 1 = .ok (.lstore_n 2, 1) := by decide +kernel
theorem dX6_power_2 : decode cX6_power 2 = .ok (.iconst 0, 1) := by decide +kernel
theorem dX6_power_3 : decode cX6_power 3 = .ok (.istore 4, 2) := by decide +kernel
theorem dX6_power_5 : decode cX6_power 5 = .ok (.iload 4, 2) := by decide +kernel
theorem dX6_power_7 : decode cX6_power 7 = .ok (.iload_n 1, 1) := by decide +kernel
theorem dX6_power_8 : decode cX6_power 8 = .ok (.if_icmp .ge 14, 3) := by decide +kernel
theorem dX6_power_11 : decode cX6_power 11 = .ok (.lload_n 2, 1) := by decide +kernel
theorem dX6_power_12 : decode cX6_power 12 = .ok (.iload_n 0, 1) := by decide +kernel
theorem dX6_power_13 : decode cX6_power 13 = .ok (.i2l, 1) := by decide +kernel
theorem dX6_power_14 : decode cX6_power 14 = .ok (.lmul, 1) := by decide +kernel
theorem dX6_power_15 : decode cX6_power 15 = .ok (.lstore_n 2, 1) := by decide +kernel
theorem dX6_power_16 : decode cX6_power 16 = .ok (.iinc 4 1, 3) := by decide +kernel
theorem dX6_power_19 : decode cX6_power 19 = .ok (.goto (-14), 3) := by decide +kernel
theorem dX6_power_22 : decode cX6_power 22 = .ok (.lload_n 2, 1) := by decide +kernel
theorem dX6_power_23 : decode cX6_power 23 = .ok (.lreturn, 1) := by decide +kernel
theorem dX6_digitOf_0 : decode cX6_digitOf 0 = .ok (.lload_n 0, 1) := by decide +kernel
theorem dX6_digitOf_1 : decode cX6_digitOf 1 = .ok (.lstore 4, 2) := by decide +kernel
theorem dX6_digitOf_3 : decode cX6_digitOf 3 = .ok (.iconst 0, 1) := by decide +kernel
theorem dX6_digitOf_4 : decode cX6_digitOf 4 = .ok (.istore 6, 2) := by decide +kernel
theorem dX6_digitOf_6 : decode cX6_digitOf 6 = .ok (.iload 6, 2) := by decide +kernel
theorem dX6_digitOf_8 : decode cX6_digitOf 8 = .ok (.iload_n 3, 1) := by decide +kernel
theorem dX6_digitOf_9 : decode cX6_digitOf 9 = .ok (.if_icmp .ge 16, 3) := by decide +kernel
theorem dX6_digitOf_12 : decode cX6_digitOf 12 = .ok (.lload 4, 2) := by decide +kernel
theorem dX6_digitOf_14 : decode cX6_digitOf 14 = .ok (.iload_n 2, 1) := by decide +kernel
theorem dX6_digitOf_15 : decode cX6_digitOf 15 = .ok (.i2l, 1) := by decide +kernel
theorem dX6_digitOf_16 : decode cX6_digitOf 16 = .ok (.ldiv, 1) := by decide +kernel
theorem dX6_digitOf_17 : decode cX6_digitOf 17 = .ok (.lstore 4, 2) := by decide +kernel
theorem dX6_digitOf_19 : decode cX6_digitOf 19 = .ok (.iinc 6 1, 3) := by decide +kernel
theorem dX6_digitOf_22 : decode cX6_digitOf 22 = .ok (.goto (-16), 3) := by decide +kernel
theorem dX6_digitOf_25 : decode cX6_digitOf 25 = .ok (.lload 4, 2) := by decide +kernel
theorem dX6_digitOf_27 : decode cX6_digitOf 27 = .ok (.iload_n 2, 1) := by decide +kernel
theorem dX6_digitOf_28 : decode cX6_digitOf 28 = .ok (.i2l, 1) := by decide +kernel
theorem dX6_digitOf_29 : decode cX6_digitOf 29 = .ok (.lrem, 1) := by decide +kernel
theorem dX6_digitOf_30 : decode cX6_digitOf 30 = .ok (.l2i, 1) := by decide +kernel
theorem dX6_digitOf_31 : decode cX6_digitOf 31 = .ok (.ireturn, 1) := by decide +kernel
theorem dX6_frame_0 : decode cX6_frame 0 = .ok (.iload_n 1, 1) := by decide +kernel
theorem dX6_frame_1 : decode cX6_frame 1 = .ok (.i2l, 1) := by decide +kernel
theorem dX6_frame_2 : decode cX6_frame 2 = .ok (.lconst 0, 1) := by decide +kernel
theorem dX6_frame_3 : decode cX6_frame 3 = .ok (.ldc2_w 127, 3) := by decide +kernel
theorem dX6_frame_6 : decode cX6_frame 6 = .ok (.invokestatic 92, 3) := by decide +kernel
theorem dX6_frame_9 : decode cX6_frame 9 = .ok (.ifCond .eq 19, 3) := by decide +kernel
theorem dX6_frame_12 : decode cX6_frame 12 = .ok (.iload_n 2, 1) := by decide +kernel
theorem dX6_frame_13 : decode cX6_frame 13 = .ok (.iload_n 1, 1) := by decide +kernel
theorem dX6_frame_14 : decode cX6_frame 14 = .ok (.iconst 3, 1) := by decide +kernel
theorem dX6_frame_15 : decode cX6_frame 15 = .ok (.if_icmp .ne 8, 3) := by decide +kernel
theorem dX6_frame_18 : decode cX6_frame 18 = .ok (.bipush 14, 2) := by decide +kernel
theorem dX6_frame_20 : decode cX6_frame 20 = .ok (.goto 5, 3) := by decide +kernel
theorem dX6_frame_23 : decode cX6_frame 23 = .ok (.bipush 18, 2) := by decide +kernel
theorem dX6_frame_25 : decode cX6_frame 25 = .ok (.if_icmp .le 6, 3) := by decide +kernel
theorem dX6_frame_28 : decode cX6_frame 28 = .ok (.bipush (-2), 2) := by decide +kernel
theorem dX6_frame_30 : decode cX6_frame 30 = .ok (.ireturn, 1) := by decide +kernel
theorem dX6_frame_31 : decode cX6_frame 31 = .ok (.aload_n 0, 1) := by decide +kernel
theorem dX6_frame_32 : decode cX6_frame 32 = .ok (.getfield 89, 3) := by decide +kernel
theorem dX6_frame_35 : decode cX6_frame 35 = .ok (.bipush 30, 2) := by decide +kernel
theorem dX6_frame_37 : decode cX6_frame 37 = .ok (.if_icmp .ne 6, 3) := by decide +kernel
theorem dX6_frame_40 : decode cX6_frame 40 = .ok (.bipush (-4), 2) := by decide +kernel
theorem dX6_frame_42 : decode cX6_frame 42 = .ok (.ireturn, 1) := by decide +kernel
theorem dX6_frame_43 : decode cX6_frame 43 = .ok (.iload_n 2, 1) := by decide +kernel
theorem dX6_frame_44 : decode cX6_frame 44 = .ok (.ifCond .ge 9, 3) := by decide +kernel
theorem dX6_frame_47 : decode cX6_frame 47 = .ok (.aload_n 0, 1) := by decide +kernel
theorem dX6_frame_48 : decode cX6_frame 48 = .ok (.iconst 4, 1) := by decide +kernel
theorem dX6_frame_49 : decode cX6_frame 49 = .ok (.invokevirtual 102, 3) := by decide +kernel
theorem dX6_frame_52 : decode cX6_frame 52 = .ok (.ireturn, 1) := by decide +kernel
theorem dX6_frame_53 : decode cX6_frame 53 = .ok (.aload_n 0, 1) := by decide +kernel
theorem dX6_frame_54 : decode cX6_frame 54 = .ok (.getfield 89, 3) := by decide +kernel
theorem dX6_frame_57 : decode cX6_frame 57 = .ok (.istore_n 3, 1) := by decide +kernel
theorem dX6_frame_58 : decode cX6_frame 58 = .ok (.aload_n 0, 1) := by decide +kernel
theorem dX6_frame_59 : decode cX6_frame 59 = .ok (.getfield 7, 3) := by decide +kernel
theorem dX6_frame_62 : decode cX6_frame 62 = .ok (.iload_n 3, 1) := by decide +kernel
theorem dX6_frame_63 : decode cX6_frame 63 = .ok (.iload_n 1, 1) := by decide +kernel
theorem dX6_frame_64 : decode cX6_frame 64 = .ok (.iastore, 1) := by decide +kernel
theorem dX6_frame_65 : decode cX6_frame 65 = .ok (.aload_n 0, 1) := by decide +kernel
theorem dX6_frame_66 : decode cX6_frame 66 = .ok (.getfield 13, 3) := by decide +kernel
theorem dX6_frame_69 : decode cX6_frame 69 = .ok (.iload_n 3, 1) := by decide +kernel
theorem dX6_frame_70 : decode cX6_frame 70 = .ok (.iload_n 2, 1) := by decide +kernel
theorem dX6_frame_71 : decode cX6_frame 71 = .ok (.iastore, 1) := by decide +kernel
theorem dX6_frame_72 : decode cX6_frame 72 = .ok (.aload_n 0, 1) := by decide +kernel
theorem dX6_frame_73 : decode cX6_frame 73 = .ok (.getfield 16, 3) := by decide +kernel
theorem dX6_frame_76 : decode cX6_frame 76 = .ok (.iload_n 3, 1) := by decide +kernel
theorem dX6_frame_77 : decode cX6_frame 77 = .ok (.iload_n 1, 1) := by decide +kernel
theorem dX6_frame_78 : decode cX6_frame 78 = .ok (.iconst 3, 1) := by decide +kernel
theorem dX6_frame_79 : decode cX6_frame 79 = .ok (.if_icmp .ne 8, 3) := by decide +kernel
theorem dX6_frame_82 : decode cX6_frame 82 = .ok (.bipush 16, 2) := by decide +kernel
theorem dX6_frame_84 : decode cX6_frame 84 = .ok (.goto 5, 3) := by decide +kernel
theorem dX6_frame_87 : decode cX6_frame 87 = .ok (.bipush 10, 2) := by decide +kernel
theorem dX6_frame_89 : decode cX6_frame 89 = .ok (.iastore, 1) := by decide +kernel
theorem dX6_frame_90 : decode cX6_frame 90 = .ok (.aload_n 0, 1) := by decide +kernel
theorem dX6_frame_91 : decode cX6_frame 91 = .ok (.getfield 19, 3) := by decide +kernel
theorem dX6_frame_94 : decode cX6_frame 94 = .ok (.iload_n 3, 1) := by decide +kernel
theorem dX6_frame_95 : decode cX6_frame 95 = .ok (.iconst 0, 1) := by decide +kernel
theorem dX6_frame_96 : decode cX6_frame 96 = .ok (.iastore, 1) := by decide +kernel
theorem dX6_frame_97 : decode cX6_frame 97 = .ok (.aload_n 0, 1) := by decide +kernel
theorem dX6_frame_98 : decode cX6_frame 98 = .ok (.getfield 28, 3) := by decide +kernel
theorem dX6_frame_101 : decode cX6_frame 101 = .ok (.iload_n 3, 1) := by decide +kernel
theorem dX6_frame_102 : decode cX6_frame 102 = .ok (.iconst 1, 1) := by decide +kernel
theorem dX6_frame_103 : decode cX6_frame 103 = .ok (.iload_n 3, 1) := by decide +kernel
theorem dX6_frame_104 : decode cX6_frame 104 = .ok (.ishl, 1) := by decide +kernel
theorem dX6_frame_105 : decode cX6_frame 105 = .ok (.iastore, 1) := by decide +kernel
theorem dX6_frame_106 : decode cX6_frame 106 = .ok (.iconst 0, 1) := by decide +kernel
theorem dX6_frame_107 : decode cX6_frame 107 = .ok (.istore 4, 2) := by decide +kernel
theorem dX6_frame_109 : decode cX6_frame 109 = .ok (.iload 4, 2) := by decide +kernel
theorem dX6_frame_111 : decode cX6_frame 111 = .ok (.iload_n 2, 1) := by decide +kernel
theorem dX6_frame_112 : decode cX6_frame 112 = .ok (.if_icmp .ge 60, 3) := by decide +kernel
theorem dX6_frame_115 : decode cX6_frame 115 = .ok (.bipush 18, 2) := by decide +kernel
theorem dX6_frame_117 : decode cX6_frame 117 = .ok (.iload_n 3, 1) := by decide +kernel
theorem dX6_frame_118 : decode cX6_frame 118 = .ok (.imul, 1) := by decide +kernel
theorem dX6_frame_119 : decode cX6_frame 119 = .ok (.iload 4, 2) := by decide +kernel
theorem dX6_frame_121 : decode cX6_frame 121 = .ok (.iadd, 1) := by decide +kernel
theorem dX6_frame_122 : decode cX6_frame 122 = .ok (.istore 5, 2) := by decide +kernel
theorem dX6_frame_124 : decode cX6_frame 124 = .ok (.aload_n 0, 1) := by decide +kernel
theorem dX6_frame_125 : decode cX6_frame 125 = .ok (.getfield 31, 3) := by decide +kernel
theorem dX6_frame_128 : decode cX6_frame 128 = .ok (.iload 5, 2) := by decide +kernel
theorem dX6_frame_130 : decode cX6_frame 130 = .ok (.iload 5, 2) := by decide +kernel
theorem dX6_frame_132 : decode cX6_frame 132 = .ok (.iastore, 1) := by decide +kernel
theorem dX6_frame_133 : decode cX6_frame 133 = .ok (.aload_n 0, 1) := by decide +kernel
theorem dX6_frame_134 : decode cX6_frame 134 = .ok (.getfield 34, 3) := by decide +kernel
theorem dX6_frame_137 : decode cX6_frame 137 = .ok (.iload 5, 2) := by decide +kernel
theorem dX6_frame_139 : decode cX6_frame 139 = .ok (.iload_n 1, 1) := by decide +kernel
theorem dX6_frame_140 : decode cX6_frame 140 = .ok (.iconst 2, 1) := by decide +kernel
theorem dX6_frame_141 : decode cX6_frame 141 = .ok (.if_icmp .ne 7, 3) := by decide +kernel
theorem dX6_frame_144 : decode cX6_frame 144 = .ok (.iconst 1, 1) := by decide +kernel
theorem dX6_frame_145 : decode cX6_frame 145 = .ok (.goto 4, 3) := by decide +kernel
theorem dX6_frame_148 : decode cX6_frame 148 = .ok (.iconst 2, 1) := by decide +kernel
theorem dX6_frame_149 : decode cX6_frame 149 = .ok (.iastore, 1) := by decide +kernel
theorem dX6_frame_150 : decode cX6_frame 150 = .ok (.aload_n 0, 1) := by decide +kernel
theorem dX6_frame_151 : decode cX6_frame 151 = .ok (.getfield 37, 3) := by decide +kernel
theorem dX6_frame_154 : decode cX6_frame 154 = .ok (.iload 5, 2) := by decide +kernel
theorem dX6_frame_156 : decode cX6_frame 156 = .ok (.iconst 0, 1) := by decide +kernel
theorem dX6_frame_157 : decode cX6_frame 157 = .ok (.iastore, 1) := by decide +kernel
theorem dX6_frame_158 : decode cX6_frame 158 = .ok (.aload_n 0, 1) := by decide +kernel
theorem dX6_frame_159 : decode cX6_frame 159 = .ok (.getfield 40, 3) := by decide +kernel
theorem dX6_frame_162 : decode cX6_frame 162 = .ok (.iload 5, 2) := by decide +kernel
theorem dX6_frame_164 : decode cX6_frame 164 = .ok (.iconst 0, 1) := by decide +kernel
theorem dX6_frame_165 : decode cX6_frame 165 = .ok (.iastore, 1) := by decide +kernel
theorem dX6_frame_166 : decode cX6_frame 166 = .ok (.iinc 4 1, 3) := by decide +kernel
theorem dX6_frame_169 : decode cX6_frame 169 = .ok (.goto (-60), 3) := by decide +kernel
theorem dX6_frame_172 : decode cX6_frame 172 = .ok (.aload_n 0, 1) := by decide +kernel
theorem dX6_frame_173 : decode cX6_frame 173 = .ok (.dup, 1) := by decide +kernel
theorem dX6_frame_174 : decode cX6_frame 174 = .ok (.getfield 89, 3) := by decide +kernel
theorem dX6_frame_177 : decode cX6_frame 177 = .ok (.iconst 1, 1) := by decide +kernel
theorem dX6_frame_178 : decode cX6_frame 178 = .ok (.iadd, 1) := by decide +kernel
theorem dX6_frame_179 : decode cX6_frame 179 = .ok (.putfield 89, 3) := by decide +kernel
theorem dX6_frame_182 : decode cX6_frame 182 = .ok (.iload_n 3, 1) := by decide +kernel
theorem dX6_frame_183 : decode cX6_frame 183 = .ok (.ireturn, 1) := by decide +kernel
theorem dX6_both_0 : decode cX6_both 0 = .ok (.aload_n 0, 1) := by decide +kernel
theorem dX6_both_1 : decode cX6_both 1 = .ok (.iload_n 1, 1) := by decide +kernel
theorem dX6_both_2 : decode cX6_both 2 = .ok (.invokevirtual 129, 3) := by decide +kernel
theorem dX6_both_5 : decode cX6_both 5 = .ok (.ifCond .eq 11, 3) := by decide +kernel
theorem dX6_both_8 : decode cX6_both 8 = .ok (.aload_n 0, 1) := by decide +kernel
theorem dX6_both_9 : decode cX6_both 9 = .ok (.iload_n 2, 1) := by decide +kernel
theorem dX6_both_10 : decode cX6_both 10 = .ok (.invokevirtual 129, 3) := by decide +kernel
theorem dX6_both_13 : decode cX6_both 13 = .ok (.ifCond .ne 5, 3) := by decide +kernel
theorem dX6_both_16 : decode cX6_both 16 = .ok (.iconst (-1), 1) := by decide +kernel
theorem dX6_both_17 : decode cX6_both 17 = .ok (.ireturn, 1) := by decide +kernel
theorem dX6_both_18 : decode cX6_both 18 = .ok (.iconst 1, 1) := by decide +kernel
theorem dX6_both_19 : decode cX6_both 19 = .ok (.aload_n 0, 1) := by decide +kernel
theorem dX6_both_20 : decode cX6_both 20 = .ok (.getfield 19, 3) := by decide +kernel
theorem dX6_both_23 : decode cX6_both 23 = .ok (.iload_n 1, 1) := by decide +kernel
theorem dX6_both_24 : decode cX6_both 24 = .ok (.iaload, 1) := by decide +kernel
theorem dX6_both_25 : decode cX6_both 25 = .ok (.aload_n 0, 1) := by decide +kernel
theorem dX6_both_26 : decode cX6_both 26 = .ok (.getfield 19, 3) := by decide +kernel
theorem dX6_both_29 : decode cX6_both 29 = .ok (.iload_n 2, 1) := by decide +kernel
theorem dX6_both_30 : decode cX6_both 30 = .ok (.iaload, 1) := by decide +kernel
theorem dX6_both_31 : decode cX6_both 31 = .ok (.if_icmp .le 12, 3) := by decide +kernel
theorem dX6_both_34 : decode cX6_both 34 = .ok (.aload_n 0, 1) := by decide +kernel
theorem dX6_both_35 : decode cX6_both 35 = .ok (.getfield 19, 3) := by decide +kernel
theorem dX6_both_38 : decode cX6_both 38 = .ok (.iload_n 1, 1) := by decide +kernel
theorem dX6_both_39 : decode cX6_both 39 = .ok (.iaload, 1) := by decide +kernel
theorem dX6_both_40 : decode cX6_both 40 = .ok (.goto 9, 3) := by decide +kernel
theorem dX6_both_43 : decode cX6_both 43 = .ok (.aload_n 0, 1) := by decide +kernel
theorem dX6_both_44 : decode cX6_both 44 = .ok (.getfield 19, 3) := by decide +kernel
theorem dX6_both_47 : decode cX6_both 47 = .ok (.iload_n 2, 1) := by decide +kernel
theorem dX6_both_48 : decode cX6_both 48 = .ok (.iaload, 1) := by decide +kernel
theorem dX6_both_49 : decode cX6_both 49 = .ok (.iadd, 1) := by decide +kernel
theorem dX6_both_50 : decode cX6_both 50 = .ok (.istore_n 3, 1) := by decide +kernel
theorem dX6_both_51 : decode cX6_both 51 = .ok (.aload_n 0, 1) := by decide +kernel
theorem dX6_both_52 : decode cX6_both 52 = .ok (.getfield 16, 3) := by decide +kernel
theorem dX6_both_55 : decode cX6_both 55 = .ok (.iload_n 1, 1) := by decide +kernel
theorem dX6_both_56 : decode cX6_both 56 = .ok (.iaload, 1) := by decide +kernel
theorem dX6_both_57 : decode cX6_both 57 = .ok (.aload_n 0, 1) := by decide +kernel
theorem dX6_both_58 : decode cX6_both 58 = .ok (.getfield 16, 3) := by decide +kernel
theorem dX6_both_61 : decode cX6_both 61 = .ok (.iload_n 2, 1) := by decide +kernel
theorem dX6_both_62 : decode cX6_both 62 = .ok (.iaload, 1) := by decide +kernel
theorem dX6_both_63 : decode cX6_both 63 = .ok (.if_icmp .ne 58, 3) := by decide +kernel
theorem dX6_both_66 : decode cX6_both 66 = .ok (.aload_n 0, 1) := by decide +kernel
theorem dX6_both_67 : decode cX6_both 67 = .ok (.getfield 28, 3) := by decide +kernel
theorem dX6_both_70 : decode cX6_both 70 = .ok (.iload_n 1, 1) := by decide +kernel
theorem dX6_both_71 : decode cX6_both 71 = .ok (.iaload, 1) := by decide +kernel
theorem dX6_both_72 : decode cX6_both 72 = .ok (.aload_n 0, 1) := by decide +kernel
theorem dX6_both_73 : decode cX6_both 73 = .ok (.getfield 28, 3) := by decide +kernel
theorem dX6_both_76 : decode cX6_both 76 = .ok (.iload_n 2, 1) := by decide +kernel
theorem dX6_both_77 : decode cX6_both 77 = .ok (.iaload, 1) := by decide +kernel
theorem dX6_both_78 : decode cX6_both 78 = .ok (.iand, 1) := by decide +kernel
theorem dX6_both_79 : decode cX6_both 79 = .ok (.ifCond .ne 42, 3) := by decide +kernel
theorem dX6_both_82 : decode cX6_both 82 = .ok (.aload_n 0, 1) := by decide +kernel
theorem dX6_both_83 : decode cX6_both 83 = .ok (.getfield 13, 3) := by decide +kernel
theorem dX6_both_86 : decode cX6_both 86 = .ok (.iload_n 1, 1) := by decide +kernel
theorem dX6_both_87 : decode cX6_both 87 = .ok (.iaload, 1) := by decide +kernel
theorem dX6_both_88 : decode cX6_both 88 = .ok (.aload_n 0, 1) := by decide +kernel
theorem dX6_both_89 : decode cX6_both 89 = .ok (.getfield 13, 3) := by decide +kernel
theorem dX6_both_92 : decode cX6_both 92 = .ok (.iload_n 2, 1) := by decide +kernel
theorem dX6_both_93 : decode cX6_both 93 = .ok (.iaload, 1) := by decide +kernel
theorem dX6_both_94 : decode cX6_both 94 = .ok (.iadd, 1) := by decide +kernel
theorem dX6_both_95 : decode cX6_both 95 = .ok (.aload_n 0, 1) := by decide +kernel
theorem dX6_both_96 : decode cX6_both 96 = .ok (.getfield 16, 3) := by decide +kernel
theorem dX6_both_99 : decode cX6_both 99 = .ok (.iload_n 1, 1) := by decide +kernel
theorem dX6_both_100 : decode cX6_both 100 = .ok (.iaload, 1) := by decide +kernel
theorem dX6_both_101 : decode cX6_both 101 = .ok (.bipush 16, 2) := by decide +kernel
theorem dX6_both_103 : decode cX6_both 103 = .ok (.if_icmp .ne 8, 3) := by decide +kernel
theorem dX6_both_106 : decode cX6_both 106 = .ok (.bipush 14, 2) := by decide +kernel
theorem dX6_both_108 : decode cX6_both 108 = .ok (.goto 5, 3) := by decide +kernel
theorem dX6_both_111 : decode cX6_both 111 = .ok (.bipush 18, 2) := by decide +kernel
theorem dX6_both_113 : decode cX6_both 113 = .ok (.if_icmp .gt 8, 3) := by decide +kernel
theorem dX6_both_116 : decode cX6_both 116 = .ok (.iload_n 3, 1) := by decide +kernel
theorem dX6_both_117 : decode cX6_both 117 = .ok (.iconst 5, 1) := by decide +kernel
theorem dX6_both_118 : decode cX6_both 118 = .ok (.if_icmp .le 6, 3) := by decide +kernel
theorem dX6_both_121 : decode cX6_both 121 = .ok (.bipush (-3), 2) := by decide +kernel
theorem dX6_both_123 : decode cX6_both 123 = .ok (.ireturn, 1) := by decide +kernel
theorem dX6_both_124 : decode cX6_both 124 = .ok (.aload_n 0, 1) := by decide +kernel
theorem dX6_both_125 : decode cX6_both 125 = .ok (.getfield 89, 3) := by decide +kernel
theorem dX6_both_128 : decode cX6_both 128 = .ok (.bipush 30, 2) := by decide +kernel
theorem dX6_both_130 : decode cX6_both 130 = .ok (.if_icmp .ne 6, 3) := by decide +kernel
theorem dX6_both_133 : decode cX6_both 133 = .ok (.bipush (-4), 2) := by decide +kernel
theorem dX6_both_135 : decode cX6_both 135 = .ok (.ireturn, 1) := by decide +kernel
theorem dX6_both_136 : decode cX6_both 136 = .ok (.aload_n 0, 1) := by decide +kernel
theorem dX6_both_137 : decode cX6_both 137 = .ok (.getfield 89, 3) := by decide +kernel
theorem dX6_both_140 : decode cX6_both 140 = .ok (.istore 4, 2) := by decide +kernel
theorem dX6_both_142 : decode cX6_both 142 = .ok (.aload_n 0, 1) := by decide +kernel
theorem dX6_both_143 : decode cX6_both 143 = .ok (.getfield 7, 3) := by decide +kernel
theorem dX6_both_146 : decode cX6_both 146 = .ok (.iload 4, 2) := by decide +kernel
theorem dX6_both_148 : decode cX6_both 148 = .ok (.iconst 4, 1) := by decide +kernel
theorem dX6_both_149 : decode cX6_both 149 = .ok (.iastore, 1) := by decide +kernel
theorem dX6_both_150 : decode cX6_both 150 = .ok (.aload_n 0, 1) := by decide +kernel
theorem dX6_both_151 : decode cX6_both 151 = .ok (.getfield 13, 3) := by decide +kernel
theorem dX6_both_154 : decode cX6_both 154 = .ok (.iload 4, 2) := by decide +kernel
theorem dX6_both_156 : decode cX6_both 156 = .ok (.aload_n 0, 1) := by decide +kernel
theorem dX6_both_157 : decode cX6_both 157 = .ok (.getfield 13, 3) := by decide +kernel
theorem dX6_both_160 : decode cX6_both 160 = .ok (.iload_n 1, 1) := by decide +kernel
theorem dX6_both_161 : decode cX6_both 161 = .ok (.iaload, 1) := by decide +kernel
theorem dX6_both_162 : decode cX6_both 162 = .ok (.aload_n 0, 1) := by decide +kernel
theorem dX6_both_163 : decode cX6_both 163 = .ok (.getfield 13, 3) := by decide +kernel
theorem dX6_both_166 : decode cX6_both 166 = .ok (.iload_n 2, 1) := by decide +kernel
theorem dX6_both_167 : decode cX6_both 167 = .ok (.iaload, 1) := by decide +kernel
theorem dX6_both_168 : decode cX6_both 168 = .ok (.iadd, 1) := by decide +kernel
theorem dX6_both_169 : decode cX6_both 169 = .ok (.iastore, 1) := by decide +kernel
theorem dX6_both_170 : decode cX6_both 170 = .ok (.aload_n 0, 1) := by decide +kernel
theorem dX6_both_171 : decode cX6_both 171 = .ok (.getfield 16, 3) := by decide +kernel
theorem dX6_both_174 : decode cX6_both 174 = .ok (.iload 4, 2) := by decide +kernel
theorem dX6_both_176 : decode cX6_both 176 = .ok (.aload_n 0, 1) := by decide +kernel
theorem dX6_both_177 : decode cX6_both 177 = .ok (.getfield 16, 3) := by decide +kernel
theorem dX6_both_180 : decode cX6_both 180 = .ok (.iload_n 1, 1) := by decide +kernel
theorem dX6_both_181 : decode cX6_both 181 = .ok (.iaload, 1) := by decide +kernel
theorem dX6_both_182 : decode cX6_both 182 = .ok (.iastore, 1) := by decide +kernel
theorem dX6_both_183 : decode cX6_both 183 = .ok (.aload_n 0, 1) := by decide +kernel
theorem dX6_both_184 : decode cX6_both 184 = .ok (.getfield 19, 3) := by decide +kernel
theorem dX6_both_187 : decode cX6_both 187 = .ok (.iload 4, 2) := by decide +kernel
theorem dX6_both_189 : decode cX6_both 189 = .ok (.iload_n 3, 1) := by decide +kernel
theorem dX6_both_190 : decode cX6_both 190 = .ok (.iastore, 1) := by decide +kernel
theorem dX6_both_191 : decode cX6_both 191 = .ok (.aload_n 0, 1) := by decide +kernel
theorem dX6_both_192 : decode cX6_both 192 = .ok (.getfield 22, 3) := by decide +kernel
theorem dX6_both_195 : decode cX6_both 195 = .ok (.iload 4, 2) := by decide +kernel
theorem dX6_both_197 : decode cX6_both 197 = .ok (.iload_n 1, 1) := by decide +kernel
theorem dX6_both_198 : decode cX6_both 198 = .ok (.iastore, 1) := by decide +kernel
theorem dX6_both_199 : decode cX6_both 199 = .ok (.aload_n 0, 1) := by decide +kernel
theorem dX6_both_200 : decode cX6_both 200 = .ok (.getfield 25, 3) := by decide +kernel
theorem dX6_both_203 : decode cX6_both 203 = .ok (.iload 4, 2) := by decide +kernel
theorem dX6_both_205 : decode cX6_both 205 = .ok (.iload_n 2, 1) := by decide +kernel
theorem dX6_both_206 : decode cX6_both 206 = .ok (.iastore, 1) := by decide +kernel
theorem dX6_both_207 : decode cX6_both 207 = .ok (.aload_n 0, 1) := by decide +kernel
theorem dX6_both_208 : decode cX6_both 208 = .ok (.getfield 28, 3) := by decide +kernel
theorem dX6_both_211 : decode cX6_both 211 = .ok (.iload 4, 2) := by decide +kernel
theorem dX6_both_213 : decode cX6_both 213 = .ok (.aload_n 0, 1) := by decide +kernel
theorem dX6_both_214 : decode cX6_both 214 = .ok (.getfield 28, 3) := by decide +kernel
theorem dX6_both_217 : decode cX6_both 217 = .ok (.iload_n 1, 1) := by decide +kernel
theorem dX6_both_218 : decode cX6_both 218 = .ok (.iaload, 1) := by decide +kernel
theorem dX6_both_219 : decode cX6_both 219 = .ok (.aload_n 0, 1) := by decide +kernel
theorem dX6_both_220 : decode cX6_both 220 = .ok (.getfield 28, 3) := by decide +kernel
theorem dX6_both_223 : decode cX6_both 223 = .ok (.iload_n 2, 1) := by decide +kernel
theorem dX6_both_224 : decode cX6_both 224 = .ok (.iaload, 1) := by decide +kernel
theorem dX6_both_225 : decode cX6_both 225 = .ok (.ior, 1) := by decide +kernel
theorem dX6_both_226 : decode cX6_both 226 = .ok (.iconst 1, 1) := by decide +kernel
theorem dX6_both_227 : decode cX6_both 227 = .ok (.iload 4, 2) := by decide +kernel
theorem dX6_both_229 : decode cX6_both 229 = .ok (.ishl, 1) := by decide +kernel
theorem dX6_both_230 : decode cX6_both 230 = .ok (.ior, 1) := by decide +kernel
theorem dX6_both_231 : decode cX6_both 231 = .ok (.iastore, 1) := by decide +kernel
theorem dX6_both_232 : decode cX6_both 232 = .ok (.iconst 0, 1) := by decide +kernel
theorem dX6_both_233 : decode cX6_both 233 = .ok (.istore 5, 2) := by decide +kernel
theorem dX6_both_235 : decode cX6_both 235 = .ok (.iload 5, 2) := by decide +kernel
theorem dX6_both_237 : decode cX6_both 237 = .ok (.aload_n 0, 1) := by decide +kernel
theorem dX6_both_238 : decode cX6_both 238 = .ok (.getfield 13, 3) := by decide +kernel
theorem dX6_both_241 : decode cX6_both 241 = .ok (.iload 4, 2) := by decide +kernel
theorem dX6_both_243 : decode cX6_both 243 = .ok (.iaload, 1) := by decide +kernel
theorem dX6_both_244 : decode cX6_both 244 = .ok (.if_icmp .ge 57, 3) := by decide +kernel
theorem dX6_both_247 : decode cX6_both 247 = .ok (.aload_n 0, 1) := by decide +kernel
theorem dX6_both_248 : decode cX6_both 248 = .ok (.getfield 31, 3) := by decide +kernel
theorem dX6_both_251 : decode cX6_both 251 = .ok (.bipush 18, 2) := by decide +kernel
theorem dX6_both_253 : decode cX6_both 253 = .ok (.iload 4, 2) := by decide +kernel
theorem dX6_both_255 : decode cX6_both 255 = .ok (.imul, 1) := by decide +kernel
theorem dX6_both_256 : decode cX6_both 256 = .ok (.iload 5, 2) := by decide +kernel
theorem dX6_both_258 : decode cX6_both 258 = .ok (.iadd, 1) := by decide +kernel
theorem dX6_both_259 : decode cX6_both 259 = .ok (.iload 5, 2) := by decide +kernel
theorem dX6_both_261 : decode cX6_both 261 = .ok (.aload_n 0, 1) := by decide +kernel
theorem dX6_both_262 : decode cX6_both 262 = .ok (.getfield 13, 3) := by decide +kernel
theorem dX6_both_265 : decode cX6_both 265 = .ok (.iload_n 2, 1) := by decide +kernel
theorem dX6_both_266 : decode cX6_both 266 = .ok (.iaload, 1) := by decide +kernel
theorem dX6_both_267 : decode cX6_both 267 = .ok (.if_icmp .ge 13, 3) := by decide +kernel
theorem dX6_both_270 : decode cX6_both 270 = .ok (.aload_n 0, 1) := by decide +kernel
theorem dX6_both_271 : decode cX6_both 271 = .ok (.iload_n 2, 1) := by decide +kernel
theorem dX6_both_272 : decode cX6_both 272 = .ok (.iload 5, 2) := by decide +kernel
theorem dX6_both_274 : decode cX6_both 274 = .ok (.invokevirtual 108, 3) := by decide +kernel
theorem dX6_both_277 : decode cX6_both 277 = .ok (.goto 17, 3) := by decide +kernel
theorem dX6_both_280 : decode cX6_both 280 = .ok (.aload_n 0, 1) := by decide +kernel
theorem dX6_both_281 : decode cX6_both 281 = .ok (.iload_n 1, 1) := by decide +kernel
theorem dX6_both_282 : decode cX6_both 282 = .ok (.iload 5, 2) := by decide +kernel
theorem dX6_both_284 : decode cX6_both 284 = .ok (.aload_n 0, 1) := by decide +kernel
theorem dX6_both_285 : decode cX6_both 285 = .ok (.getfield 13, 3) := by decide +kernel
theorem dX6_both_288 : decode cX6_both 288 = .ok (.iload_n 2, 1) := by decide +kernel
theorem dX6_both_289 : decode cX6_both 289 = .ok (.iaload, 1) := by decide +kernel
theorem dX6_both_290 : decode cX6_both 290 = .ok (.isub, 1) := by decide +kernel
theorem dX6_both_291 : decode cX6_both 291 = .ok (.invokevirtual 108, 3) := by decide +kernel
theorem dX6_both_294 : decode cX6_both 294 = .ok (.iastore, 1) := by decide +kernel
theorem dX6_both_295 : decode cX6_both 295 = .ok (.iinc 5 1, 3) := by decide +kernel
theorem dX6_both_298 : decode cX6_both 298 = .ok (.goto (-63), 3) := by decide +kernel
theorem dX6_both_301 : decode cX6_both 301 = .ok (.aload_n 0, 1) := by decide +kernel
theorem dX6_both_302 : decode cX6_both 302 = .ok (.dup, 1) := by decide +kernel
theorem dX6_both_303 : decode cX6_both 303 = .ok (.getfield 89, 3) := by decide +kernel
theorem dX6_both_306 : decode cX6_both 306 = .ok (.iconst 1, 1) := by decide +kernel
theorem dX6_both_307 : decode cX6_both 307 = .ok (.iadd, 1) := by decide +kernel
theorem dX6_both_308 : decode cX6_both 308 = .ok (.putfield 89, 3) := by decide +kernel
theorem dX6_both_311 : decode cX6_both 311 = .ok (.iload 4, 2) := by decide +kernel
theorem dX6_both_313 : decode cX6_both 313 = .ok (.ireturn, 1) := by decide +kernel
theorem dX6_rod_0 : decode cX6_rod 0 = .ok (.aload_n 0, 1) := by decide +kernel
theorem dX6_rod_1 : decode cX6_rod 1 = .ok (.iload_n 1, 1) := by decide +kernel
theorem dX6_rod_2 : decode cX6_rod 2 = .ok (.invokevirtual 129, 3) := by decide +kernel
theorem dX6_rod_5 : decode cX6_rod 5 = .ok (.ifCond .ne 5, 3) := by decide +kernel
theorem dX6_rod_8 : decode cX6_rod 8 = .ok (.iconst (-1), 1) := by decide +kernel
theorem dX6_rod_9 : decode cX6_rod 9 = .ok (.ireturn, 1) := by decide +kernel
theorem dX6_rod_10 : decode cX6_rod 10 = .ok (.iload_n 3, 1) := by decide +kernel
theorem dX6_rod_11 : decode cX6_rod 11 = .ok (.i2l, 1) := by decide +kernel
theorem dX6_rod_12 : decode cX6_rod 12 = .ok (.ldc2_w 133, 3) := by decide +kernel
theorem dX6_rod_15 : decode cX6_rod 15 = .ok (.aload_n 0, 1) := by decide +kernel
theorem dX6_rod_16 : decode cX6_rod 16 = .ok (.getfield 7, 3) := by decide +kernel
theorem dX6_rod_19 : decode cX6_rod 19 = .ok (.iload_n 1, 1) := by decide +kernel
theorem dX6_rod_20 : decode cX6_rod 20 = .ok (.iaload, 1) := by decide +kernel
theorem dX6_rod_21 : decode cX6_rod 21 = .ok (.iconst 2, 1) := by decide +kernel
theorem dX6_rod_22 : decode cX6_rod 22 = .ok (.if_icmp .ne 7, 3) := by decide +kernel
theorem dX6_rod_25 : decode cX6_rod 25 = .ok (.lconst 1, 1) := by decide +kernel
theorem dX6_rod_26 : decode cX6_rod 26 = .ok (.goto 6, 3) := by decide +kernel
theorem dX6_rod_29 : decode cX6_rod 29 = .ok (.ldc2_w 135, 3) := by decide +kernel
theorem dX6_rod_32 : decode cX6_rod 32 = .ok (.invokestatic 92, 3) := by decide +kernel
theorem dX6_rod_35 : decode cX6_rod 35 = .ok (.ifCond .ne 6, 3) := by decide +kernel
theorem dX6_rod_38 : decode cX6_rod 38 = .ok (.bipush (-2), 2) := by decide +kernel
theorem dX6_rod_40 : decode cX6_rod 40 = .ok (.ireturn, 1) := by decide +kernel
theorem dX6_rod_41 : decode cX6_rod 41 = .ok (.aload_n 0, 1) := by decide +kernel
theorem dX6_rod_42 : decode cX6_rod 42 = .ok (.getfield 7, 3) := by decide +kernel
theorem dX6_rod_45 : decode cX6_rod 45 = .ok (.iload_n 1, 1) := by decide +kernel
theorem dX6_rod_46 : decode cX6_rod 46 = .ok (.iaload, 1) := by decide +kernel
theorem dX6_rod_47 : decode cX6_rod 47 = .ok (.iconst 4, 1) := by decide +kernel
theorem dX6_rod_48 : decode cX6_rod 48 = .ok (.if_icmp .ne 9, 3) := by decide +kernel
theorem dX6_rod_51 : decode cX6_rod 51 = .ok (.aload_n 0, 1) := by decide +kernel
theorem dX6_rod_52 : decode cX6_rod 52 = .ok (.iconst 3, 1) := by decide +kernel
theorem dX6_rod_53 : decode cX6_rod 53 = .ok (.invokevirtual 102, 3) := by decide +kernel
theorem dX6_rod_56 : decode cX6_rod 56 = .ok (.ireturn, 1) := by decide +kernel
theorem dX6_rod_57 : decode cX6_rod 57 = .ok (.iload_n 2, 1) := by decide +kernel
theorem dX6_rod_58 : decode cX6_rod 58 = .ok (.i2l, 1) := by decide +kernel
theorem dX6_rod_59 : decode cX6_rod 59 = .ok (.lconst 0, 1) := by decide +kernel
theorem dX6_rod_60 : decode cX6_rod 60 = .ok (.aload_n 0, 1) := by decide +kernel
theorem dX6_rod_61 : decode cX6_rod 61 = .ok (.getfield 13, 3) := by decide +kernel
theorem dX6_rod_64 : decode cX6_rod 64 = .ok (.iload_n 1, 1) := by decide +kernel
theorem dX6_rod_65 : decode cX6_rod 65 = .ok (.iaload, 1) := by decide +kernel
theorem dX6_rod_66 : decode cX6_rod 66 = .ok (.iconst 1, 1) := by decide +kernel
theorem dX6_rod_67 : decode cX6_rod 67 = .ok (.isub, 1) := by decide +kernel
theorem dX6_rod_68 : decode cX6_rod 68 = .ok (.i2l, 1) := by decide +kernel
theorem dX6_rod_69 : decode cX6_rod 69 = .ok (.invokestatic 92, 3) := by decide +kernel
theorem dX6_rod_72 : decode cX6_rod 72 = .ok (.ifCond .ne 9, 3) := by decide +kernel
theorem dX6_rod_75 : decode cX6_rod 75 = .ok (.aload_n 0, 1) := by decide +kernel
theorem dX6_rod_76 : decode cX6_rod 76 = .ok (.iconst 2, 1) := by decide +kernel
theorem dX6_rod_77 : decode cX6_rod 77 = .ok (.invokevirtual 102, 3) := by decide +kernel
theorem dX6_rod_80 : decode cX6_rod 80 = .ok (.ireturn, 1) := by decide +kernel
theorem dX6_rod_81 : decode cX6_rod 81 = .ok (.aload_n 0, 1) := by decide +kernel
theorem dX6_rod_82 : decode cX6_rod 82 = .ok (.iload_n 1, 1) := by decide +kernel
theorem dX6_rod_83 : decode cX6_rod 83 = .ok (.iload_n 2, 1) := by decide +kernel
theorem dX6_rod_84 : decode cX6_rod 84 = .ok (.invokevirtual 108, 3) := by decide +kernel
theorem dX6_rod_87 : decode cX6_rod 87 = .ok (.istore 4, 2) := by decide +kernel
theorem dX6_rod_89 : decode cX6_rod 89 = .ok (.aload_n 0, 1) := by decide +kernel
theorem dX6_rod_90 : decode cX6_rod 90 = .ok (.getfield 34, 3) := by decide +kernel
theorem dX6_rod_93 : decode cX6_rod 93 = .ok (.iload 4, 2) := by decide +kernel
theorem dX6_rod_95 : decode cX6_rod 95 = .ok (.iload_n 3, 1) := by decide +kernel
theorem dX6_rod_96 : decode cX6_rod 96 = .ok (.iastore, 1) := by decide +kernel
theorem dX6_rod_97 : decode cX6_rod 97 = .ok (.aload_n 0, 1) := by decide +kernel
theorem dX6_rod_98 : decode cX6_rod 98 = .ok (.getfield 37, 3) := by decide +kernel
theorem dX6_rod_101 : decode cX6_rod 101 = .ok (.iload 4, 2) := by decide +kernel
theorem dX6_rod_103 : decode cX6_rod 103 = .ok (.iconst 0, 1) := by decide +kernel
theorem dX6_rod_104 : decode cX6_rod 104 = .ok (.iastore, 1) := by decide +kernel
theorem dX6_rod_105 : decode cX6_rod 105 = .ok (.aload_n 0, 1) := by decide +kernel
theorem dX6_rod_106 : decode cX6_rod 106 = .ok (.getfield 40, 3) := by decide +kernel
theorem dX6_rod_109 : decode cX6_rod 109 = .ok (.iload 4, 2) := by decide +kernel
theorem dX6_rod_111 : decode cX6_rod 111 = .ok (.iconst 0, 1) := by decide +kernel
theorem dX6_rod_112 : decode cX6_rod 112 = .ok (.iastore, 1) := by decide +kernel
theorem dX6_rod_113 : decode cX6_rod 113 = .ok (.aload_n 0, 1) := by decide +kernel
theorem dX6_rod_114 : decode cX6_rod 114 = .ok (.iconst 1, 1) := by decide +kernel
theorem dX6_rod_115 : decode cX6_rod 115 = .ok (.putfield 137, 3) := by decide +kernel
theorem dX6_rod_118 : decode cX6_rod 118 = .ok (.iconst 1, 1) := by decide +kernel
theorem dX6_rod_119 : decode cX6_rod 119 = .ok (.ireturn, 1) := by decide +kernel
theorem dX6_againstOne_0 : decode cX6_againstOne 0 = .ok (.iload_n 2, 1) := by decide +kernel
theorem dX6_againstOne_1 : decode cX6_againstOne 1 = .ok (.i2l, 1) := by decide +kernel
theorem dX6_againstOne_2 : decode cX6_againstOne 2 = .ok (.lconst 0, 1) := by decide +kernel
theorem dX6_againstOne_3 : decode cX6_againstOne 3 = .ok (.aload_n 0, 1) := by decide +kernel
theorem dX6_againstOne_4 : decode cX6_againstOne 4 = .ok (.getfield 13, 3) := by decide +kernel
theorem dX6_againstOne_7 : decode cX6_againstOne 7 = .ok (.iload_n 1, 1) := by decide +kernel
theorem dX6_againstOne_8 : decode cX6_againstOne 8 = .ok (.iaload, 1) := by decide +kernel
theorem dX6_againstOne_9 : decode cX6_againstOne 9 = .ok (.iconst 1, 1) := by decide +kernel
theorem dX6_againstOne_10 : decode cX6_againstOne 10 = .ok (.isub, 1) := by decide +kernel
theorem dX6_againstOne_11 : decode cX6_againstOne 11 = .ok (.i2l, 1) := by decide +kernel
theorem dX6_againstOne_12 : decode cX6_againstOne 12 = .ok (.invokestatic 92, 3) := by decide +kernel
theorem dX6_againstOne_15 : decode cX6_againstOne 15 = .ok (.ifCond .ne 5, 3) := by decide +kernel
theorem dX6_againstOne_18 : decode cX6_againstOne 18 = .ok (.iconst 2, 1) := by decide +kernel
theorem dX6_againstOne_19 : decode cX6_againstOne 19 = .ok (.ireturn, 1) := by decide +kernel
theorem dX6_againstOne_20 : decode cX6_againstOne 20 = .ok (.aload_n 0, 1) := by decide +kernel
theorem dX6_againstOne_21 : decode cX6_againstOne 21 = .ok (.getfield 34, 3) := by decide +kernel
theorem dX6_againstOne_24 : decode cX6_againstOne 24 = .ok (.aload_n 0, 1) := by decide +kernel
theorem dX6_againstOne_25 : decode cX6_againstOne 25 = .ok (.iload_n 1, 1) := by decide +kernel
theorem dX6_againstOne_26 : decode cX6_againstOne 26 = .ok (.iload_n 2, 1) := by decide +kernel
theorem dX6_againstOne_27 : decode cX6_againstOne 27 = .ok (.invokevirtual 108, 3) := by decide +kernel
theorem dX6_againstOne_30 : decode cX6_againstOne 30 = .ok (.iaload, 1) := by decide +kernel
theorem dX6_againstOne_31 : decode cX6_againstOne 31 = .ok (.istore 4, 2) := by decide +kernel
theorem dX6_againstOne_33 : decode cX6_againstOne 33 = .ok (.iload 4, 2) := by decide +kernel
theorem dX6_againstOne_35 : decode cX6_againstOne 35 = .ok (.ifCond .ge 7, 3) := by decide +kernel
theorem dX6_againstOne_38 : decode cX6_againstOne 38 = .ok (.iconst 1, 1) := by decide +kernel
theorem dX6_againstOne_39 : decode cX6_againstOne 39 = .ok (.goto 14, 3) := by decide +kernel
theorem dX6_againstOne_42 : decode cX6_againstOne 42 = .ok (.iload_n 3, 1) := by decide +kernel
theorem dX6_againstOne_43 : decode cX6_againstOne 43 = .ok (.iload 4, 2) := by decide +kernel
theorem dX6_againstOne_45 : decode cX6_againstOne 45 = .ok (.if_icmp .lt 7, 3) := by decide +kernel
theorem dX6_againstOne_48 : decode cX6_againstOne 48 = .ok (.iconst 2, 1) := by decide +kernel
theorem dX6_againstOne_49 : decode cX6_againstOne 49 = .ok (.goto 4, 3) := by decide +kernel
theorem dX6_againstOne_52 : decode cX6_againstOne 52 = .ok (.iconst 0, 1) := by decide +kernel
theorem dX6_againstOne_53 : decode cX6_againstOne 53 = .ok (.ireturn, 1) := by decide +kernel
theorem dX6_mostOf_0 : decode cX6_mostOf 0 = .ok (.iload_n 1, 1) := by decide +kernel
theorem dX6_mostOf_1 : decode cX6_mostOf 1 = .ok (.ifCond .ne 23, 3) := by decide +kernel
theorem dX6_mostOf_4 : decode cX6_mostOf 4 = .ok (.iload_n 0, 1) := by decide +kernel
theorem dX6_mostOf_5 : decode cX6_mostOf 5 = .ok (.ifCond .ne 7, 3) := by decide +kernel
theorem dX6_mostOf_8 : decode cX6_mostOf 8 = .ok (.iconst 4, 1) := by decide +kernel
theorem dX6_mostOf_9 : decode cX6_mostOf 9 = .ok (.goto 14, 3) := by decide +kernel
theorem dX6_mostOf_12 : decode cX6_mostOf 12 = .ok (.iload_n 0, 1) := by decide +kernel
theorem dX6_mostOf_13 : decode cX6_mostOf 13 = .ok (.iconst 2, 1) := by decide +kernel
theorem dX6_mostOf_14 : decode cX6_mostOf 14 = .ok (.if_icmp .ne 8, 3) := by decide +kernel
theorem dX6_mostOf_17 : decode cX6_mostOf 17 = .ok (.bipush 10, 2) := by decide +kernel
theorem dX6_mostOf_19 : decode cX6_mostOf 19 = .ok (.goto 4, 3) := by decide +kernel
theorem dX6_mostOf_22 : decode cX6_mostOf 22 = .ok (.iconst 5, 1) := by decide +kernel
theorem dX6_mostOf_23 : decode cX6_mostOf 23 = .ok (.ireturn, 1) := by decide +kernel
theorem dX6_mostOf_24 : decode cX6_mostOf 24 = .ok (.iload_n 0, 1) := by decide +kernel
theorem dX6_mostOf_25 : decode cX6_mostOf 25 = .ok (.ifCond .ne 7, 3) := by decide +kernel
theorem dX6_mostOf_28 : decode cX6_mostOf 28 = .ok (.iconst 1, 1) := by decide +kernel
theorem dX6_mostOf_29 : decode cX6_mostOf 29 = .ok (.goto 4, 3) := by decide +kernel
theorem dX6_mostOf_32 : decode cX6_mostOf 32 = .ok (.iconst 2, 1) := by decide +kernel
theorem dX6_mostOf_33 : decode cX6_mostOf 33 = .ok (.ireturn, 1) := by decide +kernel
theorem dX6_push_0 : decode cX6_push 0 = .ok (.aload_n 0, 1) := by decide +kernel
theorem dX6_push_1 : decode cX6_push 1 = .ok (.iload_n 1, 1) := by decide +kernel
theorem dX6_push_2 : decode cX6_push 2 = .ok (.invokevirtual 129, 3) := by decide +kernel
theorem dX6_push_5 : decode cX6_push 5 = .ok (.ifCond .ne 5, 3) := by decide +kernel
theorem dX6_push_8 : decode cX6_push 8 = .ok (.iconst (-1), 1) := by decide +kernel
theorem dX6_push_9 : decode cX6_push 9 = .ok (.ireturn, 1) := by decide +kernel
theorem dX6_push_10 : decode cX6_push 10 = .ok (.iload_n 3, 1) := by decide +kernel
theorem dX6_push_11 : decode cX6_push 11 = .ok (.i2l, 1) := by decide +kernel
theorem dX6_push_12 : decode cX6_push 12 = .ok (.lconst 0, 1) := by decide +kernel
theorem dX6_push_13 : decode cX6_push 13 = .ok (.lconst 1, 1) := by decide +kernel
theorem dX6_push_14 : decode cX6_push 14 = .ok (.invokestatic 92, 3) := by decide +kernel
theorem dX6_push_17 : decode cX6_push 17 = .ok (.ifCond .ne 6, 3) := by decide +kernel
theorem dX6_push_20 : decode cX6_push 20 = .ok (.bipush (-2), 2) := by decide +kernel
theorem dX6_push_22 : decode cX6_push 22 = .ok (.ireturn, 1) := by decide +kernel
theorem dX6_push_23 : decode cX6_push 23 = .ok (.aload_n 0, 1) := by decide +kernel
theorem dX6_push_24 : decode cX6_push 24 = .ok (.iload_n 1, 1) := by decide +kernel
theorem dX6_push_25 : decode cX6_push 25 = .ok (.iload_n 2, 1) := by decide +kernel
theorem dX6_push_26 : decode cX6_push 26 = .ok (.iload_n 3, 1) := by decide +kernel
theorem dX6_push_27 : decode cX6_push 27 = .ok (.invokevirtual 141, 3) := by decide +kernel
theorem dX6_push_30 : decode cX6_push 30 = .ok (.istore 5, 2) := by decide +kernel
theorem dX6_push_32 : decode cX6_push 32 = .ok (.iload 5, 2) := by decide +kernel
theorem dX6_push_34 : decode cX6_push 34 = .ok (.ifCond .le 10, 3) := by decide +kernel
theorem dX6_push_37 : decode cX6_push 37 = .ok (.aload_n 0, 1) := by decide +kernel
theorem dX6_push_38 : decode cX6_push 38 = .ok (.iload 5, 2) := by decide +kernel
theorem dX6_push_40 : decode cX6_push 40 = .ok (.invokevirtual 102, 3) := by decide +kernel
theorem dX6_push_43 : decode cX6_push 43 = .ok (.ireturn, 1) := by decide +kernel
theorem dX6_push_44 : decode cX6_push 44 = .ok (.aload_n 0, 1) := by decide +kernel
theorem dX6_push_45 : decode cX6_push 45 = .ok (.iload_n 1, 1) := by decide +kernel
theorem dX6_push_46 : decode cX6_push 46 = .ok (.iload_n 2, 1) := by decide +kernel
theorem dX6_push_47 : decode cX6_push 47 = .ok (.invokevirtual 108, 3) := by decide +kernel
theorem dX6_push_50 : decode cX6_push 50 = .ok (.istore 6, 2) := by decide +kernel
theorem dX6_push_52 : decode cX6_push 52 = .ok (.iload 4, 2) := by decide +kernel
theorem dX6_push_54 : decode cX6_push 54 = .ok (.i2l, 1) := by decide +kernel
theorem dX6_push_55 : decode cX6_push 55 = .ok (.iload_n 3, 1) := by decide +kernel
theorem dX6_push_56 : decode cX6_push 56 = .ok (.ifCond .ne 13, 3) := by decide +kernel
theorem dX6_push_59 : decode cX6_push 59 = .ok (.aload_n 0, 1) := by decide +kernel
theorem dX6_push_60 : decode cX6_push 60 = .ok (.getfield 37, 3) := by decide +kernel
theorem dX6_push_63 : decode cX6_push 63 = .ok (.iload 6, 2) := by decide +kernel
theorem dX6_push_65 : decode cX6_push 65 = .ok (.iaload, 1) := by decide +kernel
theorem dX6_push_66 : decode cX6_push 66 = .ok (.goto 10, 3) := by decide +kernel
theorem dX6_push_69 : decode cX6_push 69 = .ok (.aload_n 0, 1) := by decide +kernel
theorem dX6_push_70 : decode cX6_push 70 = .ok (.getfield 40, 3) := by decide +kernel
theorem dX6_push_73 : decode cX6_push 73 = .ok (.iload 6, 2) := by decide +kernel
theorem dX6_push_75 : decode cX6_push 75 = .ok (.iaload, 1) := by decide +kernel
theorem dX6_push_76 : decode cX6_push 76 = .ok (.i2l, 1) := by decide +kernel
theorem dX6_push_77 : decode cX6_push 77 = .ok (.ladd, 1) := by decide +kernel
theorem dX6_push_78 : decode cX6_push 78 = .ok (.lstore 7, 2) := by decide +kernel
theorem dX6_push_80 : decode cX6_push 80 = .ok (.lload 7, 2) := by decide +kernel
theorem dX6_push_82 : decode cX6_push 82 = .ok (.lconst 0, 1) := by decide +kernel
theorem dX6_push_83 : decode cX6_push 83 = .ok (.aload_n 0, 1) := by decide +kernel
theorem dX6_push_84 : decode cX6_push 84 = .ok (.iload 6, 2) := by decide +kernel
theorem dX6_push_86 : decode cX6_push 86 = .ok (.invokevirtual 112, 3) := by decide +kernel
theorem dX6_push_89 : decode cX6_push 89 = .ok (.iload_n 3, 1) := by decide +kernel
theorem dX6_push_90 : decode cX6_push 90 = .ok (.invokestatic 145, 3) := by decide +kernel
theorem dX6_push_93 : decode cX6_push 93 = .ok (.i2l, 1) := by decide +kernel
theorem dX6_push_94 : decode cX6_push 94 = .ok (.invokestatic 92, 3) := by decide +kernel
theorem dX6_push_97 : decode cX6_push 97 = .ok (.ifCond .ne 6, 3) := by decide +kernel
theorem dX6_push_100 : decode cX6_push 100 = .ok (.bipush (-3), 2) := by decide +kernel
theorem dX6_push_102 : decode cX6_push 102 = .ok (.ireturn, 1) := by decide +kernel
theorem dX6_push_103 : decode cX6_push 103 = .ok (.iload_n 3, 1) := by decide +kernel
theorem dX6_push_104 : decode cX6_push 104 = .ok (.ifCond .ne 16, 3) := by decide +kernel
theorem dX6_push_107 : decode cX6_push 107 = .ok (.aload_n 0, 1) := by decide +kernel
theorem dX6_push_108 : decode cX6_push 108 = .ok (.getfield 37, 3) := by decide +kernel
theorem dX6_push_111 : decode cX6_push 111 = .ok (.iload 6, 2) := by decide +kernel
theorem dX6_push_113 : decode cX6_push 113 = .ok (.lload 7, 2) := by decide +kernel
theorem dX6_push_115 : decode cX6_push 115 = .ok (.l2i, 1) := by decide +kernel
theorem dX6_push_116 : decode cX6_push 116 = .ok (.iastore, 1) := by decide +kernel
theorem dX6_push_117 : decode cX6_push 117 = .ok (.goto 13, 3) := by decide +kernel
theorem dX6_push_120 : decode cX6_push 120 = .ok (.aload_n 0, 1) := by decide +kernel
theorem dX6_push_121 : decode cX6_push 121 = .ok (.getfield 40, 3) := by decide +kernel
theorem dX6_push_124 : decode cX6_push 124 = .ok (.iload 6, 2) := by decide +kernel
theorem dX6_push_126 : decode cX6_push 126 = .ok (.lload 7, 2) := by decide +kernel
theorem dX6_push_128 : decode cX6_push 128 = .ok (.l2i, 1) := by decide +kernel
theorem dX6_push_129 : decode cX6_push 129 = .ok (.iastore, 1) := by decide +kernel
theorem dX6_push_130 : decode cX6_push 130 = .ok (.aload_n 0, 1) := by decide +kernel
theorem dX6_push_131 : decode cX6_push 131 = .ok (.iconst 1, 1) := by decide +kernel
theorem dX6_push_132 : decode cX6_push 132 = .ok (.putfield 137, 3) := by decide +kernel
theorem dX6_push_135 : decode cX6_push 135 = .ok (.lload 7, 2) := by decide +kernel
theorem dX6_push_137 : decode cX6_push 137 = .ok (.l2i, 1) := by decide +kernel
theorem dX6_push_138 : decode cX6_push 138 = .ok (.ireturn, 1) := by decide +kernel
theorem dX6_beads_0 : decode cX6_beads 0 = .ok (.aload_n 0, 1) := by decide +kernel
theorem dX6_beads_1 : decode cX6_beads 1 = .ok (.iload_n 1, 1) := by decide +kernel
theorem dX6_beads_2 : decode cX6_beads 2 = .ok (.invokevirtual 129, 3) := by decide +kernel
theorem dX6_beads_5 : decode cX6_beads 5 = .ok (.ifCond .ne 5, 3) := by decide +kernel
theorem dX6_beads_8 : decode cX6_beads 8 = .ok (.iconst (-1), 1) := by decide +kernel
theorem dX6_beads_9 : decode cX6_beads 9 = .ok (.ireturn, 1) := by decide +kernel
theorem dX6_beads_10 : decode cX6_beads 10 = .ok (.iload_n 3, 1) := by decide +kernel
theorem dX6_beads_11 : decode cX6_beads 11 = .ok (.i2l, 1) := by decide +kernel
theorem dX6_beads_12 : decode cX6_beads 12 = .ok (.lconst 0, 1) := by decide +kernel
theorem dX6_beads_13 : decode cX6_beads 13 = .ok (.lconst 1, 1) := by decide +kernel
theorem dX6_beads_14 : decode cX6_beads 14 = .ok (.invokestatic 92, 3) := by decide +kernel
theorem dX6_beads_17 : decode cX6_beads 17 = .ok (.ifCond .ne 6, 3) := by decide +kernel
theorem dX6_beads_20 : decode cX6_beads 20 = .ok (.bipush (-2), 2) := by decide +kernel
theorem dX6_beads_22 : decode cX6_beads 22 = .ok (.ireturn, 1) := by decide +kernel
theorem dX6_beads_23 : decode cX6_beads 23 = .ok (.aload_n 0, 1) := by decide +kernel
theorem dX6_beads_24 : decode cX6_beads 24 = .ok (.iload_n 1, 1) := by decide +kernel
theorem dX6_beads_25 : decode cX6_beads 25 = .ok (.iload_n 2, 1) := by decide +kernel
theorem dX6_beads_26 : decode cX6_beads 26 = .ok (.iload_n 3, 1) := by decide +kernel
theorem dX6_beads_27 : decode cX6_beads 27 = .ok (.invokevirtual 141, 3) := by decide +kernel
theorem dX6_beads_30 : decode cX6_beads 30 = .ok (.istore 4, 2) := by decide +kernel
theorem dX6_beads_32 : decode cX6_beads 32 = .ok (.iload 4, 2) := by decide +kernel
theorem dX6_beads_34 : decode cX6_beads 34 = .ok (.ifCond .le 12, 3) := by decide +kernel
theorem dX6_beads_37 : decode cX6_beads 37 = .ok (.aload_n 0, 1) := by decide +kernel
theorem dX6_beads_38 : decode cX6_beads 38 = .ok (.iload 4, 2) := by decide +kernel
theorem dX6_beads_40 : decode cX6_beads 40 = .ok (.invokevirtual 102, 3) := by decide +kernel
theorem dX6_beads_43 : decode cX6_beads 43 = .ok (.goto 32, 3) := by decide +kernel
theorem dX6_beads_46 : decode cX6_beads 46 = .ok (.iload_n 3, 1) := by decide +kernel
theorem dX6_beads_47 : decode cX6_beads 47 = .ok (.ifCond .ne 17, 3) := by decide +kernel
theorem dX6_beads_50 : decode cX6_beads 50 = .ok (.aload_n 0, 1) := by decide +kernel
theorem dX6_beads_51 : decode cX6_beads 51 = .ok (.getfield 37, 3) := by decide +kernel
theorem dX6_beads_54 : decode cX6_beads 54 = .ok (.aload_n 0, 1) := by decide +kernel
theorem dX6_beads_55 : decode cX6_beads 55 = .ok (.iload_n 1, 1) := by decide +kernel
theorem dX6_beads_56 : decode cX6_beads 56 = .ok (.iload_n 2, 1) := by decide +kernel
theorem dX6_beads_57 : decode cX6_beads 57 = .ok (.invokevirtual 108, 3) := by decide +kernel
theorem dX6_beads_60 : decode cX6_beads 60 = .ok (.iaload, 1) := by decide +kernel
theorem dX6_beads_61 : decode cX6_beads 61 = .ok (.goto 14, 3) := by decide +kernel
theorem dX6_beads_64 : decode cX6_beads 64 = .ok (.aload_n 0, 1) := by decide +kernel
theorem dX6_beads_65 : decode cX6_beads 65 = .ok (.getfield 40, 3) := by decide +kernel
theorem dX6_beads_68 : decode cX6_beads 68 = .ok (.aload_n 0, 1) := by decide +kernel
theorem dX6_beads_69 : decode cX6_beads 69 = .ok (.iload_n 1, 1) := by decide +kernel
theorem dX6_beads_70 : decode cX6_beads 70 = .ok (.iload_n 2, 1) := by decide +kernel
theorem dX6_beads_71 : decode cX6_beads 71 = .ok (.invokevirtual 108, 3) := by decide +kernel
theorem dX6_beads_74 : decode cX6_beads 74 = .ok (.iaload, 1) := by decide +kernel
theorem dX6_beads_75 : decode cX6_beads 75 = .ok (.ireturn, 1) := by decide +kernel
theorem dX6_digit_0 : decode cX6_digit 0 = .ok (.aload_n 0, 1) := by decide +kernel
theorem dX6_digit_1 : decode cX6_digit 1 = .ok (.iload_n 1, 1) := by decide +kernel
theorem dX6_digit_2 : decode cX6_digit 2 = .ok (.invokevirtual 129, 3) := by decide +kernel
theorem dX6_digit_5 : decode cX6_digit 5 = .ok (.ifCond .ne 5, 3) := by decide +kernel
theorem dX6_digit_8 : decode cX6_digit 8 = .ok (.iconst (-1), 1) := by decide +kernel
theorem dX6_digit_9 : decode cX6_digit 9 = .ok (.ireturn, 1) := by decide +kernel
theorem dX6_digit_10 : decode cX6_digit 10 = .ok (.aload_n 0, 1) := by decide +kernel
theorem dX6_digit_11 : decode cX6_digit 11 = .ok (.iload_n 1, 1) := by decide +kernel
theorem dX6_digit_12 : decode cX6_digit 12 = .ok (.iload_n 2, 1) := by decide +kernel
theorem dX6_digit_13 : decode cX6_digit 13 = .ok (.invokevirtual 118, 3) := by decide +kernel
theorem dX6_digit_16 : decode cX6_digit 16 = .ok (.istore_n 3, 1) := by decide +kernel
theorem dX6_digit_17 : decode cX6_digit 17 = .ok (.iload_n 3, 1) := by decide +kernel
theorem dX6_digit_18 : decode cX6_digit 18 = .ok (.ifCond .le 11, 3) := by decide +kernel
theorem dX6_digit_21 : decode cX6_digit 21 = .ok (.aload_n 0, 1) := by decide +kernel
theorem dX6_digit_22 : decode cX6_digit 22 = .ok (.iload_n 3, 1) := by decide +kernel
theorem dX6_digit_23 : decode cX6_digit 23 = .ok (.invokevirtual 102, 3) := by decide +kernel
theorem dX6_digit_26 : decode cX6_digit 26 = .ok (.goto 13, 3) := by decide +kernel
theorem dX6_digit_29 : decode cX6_digit 29 = .ok (.aload_n 0, 1) := by decide +kernel
theorem dX6_digit_30 : decode cX6_digit 30 = .ok (.aload_n 0, 1) := by decide +kernel
theorem dX6_digit_31 : decode cX6_digit 31 = .ok (.iload_n 1, 1) := by decide +kernel
theorem dX6_digit_32 : decode cX6_digit 32 = .ok (.iload_n 2, 1) := by decide +kernel
theorem dX6_digit_33 : decode cX6_digit 33 = .ok (.invokevirtual 108, 3) := by decide +kernel
theorem dX6_digit_36 : decode cX6_digit 36 = .ok (.invokevirtual 121, 3) := by decide +kernel
theorem dX6_digit_39 : decode cX6_digit 39 = .ok (.ireturn, 1) := by decide +kernel
theorem dX6_shows_0 : decode cX6_shows 0 = .ok (.aload_n 0, 1) := by decide +kernel
theorem dX6_shows_1 : decode cX6_shows 1 = .ok (.iload_n 1, 1) := by decide +kernel
theorem dX6_shows_2 : decode cX6_shows 2 = .ok (.invokevirtual 129, 3) := by decide +kernel
theorem dX6_shows_5 : decode cX6_shows 5 = .ok (.ifCond .ne 7, 3) := by decide +kernel
theorem dX6_shows_8 : decode cX6_shows 8 = .ok (.ldc2_w 106, 3) := by decide +kernel
theorem dX6_shows_11 : decode cX6_shows 11 = .ok (.lreturn, 1) := by decide +kernel
theorem dX6_shows_12 : decode cX6_shows 12 = .ok (.aload_n 0, 1) := by decide +kernel
theorem dX6_shows_13 : decode cX6_shows 13 = .ok (.iload_n 1, 1) := by decide +kernel
theorem dX6_shows_14 : decode cX6_shows 14 = .ok (.invokevirtual 148, 3) := by decide +kernel
theorem dX6_shows_17 : decode cX6_shows 17 = .ok (.lstore_n 2, 1) := by decide +kernel
theorem dX6_shows_18 : decode cX6_shows 18 = .ok (.aload_n 0, 1) := by decide +kernel
theorem dX6_shows_19 : decode cX6_shows 19 = .ok (.getfield 124, 3) := by decide +kernel
theorem dX6_shows_22 : decode cX6_shows 22 = .ok (.ifCond .le 14, 3) := by decide +kernel
theorem dX6_shows_25 : decode cX6_shows 25 = .ok (.aload_n 0, 1) := by decide +kernel
theorem dX6_shows_26 : decode cX6_shows 26 = .ok (.aload_n 0, 1) := by decide +kernel
theorem dX6_shows_27 : decode cX6_shows 27 = .ok (.getfield 124, 3) := by decide +kernel
theorem dX6_shows_30 : decode cX6_shows 30 = .ok (.invokevirtual 152, 3) := by decide +kernel
theorem dX6_shows_33 : decode cX6_shows 33 = .ok (.goto 4, 3) := by decide +kernel
theorem dX6_shows_36 : decode cX6_shows 36 = .ok (.lload_n 2, 1) := by decide +kernel
theorem dX6_shows_37 : decode cX6_shows 37 = .ok (.lreturn, 1) := by decide +kernel
theorem dX6_set_0 : decode cX6_set 0 = .ok (.aload_n 0, 1) := by decide +kernel
theorem dX6_set_1 : decode cX6_set 1 = .ok (.iload_n 1, 1) := by decide +kernel
theorem dX6_set_2 : decode cX6_set 2 = .ok (.invokevirtual 129, 3) := by decide +kernel
theorem dX6_set_5 : decode cX6_set 5 = .ok (.ifCond .ne 5, 3) := by decide +kernel
theorem dX6_set_8 : decode cX6_set 8 = .ok (.iconst (-1), 1) := by decide +kernel
theorem dX6_set_9 : decode cX6_set 9 = .ok (.ireturn, 1) := by decide +kernel
theorem dX6_set_10 : decode cX6_set 10 = .ok (.lload_n 2, 1) := by decide +kernel
theorem dX6_set_11 : decode cX6_set 11 = .ok (.lconst 0, 1) := by decide +kernel
theorem dX6_set_12 : decode cX6_set 12 = .ok (.lcmp, 1) := by decide +kernel
theorem dX6_set_13 : decode cX6_set 13 = .ok (.ifCond .ge 6, 3) := by decide +kernel
theorem dX6_set_16 : decode cX6_set 16 = .ok (.bipush (-2), 2) := by decide +kernel
theorem dX6_set_18 : decode cX6_set 18 = .ok (.ireturn, 1) := by decide +kernel
theorem dX6_set_19 : decode cX6_set 19 = .ok (.lload_n 2, 1) := by decide +kernel
theorem dX6_set_20 : decode cX6_set 20 = .ok (.aload_n 0, 1) := by decide +kernel
theorem dX6_set_21 : decode cX6_set 21 = .ok (.getfield 16, 3) := by decide +kernel
theorem dX6_set_24 : decode cX6_set 24 = .ok (.iload_n 1, 1) := by decide +kernel
theorem dX6_set_25 : decode cX6_set 25 = .ok (.iaload, 1) := by decide +kernel
theorem dX6_set_26 : decode cX6_set 26 = .ok (.invokestatic 155, 3) := by decide +kernel
theorem dX6_set_29 : decode cX6_set 29 = .ok (.aload_n 0, 1) := by decide +kernel
theorem dX6_set_30 : decode cX6_set 30 = .ok (.getfield 13, 3) := by decide +kernel
theorem dX6_set_33 : decode cX6_set 33 = .ok (.iload_n 1, 1) := by decide +kernel
theorem dX6_set_34 : decode cX6_set 34 = .ok (.iaload, 1) := by decide +kernel
theorem dX6_set_35 : decode cX6_set 35 = .ok (.if_icmp .le 6, 3) := by decide +kernel
theorem dX6_set_38 : decode cX6_set 38 = .ok (.bipush (-3), 2) := by decide +kernel
theorem dX6_set_40 : decode cX6_set 40 = .ok (.ireturn, 1) := by decide +kernel
theorem dX6_set_41 : decode cX6_set 41 = .ok (.aload_n 0, 1) := by decide +kernel
theorem dX6_set_42 : decode cX6_set 42 = .ok (.iload_n 1, 1) := by decide +kernel
theorem dX6_set_43 : decode cX6_set 43 = .ok (.invokevirtual 148, 3) := by decide +kernel
theorem dX6_set_46 : decode cX6_set 46 = .ok (.lstore 4, 2) := by decide +kernel
theorem dX6_set_48 : decode cX6_set 48 = .ok (.aload_n 0, 1) := by decide +kernel
theorem dX6_set_49 : decode cX6_set 49 = .ok (.getfield 124, 3) := by decide +kernel
theorem dX6_set_52 : decode cX6_set 52 = .ok (.ifCond .le 12, 3) := by decide +kernel
theorem dX6_set_55 : decode cX6_set 55 = .ok (.aload_n 0, 1) := by decide +kernel
theorem dX6_set_56 : decode cX6_set 56 = .ok (.aload_n 0, 1) := by decide +kernel
theorem dX6_set_57 : decode cX6_set 57 = .ok (.getfield 124, 3) := by decide +kernel
theorem dX6_set_60 : decode cX6_set 60 = .ok (.invokevirtual 102, 3) := by decide +kernel
theorem dX6_set_63 : decode cX6_set 63 = .ok (.ireturn, 1) := by decide +kernel
theorem dX6_set_64 : decode cX6_set 64 = .ok (.lload_n 2, 1) := by decide +kernel
theorem dX6_set_65 : decode cX6_set 65 = .ok (.lstore 6, 2) := by decide +kernel
theorem dX6_set_67 : decode cX6_set 67 = .ok (.iconst 0, 1) := by decide +kernel
theorem dX6_set_68 : decode cX6_set 68 = .ok (.istore 8, 2) := by decide +kernel
theorem dX6_set_70 : decode cX6_set 70 = .ok (.iload 8, 2) := by decide +kernel
theorem dX6_set_72 : decode cX6_set 72 = .ok (.aload_n 0, 1) := by decide +kernel
theorem dX6_set_73 : decode cX6_set 73 = .ok (.getfield 13, 3) := by decide +kernel
theorem dX6_set_76 : decode cX6_set 76 = .ok (.iload_n 1, 1) := by decide +kernel
theorem dX6_set_77 : decode cX6_set 77 = .ok (.iaload, 1) := by decide +kernel
theorem dX6_set_78 : decode cX6_set 78 = .ok (.if_icmp .ge 43, 3) := by decide +kernel
theorem dX6_set_81 : decode cX6_set 81 = .ok (.aload_n 0, 1) := by decide +kernel
theorem dX6_set_82 : decode cX6_set 82 = .ok (.aload_n 0, 1) := by decide +kernel
theorem dX6_set_83 : decode cX6_set 83 = .ok (.iload_n 1, 1) := by decide +kernel
theorem dX6_set_84 : decode cX6_set 84 = .ok (.iload 8, 2) := by decide +kernel
theorem dX6_set_86 : decode cX6_set 86 = .ok (.invokevirtual 108, 3) := by decide +kernel
theorem dX6_set_89 : decode cX6_set 89 = .ok (.lload 6, 2) := by decide +kernel
theorem dX6_set_91 : decode cX6_set 91 = .ok (.aload_n 0, 1) := by decide +kernel
theorem dX6_set_92 : decode cX6_set 92 = .ok (.getfield 16, 3) := by decide +kernel
theorem dX6_set_95 : decode cX6_set 95 = .ok (.iload_n 1, 1) := by decide +kernel
theorem dX6_set_96 : decode cX6_set 96 = .ok (.iaload, 1) := by decide +kernel
theorem dX6_set_97 : decode cX6_set 97 = .ok (.i2l, 1) := by decide +kernel
theorem dX6_set_98 : decode cX6_set 98 = .ok (.lrem, 1) := by decide +kernel
theorem dX6_set_99 : decode cX6_set 99 = .ok (.l2i, 1) := by decide +kernel
theorem dX6_set_100 : decode cX6_set 100 = .ok (.invokevirtual 159, 3) := by decide +kernel
theorem dX6_set_103 : decode cX6_set 103 = .ok (.lload 6, 2) := by decide +kernel
theorem dX6_set_105 : decode cX6_set 105 = .ok (.aload_n 0, 1) := by decide +kernel
theorem dX6_set_106 : decode cX6_set 106 = .ok (.getfield 16, 3) := by decide +kernel
theorem dX6_set_109 : decode cX6_set 109 = .ok (.iload_n 1, 1) := by decide +kernel
theorem dX6_set_110 : decode cX6_set 110 = .ok (.iaload, 1) := by decide +kernel
theorem dX6_set_111 : decode cX6_set 111 = .ok (.i2l, 1) := by decide +kernel
theorem dX6_set_112 : decode cX6_set 112 = .ok (.ldiv, 1) := by decide +kernel
theorem dX6_set_113 : decode cX6_set 113 = .ok (.lstore 6, 2) := by decide +kernel
theorem dX6_set_115 : decode cX6_set 115 = .ok (.iinc 8 1, 3) := by decide +kernel
theorem dX6_set_118 : decode cX6_set 118 = .ok (.goto (-48), 3) := by decide +kernel
theorem dX6_set_121 : decode cX6_set 121 = .ok (.aload_n 0, 1) := by decide +kernel
theorem dX6_set_122 : decode cX6_set 122 = .ok (.iconst 1, 1) := by decide +kernel
theorem dX6_set_123 : decode cX6_set 123 = .ok (.putfield 137, 3) := by decide +kernel
theorem dX6_set_126 : decode cX6_set 126 = .ok (.iconst 1, 1) := by decide +kernel
theorem dX6_set_127 : decode cX6_set 127 = .ok (.ireturn, 1) := by decide +kernel
theorem dX6_proper_0 : decode cX6_proper 0 = .ok (.aload_n 0, 1) := by decide +kernel
theorem dX6_proper_1 : decode cX6_proper 1 = .ok (.iload_n 1, 1) := by decide +kernel
theorem dX6_proper_2 : decode cX6_proper 2 = .ok (.invokevirtual 129, 3) := by decide +kernel
theorem dX6_proper_5 : decode cX6_proper 5 = .ok (.ifCond .ne 7, 3) := by decide +kernel
theorem dX6_proper_8 : decode cX6_proper 8 = .ok (.iconst (-1), 1) := by decide +kernel
theorem dX6_proper_9 : decode cX6_proper 9 = .ok (.goto 16, 3) := by decide +kernel
theorem dX6_proper_12 : decode cX6_proper 12 = .ok (.aload_n 0, 1) := by decide +kernel
theorem dX6_proper_13 : decode cX6_proper 13 = .ok (.iload_n 1, 1) := by decide +kernel
theorem dX6_proper_14 : decode cX6_proper 14 = .ok (.invokevirtual 163, 3) := by decide +kernel
theorem dX6_proper_17 : decode cX6_proper 17 = .ok (.ifCond .eq 7, 3) := by decide +kernel
theorem dX6_proper_20 : decode cX6_proper 20 = .ok (.iconst 1, 1) := by decide +kernel
theorem dX6_proper_21 : decode cX6_proper 21 = .ok (.goto 4, 3) := by decide +kernel
theorem dX6_proper_24 : decode cX6_proper 24 = .ok (.iconst 0, 1) := by decide +kernel
theorem dX6_proper_25 : decode cX6_proper 25 = .ok (.ireturn, 1) := by decide +kernel
theorem dX6_size_0 : decode cX6_size 0 = .ok (.aload_n 0, 1) := by decide +kernel
theorem dX6_size_1 : decode cX6_size 1 = .ok (.iload_n 1, 1) := by decide +kernel
theorem dX6_size_2 : decode cX6_size 2 = .ok (.invokevirtual 129, 3) := by decide +kernel
theorem dX6_size_5 : decode cX6_size 5 = .ok (.ifCond .ne 5, 3) := by decide +kernel
theorem dX6_size_8 : decode cX6_size 8 = .ok (.iconst (-1), 1) := by decide +kernel
theorem dX6_size_9 : decode cX6_size 9 = .ok (.ireturn, 1) := by decide +kernel
theorem dX6_size_10 : decode cX6_size 10 = .ok (.iconst 0, 1) := by decide +kernel
theorem dX6_size_11 : decode cX6_size 11 = .ok (.istore_n 3, 1) := by decide +kernel
theorem dX6_size_12 : decode cX6_size 12 = .ok (.iconst 0, 1) := by decide +kernel
theorem dX6_size_13 : decode cX6_size 13 = .ok (.istore 4, 2) := by decide +kernel
theorem dX6_size_15 : decode cX6_size 15 = .ok (.iload 4, 2) := by decide +kernel
theorem dX6_size_17 : decode cX6_size 17 = .ok (.aload_n 0, 1) := by decide +kernel
theorem dX6_size_18 : decode cX6_size 18 = .ok (.getfield 13, 3) := by decide +kernel
theorem dX6_size_21 : decode cX6_size 21 = .ok (.iload_n 1, 1) := by decide +kernel
theorem dX6_size_22 : decode cX6_size 22 = .ok (.iaload, 1) := by decide +kernel
theorem dX6_size_23 : decode cX6_size 23 = .ok (.if_icmp .ge 27, 3) := by decide +kernel
theorem dX6_size_26 : decode cX6_size 26 = .ok (.iload_n 3, 1) := by decide +kernel
theorem dX6_size_27 : decode cX6_size 27 = .ok (.aload_n 0, 1) := by decide +kernel
theorem dX6_size_28 : decode cX6_size 28 = .ok (.iload_n 1, 1) := by decide +kernel
theorem dX6_size_29 : decode cX6_size 29 = .ok (.iload 4, 2) := by decide +kernel
theorem dX6_size_31 : decode cX6_size 31 = .ok (.invokevirtual 118, 3) := by decide +kernel
theorem dX6_size_34 : decode cX6_size 34 = .ok (.ifCond .ne 7, 3) := by decide +kernel
theorem dX6_size_37 : decode cX6_size 37 = .ok (.iconst 1, 1) := by decide +kernel
theorem dX6_size_38 : decode cX6_size 38 = .ok (.goto 4, 3) := by decide +kernel
theorem dX6_size_41 : decode cX6_size 41 = .ok (.iconst 0, 1) := by decide +kernel
theorem dX6_size_42 : decode cX6_size 42 = .ok (.iadd, 1) := by decide +kernel
theorem dX6_size_43 : decode cX6_size 43 = .ok (.istore_n 3, 1) := by decide +kernel
theorem dX6_size_44 : decode cX6_size 44 = .ok (.iinc 4 1, 3) := by decide +kernel
theorem dX6_size_47 : decode cX6_size 47 = .ok (.goto (-32), 3) := by decide +kernel
theorem dX6_size_50 : decode cX6_size 50 = .ok (.iload_n 2, 1) := by decide +kernel
theorem dX6_size_51 : decode cX6_size 51 = .ok (.tableswitch 63 0 4 #[33, 40, 47, 54, 56], 33) := by decide +kernel
theorem dX6_size_84 : decode cX6_size 84 = .ok (.aload_n 0, 1) := by decide +kernel
theorem dX6_size_85 : decode cX6_size 85 = .ok (.getfield 13, 3) := by decide +kernel
theorem dX6_size_88 : decode cX6_size 88 = .ok (.iload_n 1, 1) := by decide +kernel
theorem dX6_size_89 : decode cX6_size 89 = .ok (.iaload, 1) := by decide +kernel
theorem dX6_size_90 : decode cX6_size 90 = .ok (.ireturn, 1) := by decide +kernel
theorem dX6_size_91 : decode cX6_size 91 = .ok (.aload_n 0, 1) := by decide +kernel
theorem dX6_size_92 : decode cX6_size 92 = .ok (.getfield 7, 3) := by decide +kernel
theorem dX6_size_95 : decode cX6_size 95 = .ok (.iload_n 1, 1) := by decide +kernel
theorem dX6_size_96 : decode cX6_size 96 = .ok (.iaload, 1) := by decide +kernel
theorem dX6_size_97 : decode cX6_size 97 = .ok (.ireturn, 1) := by decide +kernel
theorem dX6_size_98 : decode cX6_size 98 = .ok (.aload_n 0, 1) := by decide +kernel
theorem dX6_size_99 : decode cX6_size 99 = .ok (.getfield 16, 3) := by decide +kernel
theorem dX6_size_102 : decode cX6_size 102 = .ok (.iload_n 1, 1) := by decide +kernel
theorem dX6_size_103 : decode cX6_size 103 = .ok (.iaload, 1) := by decide +kernel
theorem dX6_size_104 : decode cX6_size 104 = .ok (.ireturn, 1) := by decide +kernel
theorem dX6_size_105 : decode cX6_size 105 = .ok (.iload_n 3, 1) := by decide +kernel
theorem dX6_size_106 : decode cX6_size 106 = .ok (.ireturn, 1) := by decide +kernel
theorem dX6_size_107 : decode cX6_size 107 = .ok (.aload_n 0, 1) := by decide +kernel
theorem dX6_size_108 : decode cX6_size 108 = .ok (.getfield 19, 3) := by decide +kernel
theorem dX6_size_111 : decode cX6_size 111 = .ok (.iload_n 1, 1) := by decide +kernel
theorem dX6_size_112 : decode cX6_size 112 = .ok (.iaload, 1) := by decide +kernel
theorem dX6_size_113 : decode cX6_size 113 = .ok (.ireturn, 1) := by decide +kernel
theorem dX6_size_114 : decode cX6_size 114 = .ok (.bipush (-2), 2) := by decide +kernel
theorem dX6_size_116 : decode cX6_size 116 = .ok (.ireturn, 1) := by decide +kernel
theorem dX6_meant_0 : decode cX6_meant 0 = .ok (.aload_n 0, 1) := by decide +kernel
theorem dX6_meant_1 : decode cX6_meant 1 = .ok (.iload_n 1, 1) := by decide +kernel
theorem dX6_meant_2 : decode cX6_meant 2 = .ok (.invokevirtual 129, 3) := by decide +kernel
theorem dX6_meant_5 : decode cX6_meant 5 = .ok (.ifCond .ne 5, 3) := by decide +kernel
theorem dX6_meant_8 : decode cX6_meant 8 = .ok (.iconst (-1), 1) := by decide +kernel
theorem dX6_meant_9 : decode cX6_meant 9 = .ok (.ireturn, 1) := by decide +kernel
theorem dX6_meant_10 : decode cX6_meant 10 = .ok (.iload_n 2, 1) := by decide +kernel
theorem dX6_meant_11 : decode cX6_meant 11 = .ok (.i2l, 1) := by decide +kernel
theorem dX6_meant_12 : decode cX6_meant 12 = .ok (.lconst 0, 1) := by decide +kernel
theorem dX6_meant_13 : decode cX6_meant 13 = .ok (.ldc2_w 166, 3) := by decide +kernel
theorem dX6_meant_16 : decode cX6_meant 16 = .ok (.invokestatic 92, 3) := by decide +kernel
theorem dX6_meant_19 : decode cX6_meant 19 = .ok (.ifCond .ne 6, 3) := by decide +kernel
theorem dX6_meant_22 : decode cX6_meant 22 = .ok (.bipush (-2), 2) := by decide +kernel
theorem dX6_meant_24 : decode cX6_meant 24 = .ok (.ireturn, 1) := by decide +kernel
theorem dX6_meant_25 : decode cX6_meant 25 = .ok (.aload_n 0, 1) := by decide +kernel
theorem dX6_meant_26 : decode cX6_meant 26 = .ok (.getfield 7, 3) := by decide +kernel
theorem dX6_meant_29 : decode cX6_meant 29 = .ok (.iload_n 1, 1) := by decide +kernel
theorem dX6_meant_30 : decode cX6_meant 30 = .ok (.iaload, 1) := by decide +kernel
theorem dX6_meant_31 : decode cX6_meant 31 = .ok (.istore_n 3, 1) := by decide +kernel
theorem dX6_meant_32 : decode cX6_meant 32 = .ok (.iload_n 3, 1) := by decide +kernel
theorem dX6_meant_33 : decode cX6_meant 33 = .ok (.iload_n 2, 1) := by decide +kernel
theorem dX6_meant_34 : decode cX6_meant 34 = .ok (.if_icmp .eq 26, 3) := by decide +kernel
theorem dX6_meant_37 : decode cX6_meant 37 = .ok (.iload_n 3, 1) := by decide +kernel
theorem dX6_meant_38 : decode cX6_meant 38 = .ok (.iconst 1, 1) := by decide +kernel
theorem dX6_meant_39 : decode cX6_meant 39 = .ok (.if_icmp .ne 7, 3) := by decide +kernel
theorem dX6_meant_42 : decode cX6_meant 42 = .ok (.iload_n 2, 1) := by decide +kernel
theorem dX6_meant_43 : decode cX6_meant 43 = .ok (.ifCond .eq 17, 3) := by decide +kernel
theorem dX6_meant_46 : decode cX6_meant 46 = .ok (.iload_n 3, 1) := by decide +kernel
theorem dX6_meant_47 : decode cX6_meant 47 = .ok (.iconst 3, 1) := by decide +kernel
theorem dX6_meant_48 : decode cX6_meant 48 = .ok (.if_icmp .ne 16, 3) := by decide +kernel
theorem dX6_meant_51 : decode cX6_meant 51 = .ok (.iload_n 2, 1) := by decide +kernel
theorem dX6_meant_52 : decode cX6_meant 52 = .ok (.iconst 1, 1) := by decide +kernel
theorem dX6_meant_53 : decode cX6_meant 53 = .ok (.if_icmp .eq 7, 3) := by decide +kernel
theorem dX6_meant_56 : decode cX6_meant 56 = .ok (.iload_n 2, 1) := by decide +kernel
theorem dX6_meant_57 : decode cX6_meant 57 = .ok (.ifCond .ne 7, 3) := by decide +kernel
theorem dX6_meant_60 : decode cX6_meant 60 = .ok (.iconst 1, 1) := by decide +kernel
theorem dX6_meant_61 : decode cX6_meant 61 = .ok (.goto 4, 3) := by decide +kernel
theorem dX6_meant_64 : decode cX6_meant 64 = .ok (.iconst 0, 1) := by decide +kernel
theorem dX6_meant_65 : decode cX6_meant 65 = .ok (.istore 4, 2) := by decide +kernel
theorem dX6_meant_67 : decode cX6_meant 67 = .ok (.iload 4, 2) := by decide +kernel
theorem dX6_meant_69 : decode cX6_meant 69 = .ok (.ifCond .eq 7, 3) := by decide +kernel
theorem dX6_meant_72 : decode cX6_meant 72 = .ok (.iconst 1, 1) := by decide +kernel
theorem dX6_meant_73 : decode cX6_meant 73 = .ok (.goto 8, 3) := by decide +kernel
theorem dX6_meant_76 : decode cX6_meant 76 = .ok (.aload_n 0, 1) := by decide +kernel
theorem dX6_meant_77 : decode cX6_meant 77 = .ok (.iconst 3, 1) := by decide +kernel
theorem dX6_meant_78 : decode cX6_meant 78 = .ok (.invokevirtual 102, 3) := by decide +kernel
theorem dX6_meant_81 : decode cX6_meant 81 = .ok (.ireturn, 1) := by decide +kernel
theorem dX6_body_0 : decode cX6_body 0 = .ok (.aload_n 0, 1) := by decide +kernel
theorem dX6_body_1 : decode cX6_body 1 = .ok (.bipush 31, 2) := by decide +kernel
theorem dX6_body_3 : decode cX6_body 3 = .ok (.aload_n 0, 1) := by decide +kernel
theorem dX6_body_4 : decode cX6_body 4 = .ok (.getfield 168, 3) := by decide +kernel
theorem dX6_body_7 : decode cX6_body 7 = .ok (.imul, 1) := by decide +kernel
theorem dX6_body_8 : decode cX6_body 8 = .ok (.iload_n 1, 1) := by decide +kernel
theorem dX6_body_9 : decode cX6_body 9 = .ok (.iadd, 1) := by decide +kernel
theorem dX6_body_10 : decode cX6_body 10 = .ok (.putfield 168, 3) := by decide +kernel
theorem dX6_body_13 : decode cX6_body 13 = .ok (.return_, 1) := by decide +kernel
theorem dX6_askedBase_0 : decode cX6_askedBase 0 = .ok (.iload_n 1, 1) := by decide +kernel
theorem dX6_askedBase_1 : decode cX6_askedBase 1 = .ok (.istore_n 2, 1) := by decide +kernel
theorem dX6_askedBase_2 : decode cX6_askedBase 2 = .ok (.aload_n 0, 1) := by decide +kernel
theorem dX6_askedBase_3 : decode cX6_askedBase 3 = .ok (.getfield 7, 3) := by decide +kernel
theorem dX6_askedBase_6 : decode cX6_askedBase 6 = .ok (.iload_n 2, 1) := by decide +kernel
theorem dX6_askedBase_7 : decode cX6_askedBase 7 = .ok (.iaload, 1) := by decide +kernel
theorem dX6_askedBase_8 : decode cX6_askedBase 8 = .ok (.iconst 4, 1) := by decide +kernel
theorem dX6_askedBase_9 : decode cX6_askedBase 9 = .ok (.if_icmp .ne 18, 3) := by decide +kernel
theorem dX6_askedBase_12 : decode cX6_askedBase 12 = .ok (.aload_n 0, 1) := by decide +kernel
theorem dX6_askedBase_13 : decode cX6_askedBase 13 = .ok (.iconst 3, 1) := by decide +kernel
theorem dX6_askedBase_14 : decode cX6_askedBase 14 = .ok (.invokevirtual 171, 3) := by decide +kernel
theorem dX6_askedBase_17 : decode cX6_askedBase 17 = .ok (.aload_n 0, 1) := by decide +kernel
theorem dX6_askedBase_18 : decode cX6_askedBase 18 = .ok (.getfield 22, 3) := by decide +kernel
theorem dX6_askedBase_21 : decode cX6_askedBase 21 = .ok (.iload_n 2, 1) := by decide +kernel
theorem dX6_askedBase_22 : decode cX6_askedBase 22 = .ok (.iaload, 1) := by decide +kernel
theorem dX6_askedBase_23 : decode cX6_askedBase 23 = .ok (.istore_n 2, 1) := by decide +kernel
theorem dX6_askedBase_24 : decode cX6_askedBase 24 = .ok (.goto (-22), 3) := by decide +kernel
theorem dX6_askedBase_27 : decode cX6_askedBase 27 = .ok (.aload_n 0, 1) := by decide +kernel
theorem dX6_askedBase_28 : decode cX6_askedBase 28 = .ok (.aload_n 0, 1) := by decide +kernel
theorem dX6_askedBase_29 : decode cX6_askedBase 29 = .ok (.getfield 7, 3) := by decide +kernel
theorem dX6_askedBase_32 : decode cX6_askedBase 32 = .ok (.iload_n 2, 1) := by decide +kernel
theorem dX6_askedBase_33 : decode cX6_askedBase 33 = .ok (.iaload, 1) := by decide +kernel
theorem dX6_askedBase_34 : decode cX6_askedBase 34 = .ok (.iconst 3, 1) := by decide +kernel
theorem dX6_askedBase_35 : decode cX6_askedBase 35 = .ok (.if_icmp .ne 7, 3) := by decide +kernel
theorem dX6_askedBase_38 : decode cX6_askedBase 38 = .ok (.iconst 2, 1) := by decide +kernel
theorem dX6_askedBase_39 : decode cX6_askedBase 39 = .ok (.goto 4, 3) := by decide +kernel
theorem dX6_askedBase_42 : decode cX6_askedBase 42 = .ok (.iconst 1, 1) := by decide +kernel
theorem dX6_askedBase_43 : decode cX6_askedBase 43 = .ok (.invokevirtual 171, 3) := by decide +kernel
theorem dX6_askedBase_46 : decode cX6_askedBase 46 = .ok (.aload_n 0, 1) := by decide +kernel
theorem dX6_askedBase_47 : decode cX6_askedBase 47 = .ok (.getfield 7, 3) := by decide +kernel
theorem dX6_askedBase_50 : decode cX6_askedBase 50 = .ok (.iload_n 2, 1) := by decide +kernel
theorem dX6_askedBase_51 : decode cX6_askedBase 51 = .ok (.iaload, 1) := by decide +kernel
theorem dX6_askedBase_52 : decode cX6_askedBase 52 = .ok (.iconst 3, 1) := by decide +kernel
theorem dX6_askedBase_53 : decode cX6_askedBase 53 = .ok (.if_icmp .ne 8, 3) := by decide +kernel
theorem dX6_askedBase_56 : decode cX6_askedBase 56 = .ok (.bipush 16, 2) := by decide +kernel
theorem dX6_askedBase_58 : decode cX6_askedBase 58 = .ok (.goto 5, 3) := by decide +kernel
theorem dX6_askedBase_61 : decode cX6_askedBase 61 = .ok (.bipush 10, 2) := by decide +kernel
theorem dX6_askedBase_63 : decode cX6_askedBase 63 = .ok (.ireturn, 1) := by decide +kernel
theorem dX6_askedBeads_0 : decode cX6_askedBeads 0 = .ok (.aload_n 0, 1) := by decide +kernel
theorem dX6_askedBeads_1 : decode cX6_askedBeads 1 = .ok (.getfield 7, 3) := by decide +kernel
theorem dX6_askedBeads_4 : decode cX6_askedBeads 4 = .ok (.iload_n 1, 1) := by decide +kernel
theorem dX6_askedBeads_5 : decode cX6_askedBeads 5 = .ok (.iaload, 1) := by decide +kernel
theorem dX6_askedBeads_6 : decode cX6_askedBeads 6 = .ok (.iconst 2, 1) := by decide +kernel
theorem dX6_askedBeads_7 : decode cX6_askedBeads 7 = .ok (.if_icmp .ne 12, 3) := by decide +kernel
theorem dX6_askedBeads_10 : decode cX6_askedBeads 10 = .ok (.aload_n 0, 1) := by decide +kernel
theorem dX6_askedBeads_11 : decode cX6_askedBeads 11 = .ok (.bipush 6, 2) := by decide +kernel
theorem dX6_askedBeads_13 : decode cX6_askedBeads 13 = .ok (.invokevirtual 171, 3) := by decide +kernel
theorem dX6_askedBeads_16 : decode cX6_askedBeads 16 = .ok (.bipush 10, 2) := by decide +kernel
theorem dX6_askedBeads_18 : decode cX6_askedBeads 18 = .ok (.ireturn, 1) := by decide +kernel
theorem dX6_askedBeads_19 : decode cX6_askedBeads 19 = .ok (.aload_n 0, 1) := by decide +kernel
theorem dX6_askedBeads_20 : decode cX6_askedBeads 20 = .ok (.getfield 7, 3) := by decide +kernel
theorem dX6_askedBeads_23 : decode cX6_askedBeads 23 = .ok (.iload_n 1, 1) := by decide +kernel
theorem dX6_askedBeads_24 : decode cX6_askedBeads 24 = .ok (.iaload, 1) := by decide +kernel
theorem dX6_askedBeads_25 : decode cX6_askedBeads 25 = .ok (.ifCond .eq 7, 3) := by decide +kernel
theorem dX6_askedBeads_28 : decode cX6_askedBeads 28 = .ok (.iconst 1, 1) := by decide +kernel
theorem dX6_askedBeads_29 : decode cX6_askedBeads 29 = .ok (.goto 4, 3) := by decide +kernel
theorem dX6_askedBeads_32 : decode cX6_askedBeads 32 = .ok (.iconst 0, 1) := by decide +kernel
theorem dX6_askedBeads_33 : decode cX6_askedBeads 33 = .ok (.istore_n 2, 1) := by decide +kernel
theorem dX6_askedBeads_34 : decode cX6_askedBeads 34 = .ok (.iload_n 2, 1) := by decide +kernel
theorem dX6_askedBeads_35 : decode cX6_askedBeads 35 = .ok (.ifCond .eq 8, 3) := by decide +kernel
theorem dX6_askedBeads_38 : decode cX6_askedBeads 38 = .ok (.aload_n 0, 1) := by decide +kernel
theorem dX6_askedBeads_39 : decode cX6_askedBeads 39 = .ok (.iconst 5, 1) := by decide +kernel
theorem dX6_askedBeads_40 : decode cX6_askedBeads 40 = .ok (.invokevirtual 171, 3) := by decide +kernel
theorem dX6_askedBeads_43 : decode cX6_askedBeads 43 = .ok (.aload_n 0, 1) := by decide +kernel
theorem dX6_askedBeads_44 : decode cX6_askedBeads 44 = .ok (.iconst 4, 1) := by decide +kernel
theorem dX6_askedBeads_45 : decode cX6_askedBeads 45 = .ok (.invokevirtual 171, 3) := by decide +kernel
theorem dX6_askedBeads_48 : decode cX6_askedBeads 48 = .ok (.iload_n 2, 1) := by decide +kernel
theorem dX6_askedBeads_49 : decode cX6_askedBeads 49 = .ok (.ifCond .eq 8, 3) := by decide +kernel
theorem dX6_askedBeads_52 : decode cX6_askedBeads 52 = .ok (.bipush 7, 2) := by decide +kernel
theorem dX6_askedBeads_54 : decode cX6_askedBeads 54 = .ok (.goto 4, 3) := by decide +kernel
theorem dX6_askedBeads_57 : decode cX6_askedBeads 57 = .ok (.iconst 5, 1) := by decide +kernel
theorem dX6_askedBeads_58 : decode cX6_askedBeads 58 = .ok (.ireturn, 1) := by decide +kernel
theorem dX6_askedCarry_0 : decode cX6_askedCarry 0 = .ok (.iconst 1, 1) := by decide +kernel
theorem dX6_askedCarry_1 : decode cX6_askedCarry 1 = .ok (.istore_n 2, 1) := by decide +kernel
theorem dX6_askedCarry_2 : decode cX6_askedCarry 2 = .ok (.iconst 0, 1) := by decide +kernel
theorem dX6_askedCarry_3 : decode cX6_askedCarry 3 = .ok (.istore_n 3, 1) := by decide +kernel
theorem dX6_askedCarry_4 : decode cX6_askedCarry 4 = .ok (.aload_n 0, 1) := by decide +kernel
theorem dX6_askedCarry_5 : decode cX6_askedCarry 5 = .ok (.getfield 43, 3) := by decide +kernel
theorem dX6_askedCarry_8 : decode cX6_askedCarry 8 = .ok (.iconst 0, 1) := by decide +kernel
theorem dX6_askedCarry_9 : decode cX6_askedCarry 9 = .ok (.iload_n 1, 1) := by decide +kernel
theorem dX6_askedCarry_10 : decode cX6_askedCarry 10 = .ok (.iastore, 1) := by decide +kernel
theorem dX6_askedCarry_11 : decode cX6_askedCarry 11 = .ok (.iload_n 2, 1) := by decide +kernel
theorem dX6_askedCarry_12 : decode cX6_askedCarry 12 = .ok (.ifCond .le 132, 3) := by decide +kernel
theorem dX6_askedCarry_15 : decode cX6_askedCarry 15 = .ok (.iinc 2 (-1), 3) := by decide +kernel
theorem dX6_askedCarry_18 : decode cX6_askedCarry 18 = .ok (.aload_n 0, 1) := by decide +kernel
theorem dX6_askedCarry_19 : decode cX6_askedCarry 19 = .ok (.getfield 43, 3) := by decide +kernel
theorem dX6_askedCarry_22 : decode cX6_askedCarry 22 = .ok (.iload_n 2, 1) := by decide +kernel
theorem dX6_askedCarry_23 : decode cX6_askedCarry 23 = .ok (.iaload, 1) := by decide +kernel
theorem dX6_askedCarry_24 : decode cX6_askedCarry 24 = .ok (.istore 4, 2) := by decide +kernel
theorem dX6_askedCarry_26 : decode cX6_askedCarry 26 = .ok (.aload_n 0, 1) := by decide +kernel
theorem dX6_askedCarry_27 : decode cX6_askedCarry 27 = .ok (.getfield 7, 3) := by decide +kernel
theorem dX6_askedCarry_30 : decode cX6_askedCarry 30 = .ok (.iload 4, 2) := by decide +kernel
theorem dX6_askedCarry_32 : decode cX6_askedCarry 32 = .ok (.iaload, 1) := by decide +kernel
theorem dX6_askedCarry_33 : decode cX6_askedCarry 33 = .ok (.iconst 2, 1) := by decide +kernel
theorem dX6_askedCarry_34 : decode cX6_askedCarry 34 = .ok (.if_icmp .ne 9, 3) := by decide +kernel
theorem dX6_askedCarry_37 : decode cX6_askedCarry 37 = .ok (.aload_n 0, 1) := by decide +kernel
theorem dX6_askedCarry_38 : decode cX6_askedCarry 38 = .ok (.iconst 3, 1) := by decide +kernel
theorem dX6_askedCarry_39 : decode cX6_askedCarry 39 = .ok (.invokevirtual 102, 3) := by decide +kernel
theorem dX6_askedCarry_42 : decode cX6_askedCarry 42 = .ok (.ireturn, 1) := by decide +kernel
theorem dX6_askedCarry_43 : decode cX6_askedCarry 43 = .ok (.aload_n 0, 1) := by decide +kernel
theorem dX6_askedCarry_44 : decode cX6_askedCarry 44 = .ok (.getfield 7, 3) := by decide +kernel
theorem dX6_askedCarry_47 : decode cX6_askedCarry 47 = .ok (.iload 4, 2) := by decide +kernel
theorem dX6_askedCarry_49 : decode cX6_askedCarry 49 = .ok (.iaload, 1) := by decide +kernel
theorem dX6_askedCarry_50 : decode cX6_askedCarry 50 = .ok (.iconst 4, 1) := by decide +kernel
theorem dX6_askedCarry_51 : decode cX6_askedCarry 51 = .ok (.if_icmp .ne 43, 3) := by decide +kernel
theorem dX6_askedCarry_54 : decode cX6_askedCarry 54 = .ok (.aload_n 0, 1) := by decide +kernel
theorem dX6_askedCarry_55 : decode cX6_askedCarry 55 = .ok (.bipush 9, 2) := by decide +kernel
theorem dX6_askedCarry_57 : decode cX6_askedCarry 57 = .ok (.invokevirtual 171, 3) := by decide +kernel
theorem dX6_askedCarry_60 : decode cX6_askedCarry 60 = .ok (.aload_n 0, 1) := by decide +kernel
theorem dX6_askedCarry_61 : decode cX6_askedCarry 61 = .ok (.getfield 43, 3) := by decide +kernel
theorem dX6_askedCarry_64 : decode cX6_askedCarry 64 = .ok (.iload_n 2, 1) := by decide +kernel
theorem dX6_askedCarry_65 : decode cX6_askedCarry 65 = .ok (.aload_n 0, 1) := by decide +kernel
theorem dX6_askedCarry_66 : decode cX6_askedCarry 66 = .ok (.getfield 25, 3) := by decide +kernel
theorem dX6_askedCarry_69 : decode cX6_askedCarry 69 = .ok (.iload 4, 2) := by decide +kernel
theorem dX6_askedCarry_71 : decode cX6_askedCarry 71 = .ok (.iaload, 1) := by decide +kernel
theorem dX6_askedCarry_72 : decode cX6_askedCarry 72 = .ok (.iastore, 1) := by decide +kernel
theorem dX6_askedCarry_73 : decode cX6_askedCarry 73 = .ok (.aload_n 0, 1) := by decide +kernel
theorem dX6_askedCarry_74 : decode cX6_askedCarry 74 = .ok (.getfield 43, 3) := by decide +kernel
theorem dX6_askedCarry_77 : decode cX6_askedCarry 77 = .ok (.iload_n 2, 1) := by decide +kernel
theorem dX6_askedCarry_78 : decode cX6_askedCarry 78 = .ok (.iconst 1, 1) := by decide +kernel
theorem dX6_askedCarry_79 : decode cX6_askedCarry 79 = .ok (.iadd, 1) := by decide +kernel
theorem dX6_askedCarry_80 : decode cX6_askedCarry 80 = .ok (.aload_n 0, 1) := by decide +kernel
theorem dX6_askedCarry_81 : decode cX6_askedCarry 81 = .ok (.getfield 22, 3) := by decide +kernel
theorem dX6_askedCarry_84 : decode cX6_askedCarry 84 = .ok (.iload 4, 2) := by decide +kernel
theorem dX6_askedCarry_86 : decode cX6_askedCarry 86 = .ok (.iaload, 1) := by decide +kernel
theorem dX6_askedCarry_87 : decode cX6_askedCarry 87 = .ok (.iastore, 1) := by decide +kernel
theorem dX6_askedCarry_88 : decode cX6_askedCarry 88 = .ok (.iinc 2 2, 3) := by decide +kernel
theorem dX6_askedCarry_91 : decode cX6_askedCarry 91 = .ok (.goto 50, 3) := by decide +kernel
theorem dX6_askedCarry_94 : decode cX6_askedCarry 94 = .ok (.aload_n 0, 1) := by decide +kernel
theorem dX6_askedCarry_95 : decode cX6_askedCarry 95 = .ok (.getfield 7, 3) := by decide +kernel
theorem dX6_askedCarry_98 : decode cX6_askedCarry 98 = .ok (.iload 4, 2) := by decide +kernel
theorem dX6_askedCarry_100 : decode cX6_askedCarry 100 = .ok (.iaload, 1) := by decide +kernel
theorem dX6_askedCarry_101 : decode cX6_askedCarry 101 = .ok (.ifCond .ne 23, 3) := by decide +kernel
theorem dX6_askedCarry_104 : decode cX6_askedCarry 104 = .ok (.aload_n 0, 1) := by decide +kernel
theorem dX6_askedCarry_105 : decode cX6_askedCarry 105 = .ok (.bipush 7, 2) := by decide +kernel
theorem dX6_askedCarry_107 : decode cX6_askedCarry 107 = .ok (.invokevirtual 171, 3) := by decide +kernel
theorem dX6_askedCarry_110 : decode cX6_askedCarry 110 = .ok (.iload_n 3, 1) := by decide +kernel
theorem dX6_askedCarry_111 : decode cX6_askedCarry 111 = .ok (.aload_n 0, 1) := by decide +kernel
theorem dX6_askedCarry_112 : decode cX6_askedCarry 112 = .ok (.iload 4, 2) := by decide +kernel
theorem dX6_askedCarry_114 : decode cX6_askedCarry 114 = .ok (.invokevirtual 175, 3) := by decide +kernel
theorem dX6_askedCarry_117 : decode cX6_askedCarry 117 = .ok (.iconst 1, 1) := by decide +kernel
theorem dX6_askedCarry_118 : decode cX6_askedCarry 118 = .ok (.isub, 1) := by decide +kernel
theorem dX6_askedCarry_119 : decode cX6_askedCarry 119 = .ok (.iadd, 1) := by decide +kernel
theorem dX6_askedCarry_120 : decode cX6_askedCarry 120 = .ok (.istore_n 3, 1) := by decide +kernel
theorem dX6_askedCarry_121 : decode cX6_askedCarry 121 = .ok (.goto 20, 3) := by decide +kernel
theorem dX6_askedCarry_124 : decode cX6_askedCarry 124 = .ok (.aload_n 0, 1) := by decide +kernel
theorem dX6_askedCarry_125 : decode cX6_askedCarry 125 = .ok (.bipush 8, 2) := by decide +kernel
theorem dX6_askedCarry_127 : decode cX6_askedCarry 127 = .ok (.invokevirtual 171, 3) := by decide +kernel
theorem dX6_askedCarry_130 : decode cX6_askedCarry 130 = .ok (.iload_n 3, 1) := by decide +kernel
theorem dX6_askedCarry_131 : decode cX6_askedCarry 131 = .ok (.iconst 5, 1) := by decide +kernel
theorem dX6_askedCarry_132 : decode cX6_askedCarry 132 = .ok (.aload_n 0, 1) := by decide +kernel
theorem dX6_askedCarry_133 : decode cX6_askedCarry 133 = .ok (.iload 4, 2) := by decide +kernel
theorem dX6_askedCarry_135 : decode cX6_askedCarry 135 = .ok (.invokevirtual 178, 3) := by decide +kernel
theorem dX6_askedCarry_138 : decode cX6_askedCarry 138 = .ok (.iadd, 1) := by decide +kernel
theorem dX6_askedCarry_139 : decode cX6_askedCarry 139 = .ok (.iadd, 1) := by decide +kernel
theorem dX6_askedCarry_140 : decode cX6_askedCarry 140 = .ok (.istore_n 3, 1) := by decide +kernel
theorem dX6_askedCarry_141 : decode cX6_askedCarry 141 = .ok (.goto (-130), 3) := by decide +kernel
theorem dX6_askedCarry_144 : decode cX6_askedCarry 144 = .ok (.iload_n 3, 1) := by decide +kernel
theorem dX6_askedCarry_145 : decode cX6_askedCarry 145 = .ok (.ireturn, 1) := by decide +kernel
theorem dX6_askedJudge_0 : decode cX6_askedJudge 0 = .ok (.aload_n 0, 1) := by decide +kernel
theorem dX6_askedJudge_1 : decode cX6_askedJudge 1 = .ok (.getfield 7, 3) := by decide +kernel
theorem dX6_askedJudge_4 : decode cX6_askedJudge 4 = .ok (.iload_n 1, 1) := by decide +kernel
theorem dX6_askedJudge_5 : decode cX6_askedJudge 5 = .ok (.iaload, 1) := by decide +kernel
theorem dX6_askedJudge_6 : decode cX6_askedJudge 6 = .ok (.iconst 3, 1) := by decide +kernel
theorem dX6_askedJudge_7 : decode cX6_askedJudge 7 = .ok (.if_icmp .ne 9, 3) := by decide +kernel
theorem dX6_askedJudge_10 : decode cX6_askedJudge 10 = .ok (.aload_n 0, 1) := by decide +kernel
theorem dX6_askedJudge_11 : decode cX6_askedJudge 11 = .ok (.bipush 12, 2) := by decide +kernel
theorem dX6_askedJudge_13 : decode cX6_askedJudge 13 = .ok (.invokevirtual 171, 3) := by decide +kernel
theorem dX6_askedJudge_16 : decode cX6_askedJudge 16 = .ok (.aload_n 0, 1) := by decide +kernel
theorem dX6_askedJudge_17 : decode cX6_askedJudge 17 = .ok (.getfield 7, 3) := by decide +kernel
theorem dX6_askedJudge_20 : decode cX6_askedJudge 20 = .ok (.iload_n 1, 1) := by decide +kernel
theorem dX6_askedJudge_21 : decode cX6_askedJudge 21 = .ok (.iaload, 1) := by decide +kernel
theorem dX6_askedJudge_22 : decode cX6_askedJudge 22 = .ok (.ifCond .eq 9, 3) := by decide +kernel
theorem dX6_askedJudge_25 : decode cX6_askedJudge 25 = .ok (.aload_n 0, 1) := by decide +kernel
theorem dX6_askedJudge_26 : decode cX6_askedJudge 26 = .ok (.bipush 11, 2) := by decide +kernel
theorem dX6_askedJudge_28 : decode cX6_askedJudge 28 = .ok (.invokevirtual 171, 3) := by decide +kernel
theorem dX6_askedJudge_31 : decode cX6_askedJudge 31 = .ok (.aload_n 0, 1) := by decide +kernel
theorem dX6_askedJudge_32 : decode cX6_askedJudge 32 = .ok (.bipush 10, 2) := by decide +kernel
theorem dX6_askedJudge_34 : decode cX6_askedJudge 34 = .ok (.invokevirtual 171, 3) := by decide +kernel
theorem dX6_askedJudge_37 : decode cX6_askedJudge 37 = .ok (.aload_n 0, 1) := by decide +kernel
theorem dX6_askedJudge_38 : decode cX6_askedJudge 38 = .ok (.getfield 7, 3) := by decide +kernel
theorem dX6_askedJudge_41 : decode cX6_askedJudge 41 = .ok (.iload_n 1, 1) := by decide +kernel
theorem dX6_askedJudge_42 : decode cX6_askedJudge 42 = .ok (.iaload, 1) := by decide +kernel
theorem dX6_askedJudge_43 : decode cX6_askedJudge 43 = .ok (.ifCond .ne 12, 3) := by decide +kernel
theorem dX6_askedJudge_46 : decode cX6_askedJudge 46 = .ok (.aload_n 0, 1) := by decide +kernel
theorem dX6_askedJudge_47 : decode cX6_askedJudge 47 = .ok (.getfield 13, 3) := by decide +kernel
theorem dX6_askedJudge_50 : decode cX6_askedJudge 50 = .ok (.iload_n 1, 1) := by decide +kernel
theorem dX6_askedJudge_51 : decode cX6_askedJudge 51 = .ok (.iaload, 1) := by decide +kernel
theorem dX6_askedJudge_52 : decode cX6_askedJudge 52 = .ok (.goto 34, 3) := by decide +kernel
theorem dX6_askedJudge_55 : decode cX6_askedJudge 55 = .ok (.aload_n 0, 1) := by decide +kernel
theorem dX6_askedJudge_56 : decode cX6_askedJudge 56 = .ok (.getfield 7, 3) := by decide +kernel
theorem dX6_askedJudge_59 : decode cX6_askedJudge 59 = .ok (.iload_n 1, 1) := by decide +kernel
theorem dX6_askedJudge_60 : decode cX6_askedJudge 60 = .ok (.iaload, 1) := by decide +kernel
theorem dX6_askedJudge_61 : decode cX6_askedJudge 61 = .ok (.iconst 1, 1) := by decide +kernel
theorem dX6_askedJudge_62 : decode cX6_askedJudge 62 = .ok (.if_icmp .ne 14, 3) := by decide +kernel
theorem dX6_askedJudge_65 : decode cX6_askedJudge 65 = .ok (.iconst 2, 1) := by decide +kernel
theorem dX6_askedJudge_66 : decode cX6_askedJudge 66 = .ok (.aload_n 0, 1) := by decide +kernel
theorem dX6_askedJudge_67 : decode cX6_askedJudge 67 = .ok (.getfield 13, 3) := by decide +kernel
theorem dX6_askedJudge_70 : decode cX6_askedJudge 70 = .ok (.iload_n 1, 1) := by decide +kernel
theorem dX6_askedJudge_71 : decode cX6_askedJudge 71 = .ok (.iaload, 1) := by decide +kernel
theorem dX6_askedJudge_72 : decode cX6_askedJudge 72 = .ok (.imul, 1) := by decide +kernel
theorem dX6_askedJudge_73 : decode cX6_askedJudge 73 = .ok (.goto 13, 3) := by decide +kernel
theorem dX6_askedJudge_76 : decode cX6_askedJudge 76 = .ok (.iconst 2, 1) := by decide +kernel
theorem dX6_askedJudge_77 : decode cX6_askedJudge 77 = .ok (.aload_n 0, 1) := by decide +kernel
theorem dX6_askedJudge_78 : decode cX6_askedJudge 78 = .ok (.getfield 13, 3) := by decide +kernel
theorem dX6_askedJudge_81 : decode cX6_askedJudge 81 = .ok (.iload_n 1, 1) := by decide +kernel
theorem dX6_askedJudge_82 : decode cX6_askedJudge 82 = .ok (.iaload, 1) := by decide +kernel
theorem dX6_askedJudge_83 : decode cX6_askedJudge 83 = .ok (.imul, 1) := by decide +kernel
theorem dX6_askedJudge_84 : decode cX6_askedJudge 84 = .ok (.iconst 1, 1) := by decide +kernel
theorem dX6_askedJudge_85 : decode cX6_askedJudge 85 = .ok (.iadd, 1) := by decide +kernel
theorem dX6_askedJudge_86 : decode cX6_askedJudge 86 = .ok (.ireturn, 1) := by decide +kernel
theorem dX6_asks_0 : decode cX6_asks 0 = .ok (.aload_n 0, 1) := by decide +kernel
theorem dX6_asks_1 : decode cX6_asks 1 = .ok (.iload_n 1, 1) := by decide +kernel
theorem dX6_asks_2 : decode cX6_asks 2 = .ok (.invokevirtual 129, 3) := by decide +kernel
theorem dX6_asks_5 : decode cX6_asks 5 = .ok (.ifCond .ne 5, 3) := by decide +kernel
theorem dX6_asks_8 : decode cX6_asks 8 = .ok (.iconst (-1), 1) := by decide +kernel
theorem dX6_asks_9 : decode cX6_asks 9 = .ok (.ireturn, 1) := by decide +kernel
theorem dX6_asks_10 : decode cX6_asks 10 = .ok (.iload_n 2, 1) := by decide +kernel
theorem dX6_asks_11 : decode cX6_asks 11 = .ok (.tableswitch 99 0 3 #[29, 35, 59, 65], 29) := by decide +kernel
theorem dX6_asks_40 : decode cX6_asks 40 = .ok (.aload_n 0, 1) := by decide +kernel
theorem dX6_asks_41 : decode cX6_asks 41 = .ok (.iload_n 1, 1) := by decide +kernel
theorem dX6_asks_42 : decode cX6_asks 42 = .ok (.invokevirtual 175, 3) := by decide +kernel
theorem dX6_asks_45 : decode cX6_asks 45 = .ok (.ireturn, 1) := by decide +kernel
theorem dX6_asks_46 : decode cX6_asks 46 = .ok (.aload_n 0, 1) := by decide +kernel
theorem dX6_asks_47 : decode cX6_asks 47 = .ok (.getfield 7, 3) := by decide +kernel
theorem dX6_asks_50 : decode cX6_asks 50 = .ok (.iload_n 1, 1) := by decide +kernel
theorem dX6_asks_51 : decode cX6_asks 51 = .ok (.iaload, 1) := by decide +kernel
theorem dX6_asks_52 : decode cX6_asks 52 = .ok (.iconst 4, 1) := by decide +kernel
theorem dX6_asks_53 : decode cX6_asks 53 = .ok (.if_icmp .ne 11, 3) := by decide +kernel
theorem dX6_asks_56 : decode cX6_asks 56 = .ok (.aload_n 0, 1) := by decide +kernel
theorem dX6_asks_57 : decode cX6_asks 57 = .ok (.iconst 3, 1) := by decide +kernel
theorem dX6_asks_58 : decode cX6_asks 58 = .ok (.invokevirtual 102, 3) := by decide +kernel
theorem dX6_asks_61 : decode cX6_asks 61 = .ok (.goto 8, 3) := by decide +kernel
theorem dX6_asks_64 : decode cX6_asks 64 = .ok (.aload_n 0, 1) := by decide +kernel
theorem dX6_asks_65 : decode cX6_asks 65 = .ok (.iload_n 1, 1) := by decide +kernel
theorem dX6_asks_66 : decode cX6_asks 66 = .ok (.invokevirtual 178, 3) := by decide +kernel
theorem dX6_asks_69 : decode cX6_asks 69 = .ok (.ireturn, 1) := by decide +kernel
theorem dX6_asks_70 : decode cX6_asks 70 = .ok (.aload_n 0, 1) := by decide +kernel
theorem dX6_asks_71 : decode cX6_asks 71 = .ok (.iload_n 1, 1) := by decide +kernel
theorem dX6_asks_72 : decode cX6_asks 72 = .ok (.invokevirtual 181, 3) := by decide +kernel
theorem dX6_asks_75 : decode cX6_asks 75 = .ok (.ireturn, 1) := by decide +kernel
theorem dX6_asks_76 : decode cX6_asks 76 = .ok (.aload_n 0, 1) := by decide +kernel
theorem dX6_asks_77 : decode cX6_asks 77 = .ok (.getfield 7, 3) := by decide +kernel
theorem dX6_asks_80 : decode cX6_asks 80 = .ok (.iload_n 1, 1) := by decide +kernel
theorem dX6_asks_81 : decode cX6_asks 81 = .ok (.iaload, 1) := by decide +kernel
theorem dX6_asks_82 : decode cX6_asks 82 = .ok (.iconst 4, 1) := by decide +kernel
theorem dX6_asks_83 : decode cX6_asks 83 = .ok (.if_icmp .eq 13, 3) := by decide +kernel
theorem dX6_asks_86 : decode cX6_asks 86 = .ok (.aload_n 0, 1) := by decide +kernel
theorem dX6_asks_87 : decode cX6_asks 87 = .ok (.getfield 7, 3) := by decide +kernel
theorem dX6_asks_90 : decode cX6_asks 90 = .ok (.iload_n 1, 1) := by decide +kernel
theorem dX6_asks_91 : decode cX6_asks 91 = .ok (.iaload, 1) := by decide +kernel
theorem dX6_asks_92 : decode cX6_asks 92 = .ok (.iconst 2, 1) := by decide +kernel
theorem dX6_asks_93 : decode cX6_asks 93 = .ok (.if_icmp .ne 11, 3) := by decide +kernel
theorem dX6_asks_96 : decode cX6_asks 96 = .ok (.aload_n 0, 1) := by decide +kernel
theorem dX6_asks_97 : decode cX6_asks 97 = .ok (.iconst 3, 1) := by decide +kernel
theorem dX6_asks_98 : decode cX6_asks 98 = .ok (.invokevirtual 102, 3) := by decide +kernel
theorem dX6_asks_101 : decode cX6_asks 101 = .ok (.goto 8, 3) := by decide +kernel
theorem dX6_asks_104 : decode cX6_asks 104 = .ok (.aload_n 0, 1) := by decide +kernel
end
section
theorem dX6_asks_105 : decode cX6_asks 105 = .ok (.iload_n 1, 1) := by decide +kernel
theorem dX6_asks_106 : decode cX6_asks 106 = .ok (.invokevirtual 184, 3) := by decide +kernel
theorem dX6_asks_109 : decode cX6_asks 109 = .ok (.ireturn, 1) := by decide +kernel
theorem dX6_asks_110 : decode cX6_asks 110 = .ok (.bipush (-2), 2) := by decide +kernel
theorem dX6_asks_112 : decode cX6_asks 112 = .ok (.ireturn, 1) := by decide +kernel
theorem dX6_trace_0 : decode cX6_trace 0 = .ok (.aload_n 0, 1) := by decide +kernel
theorem dX6_trace_1 : decode cX6_trace 1 = .ok (.getfield 168, 3) := by decide +kernel
theorem dX6_trace_4 : decode cX6_trace 4 = .ok (.ireturn, 1) := by decide +kernel
theorem dX6_carry_0 : decode cX6_carry 0 = .ok (.aload_n 0, 1) := by decide +kernel
theorem dX6_carry_1 : decode cX6_carry 1 = .ok (.getfield 34, 3) := by decide +kernel
theorem dX6_carry_4 : decode cX6_carry 4 = .ok (.iload_n 2, 1) := by decide +kernel
theorem dX6_carry_5 : decode cX6_carry 5 = .ok (.aload_n 0, 1) := by decide +kernel
theorem dX6_carry_6 : decode cX6_carry 6 = .ok (.getfield 34, 3) := by decide +kernel
theorem dX6_carry_9 : decode cX6_carry 9 = .ok (.iload_n 1, 1) := by decide +kernel
theorem dX6_carry_10 : decode cX6_carry 10 = .ok (.iaload, 1) := by decide +kernel
theorem dX6_carry_11 : decode cX6_carry 11 = .ok (.iastore, 1) := by decide +kernel
theorem dX6_carry_12 : decode cX6_carry 12 = .ok (.aload_n 0, 1) := by decide +kernel
theorem dX6_carry_13 : decode cX6_carry 13 = .ok (.getfield 37, 3) := by decide +kernel
theorem dX6_carry_16 : decode cX6_carry 16 = .ok (.iload_n 2, 1) := by decide +kernel
theorem dX6_carry_17 : decode cX6_carry 17 = .ok (.aload_n 0, 1) := by decide +kernel
theorem dX6_carry_18 : decode cX6_carry 18 = .ok (.getfield 37, 3) := by decide +kernel
theorem dX6_carry_21 : decode cX6_carry 21 = .ok (.iload_n 1, 1) := by decide +kernel
theorem dX6_carry_22 : decode cX6_carry 22 = .ok (.iaload, 1) := by decide +kernel
theorem dX6_carry_23 : decode cX6_carry 23 = .ok (.iastore, 1) := by decide +kernel
theorem dX6_carry_24 : decode cX6_carry 24 = .ok (.aload_n 0, 1) := by decide +kernel
theorem dX6_carry_25 : decode cX6_carry 25 = .ok (.getfield 40, 3) := by decide +kernel
theorem dX6_carry_28 : decode cX6_carry 28 = .ok (.iload_n 2, 1) := by decide +kernel
theorem dX6_carry_29 : decode cX6_carry 29 = .ok (.aload_n 0, 1) := by decide +kernel
theorem dX6_carry_30 : decode cX6_carry 30 = .ok (.getfield 40, 3) := by decide +kernel
theorem dX6_carry_33 : decode cX6_carry 33 = .ok (.iload_n 1, 1) := by decide +kernel
theorem dX6_carry_34 : decode cX6_carry 34 = .ok (.iaload, 1) := by decide +kernel
theorem dX6_carry_35 : decode cX6_carry 35 = .ok (.iastore, 1) := by decide +kernel
theorem dX6_carry_36 : decode cX6_carry 36 = .ok (.return_, 1) := by decide +kernel
theorem dX6_copy_0 : decode cX6_copy 0 = .ok (.aload_n 0, 1) := by decide +kernel
theorem dX6_copy_1 : decode cX6_copy 1 = .ok (.iload_n 1, 1) := by decide +kernel
theorem dX6_copy_2 : decode cX6_copy 2 = .ok (.invokevirtual 129, 3) := by decide +kernel
theorem dX6_copy_5 : decode cX6_copy 5 = .ok (.ifCond .eq 11, 3) := by decide +kernel
theorem dX6_copy_8 : decode cX6_copy 8 = .ok (.aload_n 0, 1) := by decide +kernel
theorem dX6_copy_9 : decode cX6_copy 9 = .ok (.iload_n 3, 1) := by decide +kernel
theorem dX6_copy_10 : decode cX6_copy 10 = .ok (.invokevirtual 129, 3) := by decide +kernel
theorem dX6_copy_13 : decode cX6_copy 13 = .ok (.ifCond .ne 5, 3) := by decide +kernel
theorem dX6_copy_16 : decode cX6_copy 16 = .ok (.iconst (-1), 1) := by decide +kernel
theorem dX6_copy_17 : decode cX6_copy 17 = .ok (.ireturn, 1) := by decide +kernel
theorem dX6_copy_18 : decode cX6_copy 18 = .ok (.aload_n 0, 1) := by decide +kernel
theorem dX6_copy_19 : decode cX6_copy 19 = .ok (.getfield 7, 3) := by decide +kernel
theorem dX6_copy_22 : decode cX6_copy 22 = .ok (.iload_n 1, 1) := by decide +kernel
theorem dX6_copy_23 : decode cX6_copy 23 = .ok (.iaload, 1) := by decide +kernel
theorem dX6_copy_24 : decode cX6_copy 24 = .ok (.iconst 4, 1) := by decide +kernel
theorem dX6_copy_25 : decode cX6_copy 25 = .ok (.if_icmp .eq 13, 3) := by decide +kernel
theorem dX6_copy_28 : decode cX6_copy 28 = .ok (.aload_n 0, 1) := by decide +kernel
theorem dX6_copy_29 : decode cX6_copy 29 = .ok (.getfield 7, 3) := by decide +kernel
theorem dX6_copy_32 : decode cX6_copy 32 = .ok (.iload_n 3, 1) := by decide +kernel
theorem dX6_copy_33 : decode cX6_copy 33 = .ok (.iaload, 1) := by decide +kernel
theorem dX6_copy_34 : decode cX6_copy 34 = .ok (.iconst 4, 1) := by decide +kernel
theorem dX6_copy_35 : decode cX6_copy 35 = .ok (.if_icmp .ne 7, 3) := by decide +kernel
theorem dX6_copy_38 : decode cX6_copy 38 = .ok (.iconst 1, 1) := by decide +kernel
theorem dX6_copy_39 : decode cX6_copy 39 = .ok (.goto 4, 3) := by decide +kernel
theorem dX6_copy_42 : decode cX6_copy 42 = .ok (.iconst 0, 1) := by decide +kernel
theorem dX6_copy_43 : decode cX6_copy 43 = .ok (.istore 6, 2) := by decide +kernel
theorem dX6_copy_45 : decode cX6_copy 45 = .ok (.iload 6, 2) := by decide +kernel
theorem dX6_copy_47 : decode cX6_copy 47 = .ok (.ifCond .ne 39, 3) := by decide +kernel
theorem dX6_copy_50 : decode cX6_copy 50 = .ok (.aload_n 0, 1) := by decide +kernel
theorem dX6_copy_51 : decode cX6_copy 51 = .ok (.getfield 7, 3) := by decide +kernel
theorem dX6_copy_54 : decode cX6_copy 54 = .ok (.iload_n 1, 1) := by decide +kernel
theorem dX6_copy_55 : decode cX6_copy 55 = .ok (.iaload, 1) := by decide +kernel
theorem dX6_copy_56 : decode cX6_copy 56 = .ok (.iconst 2, 1) := by decide +kernel
theorem dX6_copy_57 : decode cX6_copy 57 = .ok (.if_icmp .ne 7, 3) := by decide +kernel
theorem dX6_copy_60 : decode cX6_copy 60 = .ok (.iconst 1, 1) := by decide +kernel
theorem dX6_copy_61 : decode cX6_copy 61 = .ok (.goto 4, 3) := by decide +kernel
theorem dX6_copy_64 : decode cX6_copy 64 = .ok (.iconst 0, 1) := by decide +kernel
theorem dX6_copy_65 : decode cX6_copy 65 = .ok (.aload_n 0, 1) := by decide +kernel
theorem dX6_copy_66 : decode cX6_copy 66 = .ok (.getfield 7, 3) := by decide +kernel
theorem dX6_copy_69 : decode cX6_copy 69 = .ok (.iload_n 3, 1) := by decide +kernel
theorem dX6_copy_70 : decode cX6_copy 70 = .ok (.iaload, 1) := by decide +kernel
theorem dX6_copy_71 : decode cX6_copy 71 = .ok (.iconst 2, 1) := by decide +kernel
theorem dX6_copy_72 : decode cX6_copy 72 = .ok (.if_icmp .ne 7, 3) := by decide +kernel
theorem dX6_copy_75 : decode cX6_copy 75 = .ok (.iconst 1, 1) := by decide +kernel
theorem dX6_copy_76 : decode cX6_copy 76 = .ok (.goto 4, 3) := by decide +kernel
theorem dX6_copy_79 : decode cX6_copy 79 = .ok (.iconst 0, 1) := by decide +kernel
theorem dX6_copy_80 : decode cX6_copy 80 = .ok (.if_icmp .eq 6, 3) := by decide +kernel
theorem dX6_copy_83 : decode cX6_copy 83 = .ok (.bipush (-3), 2) := by decide +kernel
theorem dX6_copy_85 : decode cX6_copy 85 = .ok (.ireturn, 1) := by decide +kernel
theorem dX6_copy_86 : decode cX6_copy 86 = .ok (.iload 6, 2) := by decide +kernel
theorem dX6_copy_88 : decode cX6_copy 88 = .ok (.ifCond .eq 9, 3) := by decide +kernel
theorem dX6_copy_91 : decode cX6_copy 91 = .ok (.aload_n 0, 1) := by decide +kernel
theorem dX6_copy_92 : decode cX6_copy 92 = .ok (.iconst 3, 1) := by decide +kernel
theorem dX6_copy_93 : decode cX6_copy 93 = .ok (.invokevirtual 102, 3) := by decide +kernel
theorem dX6_copy_96 : decode cX6_copy 96 = .ok (.ireturn, 1) := by decide +kernel
theorem dX6_copy_97 : decode cX6_copy 97 = .ok (.aload_n 0, 1) := by decide +kernel
theorem dX6_copy_98 : decode cX6_copy 98 = .ok (.iconst 1, 1) := by decide +kernel
theorem dX6_copy_99 : decode cX6_copy 99 = .ok (.putfield 137, 3) := by decide +kernel
theorem dX6_copy_102 : decode cX6_copy 102 = .ok (.aload_n 0, 1) := by decide +kernel
theorem dX6_copy_103 : decode cX6_copy 103 = .ok (.iconst 0, 1) := by decide +kernel
theorem dX6_copy_104 : decode cX6_copy 104 = .ok (.putfield 187, 3) := by decide +kernel
theorem dX6_copy_107 : decode cX6_copy 107 = .ok (.iload_n 1, 1) := by decide +kernel
theorem dX6_copy_108 : decode cX6_copy 108 = .ok (.iload_n 3, 1) := by decide +kernel
theorem dX6_copy_109 : decode cX6_copy 109 = .ok (.if_icmp .ne 138, 3) := by decide +kernel
theorem dX6_copy_112 : decode cX6_copy 112 = .ok (.iload 5, 2) := by decide +kernel
theorem dX6_copy_114 : decode cX6_copy 114 = .ok (.ifCond .lt 51, 3) := by decide +kernel
theorem dX6_copy_117 : decode cX6_copy 117 = .ok (.iload_n 2, 1) := by decide +kernel
theorem dX6_copy_118 : decode cX6_copy 118 = .ok (.ifCond .lt 47, 3) := by decide +kernel
theorem dX6_copy_121 : decode cX6_copy 121 = .ok (.iload 4, 2) := by decide +kernel
theorem dX6_copy_123 : decode cX6_copy 123 = .ok (.ifCond .lt 42, 3) := by decide +kernel
theorem dX6_copy_126 : decode cX6_copy 126 = .ok (.iload_n 2, 1) := by decide +kernel
theorem dX6_copy_127 : decode cX6_copy 127 = .ok (.i2l, 1) := by decide +kernel
theorem dX6_copy_128 : decode cX6_copy 128 = .ok (.iload 5, 2) := by decide +kernel
theorem dX6_copy_130 : decode cX6_copy 130 = .ok (.i2l, 1) := by decide +kernel
theorem dX6_copy_131 : decode cX6_copy 131 = .ok (.ladd, 1) := by decide +kernel
theorem dX6_copy_132 : decode cX6_copy 132 = .ok (.aload_n 0, 1) := by decide +kernel
theorem dX6_copy_133 : decode cX6_copy 133 = .ok (.getfield 13, 3) := by decide +kernel
theorem dX6_copy_136 : decode cX6_copy 136 = .ok (.iload_n 1, 1) := by decide +kernel
theorem dX6_copy_137 : decode cX6_copy 137 = .ok (.iaload, 1) := by decide +kernel
theorem dX6_copy_138 : decode cX6_copy 138 = .ok (.i2l, 1) := by decide +kernel
theorem dX6_copy_139 : decode cX6_copy 139 = .ok (.lcmp, 1) := by decide +kernel
theorem dX6_copy_140 : decode cX6_copy 140 = .ok (.ifCond .gt 25, 3) := by decide +kernel
theorem dX6_copy_143 : decode cX6_copy 143 = .ok (.iload 4, 2) := by decide +kernel
theorem dX6_copy_145 : decode cX6_copy 145 = .ok (.i2l, 1) := by decide +kernel
theorem dX6_copy_146 : decode cX6_copy 146 = .ok (.iload 5, 2) := by decide +kernel
theorem dX6_copy_148 : decode cX6_copy 148 = .ok (.i2l, 1) := by decide +kernel
theorem dX6_copy_149 : decode cX6_copy 149 = .ok (.ladd, 1) := by decide +kernel
theorem dX6_copy_150 : decode cX6_copy 150 = .ok (.aload_n 0, 1) := by decide +kernel
theorem dX6_copy_151 : decode cX6_copy 151 = .ok (.getfield 13, 3) := by decide +kernel
theorem dX6_copy_154 : decode cX6_copy 154 = .ok (.iload_n 1, 1) := by decide +kernel
theorem dX6_copy_155 : decode cX6_copy 155 = .ok (.iaload, 1) := by decide +kernel
theorem dX6_copy_156 : decode cX6_copy 156 = .ok (.i2l, 1) := by decide +kernel
theorem dX6_copy_157 : decode cX6_copy 157 = .ok (.lcmp, 1) := by decide +kernel
theorem dX6_copy_158 : decode cX6_copy 158 = .ok (.ifCond .gt 7, 3) := by decide +kernel
theorem dX6_copy_161 : decode cX6_copy 161 = .ok (.iconst 1, 1) := by decide +kernel
theorem dX6_copy_162 : decode cX6_copy 162 = .ok (.goto 4, 3) := by decide +kernel
theorem dX6_copy_165 : decode cX6_copy 165 = .ok (.iconst 0, 1) := by decide +kernel
theorem dX6_copy_166 : decode cX6_copy 166 = .ok (.istore 7, 2) := by decide +kernel
theorem dX6_copy_168 : decode cX6_copy 168 = .ok (.iload 7, 2) := by decide +kernel
theorem dX6_copy_170 : decode cX6_copy 170 = .ok (.ifCond .ne 9, 3) := by decide +kernel
theorem dX6_copy_173 : decode cX6_copy 173 = .ok (.aload_n 0, 1) := by decide +kernel
theorem dX6_copy_174 : decode cX6_copy 174 = .ok (.iconst 2, 1) := by decide +kernel
theorem dX6_copy_175 : decode cX6_copy 175 = .ok (.invokevirtual 102, 3) := by decide +kernel
theorem dX6_copy_178 : decode cX6_copy 178 = .ok (.ireturn, 1) := by decide +kernel
theorem dX6_copy_179 : decode cX6_copy 179 = .ok (.iconst 0, 1) := by decide +kernel
theorem dX6_copy_180 : decode cX6_copy 180 = .ok (.istore 8, 2) := by decide +kernel
theorem dX6_copy_182 : decode cX6_copy 182 = .ok (.iload 8, 2) := by decide +kernel
theorem dX6_copy_184 : decode cX6_copy 184 = .ok (.iload 5, 2) := by decide +kernel
theorem dX6_copy_186 : decode cX6_copy 186 = .ok (.if_icmp .ge 52, 3) := by decide +kernel
theorem dX6_copy_189 : decode cX6_copy 189 = .ok (.iload_n 2, 1) := by decide +kernel
theorem dX6_copy_190 : decode cX6_copy 190 = .ok (.iload 4, 2) := by decide +kernel
theorem dX6_copy_192 : decode cX6_copy 192 = .ok (.if_icmp .ge 13, 3) := by decide +kernel
theorem dX6_copy_195 : decode cX6_copy 195 = .ok (.iload 5, 2) := by decide +kernel
theorem dX6_copy_197 : decode cX6_copy 197 = .ok (.iconst 1, 1) := by decide +kernel
theorem dX6_copy_198 : decode cX6_copy 198 = .ok (.isub, 1) := by decide +kernel
theorem dX6_copy_199 : decode cX6_copy 199 = .ok (.iload 8, 2) := by decide +kernel
theorem dX6_copy_201 : decode cX6_copy 201 = .ok (.isub, 1) := by decide +kernel
theorem dX6_copy_202 : decode cX6_copy 202 = .ok (.goto 5, 3) := by decide +kernel
theorem dX6_copy_205 : decode cX6_copy 205 = .ok (.iload 8, 2) := by decide +kernel
theorem dX6_copy_207 : decode cX6_copy 207 = .ok (.istore 9, 2) := by decide +kernel
theorem dX6_copy_209 : decode cX6_copy 209 = .ok (.aload_n 0, 1) := by decide +kernel
theorem dX6_copy_210 : decode cX6_copy 210 = .ok (.bipush 18, 2) := by decide +kernel
theorem dX6_copy_212 : decode cX6_copy 212 = .ok (.iload_n 1, 1) := by decide +kernel
theorem dX6_copy_213 : decode cX6_copy 213 = .ok (.imul, 1) := by decide +kernel
theorem dX6_copy_214 : decode cX6_copy 214 = .ok (.iload_n 2, 1) := by decide +kernel
theorem dX6_copy_215 : decode cX6_copy 215 = .ok (.iadd, 1) := by decide +kernel
theorem dX6_copy_216 : decode cX6_copy 216 = .ok (.iload 9, 2) := by decide +kernel
theorem dX6_copy_218 : decode cX6_copy 218 = .ok (.iadd, 1) := by decide +kernel
theorem dX6_copy_219 : decode cX6_copy 219 = .ok (.bipush 18, 2) := by decide +kernel
theorem dX6_copy_221 : decode cX6_copy 221 = .ok (.iload_n 1, 1) := by decide +kernel
theorem dX6_copy_222 : decode cX6_copy 222 = .ok (.imul, 1) := by decide +kernel
theorem dX6_copy_223 : decode cX6_copy 223 = .ok (.iload 4, 2) := by decide +kernel
theorem dX6_copy_225 : decode cX6_copy 225 = .ok (.iadd, 1) := by decide +kernel
theorem dX6_copy_226 : decode cX6_copy 226 = .ok (.iload 9, 2) := by decide +kernel
theorem dX6_copy_228 : decode cX6_copy 228 = .ok (.iadd, 1) := by decide +kernel
theorem dX6_copy_229 : decode cX6_copy 229 = .ok (.invokevirtual 190, 3) := by decide +kernel
theorem dX6_copy_232 : decode cX6_copy 232 = .ok (.iinc 8 1, 3) := by decide +kernel
theorem dX6_copy_235 : decode cX6_copy 235 = .ok (.goto (-53), 3) := by decide +kernel
theorem dX6_copy_238 : decode cX6_copy 238 = .ok (.aload_n 0, 1) := by decide +kernel
theorem dX6_copy_239 : decode cX6_copy 239 = .ok (.iload 5, 2) := by decide +kernel
theorem dX6_copy_241 : decode cX6_copy 241 = .ok (.putfield 187, 3) := by decide +kernel
theorem dX6_copy_244 : decode cX6_copy 244 = .ok (.iload 5, 2) := by decide +kernel
theorem dX6_copy_246 : decode cX6_copy 246 = .ok (.ireturn, 1) := by decide +kernel
theorem dX6_copy_247 : decode cX6_copy 247 = .ok (.iload 5, 2) := by decide +kernel
theorem dX6_copy_249 : decode cX6_copy 249 = .ok (.ifCond .ge 5, 3) := by decide +kernel
theorem dX6_copy_252 : decode cX6_copy 252 = .ok (.iconst 0, 1) := by decide +kernel
theorem dX6_copy_253 : decode cX6_copy 253 = .ok (.ireturn, 1) := by decide +kernel
theorem dX6_copy_254 : decode cX6_copy 254 = .ok (.iconst 0, 1) := by decide +kernel
theorem dX6_copy_255 : decode cX6_copy 255 = .ok (.istore 7, 2) := by decide +kernel
theorem dX6_copy_257 : decode cX6_copy 257 = .ok (.iload 7, 2) := by decide +kernel
theorem dX6_copy_259 : decode cX6_copy 259 = .ok (.iload 5, 2) := by decide +kernel
theorem dX6_copy_261 : decode cX6_copy 261 = .ok (.if_icmp .ge 93, 3) := by decide +kernel
theorem dX6_copy_264 : decode cX6_copy 264 = .ok (.iload_n 2, 1) := by decide +kernel
theorem dX6_copy_265 : decode cX6_copy 265 = .ok (.i2l, 1) := by decide +kernel
theorem dX6_copy_266 : decode cX6_copy 266 = .ok (.iload 7, 2) := by decide +kernel
theorem dX6_copy_268 : decode cX6_copy 268 = .ok (.i2l, 1) := by decide +kernel
theorem dX6_copy_269 : decode cX6_copy 269 = .ok (.ladd, 1) := by decide +kernel
theorem dX6_copy_270 : decode cX6_copy 270 = .ok (.lconst 0, 1) := by decide +kernel
theorem dX6_copy_271 : decode cX6_copy 271 = .ok (.aload_n 0, 1) := by decide +kernel
theorem dX6_copy_272 : decode cX6_copy 272 = .ok (.getfield 13, 3) := by decide +kernel
theorem dX6_copy_275 : decode cX6_copy 275 = .ok (.iload_n 1, 1) := by decide +kernel
theorem dX6_copy_276 : decode cX6_copy 276 = .ok (.iaload, 1) := by decide +kernel
theorem dX6_copy_277 : decode cX6_copy 277 = .ok (.iconst 1, 1) := by decide +kernel
theorem dX6_copy_278 : decode cX6_copy 278 = .ok (.isub, 1) := by decide +kernel
theorem dX6_copy_279 : decode cX6_copy 279 = .ok (.i2l, 1) := by decide +kernel
theorem dX6_copy_280 : decode cX6_copy 280 = .ok (.invokestatic 92, 3) := by decide +kernel
theorem dX6_copy_283 : decode cX6_copy 283 = .ok (.ifCond .eq 26, 3) := by decide +kernel
theorem dX6_copy_286 : decode cX6_copy 286 = .ok (.iload 4, 2) := by decide +kernel
theorem dX6_copy_288 : decode cX6_copy 288 = .ok (.i2l, 1) := by decide +kernel
theorem dX6_copy_289 : decode cX6_copy 289 = .ok (.iload 7, 2) := by decide +kernel
theorem dX6_copy_291 : decode cX6_copy 291 = .ok (.i2l, 1) := by decide +kernel
theorem dX6_copy_292 : decode cX6_copy 292 = .ok (.ladd, 1) := by decide +kernel
theorem dX6_copy_293 : decode cX6_copy 293 = .ok (.lconst 0, 1) := by decide +kernel
theorem dX6_copy_294 : decode cX6_copy 294 = .ok (.aload_n 0, 1) := by decide +kernel
theorem dX6_copy_295 : decode cX6_copy 295 = .ok (.getfield 13, 3) := by decide +kernel
theorem dX6_copy_298 : decode cX6_copy 298 = .ok (.iload_n 3, 1) := by decide +kernel
theorem dX6_copy_299 : decode cX6_copy 299 = .ok (.iaload, 1) := by decide +kernel
theorem dX6_copy_300 : decode cX6_copy 300 = .ok (.iconst 1, 1) := by decide +kernel
theorem dX6_copy_301 : decode cX6_copy 301 = .ok (.isub, 1) := by decide +kernel
theorem dX6_copy_302 : decode cX6_copy 302 = .ok (.i2l, 1) := by decide +kernel
theorem dX6_copy_303 : decode cX6_copy 303 = .ok (.invokestatic 92, 3) := by decide +kernel
theorem dX6_copy_306 : decode cX6_copy 306 = .ok (.ifCond .ne 9, 3) := by decide +kernel
theorem dX6_copy_309 : decode cX6_copy 309 = .ok (.aload_n 0, 1) := by decide +kernel
theorem dX6_copy_310 : decode cX6_copy 310 = .ok (.iconst 2, 1) := by decide +kernel
theorem dX6_copy_311 : decode cX6_copy 311 = .ok (.invokevirtual 102, 3) := by decide +kernel
theorem dX6_copy_314 : decode cX6_copy 314 = .ok (.ireturn, 1) := by decide +kernel
theorem dX6_copy_315 : decode cX6_copy 315 = .ok (.aload_n 0, 1) := by decide +kernel
theorem dX6_copy_316 : decode cX6_copy 316 = .ok (.bipush 18, 2) := by decide +kernel
theorem dX6_copy_318 : decode cX6_copy 318 = .ok (.iload_n 1, 1) := by decide +kernel
theorem dX6_copy_319 : decode cX6_copy 319 = .ok (.imul, 1) := by decide +kernel
theorem dX6_copy_320 : decode cX6_copy 320 = .ok (.iload_n 2, 1) := by decide +kernel
theorem dX6_copy_321 : decode cX6_copy 321 = .ok (.iadd, 1) := by decide +kernel
theorem dX6_copy_322 : decode cX6_copy 322 = .ok (.iload 7, 2) := by decide +kernel
theorem dX6_copy_324 : decode cX6_copy 324 = .ok (.iadd, 1) := by decide +kernel
theorem dX6_copy_325 : decode cX6_copy 325 = .ok (.bipush 18, 2) := by decide +kernel
theorem dX6_copy_327 : decode cX6_copy 327 = .ok (.iload_n 3, 1) := by decide +kernel
theorem dX6_copy_328 : decode cX6_copy 328 = .ok (.imul, 1) := by decide +kernel
theorem dX6_copy_329 : decode cX6_copy 329 = .ok (.iload 4, 2) := by decide +kernel
theorem dX6_copy_331 : decode cX6_copy 331 = .ok (.iadd, 1) := by decide +kernel
theorem dX6_copy_332 : decode cX6_copy 332 = .ok (.iload 7, 2) := by decide +kernel
theorem dX6_copy_334 : decode cX6_copy 334 = .ok (.iadd, 1) := by decide +kernel
theorem dX6_copy_335 : decode cX6_copy 335 = .ok (.invokevirtual 190, 3) := by decide +kernel
theorem dX6_copy_338 : decode cX6_copy 338 = .ok (.aload_n 0, 1) := by decide +kernel
theorem dX6_copy_339 : decode cX6_copy 339 = .ok (.dup, 1) := by decide +kernel
theorem dX6_copy_340 : decode cX6_copy 340 = .ok (.getfield 187, 3) := by decide +kernel
theorem dX6_copy_343 : decode cX6_copy 343 = .ok (.iconst 1, 1) := by decide +kernel
theorem dX6_copy_344 : decode cX6_copy 344 = .ok (.iadd, 1) := by decide +kernel
theorem dX6_copy_345 : decode cX6_copy 345 = .ok (.putfield 187, 3) := by decide +kernel
theorem dX6_copy_348 : decode cX6_copy 348 = .ok (.iinc 7 1, 3) := by decide +kernel
theorem dX6_copy_351 : decode cX6_copy 351 = .ok (.goto (-94), 3) := by decide +kernel
theorem dX6_copy_354 : decode cX6_copy 354 = .ok (.iload 5, 2) := by decide +kernel
theorem dX6_copy_356 : decode cX6_copy 356 = .ok (.ireturn, 1) := by decide +kernel
theorem dX6_copied_0 : decode cX6_copied 0 = .ok (.aload_n 0, 1) := by decide +kernel
theorem dX6_copied_1 : decode cX6_copied 1 = .ok (.getfield 187, 3) := by decide +kernel
theorem dX6_copied_4 : decode cX6_copied 4 = .ok (.ireturn, 1) := by decide +kernel
theorem dX6_digest_0 : decode cX6_digest 0 = .ok (.aload_n 0, 1) := by decide +kernel
theorem dX6_digest_1 : decode cX6_digest 1 = .ok (.iload_n 1, 1) := by decide +kernel
theorem dX6_digest_2 : decode cX6_digest 2 = .ok (.invokevirtual 129, 3) := by decide +kernel
theorem dX6_digest_5 : decode cX6_digest 5 = .ok (.ifCond .ne 7, 3) := by decide +kernel
theorem dX6_digest_8 : decode cX6_digest 8 = .ok (.ldc2_w 106, 3) := by decide +kernel
theorem dX6_digest_11 : decode cX6_digest 11 = .ok (.lreturn, 1) := by decide +kernel
theorem dX6_digest_12 : decode cX6_digest 12 = .ok (.ldc2_w 193, 3) := by decide +kernel
theorem dX6_digest_15 : decode cX6_digest 15 = .ok (.lstore_n 2, 1) := by decide +kernel
theorem dX6_digest_16 : decode cX6_digest 16 = .ok (.iconst 0, 1) := by decide +kernel
theorem dX6_digest_17 : decode cX6_digest 17 = .ok (.istore 4, 2) := by decide +kernel
theorem dX6_digest_19 : decode cX6_digest 19 = .ok (.iload 4, 2) := by decide +kernel
theorem dX6_digest_21 : decode cX6_digest 21 = .ok (.aload_n 0, 1) := by decide +kernel
theorem dX6_digest_22 : decode cX6_digest 22 = .ok (.getfield 13, 3) := by decide +kernel
theorem dX6_digest_25 : decode cX6_digest 25 = .ok (.iload_n 1, 1) := by decide +kernel
theorem dX6_digest_26 : decode cX6_digest 26 = .ok (.iaload, 1) := by decide +kernel
theorem dX6_digest_27 : decode cX6_digest 27 = .ok (.if_icmp .ge 102, 3) := by decide +kernel
theorem dX6_digest_30 : decode cX6_digest 30 = .ok (.aload_n 0, 1) := by decide +kernel
theorem dX6_digest_31 : decode cX6_digest 31 = .ok (.iload_n 1, 1) := by decide +kernel
theorem dX6_digest_32 : decode cX6_digest 32 = .ok (.iload 4, 2) := by decide +kernel
theorem dX6_digest_34 : decode cX6_digest 34 = .ok (.invokevirtual 108, 3) := by decide +kernel
theorem dX6_digest_37 : decode cX6_digest 37 = .ok (.istore 5, 2) := by decide +kernel
theorem dX6_digest_39 : decode cX6_digest 39 = .ok (.ldc2_w 195, 3) := by decide +kernel
theorem dX6_digest_42 : decode cX6_digest 42 = .ok (.lload_n 2, 1) := by decide +kernel
theorem dX6_digest_43 : decode cX6_digest 43 = .ok (.lmul, 1) := by decide +kernel
theorem dX6_digest_44 : decode cX6_digest 44 = .ok (.aload_n 0, 1) := by decide +kernel
theorem dX6_digest_45 : decode cX6_digest 45 = .ok (.getfield 34, 3) := by decide +kernel
theorem dX6_digest_48 : decode cX6_digest 48 = .ok (.iload 5, 2) := by decide +kernel
theorem dX6_digest_50 : decode cX6_digest 50 = .ok (.iaload, 1) := by decide +kernel
theorem dX6_digest_51 : decode cX6_digest 51 = .ok (.iconst 1, 1) := by decide +kernel
theorem dX6_digest_52 : decode cX6_digest 52 = .ok (.iadd, 1) := by decide +kernel
theorem dX6_digest_53 : decode cX6_digest 53 = .ok (.ifCond .le 15, 3) := by decide +kernel
theorem dX6_digest_56 : decode cX6_digest 56 = .ok (.aload_n 0, 1) := by decide +kernel
theorem dX6_digest_57 : decode cX6_digest 57 = .ok (.getfield 34, 3) := by decide +kernel
theorem dX6_digest_60 : decode cX6_digest 60 = .ok (.iload 5, 2) := by decide +kernel
theorem dX6_digest_62 : decode cX6_digest 62 = .ok (.iaload, 1) := by decide +kernel
theorem dX6_digest_63 : decode cX6_digest 63 = .ok (.iconst 1, 1) := by decide +kernel
theorem dX6_digest_64 : decode cX6_digest 64 = .ok (.iadd, 1) := by decide +kernel
theorem dX6_digest_65 : decode cX6_digest 65 = .ok (.goto 4, 3) := by decide +kernel
theorem dX6_digest_68 : decode cX6_digest 68 = .ok (.iconst 0, 1) := by decide +kernel
theorem dX6_digest_69 : decode cX6_digest 69 = .ok (.i2l, 1) := by decide +kernel
theorem dX6_digest_70 : decode cX6_digest 70 = .ok (.ladd, 1) := by decide +kernel
theorem dX6_digest_71 : decode cX6_digest 71 = .ok (.lstore_n 2, 1) := by decide +kernel
theorem dX6_digest_72 : decode cX6_digest 72 = .ok (.iconst 0, 1) := by decide +kernel
theorem dX6_digest_73 : decode cX6_digest 73 = .ok (.istore 6, 2) := by decide +kernel
theorem dX6_digest_75 : decode cX6_digest 75 = .ok (.iload 6, 2) := by decide +kernel
theorem dX6_digest_77 : decode cX6_digest 77 = .ok (.aload_n 0, 1) := by decide +kernel
theorem dX6_digest_78 : decode cX6_digest 78 = .ok (.getfield 34, 3) := by decide +kernel
theorem dX6_digest_81 : decode cX6_digest 81 = .ok (.iload 5, 2) := by decide +kernel
theorem dX6_digest_83 : decode cX6_digest 83 = .ok (.iaload, 1) := by decide +kernel
theorem dX6_digest_84 : decode cX6_digest 84 = .ok (.if_icmp .ge 39, 3) := by decide +kernel
theorem dX6_digest_87 : decode cX6_digest 87 = .ok (.ldc2_w 195, 3) := by decide +kernel
theorem dX6_digest_90 : decode cX6_digest 90 = .ok (.lload_n 2, 1) := by decide +kernel
theorem dX6_digest_91 : decode cX6_digest 91 = .ok (.lmul, 1) := by decide +kernel
theorem dX6_digest_92 : decode cX6_digest 92 = .ok (.iload 6, 2) := by decide +kernel
theorem dX6_digest_94 : decode cX6_digest 94 = .ok (.ifCond .ne 13, 3) := by decide +kernel
theorem dX6_digest_97 : decode cX6_digest 97 = .ok (.aload_n 0, 1) := by decide +kernel
theorem dX6_digest_98 : decode cX6_digest 98 = .ok (.getfield 37, 3) := by decide +kernel
theorem dX6_digest_101 : decode cX6_digest 101 = .ok (.iload 5, 2) := by decide +kernel
theorem dX6_digest_103 : decode cX6_digest 103 = .ok (.iaload, 1) := by decide +kernel
theorem dX6_digest_104 : decode cX6_digest 104 = .ok (.goto 10, 3) := by decide +kernel
theorem dX6_digest_107 : decode cX6_digest 107 = .ok (.aload_n 0, 1) := by decide +kernel
theorem dX6_digest_108 : decode cX6_digest 108 = .ok (.getfield 40, 3) := by decide +kernel
theorem dX6_digest_111 : decode cX6_digest 111 = .ok (.iload 5, 2) := by decide +kernel
theorem dX6_digest_113 : decode cX6_digest 113 = .ok (.iaload, 1) := by decide +kernel
theorem dX6_digest_114 : decode cX6_digest 114 = .ok (.i2l, 1) := by decide +kernel
theorem dX6_digest_115 : decode cX6_digest 115 = .ok (.ladd, 1) := by decide +kernel
theorem dX6_digest_116 : decode cX6_digest 116 = .ok (.lstore_n 2, 1) := by decide +kernel
theorem dX6_digest_117 : decode cX6_digest 117 = .ok (.iinc 6 1, 3) := by decide +kernel
theorem dX6_digest_120 : decode cX6_digest 120 = .ok (.goto (-45), 3) := by decide +kernel
theorem dX6_digest_123 : decode cX6_digest 123 = .ok (.iinc 4 1, 3) := by decide +kernel
theorem dX6_digest_126 : decode cX6_digest 126 = .ok (.goto (-107), 3) := by decide +kernel
theorem dX6_digest_129 : decode cX6_digest 129 = .ok (.lload_n 2, 1) := by decide +kernel
theorem dX6_digest_130 : decode cX6_digest 130 = .ok (.lreturn, 1) := by decide +kernel
theorem dX6_ofFloat_0 : decode cX6_ofFloat 0 = .ok (.aload_n 0, 1) := by decide +kernel
theorem dX6_ofFloat_1 : decode cX6_ofFloat 1 = .ok (.iload_n 1, 1) := by decide +kernel
theorem dX6_ofFloat_2 : decode cX6_ofFloat 2 = .ok (.invokevirtual 129, 3) := by decide +kernel
theorem dX6_ofFloat_5 : decode cX6_ofFloat 5 = .ok (.ifCond .ne 5, 3) := by decide +kernel
theorem dX6_ofFloat_8 : decode cX6_ofFloat 8 = .ok (.iconst (-1), 1) := by decide +kernel
theorem dX6_ofFloat_9 : decode cX6_ofFloat 9 = .ok (.ireturn, 1) := by decide +kernel
theorem dX6_ofFloat_10 : decode cX6_ofFloat 10 = .ok (.iload_n 2, 1) := by decide +kernel
theorem dX6_ofFloat_11 : decode cX6_ofFloat 11 = .ok (.ldc 197, 2) := by decide +kernel
theorem dX6_ofFloat_13 : decode cX6_ofFloat 13 = .ok (.iand, 1) := by decide +kernel
theorem dX6_ofFloat_14 : decode cX6_ofFloat 14 = .ok (.ldc 198, 2) := by decide +kernel
theorem dX6_ofFloat_16 : decode cX6_ofFloat 16 = .ok (.if_icmp .lt 6, 3) := by decide +kernel
theorem dX6_ofFloat_19 : decode cX6_ofFloat 19 = .ok (.bipush (-2), 2) := by decide +kernel
theorem dX6_ofFloat_21 : decode cX6_ofFloat 21 = .ok (.ireturn, 1) := by decide +kernel
theorem dX6_ofFloat_22 : decode cX6_ofFloat 22 = .ok (.iload_n 2, 1) := by decide +kernel
theorem dX6_ofFloat_23 : decode cX6_ofFloat 23 = .ok (.invokestatic 199, 3) := by decide +kernel
theorem dX6_ofFloat_26 : decode cX6_ofFloat 26 = .ok (.fstore_n 3, 1) := by decide +kernel
theorem dX6_ofFloat_27 : decode cX6_ofFloat 27 = .ok (.fload_n 3, 1) := by decide +kernel
theorem dX6_ofFloat_28 : decode cX6_ofFloat 28 = .ok (.fconst 0, 1) := by decide +kernel
theorem dX6_ofFloat_29 : decode cX6_ofFloat 29 = .ok (.fcmp .g, 1) := by decide +kernel
theorem dX6_ofFloat_30 : decode cX6_ofFloat 30 = .ok (.ifCond .ge 8, 3) := by decide +kernel
theorem dX6_ofFloat_33 : decode cX6_ofFloat 33 = .ok (.bipush (-2), 2) := by decide +kernel
theorem dX6_ofFloat_35 : decode cX6_ofFloat 35 = .ok (.goto 10, 3) := by decide +kernel
theorem dX6_ofFloat_38 : decode cX6_ofFloat 38 = .ok (.aload_n 0, 1) := by decide +kernel
theorem dX6_ofFloat_39 : decode cX6_ofFloat 39 = .ok (.iload_n 1, 1) := by decide +kernel
theorem dX6_ofFloat_40 : decode cX6_ofFloat 40 = .ok (.fload_n 3, 1) := by decide +kernel
theorem dX6_ofFloat_41 : decode cX6_ofFloat 41 = .ok (.f2l, 1) := by decide +kernel
theorem dX6_ofFloat_42 : decode cX6_ofFloat 42 = .ok (.invokevirtual 205, 3) := by decide +kernel
theorem dX6_ofFloat_45 : decode cX6_ofFloat 45 = .ok (.ireturn, 1) := by decide +kernel
theorem dX6_ofDouble_0 : decode cX6_ofDouble 0 = .ok (.aload_n 0, 1) := by decide +kernel
theorem dX6_ofDouble_1 : decode cX6_ofDouble 1 = .ok (.iload_n 1, 1) := by decide +kernel
theorem dX6_ofDouble_2 : decode cX6_ofDouble 2 = .ok (.invokevirtual 129, 3) := by decide +kernel
theorem dX6_ofDouble_5 : decode cX6_ofDouble 5 = .ok (.ifCond .ne 5, 3) := by decide +kernel
theorem dX6_ofDouble_8 : decode cX6_ofDouble 8 = .ok (.iconst (-1), 1) := by decide +kernel
theorem dX6_ofDouble_9 : decode cX6_ofDouble 9 = .ok (.ireturn, 1) := by decide +kernel
theorem dX6_ofDouble_10 : decode cX6_ofDouble 10 = .ok (.lload_n 2, 1) := by decide +kernel
theorem dX6_ofDouble_11 : decode cX6_ofDouble 11 = .ok (.ldc2_w 209, 3) := by decide +kernel
theorem dX6_ofDouble_14 : decode cX6_ofDouble 14 = .ok (.land, 1) := by decide +kernel
theorem dX6_ofDouble_15 : decode cX6_ofDouble 15 = .ok (.ldc2_w 211, 3) := by decide +kernel
theorem dX6_ofDouble_18 : decode cX6_ofDouble 18 = .ok (.lcmp, 1) := by decide +kernel
theorem dX6_ofDouble_19 : decode cX6_ofDouble 19 = .ok (.ifCond .lt 6, 3) := by decide +kernel
theorem dX6_ofDouble_22 : decode cX6_ofDouble 22 = .ok (.bipush (-2), 2) := by decide +kernel
theorem dX6_ofDouble_24 : decode cX6_ofDouble 24 = .ok (.ireturn, 1) := by decide +kernel
theorem dX6_ofDouble_25 : decode cX6_ofDouble 25 = .ok (.lload_n 2, 1) := by decide +kernel
theorem dX6_ofDouble_26 : decode cX6_ofDouble 26 = .ok (.invokestatic 213, 3) := by decide +kernel
theorem dX6_ofDouble_29 : decode cX6_ofDouble 29 = .ok (.dstore 4, 2) := by decide +kernel
theorem dX6_ofDouble_31 : decode cX6_ofDouble 31 = .ok (.dload 4, 2) := by decide +kernel
theorem dX6_ofDouble_33 : decode cX6_ofDouble 33 = .ok (.dconst 0, 1) := by decide +kernel
theorem dX6_ofDouble_34 : decode cX6_ofDouble 34 = .ok (.dcmp .g, 1) := by decide +kernel
theorem dX6_ofDouble_35 : decode cX6_ofDouble 35 = .ok (.ifCond .ge 8, 3) := by decide +kernel
theorem dX6_ofDouble_38 : decode cX6_ofDouble 38 = .ok (.bipush (-2), 2) := by decide +kernel
theorem dX6_ofDouble_40 : decode cX6_ofDouble 40 = .ok (.goto 11, 3) := by decide +kernel
theorem dX6_ofDouble_43 : decode cX6_ofDouble 43 = .ok (.aload_n 0, 1) := by decide +kernel
theorem dX6_ofDouble_44 : decode cX6_ofDouble 44 = .ok (.iload_n 1, 1) := by decide +kernel
theorem dX6_ofDouble_45 : decode cX6_ofDouble 45 = .ok (.dload 4, 2) := by decide +kernel
theorem dX6_ofDouble_47 : decode cX6_ofDouble 47 = .ok (.d2l, 1) := by decide +kernel
theorem dX6_ofDouble_48 : decode cX6_ofDouble 48 = .ok (.invokevirtual 205, 3) := by decide +kernel
theorem dX6_ofDouble_51 : decode cX6_ofDouble 51 = .ok (.ireturn, 1) := by decide +kernel
theorem dX6_restFloat_0 : decode cX6_restFloat 0 = .ok (.iload_n 1, 1) := by decide +kernel
theorem dX6_restFloat_1 : decode cX6_restFloat 1 = .ok (.ldc 197, 2) := by decide +kernel
theorem dX6_restFloat_3 : decode cX6_restFloat 3 = .ok (.iand, 1) := by decide +kernel
theorem dX6_restFloat_4 : decode cX6_restFloat 4 = .ok (.istore_n 3, 1) := by decide +kernel
theorem dX6_restFloat_5 : decode cX6_restFloat 5 = .ok (.iload_n 2, 1) := by decide +kernel
theorem dX6_restFloat_6 : decode cX6_restFloat 6 = .ok (.ldc 197, 2) := by decide +kernel
theorem dX6_restFloat_8 : decode cX6_restFloat 8 = .ok (.iand, 1) := by decide +kernel
theorem dX6_restFloat_9 : decode cX6_restFloat 9 = .ok (.istore 4, 2) := by decide +kernel
theorem dX6_restFloat_11 : decode cX6_restFloat 11 = .ok (.iload_n 3, 1) := by decide +kernel
theorem dX6_restFloat_12 : decode cX6_restFloat 12 = .ok (.ldc 198, 2) := by decide +kernel
theorem dX6_restFloat_14 : decode cX6_restFloat 14 = .ok (.if_icmp .ge 15, 3) := by decide +kernel
theorem dX6_restFloat_17 : decode cX6_restFloat 17 = .ok (.iload 4, 2) := by decide +kernel
theorem dX6_restFloat_19 : decode cX6_restFloat 19 = .ok (.ldc 198, 2) := by decide +kernel
theorem dX6_restFloat_21 : decode cX6_restFloat 21 = .ok (.if_icmp .gt 8, 3) := by decide +kernel
theorem dX6_restFloat_24 : decode cX6_restFloat 24 = .ok (.iload 4, 2) := by decide +kernel
theorem dX6_restFloat_26 : decode cX6_restFloat 26 = .ok (.ifCond .ne 6, 3) := by decide +kernel
theorem dX6_restFloat_29 : decode cX6_restFloat 29 = .ok (.ldc 219, 2) := by decide +kernel
theorem dX6_restFloat_31 : decode cX6_restFloat 31 = .ok (.ireturn, 1) := by decide +kernel
theorem dX6_restFloat_32 : decode cX6_restFloat 32 = .ok (.iload_n 1, 1) := by decide +kernel
theorem dX6_restFloat_33 : decode cX6_restFloat 33 = .ok (.invokestatic 199, 3) := by decide +kernel
theorem dX6_restFloat_36 : decode cX6_restFloat 36 = .ok (.iload_n 2, 1) := by decide +kernel
theorem dX6_restFloat_37 : decode cX6_restFloat 37 = .ok (.invokestatic 199, 3) := by decide +kernel
theorem dX6_restFloat_40 : decode cX6_restFloat 40 = .ok (.frem, 1) := by decide +kernel
theorem dX6_restFloat_41 : decode cX6_restFloat 41 = .ok (.invokestatic 220, 3) := by decide +kernel
theorem dX6_restFloat_44 : decode cX6_restFloat 44 = .ok (.ireturn, 1) := by decide +kernel
theorem dX6_restDouble_0 : decode cX6_restDouble 0 = .ok (.lload_n 1, 1) := by decide +kernel
theorem dX6_restDouble_1 : decode cX6_restDouble 1 = .ok (.ldc2_w 209, 3) := by decide +kernel
theorem dX6_restDouble_4 : decode cX6_restDouble 4 = .ok (.land, 1) := by decide +kernel
theorem dX6_restDouble_5 : decode cX6_restDouble 5 = .ok (.lstore 5, 2) := by decide +kernel
theorem dX6_restDouble_7 : decode cX6_restDouble 7 = .ok (.lload_n 3, 1) := by decide +kernel
theorem dX6_restDouble_8 : decode cX6_restDouble 8 = .ok (.ldc2_w 209, 3) := by decide +kernel
theorem dX6_restDouble_11 : decode cX6_restDouble 11 = .ok (.land, 1) := by decide +kernel
theorem dX6_restDouble_12 : decode cX6_restDouble 12 = .ok (.lstore 7, 2) := by decide +kernel
theorem dX6_restDouble_14 : decode cX6_restDouble 14 = .ok (.lload 5, 2) := by decide +kernel
theorem dX6_restDouble_16 : decode cX6_restDouble 16 = .ok (.ldc2_w 211, 3) := by decide +kernel
theorem dX6_restDouble_19 : decode cX6_restDouble 19 = .ok (.lcmp, 1) := by decide +kernel
theorem dX6_restDouble_20 : decode cX6_restDouble 20 = .ok (.ifCond .ge 19, 3) := by decide +kernel
theorem dX6_restDouble_23 : decode cX6_restDouble 23 = .ok (.lload 7, 2) := by decide +kernel
theorem dX6_restDouble_25 : decode cX6_restDouble 25 = .ok (.ldc2_w 211, 3) := by decide +kernel
theorem dX6_restDouble_28 : decode cX6_restDouble 28 = .ok (.lcmp, 1) := by decide +kernel
theorem dX6_restDouble_29 : decode cX6_restDouble 29 = .ok (.ifCond .gt 10, 3) := by decide +kernel
theorem dX6_restDouble_32 : decode cX6_restDouble 32 = .ok (.lload 7, 2) := by decide +kernel
theorem dX6_restDouble_34 : decode cX6_restDouble 34 = .ok (.lconst 0, 1) := by decide +kernel
theorem dX6_restDouble_35 : decode cX6_restDouble 35 = .ok (.lcmp, 1) := by decide +kernel
theorem dX6_restDouble_36 : decode cX6_restDouble 36 = .ok (.ifCond .ne 7, 3) := by decide +kernel
theorem dX6_restDouble_39 : decode cX6_restDouble 39 = .ok (.ldc2_w 224, 3) := by decide +kernel
theorem dX6_restDouble_42 : decode cX6_restDouble 42 = .ok (.lreturn, 1) := by decide +kernel
theorem dX6_restDouble_43 : decode cX6_restDouble 43 = .ok (.lload_n 1, 1) := by decide +kernel
theorem dX6_restDouble_44 : decode cX6_restDouble 44 = .ok (.invokestatic 213, 3) := by decide +kernel
theorem dX6_restDouble_47 : decode cX6_restDouble 47 = .ok (.lload_n 3, 1) := by decide +kernel
theorem dX6_restDouble_48 : decode cX6_restDouble 48 = .ok (.invokestatic 213, 3) := by decide +kernel
theorem dX6_restDouble_51 : decode cX6_restDouble 51 = .ok (.drem, 1) := by decide +kernel
theorem dX6_restDouble_52 : decode cX6_restDouble 52 = .ok (.invokestatic 226, 3) := by decide +kernel
theorem dX6_restDouble_55 : decode cX6_restDouble 55 = .ok (.lreturn, 1) := by decide +kernel
theorem dX6_bars_0 : decode cX6_bars 0 = .ok (.aload_n 0, 1) := by decide +kernel
theorem dX6_bars_1 : decode cX6_bars 1 = .ok (.getfield 28, 3) := by decide +kernel
theorem dX6_bars_4 : decode cX6_bars 4 = .ok (.iload_n 1, 1) := by decide +kernel
theorem dX6_bars_5 : decode cX6_bars 5 = .ok (.iaload, 1) := by decide +kernel
theorem dX6_bars_6 : decode cX6_bars 6 = .ok (.aload_n 0, 1) := by decide +kernel
theorem dX6_bars_7 : decode cX6_bars 7 = .ok (.getfield 28, 3) := by decide +kernel
theorem dX6_bars_10 : decode cX6_bars 10 = .ok (.iload_n 2, 1) := by decide +kernel
theorem dX6_bars_11 : decode cX6_bars 11 = .ok (.iaload, 1) := by decide +kernel
theorem dX6_bars_12 : decode cX6_bars 12 = .ok (.iand, 1) := by decide +kernel
theorem dX6_bars_13 : decode cX6_bars 13 = .ok (.ifCond .ne 7, 3) := by decide +kernel
theorem dX6_bars_16 : decode cX6_bars 16 = .ok (.iconst 1, 1) := by decide +kernel
theorem dX6_bars_17 : decode cX6_bars 17 = .ok (.goto 4, 3) := by decide +kernel
theorem dX6_bars_20 : decode cX6_bars 20 = .ok (.iconst 0, 1) := by decide +kernel
theorem dX6_bars_21 : decode cX6_bars 21 = .ok (.istore 4, 2) := by decide +kernel
theorem dX6_bars_23 : decode cX6_bars 23 = .ok (.iload 4, 2) := by decide +kernel
theorem dX6_bars_25 : decode cX6_bars 25 = .ok (.ifCond .eq 42, 3) := by decide +kernel
theorem dX6_bars_28 : decode cX6_bars 28 = .ok (.iload_n 3, 1) := by decide +kernel
theorem dX6_bars_29 : decode cX6_bars 29 = .ok (.ifCond .eq 18, 3) := by decide +kernel
theorem dX6_bars_32 : decode cX6_bars 32 = .ok (.aload_n 0, 1) := by decide +kernel
theorem dX6_bars_33 : decode cX6_bars 33 = .ok (.getfield 16, 3) := by decide +kernel
theorem dX6_bars_36 : decode cX6_bars 36 = .ok (.iload_n 1, 1) := by decide +kernel
theorem dX6_bars_37 : decode cX6_bars 37 = .ok (.iaload, 1) := by decide +kernel
theorem dX6_bars_38 : decode cX6_bars 38 = .ok (.aload_n 0, 1) := by decide +kernel
theorem dX6_bars_39 : decode cX6_bars 39 = .ok (.getfield 16, 3) := by decide +kernel
theorem dX6_bars_42 : decode cX6_bars 42 = .ok (.iload_n 2, 1) := by decide +kernel
theorem dX6_bars_43 : decode cX6_bars 43 = .ok (.iaload, 1) := by decide +kernel
theorem dX6_bars_44 : decode cX6_bars 44 = .ok (.if_icmp .ne 23, 3) := by decide +kernel
theorem dX6_bars_47 : decode cX6_bars 47 = .ok (.aload_n 0, 1) := by decide +kernel
theorem dX6_bars_48 : decode cX6_bars 48 = .ok (.iload_n 1, 1) := by decide +kernel
theorem dX6_bars_49 : decode cX6_bars 49 = .ok (.invokevirtual 163, 3) := by decide +kernel
theorem dX6_bars_52 : decode cX6_bars 52 = .ok (.ifCond .eq 15, 3) := by decide +kernel
theorem dX6_bars_55 : decode cX6_bars 55 = .ok (.aload_n 0, 1) := by decide +kernel
theorem dX6_bars_56 : decode cX6_bars 56 = .ok (.iload_n 2, 1) := by decide +kernel
theorem dX6_bars_57 : decode cX6_bars 57 = .ok (.invokevirtual 163, 3) := by decide +kernel
theorem dX6_bars_60 : decode cX6_bars 60 = .ok (.ifCond .eq 7, 3) := by decide +kernel
theorem dX6_bars_63 : decode cX6_bars 63 = .ok (.iconst 1, 1) := by decide +kernel
theorem dX6_bars_64 : decode cX6_bars 64 = .ok (.goto 4, 3) := by decide +kernel
theorem dX6_bars_67 : decode cX6_bars 67 = .ok (.iconst 0, 1) := by decide +kernel
theorem dX6_bars_68 : decode cX6_bars 68 = .ok (.istore 5, 2) := by decide +kernel
theorem dX6_bars_70 : decode cX6_bars 70 = .ok (.iload 5, 2) := by decide +kernel
theorem dX6_bars_72 : decode cX6_bars 72 = .ok (.ifCond .eq 7, 3) := by decide +kernel
theorem dX6_bars_75 : decode cX6_bars 75 = .ok (.iconst 0, 1) := by decide +kernel
theorem dX6_bars_76 : decode cX6_bars 76 = .ok (.goto 5, 3) := by decide +kernel
theorem dX6_bars_79 : decode cX6_bars 79 = .ok (.bipush (-3), 2) := by decide +kernel
theorem dX6_bars_81 : decode cX6_bars 81 = .ok (.ireturn, 1) := by decide +kernel
theorem dX6_start_0 : decode cX6_start 0 = .ok (.aload_n 0, 1) := by decide +kernel
theorem dX6_start_1 : decode cX6_start 1 = .ok (.iconst 1, 1) := by decide +kernel
theorem dX6_start_2 : decode cX6_start 2 = .ok (.putfield 230, 3) := by decide +kernel
theorem dX6_start_5 : decode cX6_start 5 = .ok (.aload_n 0, 1) := by decide +kernel
theorem dX6_start_6 : decode cX6_start 6 = .ok (.iload_n 1, 1) := by decide +kernel
theorem dX6_start_7 : decode cX6_start 7 = .ok (.putfield 233, 3) := by decide +kernel
theorem dX6_start_10 : decode cX6_start 10 = .ok (.aload_n 0, 1) := by decide +kernel
theorem dX6_start_11 : decode cX6_start 11 = .ok (.iconst 0, 1) := by decide +kernel
theorem dX6_start_12 : decode cX6_start 12 = .ok (.putfield 137, 3) := by decide +kernel
theorem dX6_start_15 : decode cX6_start 15 = .ok (.aload_n 0, 1) := by decide +kernel
theorem dX6_start_16 : decode cX6_start 16 = .ok (.iconst 0, 1) := by decide +kernel
theorem dX6_start_17 : decode cX6_start 17 = .ok (.putfield 236, 3) := by decide +kernel
theorem dX6_start_20 : decode cX6_start 20 = .ok (.aload_n 0, 1) := by decide +kernel
theorem dX6_start_21 : decode cX6_start 21 = .ok (.iconst 0, 1) := by decide +kernel
theorem dX6_start_22 : decode cX6_start 22 = .ok (.putfield 239, 3) := by decide +kernel
theorem dX6_start_25 : decode cX6_start 25 = .ok (.aload_n 0, 1) := by decide +kernel
theorem dX6_start_26 : decode cX6_start 26 = .ok (.iconst 0, 1) := by decide +kernel
theorem dX6_start_27 : decode cX6_start 27 = .ok (.putfield 242, 3) := by decide +kernel
theorem dX6_start_30 : decode cX6_start 30 = .ok (.aload_n 0, 1) := by decide +kernel
theorem dX6_start_31 : decode cX6_start 31 = .ok (.bipush (-5), 2) := by decide +kernel
theorem dX6_start_33 : decode cX6_start 33 = .ok (.putfield 46, 3) := by decide +kernel
theorem dX6_start_36 : decode cX6_start 36 = .ok (.aload_n 0, 1) := by decide +kernel
theorem dX6_start_37 : decode cX6_start 37 = .ok (.bipush (-5), 2) := by decide +kernel
theorem dX6_start_39 : decode cX6_start 39 = .ok (.putfield 50, 3) := by decide +kernel
theorem dX6_start_42 : decode cX6_start 42 = .ok (.return_, 1) := by decide +kernel
theorem dX6_back_0 : decode cX6_back 0 = .ok (.aload_n 0, 1) := by decide +kernel
theorem dX6_back_1 : decode cX6_back 1 = .ok (.aload_n 0, 1) := by decide +kernel
theorem dX6_back_2 : decode cX6_back 2 = .ok (.getfield 54, 3) := by decide +kernel
theorem dX6_back_5 : decode cX6_back 5 = .ok (.bipush 7, 2) := by decide +kernel
theorem dX6_back_7 : decode cX6_back 7 = .ok (.iload_n 1, 1) := by decide +kernel
theorem dX6_back_8 : decode cX6_back 8 = .ok (.imul, 1) := by decide +kernel
theorem dX6_back_9 : decode cX6_back 9 = .ok (.iaload, 1) := by decide +kernel
theorem dX6_back_10 : decode cX6_back 10 = .ok (.aload_n 0, 1) := by decide +kernel
theorem dX6_back_11 : decode cX6_back 11 = .ok (.getfield 54, 3) := by decide +kernel
theorem dX6_back_14 : decode cX6_back 14 = .ok (.bipush 7, 2) := by decide +kernel
theorem dX6_back_16 : decode cX6_back 16 = .ok (.iload_n 1, 1) := by decide +kernel
theorem dX6_back_17 : decode cX6_back 17 = .ok (.imul, 1) := by decide +kernel
theorem dX6_back_18 : decode cX6_back 18 = .ok (.iconst 1, 1) := by decide +kernel
theorem dX6_back_19 : decode cX6_back 19 = .ok (.iadd, 1) := by decide +kernel
theorem dX6_back_20 : decode cX6_back 20 = .ok (.iaload, 1) := by decide +kernel
theorem dX6_back_21 : decode cX6_back 21 = .ok (.invokevirtual 108, 3) := by decide +kernel
theorem dX6_back_24 : decode cX6_back 24 = .ok (.istore_n 2, 1) := by decide +kernel
theorem dX6_back_25 : decode cX6_back 25 = .ok (.aload_n 0, 1) := by decide +kernel
theorem dX6_back_26 : decode cX6_back 26 = .ok (.getfield 40, 3) := by decide +kernel
theorem dX6_back_29 : decode cX6_back 29 = .ok (.iload_n 2, 1) := by decide +kernel
theorem dX6_back_30 : decode cX6_back 30 = .ok (.dup2, 1) := by decide +kernel
theorem dX6_back_31 : decode cX6_back 31 = .ok (.iaload, 1) := by decide +kernel
theorem dX6_back_32 : decode cX6_back 32 = .ok (.aload_n 0, 1) := by decide +kernel
theorem dX6_back_33 : decode cX6_back 33 = .ok (.getfield 54, 3) := by decide +kernel
theorem dX6_back_36 : decode cX6_back 36 = .ok (.bipush 7, 2) := by decide +kernel
theorem dX6_back_38 : decode cX6_back 38 = .ok (.iload_n 1, 1) := by decide +kernel
theorem dX6_back_39 : decode cX6_back 39 = .ok (.imul, 1) := by decide +kernel
theorem dX6_back_40 : decode cX6_back 40 = .ok (.iconst 2, 1) := by decide +kernel
theorem dX6_back_41 : decode cX6_back 41 = .ok (.iadd, 1) := by decide +kernel
theorem dX6_back_42 : decode cX6_back 42 = .ok (.iaload, 1) := by decide +kernel
theorem dX6_back_43 : decode cX6_back 43 = .ok (.isub, 1) := by decide +kernel
theorem dX6_back_44 : decode cX6_back 44 = .ok (.iastore, 1) := by decide +kernel
theorem dX6_back_45 : decode cX6_back 45 = .ok (.aload_n 0, 1) := by decide +kernel
theorem dX6_back_46 : decode cX6_back 46 = .ok (.getfield 37, 3) := by decide +kernel
theorem dX6_back_49 : decode cX6_back 49 = .ok (.iload_n 2, 1) := by decide +kernel
theorem dX6_back_50 : decode cX6_back 50 = .ok (.dup2, 1) := by decide +kernel
theorem dX6_back_51 : decode cX6_back 51 = .ok (.iaload, 1) := by decide +kernel
theorem dX6_back_52 : decode cX6_back 52 = .ok (.aload_n 0, 1) := by decide +kernel
theorem dX6_back_53 : decode cX6_back 53 = .ok (.getfield 54, 3) := by decide +kernel
theorem dX6_back_56 : decode cX6_back 56 = .ok (.bipush 7, 2) := by decide +kernel
theorem dX6_back_58 : decode cX6_back 58 = .ok (.iload_n 1, 1) := by decide +kernel
theorem dX6_back_59 : decode cX6_back 59 = .ok (.imul, 1) := by decide +kernel
theorem dX6_back_60 : decode cX6_back 60 = .ok (.iconst 3, 1) := by decide +kernel
theorem dX6_back_61 : decode cX6_back 61 = .ok (.iadd, 1) := by decide +kernel
theorem dX6_back_62 : decode cX6_back 62 = .ok (.iaload, 1) := by decide +kernel
theorem dX6_back_63 : decode cX6_back 63 = .ok (.isub, 1) := by decide +kernel
theorem dX6_back_64 : decode cX6_back 64 = .ok (.iastore, 1) := by decide +kernel
theorem dX6_back_65 : decode cX6_back 65 = .ok (.return_, 1) := by decide +kernel
theorem dX6_ended_0 : decode cX6_ended 0 = .ok (.iload_n 1, 1) := by decide +kernel
theorem dX6_ended_1 : decode cX6_ended 1 = .ok (.ifCond .eq 26, 3) := by decide +kernel
theorem dX6_ended_4 : decode cX6_ended 4 = .ok (.aload_n 0, 1) := by decide +kernel
theorem dX6_ended_5 : decode cX6_ended 5 = .ok (.aload_n 0, 1) := by decide +kernel
theorem dX6_ended_6 : decode cX6_ended 6 = .ok (.getfield 236, 3) := by decide +kernel
theorem dX6_ended_9 : decode cX6_ended 9 = .ok (.putfield 239, 3) := by decide +kernel
theorem dX6_ended_12 : decode cX6_ended 12 = .ok (.aload_n 0, 1) := by decide +kernel
theorem dX6_ended_13 : decode cX6_ended 13 = .ok (.dup, 1) := by decide +kernel
theorem dX6_ended_14 : decode cX6_ended 14 = .ok (.getfield 245, 3) := by decide +kernel
theorem dX6_ended_17 : decode cX6_ended 17 = .ok (.iconst 1, 1) := by decide +kernel
theorem dX6_ended_18 : decode cX6_ended 18 = .ok (.iadd, 1) := by decide +kernel
theorem dX6_ended_19 : decode cX6_ended 19 = .ok (.putfield 245, 3) := by decide +kernel
theorem dX6_ended_22 : decode cX6_ended 22 = .ok (.aload_n 0, 1) := by decide +kernel
theorem dX6_ended_23 : decode cX6_ended 23 = .ok (.getfield 236, 3) := by decide +kernel
theorem dX6_ended_26 : decode cX6_ended 26 = .ok (.ireturn, 1) := by decide +kernel
theorem dX6_ended_27 : decode cX6_ended 27 = .ok (.aload_n 0, 1) := by decide +kernel
theorem dX6_ended_28 : decode cX6_ended 28 = .ok (.getfield 236, 3) := by decide +kernel
theorem dX6_ended_31 : decode cX6_ended 31 = .ok (.iconst 1, 1) := by decide +kernel
theorem dX6_ended_32 : decode cX6_ended 32 = .ok (.isub, 1) := by decide +kernel
theorem dX6_ended_33 : decode cX6_ended 33 = .ok (.istore_n 2, 1) := by decide +kernel
theorem dX6_ended_34 : decode cX6_ended 34 = .ok (.iload_n 2, 1) := by decide +kernel
theorem dX6_ended_35 : decode cX6_ended 35 = .ok (.ifCond .lt 14, 3) := by decide +kernel
theorem dX6_ended_38 : decode cX6_ended 38 = .ok (.aload_n 0, 1) := by decide +kernel
theorem dX6_ended_39 : decode cX6_ended 39 = .ok (.iload_n 2, 1) := by decide +kernel
theorem dX6_ended_40 : decode cX6_ended 40 = .ok (.invokevirtual 248, 3) := by decide +kernel
theorem dX6_ended_43 : decode cX6_ended 43 = .ok (.iinc 2 (-1), 3) := by decide +kernel
theorem dX6_ended_46 : decode cX6_ended 46 = .ok (.goto (-12), 3) := by decide +kernel
theorem dX6_ended_49 : decode cX6_ended 49 = .ok (.aload_n 0, 1) := by decide +kernel
theorem dX6_ended_50 : decode cX6_ended 50 = .ok (.dup, 1) := by decide +kernel
theorem dX6_ended_51 : decode cX6_ended 51 = .ok (.getfield 251, 3) := by decide +kernel
theorem dX6_ended_54 : decode cX6_ended 54 = .ok (.iconst 1, 1) := by decide +kernel
theorem dX6_ended_55 : decode cX6_ended 55 = .ok (.iadd, 1) := by decide +kernel
theorem dX6_ended_56 : decode cX6_ended 56 = .ok (.putfield 251, 3) := by decide +kernel
theorem dX6_ended_59 : decode cX6_ended 59 = .ok (.bipush (-100), 2) := by decide +kernel
theorem dX6_ended_61 : decode cX6_ended 61 = .ok (.aload_n 0, 1) := by decide +kernel
theorem dX6_ended_62 : decode cX6_ended 62 = .ok (.getfield 236, 3) := by decide +kernel
theorem dX6_ended_65 : decode cX6_ended 65 = .ok (.isub, 1) := by decide +kernel
theorem dX6_ended_66 : decode cX6_ended 66 = .ok (.ireturn, 1) := by decide +kernel
theorem dX6_isStuck_0 : decode cX6_isStuck 0 = .ok (.aload_n 0, 1) := by decide +kernel
theorem dX6_isStuck_1 : decode cX6_isStuck 1 = .ok (.iload_n 1, 1) := by decide +kernel
theorem dX6_isStuck_2 : decode cX6_isStuck 2 = .ok (.iload_n 2, 1) := by decide +kernel
theorem dX6_isStuck_3 : decode cX6_isStuck 3 = .ok (.invokevirtual 118, 3) := by decide +kernel
theorem dX6_isStuck_6 : decode cX6_isStuck 6 = .ok (.istore_n 3, 1) := by decide +kernel
theorem dX6_isStuck_7 : decode cX6_isStuck 7 = .ok (.iload_n 3, 1) := by decide +kernel
theorem dX6_isStuck_8 : decode cX6_isStuck 8 = .ok (.ifCond .ne 5, 3) := by decide +kernel
theorem dX6_isStuck_11 : decode cX6_isStuck 11 = .ok (.iconst 0, 1) := by decide +kernel
theorem dX6_isStuck_12 : decode cX6_isStuck 12 = .ok (.ireturn, 1) := by decide +kernel
theorem dX6_isStuck_13 : decode cX6_isStuck 13 = .ok (.aload_n 0, 1) := by decide +kernel
theorem dX6_isStuck_14 : decode cX6_isStuck 14 = .ok (.iload_n 3, 1) := by decide +kernel
theorem dX6_isStuck_15 : decode cX6_isStuck 15 = .ok (.iconst 1, 1) := by decide +kernel
theorem dX6_isStuck_16 : decode cX6_isStuck 16 = .ok (.if_icmp .ne 7, 3) := by decide +kernel
theorem dX6_isStuck_19 : decode cX6_isStuck 19 = .ok (.iconst 1, 1) := by decide +kernel
theorem dX6_isStuck_20 : decode cX6_isStuck 20 = .ok (.goto 4, 3) := by decide +kernel
theorem dX6_isStuck_23 : decode cX6_isStuck 23 = .ok (.iconst 2, 1) := by decide +kernel
theorem dX6_isStuck_24 : decode cX6_isStuck 24 = .ok (.putfield 242, 3) := by decide +kernel
theorem dX6_isStuck_27 : decode cX6_isStuck 27 = .ok (.aload_n 0, 1) := by decide +kernel
theorem dX6_isStuck_28 : decode cX6_isStuck 28 = .ok (.iload_n 2, 1) := by decide +kernel
theorem dX6_isStuck_29 : decode cX6_isStuck 29 = .ok (.putfield 46, 3) := by decide +kernel
theorem dX6_isStuck_32 : decode cX6_isStuck 32 = .ok (.aload_n 0, 1) := by decide +kernel
theorem dX6_isStuck_33 : decode cX6_isStuck 33 = .ok (.iload_n 1, 1) := by decide +kernel
theorem dX6_isStuck_34 : decode cX6_isStuck 34 = .ok (.putfield 50, 3) := by decide +kernel
theorem dX6_isStuck_37 : decode cX6_isStuck 37 = .ok (.iconst 1, 1) := by decide +kernel
theorem dX6_isStuck_38 : decode cX6_isStuck 38 = .ok (.ireturn, 1) := by decide +kernel
theorem dX6_reason_0 : decode cX6_reason 0 = .ok (.iload_n 3, 1) := by decide +kernel
theorem dX6_reason_1 : decode cX6_reason 1 = .ok (.iload_n 0, 1) := by decide +kernel
theorem dX6_reason_2 : decode cX6_reason 2 = .ok (.imul, 1) := by decide +kernel
theorem dX6_reason_3 : decode cX6_reason 3 = .ok (.ifCond .lt 9, 3) := by decide +kernel
theorem dX6_reason_6 : decode cX6_reason 6 = .ok (.iload_n 3, 1) := by decide +kernel
theorem dX6_reason_7 : decode cX6_reason 7 = .ok (.iload_n 1, 1) := by decide +kernel
theorem dX6_reason_8 : decode cX6_reason 8 = .ok (.imul, 1) := by decide +kernel
theorem dX6_reason_9 : decode cX6_reason 9 = .ok (.ifCond .ge 7, 3) := by decide +kernel
theorem dX6_reason_12 : decode cX6_reason 12 = .ok (.iconst 1, 1) := by decide +kernel
theorem dX6_reason_13 : decode cX6_reason 13 = .ok (.goto 4, 3) := by decide +kernel
theorem dX6_reason_16 : decode cX6_reason 16 = .ok (.iconst 0, 1) := by decide +kernel
theorem dX6_reason_17 : decode cX6_reason 17 = .ok (.istore 4, 2) := by decide +kernel
theorem dX6_reason_19 : decode cX6_reason 19 = .ok (.iload_n 3, 1) := by decide +kernel
theorem dX6_reason_20 : decode cX6_reason 20 = .ok (.iload_n 0, 1) := by decide +kernel
theorem dX6_reason_21 : decode cX6_reason 21 = .ok (.imul, 1) := by decide +kernel
theorem dX6_reason_22 : decode cX6_reason 22 = .ok (.ifCond .gt 9, 3) := by decide +kernel
theorem dX6_reason_25 : decode cX6_reason 25 = .ok (.iload_n 3, 1) := by decide +kernel
theorem dX6_reason_26 : decode cX6_reason 26 = .ok (.iload_n 1, 1) := by decide +kernel
theorem dX6_reason_27 : decode cX6_reason 27 = .ok (.imul, 1) := by decide +kernel
theorem dX6_reason_28 : decode cX6_reason 28 = .ok (.ifCond .le 7, 3) := by decide +kernel
theorem dX6_reason_31 : decode cX6_reason 31 = .ok (.iconst 1, 1) := by decide +kernel
theorem dX6_reason_32 : decode cX6_reason 32 = .ok (.goto 4, 3) := by decide +kernel
theorem dX6_reason_35 : decode cX6_reason 35 = .ok (.iconst 0, 1) := by decide +kernel
theorem dX6_reason_36 : decode cX6_reason 36 = .ok (.istore 5, 2) := by decide +kernel
theorem dX6_reason_38 : decode cX6_reason 38 = .ok (.iload_n 2, 1) := by decide +kernel
theorem dX6_reason_39 : decode cX6_reason 39 = .ok (.ifCond .ne 16, 3) := by decide +kernel
theorem dX6_reason_42 : decode cX6_reason 42 = .ok (.iload 4, 2) := by decide +kernel
theorem dX6_reason_44 : decode cX6_reason 44 = .ok (.ifCond .eq 7, 3) := by decide +kernel
theorem dX6_reason_47 : decode cX6_reason 47 = .ok (.iconst 2, 1) := by decide +kernel
theorem dX6_reason_48 : decode cX6_reason 48 = .ok (.goto 17, 3) := by decide +kernel
theorem dX6_reason_51 : decode cX6_reason 51 = .ok (.iconst 1, 1) := by decide +kernel
theorem dX6_reason_52 : decode cX6_reason 52 = .ok (.goto 13, 3) := by decide +kernel
theorem dX6_reason_55 : decode cX6_reason 55 = .ok (.iload 5, 2) := by decide +kernel
theorem dX6_reason_57 : decode cX6_reason 57 = .ok (.ifCond .eq 7, 3) := by decide +kernel
theorem dX6_reason_60 : decode cX6_reason 60 = .ok (.iconst 4, 1) := by decide +kernel
theorem dX6_reason_61 : decode cX6_reason 61 = .ok (.goto 4, 3) := by decide +kernel
theorem dX6_reason_64 : decode cX6_reason 64 = .ok (.iconst 3, 1) := by decide +kernel
theorem dX6_reason_65 : decode cX6_reason 65 = .ok (.ireturn, 1) := by decide +kernel
theorem dX6_change_0 : decode cX6_change 0 = .ok (.iload_n 2, 1) := by decide +kernel
theorem dX6_change_1 : decode cX6_change 1 = .ok (.istore 5, 2) := by decide +kernel
theorem dX6_change_3 : decode cX6_change 3 = .ok (.iload_n 3, 1) := by decide +kernel
theorem dX6_change_4 : decode cX6_change 4 = .ok (.istore 6, 2) := by decide +kernel
theorem dX6_change_6 : decode cX6_change 6 = .ok (.iload 6, 2) := by decide +kernel
theorem dX6_change_8 : decode cX6_change 8 = .ok (.ifCond .le 257, 3) := by decide +kernel
theorem dX6_change_11 : decode cX6_change 11 = .ok (.aload_n 0, 1) := by decide +kernel
theorem dX6_change_12 : decode cX6_change 12 = .ok (.iload_n 1, 1) := by decide +kernel
theorem dX6_change_13 : decode cX6_change 13 = .ok (.iload 5, 2) := by decide +kernel
theorem dX6_change_15 : decode cX6_change 15 = .ok (.invokevirtual 254, 3) := by decide +kernel
theorem dX6_change_18 : decode cX6_change 18 = .ok (.ifCond .eq 5, 3) := by decide +kernel
theorem dX6_change_21 : decode cX6_change 21 = .ok (.iconst 0, 1) := by decide +kernel
theorem dX6_change_22 : decode cX6_change 22 = .ok (.ireturn, 1) := by decide +kernel
theorem dX6_change_23 : decode cX6_change 23 = .ok (.aload_n 0, 1) := by decide +kernel
theorem dX6_change_24 : decode cX6_change 24 = .ok (.iload_n 1, 1) := by decide +kernel
theorem dX6_change_25 : decode cX6_change 25 = .ok (.iload 5, 2) := by decide +kernel
theorem dX6_change_27 : decode cX6_change 27 = .ok (.invokevirtual 108, 3) := by decide +kernel
theorem dX6_change_30 : decode cX6_change 30 = .ok (.istore 7, 2) := by decide +kernel
theorem dX6_change_32 : decode cX6_change 32 = .ok (.aload_n 0, 1) := by decide +kernel
theorem dX6_change_33 : decode cX6_change 33 = .ok (.iload 7, 2) := by decide +kernel
theorem dX6_change_35 : decode cX6_change 35 = .ok (.invokevirtual 121, 3) := by decide +kernel
theorem dX6_change_38 : decode cX6_change 38 = .ok (.iload 4, 2) := by decide +kernel
theorem dX6_change_40 : decode cX6_change 40 = .ok (.iload 6, 2) := by decide +kernel
theorem dX6_change_42 : decode cX6_change 42 = .ok (.imul, 1) := by decide +kernel
theorem dX6_change_43 : decode cX6_change 43 = .ok (.iadd, 1) := by decide +kernel
theorem dX6_change_44 : decode cX6_change 44 = .ok (.istore 8, 2) := by decide +kernel
theorem dX6_change_46 : decode cX6_change 46 = .ok (.iload 8, 2) := by decide +kernel
theorem dX6_change_48 : decode cX6_change 48 = .ok (.ifCond .ge 7, 3) := by decide +kernel
theorem dX6_change_51 : decode cX6_change 51 = .ok (.iconst (-1), 1) := by decide +kernel
theorem dX6_change_52 : decode cX6_change 52 = .ok (.goto 19, 3) := by decide +kernel
theorem dX6_change_55 : decode cX6_change 55 = .ok (.iload 8, 2) := by decide +kernel
theorem dX6_change_57 : decode cX6_change 57 = .ok (.aload_n 0, 1) := by decide +kernel
theorem dX6_change_58 : decode cX6_change 58 = .ok (.getfield 16, 3) := by decide +kernel
theorem dX6_change_61 : decode cX6_change 61 = .ok (.iload_n 1, 1) := by decide +kernel
theorem dX6_change_62 : decode cX6_change 62 = .ok (.iaload, 1) := by decide +kernel
theorem dX6_change_63 : decode cX6_change 63 = .ok (.if_icmp .lt 7, 3) := by decide +kernel
theorem dX6_change_66 : decode cX6_change 66 = .ok (.iconst 1, 1) := by decide +kernel
theorem dX6_change_67 : decode cX6_change 67 = .ok (.goto 4, 3) := by decide +kernel
theorem dX6_change_70 : decode cX6_change 70 = .ok (.iconst 0, 1) := by decide +kernel
theorem dX6_change_71 : decode cX6_change 71 = .ok (.istore 9, 2) := by decide +kernel
theorem dX6_change_73 : decode cX6_change 73 = .ok (.aload_n 0, 1) := by decide +kernel
theorem dX6_change_74 : decode cX6_change 74 = .ok (.getfield 40, 3) := by decide +kernel
theorem dX6_change_77 : decode cX6_change 77 = .ok (.iload 7, 2) := by decide +kernel
theorem dX6_change_79 : decode cX6_change 79 = .ok (.iaload, 1) := by decide +kernel
theorem dX6_change_80 : decode cX6_change 80 = .ok (.istore 10, 2) := by decide +kernel
theorem dX6_change_82 : decode cX6_change 82 = .ok (.aload_n 0, 1) := by decide +kernel
theorem dX6_change_83 : decode cX6_change 83 = .ok (.getfield 37, 3) := by decide +kernel
theorem dX6_change_86 : decode cX6_change 86 = .ok (.iload 7, 2) := by decide +kernel
theorem dX6_change_88 : decode cX6_change 88 = .ok (.iaload, 1) := by decide +kernel
theorem dX6_change_89 : decode cX6_change 89 = .ok (.istore 11, 2) := by decide +kernel
theorem dX6_change_91 : decode cX6_change 91 = .ok (.aload_n 0, 1) := by decide +kernel
theorem dX6_change_92 : decode cX6_change 92 = .ok (.iload 7, 2) := by decide +kernel
theorem dX6_change_94 : decode cX6_change 94 = .ok (.iload 8, 2) := by decide +kernel
theorem dX6_change_96 : decode cX6_change 96 = .ok (.iload 9, 2) := by decide +kernel
theorem dX6_change_98 : decode cX6_change 98 = .ok (.aload_n 0, 1) := by decide +kernel
theorem dX6_change_99 : decode cX6_change 99 = .ok (.getfield 16, 3) := by decide +kernel
theorem dX6_change_102 : decode cX6_change 102 = .ok (.iload_n 1, 1) := by decide +kernel
theorem dX6_change_103 : decode cX6_change 103 = .ok (.iaload, 1) := by decide +kernel
theorem dX6_change_104 : decode cX6_change 104 = .ok (.imul, 1) := by decide +kernel
theorem dX6_change_105 : decode cX6_change 105 = .ok (.isub, 1) := by decide +kernel
theorem dX6_change_106 : decode cX6_change 106 = .ok (.invokevirtual 159, 3) := by decide +kernel
theorem dX6_change_109 : decode cX6_change 109 = .ok (.bipush 7, 2) := by decide +kernel
theorem dX6_change_111 : decode cX6_change 111 = .ok (.aload_n 0, 1) := by decide +kernel
theorem dX6_change_112 : decode cX6_change 112 = .ok (.getfield 236, 3) := by decide +kernel
theorem dX6_change_115 : decode cX6_change 115 = .ok (.imul, 1) := by decide +kernel
theorem dX6_change_116 : decode cX6_change 116 = .ok (.istore 12, 2) := by decide +kernel
theorem dX6_change_118 : decode cX6_change 118 = .ok (.aload_n 0, 1) := by decide +kernel
theorem dX6_change_119 : decode cX6_change 119 = .ok (.getfield 54, 3) := by decide +kernel
theorem dX6_change_122 : decode cX6_change 122 = .ok (.iload 12, 2) := by decide +kernel
theorem dX6_change_124 : decode cX6_change 124 = .ok (.iload_n 1, 1) := by decide +kernel
theorem dX6_change_125 : decode cX6_change 125 = .ok (.iastore, 1) := by decide +kernel
theorem dX6_change_126 : decode cX6_change 126 = .ok (.aload_n 0, 1) := by decide +kernel
theorem dX6_change_127 : decode cX6_change 127 = .ok (.getfield 54, 3) := by decide +kernel
theorem dX6_change_130 : decode cX6_change 130 = .ok (.iload 12, 2) := by decide +kernel
theorem dX6_change_132 : decode cX6_change 132 = .ok (.iconst 1, 1) := by decide +kernel
theorem dX6_change_133 : decode cX6_change 133 = .ok (.iadd, 1) := by decide +kernel
theorem dX6_change_134 : decode cX6_change 134 = .ok (.iload 5, 2) := by decide +kernel
theorem dX6_change_136 : decode cX6_change 136 = .ok (.iastore, 1) := by decide +kernel
theorem dX6_change_137 : decode cX6_change 137 = .ok (.aload_n 0, 1) := by decide +kernel
theorem dX6_change_138 : decode cX6_change 138 = .ok (.getfield 54, 3) := by decide +kernel
theorem dX6_change_141 : decode cX6_change 141 = .ok (.iload 12, 2) := by decide +kernel
theorem dX6_change_143 : decode cX6_change 143 = .ok (.iconst 2, 1) := by decide +kernel
theorem dX6_change_144 : decode cX6_change 144 = .ok (.iadd, 1) := by decide +kernel
theorem dX6_change_145 : decode cX6_change 145 = .ok (.aload_n 0, 1) := by decide +kernel
theorem dX6_change_146 : decode cX6_change 146 = .ok (.getfield 40, 3) := by decide +kernel
theorem dX6_change_149 : decode cX6_change 149 = .ok (.iload 7, 2) := by decide +kernel
theorem dX6_change_151 : decode cX6_change 151 = .ok (.iaload, 1) := by decide +kernel
theorem dX6_change_152 : decode cX6_change 152 = .ok (.iload 10, 2) := by decide +kernel
theorem dX6_change_154 : decode cX6_change 154 = .ok (.isub, 1) := by decide +kernel
theorem dX6_change_155 : decode cX6_change 155 = .ok (.iastore, 1) := by decide +kernel
theorem dX6_change_156 : decode cX6_change 156 = .ok (.aload_n 0, 1) := by decide +kernel
theorem dX6_change_157 : decode cX6_change 157 = .ok (.getfield 54, 3) := by decide +kernel
theorem dX6_change_160 : decode cX6_change 160 = .ok (.iload 12, 2) := by decide +kernel
theorem dX6_change_162 : decode cX6_change 162 = .ok (.iconst 3, 1) := by decide +kernel
theorem dX6_change_163 : decode cX6_change 163 = .ok (.iadd, 1) := by decide +kernel
theorem dX6_change_164 : decode cX6_change 164 = .ok (.aload_n 0, 1) := by decide +kernel
theorem dX6_change_165 : decode cX6_change 165 = .ok (.getfield 37, 3) := by decide +kernel
theorem dX6_change_168 : decode cX6_change 168 = .ok (.iload 7, 2) := by decide +kernel
theorem dX6_change_170 : decode cX6_change 170 = .ok (.iaload, 1) := by decide +kernel
theorem dX6_change_171 : decode cX6_change 171 = .ok (.iload 11, 2) := by decide +kernel
theorem dX6_change_173 : decode cX6_change 173 = .ok (.isub, 1) := by decide +kernel
theorem dX6_change_174 : decode cX6_change 174 = .ok (.iastore, 1) := by decide +kernel
theorem dX6_change_175 : decode cX6_change 175 = .ok (.aload_n 0, 1) := by decide +kernel
theorem dX6_change_176 : decode cX6_change 176 = .ok (.getfield 54, 3) := by decide +kernel
theorem dX6_change_179 : decode cX6_change 179 = .ok (.iload 12, 2) := by decide +kernel
theorem dX6_change_181 : decode cX6_change 181 = .ok (.iconst 4, 1) := by decide +kernel
theorem dX6_change_182 : decode cX6_change 182 = .ok (.iadd, 1) := by decide +kernel
theorem dX6_change_183 : decode cX6_change 183 = .ok (.aload_n 0, 1) := by decide +kernel
theorem dX6_change_184 : decode cX6_change 184 = .ok (.getfield 40, 3) := by decide +kernel
theorem dX6_change_187 : decode cX6_change 187 = .ok (.iload 7, 2) := by decide +kernel
theorem dX6_change_189 : decode cX6_change 189 = .ok (.iaload, 1) := by decide +kernel
theorem dX6_change_190 : decode cX6_change 190 = .ok (.iload 10, 2) := by decide +kernel
theorem dX6_change_192 : decode cX6_change 192 = .ok (.isub, 1) := by decide +kernel
theorem dX6_change_193 : decode cX6_change 193 = .ok (.aload_n 0, 1) := by decide +kernel
theorem dX6_change_194 : decode cX6_change 194 = .ok (.getfield 37, 3) := by decide +kernel
theorem dX6_change_197 : decode cX6_change 197 = .ok (.iload 7, 2) := by decide +kernel
theorem dX6_change_199 : decode cX6_change 199 = .ok (.iaload, 1) := by decide +kernel
theorem dX6_change_200 : decode cX6_change 200 = .ok (.iload 11, 2) := by decide +kernel
theorem dX6_change_202 : decode cX6_change 202 = .ok (.isub, 1) := by decide +kernel
theorem dX6_change_203 : decode cX6_change 203 = .ok (.iload 9, 2) := by decide +kernel
theorem dX6_change_205 : decode cX6_change 205 = .ok (.iload 4, 2) := by decide +kernel
theorem dX6_change_207 : decode cX6_change 207 = .ok (.invokestatic 258, 3) := by decide +kernel
theorem dX6_change_210 : decode cX6_change 210 = .ok (.iastore, 1) := by decide +kernel
theorem dX6_change_211 : decode cX6_change 211 = .ok (.aload_n 0, 1) := by decide +kernel
theorem dX6_change_212 : decode cX6_change 212 = .ok (.getfield 54, 3) := by decide +kernel
theorem dX6_change_215 : decode cX6_change 215 = .ok (.iload 12, 2) := by decide +kernel
theorem dX6_change_217 : decode cX6_change 217 = .ok (.iconst 5, 1) := by decide +kernel
theorem dX6_change_218 : decode cX6_change 218 = .ok (.iadd, 1) := by decide +kernel
theorem dX6_change_219 : decode cX6_change 219 = .ok (.iload 9, 2) := by decide +kernel
theorem dX6_change_221 : decode cX6_change 221 = .ok (.iastore, 1) := by decide +kernel
theorem dX6_change_222 : decode cX6_change 222 = .ok (.aload_n 0, 1) := by decide +kernel
theorem dX6_change_223 : decode cX6_change 223 = .ok (.getfield 54, 3) := by decide +kernel
theorem dX6_change_226 : decode cX6_change 226 = .ok (.iload 12, 2) := by decide +kernel
theorem dX6_change_228 : decode cX6_change 228 = .ok (.bipush 6, 2) := by decide +kernel
theorem dX6_change_230 : decode cX6_change 230 = .ok (.iadd, 1) := by decide +kernel
theorem dX6_change_231 : decode cX6_change 231 = .ok (.iload 4, 2) := by decide +kernel
theorem dX6_change_233 : decode cX6_change 233 = .ok (.iload 6, 2) := by decide +kernel
theorem dX6_change_235 : decode cX6_change 235 = .ok (.imul, 1) := by decide +kernel
theorem dX6_change_236 : decode cX6_change 236 = .ok (.iastore, 1) := by decide +kernel
theorem dX6_change_237 : decode cX6_change 237 = .ok (.aload_n 0, 1) := by decide +kernel
theorem dX6_change_238 : decode cX6_change 238 = .ok (.dup, 1) := by decide +kernel
theorem dX6_change_239 : decode cX6_change 239 = .ok (.getfield 236, 3) := by decide +kernel
theorem dX6_change_242 : decode cX6_change 242 = .ok (.iconst 1, 1) := by decide +kernel
theorem dX6_change_243 : decode cX6_change 243 = .ok (.iadd, 1) := by decide +kernel
theorem dX6_change_244 : decode cX6_change 244 = .ok (.putfield 236, 3) := by decide +kernel
theorem dX6_change_247 : decode cX6_change 247 = .ok (.iload 9, 2) := by decide +kernel
theorem dX6_change_249 : decode cX6_change 249 = .ok (.ifCond .ne 7, 3) := by decide +kernel
theorem dX6_change_252 : decode cX6_change 252 = .ok (.iconst 0, 1) := by decide +kernel
theorem dX6_change_253 : decode cX6_change 253 = .ok (.goto 4, 3) := by decide +kernel
theorem dX6_change_256 : decode cX6_change 256 = .ok (.iconst 1, 1) := by decide +kernel
theorem dX6_change_257 : decode cX6_change 257 = .ok (.istore 6, 2) := by decide +kernel
theorem dX6_change_259 : decode cX6_change 259 = .ok (.iinc 5 1, 3) := by decide +kernel
theorem dX6_change_262 : decode cX6_change 262 = .ok (.goto (-256), 3) := by decide +kernel
theorem dX6_change_265 : decode cX6_change 265 = .ok (.iconst 1, 1) := by decide +kernel
theorem dX6_change_266 : decode cX6_change 266 = .ok (.ireturn, 1) := by decide +kernel
theorem dX6_clear_0 : decode cX6_clear 0 = .ok (.iconst 1, 1) := by decide +kernel
theorem dX6_clear_1 : decode cX6_clear 1 = .ok (.istore_n 2, 1) := by decide +kernel
theorem dX6_clear_2 : decode cX6_clear 2 = .ok (.aload_n 0, 1) := by decide +kernel
theorem dX6_clear_3 : decode cX6_clear 3 = .ok (.getfield 13, 3) := by decide +kernel
theorem dX6_clear_6 : decode cX6_clear 6 = .ok (.iload_n 1, 1) := by decide +kernel
theorem dX6_clear_7 : decode cX6_clear 7 = .ok (.iaload, 1) := by decide +kernel
theorem dX6_clear_8 : decode cX6_clear 8 = .ok (.iconst 1, 1) := by decide +kernel
theorem dX6_clear_9 : decode cX6_clear 9 = .ok (.isub, 1) := by decide +kernel
theorem dX6_clear_10 : decode cX6_clear 10 = .ok (.istore_n 3, 1) := by decide +kernel
theorem dX6_clear_11 : decode cX6_clear 11 = .ok (.iload_n 3, 1) := by decide +kernel
theorem dX6_clear_12 : decode cX6_clear 12 = .ok (.ifCond .lt 48, 3) := by decide +kernel
theorem dX6_clear_15 : decode cX6_clear 15 = .ok (.iload_n 2, 1) := by decide +kernel
theorem dX6_clear_16 : decode cX6_clear 16 = .ok (.ifCond .eq 44, 3) := by decide +kernel
theorem dX6_clear_19 : decode cX6_clear 19 = .ok (.aload_n 0, 1) := by decide +kernel
theorem dX6_clear_20 : decode cX6_clear 20 = .ok (.iload_n 1, 1) := by decide +kernel
theorem dX6_clear_21 : decode cX6_clear 21 = .ok (.iload_n 3, 1) := by decide +kernel
theorem dX6_clear_22 : decode cX6_clear 22 = .ok (.invokevirtual 254, 3) := by decide +kernel
theorem dX6_clear_25 : decode cX6_clear 25 = .ok (.ifCond .ne 27, 3) := by decide +kernel
theorem dX6_clear_28 : decode cX6_clear 28 = .ok (.aload_n 0, 1) := by decide +kernel
theorem dX6_clear_29 : decode cX6_clear 29 = .ok (.iload_n 1, 1) := by decide +kernel
theorem dX6_clear_30 : decode cX6_clear 30 = .ok (.iload_n 3, 1) := by decide +kernel
theorem dX6_clear_31 : decode cX6_clear 31 = .ok (.aload_n 0, 1) := by decide +kernel
theorem dX6_clear_32 : decode cX6_clear 32 = .ok (.aload_n 0, 1) := by decide +kernel
theorem dX6_clear_33 : decode cX6_clear 33 = .ok (.iload_n 1, 1) := by decide +kernel
theorem dX6_clear_34 : decode cX6_clear 34 = .ok (.iload_n 3, 1) := by decide +kernel
theorem dX6_clear_35 : decode cX6_clear 35 = .ok (.invokevirtual 108, 3) := by decide +kernel
theorem dX6_clear_38 : decode cX6_clear 38 = .ok (.invokevirtual 121, 3) := by decide +kernel
theorem dX6_clear_41 : decode cX6_clear 41 = .ok (.iconst (-1), 1) := by decide +kernel
theorem dX6_clear_42 : decode cX6_clear 42 = .ok (.invokevirtual 262, 3) := by decide +kernel
theorem dX6_clear_45 : decode cX6_clear 45 = .ok (.ifCond .eq 7, 3) := by decide +kernel
theorem dX6_clear_48 : decode cX6_clear 48 = .ok (.iconst 1, 1) := by decide +kernel
theorem dX6_clear_49 : decode cX6_clear 49 = .ok (.goto 4, 3) := by decide +kernel
theorem dX6_clear_52 : decode cX6_clear 52 = .ok (.iconst 0, 1) := by decide +kernel
theorem dX6_clear_53 : decode cX6_clear 53 = .ok (.istore_n 2, 1) := by decide +kernel
theorem dX6_clear_54 : decode cX6_clear 54 = .ok (.iinc 3 (-1), 3) := by decide +kernel
theorem dX6_clear_57 : decode cX6_clear 57 = .ok (.goto (-46), 3) := by decide +kernel
theorem dX6_clear_60 : decode cX6_clear 60 = .ok (.iload_n 2, 1) := by decide +kernel
theorem dX6_clear_61 : decode cX6_clear 61 = .ok (.ireturn, 1) := by decide +kernel
theorem dX6_changeAll_0 : decode cX6_changeAll 0 = .ok (.iconst 1, 1) := by decide +kernel
theorem dX6_changeAll_1 : decode cX6_changeAll 1 = .ok (.istore 6, 2) := by decide +kernel
theorem dX6_changeAll_3 : decode cX6_changeAll 3 = .ok (.lload_n 3, 1) := by decide +kernel
theorem dX6_changeAll_4 : decode cX6_changeAll 4 = .ok (.aload_n 0, 1) := by decide +kernel
theorem dX6_changeAll_5 : decode cX6_changeAll 5 = .ok (.getfield 16, 3) := by decide +kernel
theorem dX6_changeAll_8 : decode cX6_changeAll 8 = .ok (.iload_n 1, 1) := by decide +kernel
theorem dX6_changeAll_9 : decode cX6_changeAll 9 = .ok (.iaload, 1) := by decide +kernel
theorem dX6_changeAll_10 : decode cX6_changeAll 10 = .ok (.invokestatic 155, 3) := by decide +kernel
theorem dX6_changeAll_13 : decode cX6_changeAll 13 = .ok (.iconst 1, 1) := by decide +kernel
theorem dX6_changeAll_14 : decode cX6_changeAll 14 = .ok (.isub, 1) := by decide +kernel
theorem dX6_changeAll_15 : decode cX6_changeAll 15 = .ok (.istore 7, 2) := by decide +kernel
theorem dX6_changeAll_17 : decode cX6_changeAll 17 = .ok (.iload 7, 2) := by decide +kernel
theorem dX6_changeAll_19 : decode cX6_changeAll 19 = .ok (.ifCond .lt 39, 3) := by decide +kernel
theorem dX6_changeAll_22 : decode cX6_changeAll 22 = .ok (.iload 6, 2) := by decide +kernel
theorem dX6_changeAll_24 : decode cX6_changeAll 24 = .ok (.ifCond .eq 34, 3) := by decide +kernel
theorem dX6_changeAll_27 : decode cX6_changeAll 27 = .ok (.aload_n 0, 1) := by decide +kernel
theorem dX6_changeAll_28 : decode cX6_changeAll 28 = .ok (.iload_n 1, 1) := by decide +kernel
theorem dX6_changeAll_29 : decode cX6_changeAll 29 = .ok (.iload_n 2, 1) := by decide +kernel
theorem dX6_changeAll_30 : decode cX6_changeAll 30 = .ok (.iload 7, 2) := by decide +kernel
theorem dX6_changeAll_32 : decode cX6_changeAll 32 = .ok (.iadd, 1) := by decide +kernel
theorem dX6_changeAll_33 : decode cX6_changeAll 33 = .ok (.lload_n 3, 1) := by decide +kernel
theorem dX6_changeAll_34 : decode cX6_changeAll 34 = .ok (.aload_n 0, 1) := by decide +kernel
theorem dX6_changeAll_35 : decode cX6_changeAll 35 = .ok (.getfield 16, 3) := by decide +kernel
theorem dX6_changeAll_38 : decode cX6_changeAll 38 = .ok (.iload_n 1, 1) := by decide +kernel
theorem dX6_changeAll_39 : decode cX6_changeAll 39 = .ok (.iaload, 1) := by decide +kernel
theorem dX6_changeAll_40 : decode cX6_changeAll 40 = .ok (.iload 7, 2) := by decide +kernel
theorem dX6_changeAll_42 : decode cX6_changeAll 42 = .ok (.invokestatic 266, 3) := by decide +kernel
theorem dX6_changeAll_45 : decode cX6_changeAll 45 = .ok (.iload 5, 2) := by decide +kernel
theorem dX6_changeAll_47 : decode cX6_changeAll 47 = .ok (.invokevirtual 262, 3) := by decide +kernel
theorem dX6_changeAll_50 : decode cX6_changeAll 50 = .ok (.istore 6, 2) := by decide +kernel
theorem dX6_changeAll_52 : decode cX6_changeAll 52 = .ok (.iinc 7 (-1), 3) := by decide +kernel
theorem dX6_changeAll_55 : decode cX6_changeAll 55 = .ok (.goto (-38), 3) := by decide +kernel
theorem dX6_changeAll_58 : decode cX6_changeAll 58 = .ok (.iload 6, 2) := by decide +kernel
theorem dX6_changeAll_60 : decode cX6_changeAll 60 = .ok (.ireturn, 1) := by decide +kernel
theorem dX6_changeTwo_0 : decode cX6_changeTwo 0 = .ok (.aload_n 0, 1) := by decide +kernel
theorem dX6_changeTwo_1 : decode cX6_changeTwo 1 = .ok (.iload_n 1, 1) := by decide +kernel
theorem dX6_changeTwo_2 : decode cX6_changeTwo 2 = .ok (.iload_n 2, 1) := by decide +kernel
theorem dX6_changeTwo_3 : decode cX6_changeTwo 3 = .ok (.iconst 1, 1) := by decide +kernel
theorem dX6_changeTwo_4 : decode cX6_changeTwo 4 = .ok (.iadd, 1) := by decide +kernel
theorem dX6_changeTwo_5 : decode cX6_changeTwo 5 = .ok (.iload_n 3, 1) := by decide +kernel
theorem dX6_changeTwo_6 : decode cX6_changeTwo 6 = .ok (.aload_n 0, 1) := by decide +kernel
theorem dX6_changeTwo_7 : decode cX6_changeTwo 7 = .ok (.getfield 16, 3) := by decide +kernel
theorem dX6_changeTwo_10 : decode cX6_changeTwo 10 = .ok (.iload_n 1, 1) := by decide +kernel
theorem dX6_changeTwo_11 : decode cX6_changeTwo 11 = .ok (.iaload, 1) := by decide +kernel
theorem dX6_changeTwo_12 : decode cX6_changeTwo 12 = .ok (.idiv, 1) := by decide +kernel
theorem dX6_changeTwo_13 : decode cX6_changeTwo 13 = .ok (.iload 4, 2) := by decide +kernel
theorem dX6_changeTwo_15 : decode cX6_changeTwo 15 = .ok (.invokevirtual 262, 3) := by decide +kernel
theorem dX6_changeTwo_18 : decode cX6_changeTwo 18 = .ok (.ifCond .eq 26, 3) := by decide +kernel
theorem dX6_changeTwo_21 : decode cX6_changeTwo 21 = .ok (.aload_n 0, 1) := by decide +kernel
theorem dX6_changeTwo_22 : decode cX6_changeTwo 22 = .ok (.iload_n 1, 1) := by decide +kernel
theorem dX6_changeTwo_23 : decode cX6_changeTwo 23 = .ok (.iload_n 2, 1) := by decide +kernel
theorem dX6_changeTwo_24 : decode cX6_changeTwo 24 = .ok (.iload_n 3, 1) := by decide +kernel
theorem dX6_changeTwo_25 : decode cX6_changeTwo 25 = .ok (.aload_n 0, 1) := by decide +kernel
theorem dX6_changeTwo_26 : decode cX6_changeTwo 26 = .ok (.getfield 16, 3) := by decide +kernel
theorem dX6_changeTwo_29 : decode cX6_changeTwo 29 = .ok (.iload_n 1, 1) := by decide +kernel
theorem dX6_changeTwo_30 : decode cX6_changeTwo 30 = .ok (.iaload, 1) := by decide +kernel
theorem dX6_changeTwo_31 : decode cX6_changeTwo 31 = .ok (.irem, 1) := by decide +kernel
theorem dX6_changeTwo_32 : decode cX6_changeTwo 32 = .ok (.iload 4, 2) := by decide +kernel
theorem dX6_changeTwo_34 : decode cX6_changeTwo 34 = .ok (.invokevirtual 262, 3) := by decide +kernel
theorem dX6_changeTwo_37 : decode cX6_changeTwo 37 = .ok (.ifCond .eq 7, 3) := by decide +kernel
theorem dX6_changeTwo_40 : decode cX6_changeTwo 40 = .ok (.iconst 1, 1) := by decide +kernel
theorem dX6_changeTwo_41 : decode cX6_changeTwo 41 = .ok (.goto 4, 3) := by decide +kernel
theorem dX6_changeTwo_44 : decode cX6_changeTwo 44 = .ok (.iconst 0, 1) := by decide +kernel
theorem dX6_changeTwo_45 : decode cX6_changeTwo 45 = .ok (.ireturn, 1) := by decide +kernel
theorem dX6_multiply_0 : decode cX6_multiply 0 = .ok (.aload_n 0, 1) := by decide +kernel
theorem dX6_multiply_1 : decode cX6_multiply 1 = .ok (.getfield 16, 3) := by decide +kernel
theorem dX6_multiply_4 : decode cX6_multiply 4 = .ok (.iload_n 1, 1) := by decide +kernel
theorem dX6_multiply_5 : decode cX6_multiply 5 = .ok (.iaload, 1) := by decide +kernel
theorem dX6_multiply_6 : decode cX6_multiply 6 = .ok (.istore 6, 2) := by decide +kernel
theorem dX6_multiply_8 : decode cX6_multiply 8 = .ok (.aload_n 0, 1) := by decide +kernel
theorem dX6_multiply_9 : decode cX6_multiply 9 = .ok (.iconst 1, 1) := by decide +kernel
theorem dX6_multiply_10 : decode cX6_multiply 10 = .ok (.putfield 270, 3) := by decide +kernel
theorem dX6_multiply_13 : decode cX6_multiply 13 = .ok (.aload_n 0, 1) := by decide +kernel
theorem dX6_multiply_14 : decode cX6_multiply 14 = .ok (.lload_n 2, 1) := by decide +kernel
theorem dX6_multiply_15 : decode cX6_multiply 15 = .ok (.iload 6, 2) := by decide +kernel
theorem dX6_multiply_17 : decode cX6_multiply 17 = .ok (.invokestatic 155, 3) := by decide +kernel
theorem dX6_multiply_20 : decode cX6_multiply 20 = .ok (.putfield 273, 3) := by decide +kernel
theorem dX6_multiply_23 : decode cX6_multiply 23 = .ok (.aload_n 0, 1) := by decide +kernel
theorem dX6_multiply_24 : decode cX6_multiply 24 = .ok (.lload 4, 2) := by decide +kernel
theorem dX6_multiply_26 : decode cX6_multiply 26 = .ok (.iload 6, 2) := by decide +kernel
theorem dX6_multiply_28 : decode cX6_multiply 28 = .ok (.invokestatic 155, 3) := by decide +kernel
theorem dX6_multiply_31 : decode cX6_multiply 31 = .ok (.putfield 276, 3) := by decide +kernel
theorem dX6_multiply_34 : decode cX6_multiply 34 = .ok (.iconst 0, 1) := by decide +kernel
theorem dX6_multiply_35 : decode cX6_multiply 35 = .ok (.istore 7, 2) := by decide +kernel
theorem dX6_multiply_37 : decode cX6_multiply 37 = .ok (.iload 7, 2) := by decide +kernel
theorem dX6_multiply_39 : decode cX6_multiply 39 = .ok (.aload_n 0, 1) := by decide +kernel
theorem dX6_multiply_40 : decode cX6_multiply 40 = .ok (.getfield 273, 3) := by decide +kernel
theorem dX6_multiply_43 : decode cX6_multiply 43 = .ok (.if_icmp .ge 64, 3) := by decide +kernel
theorem dX6_multiply_46 : decode cX6_multiply 46 = .ok (.aload_n 0, 1) := by decide +kernel
theorem dX6_multiply_47 : decode cX6_multiply 47 = .ok (.getfield 57, 3) := by decide +kernel
theorem dX6_multiply_50 : decode cX6_multiply 50 = .ok (.iload 7, 2) := by decide +kernel
theorem dX6_multiply_52 : decode cX6_multiply 52 = .ok (.lload_n 2, 1) := by decide +kernel
theorem dX6_multiply_53 : decode cX6_multiply 53 = .ok (.iload 6, 2) := by decide +kernel
theorem dX6_multiply_55 : decode cX6_multiply 55 = .ok (.iload 7, 2) := by decide +kernel
theorem dX6_multiply_57 : decode cX6_multiply 57 = .ok (.invokestatic 266, 3) := by decide +kernel
theorem dX6_multiply_60 : decode cX6_multiply 60 = .ok (.ifCond .le 7, 3) := by decide +kernel
theorem dX6_multiply_63 : decode cX6_multiply 63 = .ok (.iconst 1, 1) := by decide +kernel
theorem dX6_multiply_64 : decode cX6_multiply 64 = .ok (.goto 4, 3) := by decide +kernel
theorem dX6_multiply_67 : decode cX6_multiply 67 = .ok (.iconst 0, 1) := by decide +kernel
theorem dX6_multiply_68 : decode cX6_multiply 68 = .ok (.bastore, 1) := by decide +kernel
theorem dX6_multiply_69 : decode cX6_multiply 69 = .ok (.iconst 0, 1) := by decide +kernel
theorem dX6_multiply_70 : decode cX6_multiply 70 = .ok (.istore 8, 2) := by decide +kernel
theorem dX6_multiply_72 : decode cX6_multiply 72 = .ok (.iload 8, 2) := by decide +kernel
theorem dX6_multiply_74 : decode cX6_multiply 74 = .ok (.aload_n 0, 1) := by decide +kernel
theorem dX6_multiply_75 : decode cX6_multiply 75 = .ok (.getfield 276, 3) := by decide +kernel
theorem dX6_multiply_78 : decode cX6_multiply 78 = .ok (.if_icmp .ge 23, 3) := by decide +kernel
theorem dX6_multiply_81 : decode cX6_multiply 81 = .ok (.aload_n 0, 1) := by decide +kernel
theorem dX6_multiply_82 : decode cX6_multiply 82 = .ok (.getfield 61, 3) := by decide +kernel
theorem dX6_multiply_85 : decode cX6_multiply 85 = .ok (.bipush 20, 2) := by decide +kernel
theorem dX6_multiply_87 : decode cX6_multiply 87 = .ok (.iload 7, 2) := by decide +kernel
theorem dX6_multiply_89 : decode cX6_multiply 89 = .ok (.imul, 1) := by decide +kernel
theorem dX6_multiply_90 : decode cX6_multiply 90 = .ok (.iload 8, 2) := by decide +kernel
theorem dX6_multiply_92 : decode cX6_multiply 92 = .ok (.iadd, 1) := by decide +kernel
theorem dX6_multiply_93 : decode cX6_multiply 93 = .ok (.lconst 0, 1) := by decide +kernel
theorem dX6_multiply_94 : decode cX6_multiply 94 = .ok (.lastore, 1) := by decide +kernel
theorem dX6_multiply_95 : decode cX6_multiply 95 = .ok (.iinc 8 1, 3) := by decide +kernel
theorem dX6_multiply_98 : decode cX6_multiply 98 = .ok (.goto (-26), 3) := by decide +kernel
theorem dX6_multiply_101 : decode cX6_multiply 101 = .ok (.iinc 7 1, 3) := by decide +kernel
theorem dX6_multiply_104 : decode cX6_multiply 104 = .ok (.goto (-67), 3) := by decide +kernel
theorem dX6_multiply_107 : decode cX6_multiply 107 = .ok (.aload_n 0, 1) := by decide +kernel
theorem dX6_multiply_108 : decode cX6_multiply 108 = .ok (.iload_n 1, 1) := by decide +kernel
theorem dX6_multiply_109 : decode cX6_multiply 109 = .ok (.invokevirtual 279, 3) := by decide +kernel
theorem dX6_multiply_112 : decode cX6_multiply 112 = .ok (.istore 7, 2) := by decide +kernel
theorem dX6_multiply_114 : decode cX6_multiply 114 = .ok (.aload_n 0, 1) := by decide +kernel
theorem dX6_multiply_115 : decode cX6_multiply 115 = .ok (.getfield 273, 3) := by decide +kernel
theorem dX6_multiply_118 : decode cX6_multiply 118 = .ok (.iconst 1, 1) := by decide +kernel
theorem dX6_multiply_119 : decode cX6_multiply 119 = .ok (.isub, 1) := by decide +kernel
theorem dX6_multiply_120 : decode cX6_multiply 120 = .ok (.istore 8, 2) := by decide +kernel
theorem dX6_multiply_122 : decode cX6_multiply 122 = .ok (.iload 8, 2) := by decide +kernel
theorem dX6_multiply_124 : decode cX6_multiply 124 = .ok (.ifCond .lt 99, 3) := by decide +kernel
theorem dX6_multiply_127 : decode cX6_multiply 127 = .ok (.iload 7, 2) := by decide +kernel
theorem dX6_multiply_129 : decode cX6_multiply 129 = .ok (.ifCond .eq 94, 3) := by decide +kernel
theorem dX6_multiply_132 : decode cX6_multiply 132 = .ok (.aload_n 0, 1) := by decide +kernel
theorem dX6_multiply_133 : decode cX6_multiply 133 = .ok (.getfield 276, 3) := by decide +kernel
theorem dX6_multiply_136 : decode cX6_multiply 136 = .ok (.iconst 1, 1) := by decide +kernel
theorem dX6_multiply_137 : decode cX6_multiply 137 = .ok (.isub, 1) := by decide +kernel
theorem dX6_multiply_138 : decode cX6_multiply 138 = .ok (.istore 9, 2) := by decide +kernel
theorem dX6_multiply_140 : decode cX6_multiply 140 = .ok (.iload 9, 2) := by decide +kernel
theorem dX6_multiply_142 : decode cX6_multiply 142 = .ok (.ifCond .lt 75, 3) := by decide +kernel
theorem dX6_multiply_145 : decode cX6_multiply 145 = .ok (.iload 7, 2) := by decide +kernel
theorem dX6_multiply_147 : decode cX6_multiply 147 = .ok (.ifCond .eq 70, 3) := by decide +kernel
theorem dX6_multiply_150 : decode cX6_multiply 150 = .ok (.aload_n 0, 1) := by decide +kernel
theorem dX6_multiply_151 : decode cX6_multiply 151 = .ok (.getfield 57, 3) := by decide +kernel
theorem dX6_multiply_154 : decode cX6_multiply 154 = .ok (.iload 8, 2) := by decide +kernel
theorem dX6_multiply_156 : decode cX6_multiply 156 = .ok (.baload, 1) := by decide +kernel
theorem dX6_multiply_157 : decode cX6_multiply 157 = .ok (.ifCond .eq 60, 3) := by decide +kernel
theorem dX6_multiply_160 : decode cX6_multiply 160 = .ok (.lload_n 2, 1) := by decide +kernel
theorem dX6_multiply_161 : decode cX6_multiply 161 = .ok (.iload 6, 2) := by decide +kernel
theorem dX6_multiply_163 : decode cX6_multiply 163 = .ok (.iload 8, 2) := by decide +kernel
theorem dX6_multiply_165 : decode cX6_multiply 165 = .ok (.invokestatic 266, 3) := by decide +kernel
theorem dX6_multiply_168 : decode cX6_multiply 168 = .ok (.lload 4, 2) := by decide +kernel
theorem dX6_multiply_170 : decode cX6_multiply 170 = .ok (.iload 6, 2) := by decide +kernel
theorem dX6_multiply_172 : decode cX6_multiply 172 = .ok (.iload 9, 2) := by decide +kernel
theorem dX6_multiply_174 : decode cX6_multiply 174 = .ok (.invokestatic 266, 3) := by decide +kernel
theorem dX6_multiply_177 : decode cX6_multiply 177 = .ok (.imul, 1) := by decide +kernel
theorem dX6_multiply_178 : decode cX6_multiply 178 = .ok (.istore 10, 2) := by decide +kernel
theorem dX6_multiply_180 : decode cX6_multiply 180 = .ok (.aload_n 0, 1) := by decide +kernel
theorem dX6_multiply_181 : decode cX6_multiply 181 = .ok (.getfield 61, 3) := by decide +kernel
theorem dX6_multiply_184 : decode cX6_multiply 184 = .ok (.bipush 20, 2) := by decide +kernel
theorem dX6_multiply_186 : decode cX6_multiply 186 = .ok (.iload 8, 2) := by decide +kernel
theorem dX6_multiply_188 : decode cX6_multiply 188 = .ok (.imul, 1) := by decide +kernel
theorem dX6_multiply_189 : decode cX6_multiply 189 = .ok (.iload 9, 2) := by decide +kernel
theorem dX6_multiply_191 : decode cX6_multiply 191 = .ok (.iadd, 1) := by decide +kernel
theorem dX6_multiply_192 : decode cX6_multiply 192 = .ok (.iload 10, 2) := by decide +kernel
theorem dX6_multiply_194 : decode cX6_multiply 194 = .ok (.i2l, 1) := by decide +kernel
theorem dX6_multiply_195 : decode cX6_multiply 195 = .ok (.lastore, 1) := by decide +kernel
theorem dX6_multiply_196 : decode cX6_multiply 196 = .ok (.aload_n 0, 1) := by decide +kernel
theorem dX6_multiply_197 : decode cX6_multiply 197 = .ok (.iload_n 1, 1) := by decide +kernel
theorem dX6_multiply_198 : decode cX6_multiply 198 = .ok (.iload 8, 2) := by decide +kernel
theorem dX6_multiply_200 : decode cX6_multiply 200 = .ok (.iload 9, 2) := by decide +kernel
theorem dX6_multiply_202 : decode cX6_multiply 202 = .ok (.iadd, 1) := by decide +kernel
theorem dX6_multiply_203 : decode cX6_multiply 203 = .ok (.iload 10, 2) := by decide +kernel
theorem dX6_multiply_205 : decode cX6_multiply 205 = .ok (.iconst 1, 1) := by decide +kernel
theorem dX6_multiply_206 : decode cX6_multiply 206 = .ok (.invokevirtual 282, 3) := by decide +kernel
theorem dX6_multiply_209 : decode cX6_multiply 209 = .ok (.istore 7, 2) := by decide +kernel
theorem dX6_multiply_211 : decode cX6_multiply 211 = .ok (.iinc 9 (-1), 3) := by decide +kernel
theorem dX6_multiply_214 : decode cX6_multiply 214 = .ok (.goto (-74), 3) := by decide +kernel
theorem dX6_multiply_217 : decode cX6_multiply 217 = .ok (.iinc 8 (-1), 3) := by decide +kernel
theorem dX6_multiply_220 : decode cX6_multiply 220 = .ok (.goto (-98), 3) := by decide +kernel
theorem dX6_multiply_223 : decode cX6_multiply 223 = .ok (.iload 7, 2) := by decide +kernel
theorem dX6_multiply_225 : decode cX6_multiply 225 = .ok (.ireturn, 1) := by decide +kernel
theorem dX6_sum_0 : decode cX6_sum 0 = .ok (.aload_n 0, 1) := by decide +kernel
theorem dX6_sum_1 : decode cX6_sum 1 = .ok (.iload_n 1, 1) := by decide +kernel
theorem dX6_sum_2 : decode cX6_sum 2 = .ok (.invokevirtual 129, 3) := by decide +kernel
theorem dX6_sum_5 : decode cX6_sum 5 = .ok (.ifCond .ne 5, 3) := by decide +kernel
theorem dX6_sum_8 : decode cX6_sum 8 = .ok (.iconst (-1), 1) := by decide +kernel
theorem dX6_sum_9 : decode cX6_sum 9 = .ok (.ireturn, 1) := by decide +kernel
theorem dX6_sum_10 : decode cX6_sum 10 = .ok (.lload_n 2, 1) := by decide +kernel
theorem dX6_sum_11 : decode cX6_sum 11 = .ok (.lconst 0, 1) := by decide +kernel
theorem dX6_sum_12 : decode cX6_sum 12 = .ok (.lcmp, 1) := by decide +kernel
theorem dX6_sum_13 : decode cX6_sum 13 = .ok (.ifCond .ge 6, 3) := by decide +kernel
theorem dX6_sum_16 : decode cX6_sum 16 = .ok (.bipush (-2), 2) := by decide +kernel
theorem dX6_sum_18 : decode cX6_sum 18 = .ok (.ireturn, 1) := by decide +kernel
theorem dX6_sum_19 : decode cX6_sum 19 = .ok (.aload_n 0, 1) := by decide +kernel
theorem dX6_sum_20 : decode cX6_sum 20 = .ok (.iload_n 1, 1) := by decide +kernel
theorem dX6_sum_21 : decode cX6_sum 21 = .ok (.invokevirtual 163, 3) := by decide +kernel
theorem dX6_sum_24 : decode cX6_sum 24 = .ok (.ifCond .ne 6, 3) := by decide +kernel
theorem dX6_sum_27 : decode cX6_sum 27 = .ok (.bipush (-3), 2) := by decide +kernel
theorem dX6_sum_29 : decode cX6_sum 29 = .ok (.ireturn, 1) := by decide +kernel
theorem dX6_sum_30 : decode cX6_sum 30 = .ok (.aload_n 0, 1) := by decide +kernel
theorem dX6_sum_31 : decode cX6_sum 31 = .ok (.iload_n 1, 1) := by decide +kernel
theorem dX6_sum_32 : decode cX6_sum 32 = .ok (.invokevirtual 285, 3) := by decide +kernel
theorem dX6_sum_35 : decode cX6_sum 35 = .ok (.aload_n 0, 1) := by decide +kernel
theorem dX6_sum_36 : decode cX6_sum 36 = .ok (.aload_n 0, 1) := by decide +kernel
theorem dX6_sum_37 : decode cX6_sum 37 = .ok (.iload_n 1, 1) := by decide +kernel
theorem dX6_sum_38 : decode cX6_sum 38 = .ok (.iconst 0, 1) := by decide +kernel
theorem dX6_sum_39 : decode cX6_sum 39 = .ok (.lload_n 2, 1) := by decide +kernel
theorem dX6_sum_40 : decode cX6_sum 40 = .ok (.iload 4, 2) := by decide +kernel
theorem dX6_sum_42 : decode cX6_sum 42 = .ok (.invokevirtual 288, 3) := by decide +kernel
theorem dX6_sum_45 : decode cX6_sum 45 = .ok (.invokevirtual 292, 3) := by decide +kernel
theorem dX6_sum_48 : decode cX6_sum 48 = .ok (.ireturn, 1) := by decide +kernel
theorem dX6_add_0 : decode cX6_add 0 = .ok (.aload_n 0, 1) := by decide +kernel
theorem dX6_add_1 : decode cX6_add 1 = .ok (.iload_n 1, 1) := by decide +kernel
theorem dX6_add_2 : decode cX6_add 2 = .ok (.lload_n 2, 1) := by decide +kernel
theorem dX6_add_3 : decode cX6_add 3 = .ok (.iconst 1, 1) := by decide +kernel
theorem dX6_add_4 : decode cX6_add 4 = .ok (.invokevirtual 296, 3) := by decide +kernel
theorem dX6_add_7 : decode cX6_add 7 = .ok (.ireturn, 1) := by decide +kernel
theorem dX6_less_0 : decode cX6_less 0 = .ok (.aload_n 0, 1) := by decide +kernel
theorem dX6_less_1 : decode cX6_less 1 = .ok (.iload_n 1, 1) := by decide +kernel
theorem dX6_less_2 : decode cX6_less 2 = .ok (.lload_n 2, 1) := by decide +kernel
theorem dX6_less_3 : decode cX6_less 3 = .ok (.iconst (-1), 1) := by decide +kernel
theorem dX6_less_4 : decode cX6_less 4 = .ok (.invokevirtual 296, 3) := by decide +kernel
theorem dX6_less_7 : decode cX6_less 7 = .ok (.ireturn, 1) := by decide +kernel
theorem dX6_times_0 : decode cX6_times 0 = .ok (.aload_n 0, 1) := by decide +kernel
theorem dX6_times_1 : decode cX6_times 1 = .ok (.iload_n 1, 1) := by decide +kernel
theorem dX6_times_2 : decode cX6_times 2 = .ok (.invokevirtual 129, 3) := by decide +kernel
theorem dX6_times_5 : decode cX6_times 5 = .ok (.ifCond .ne 5, 3) := by decide +kernel
theorem dX6_times_8 : decode cX6_times 8 = .ok (.iconst (-1), 1) := by decide +kernel
theorem dX6_times_9 : decode cX6_times 9 = .ok (.ireturn, 1) := by decide +kernel
theorem dX6_times_10 : decode cX6_times 10 = .ok (.lload_n 2, 1) := by decide +kernel
theorem dX6_times_11 : decode cX6_times 11 = .ok (.lconst 0, 1) := by decide +kernel
theorem dX6_times_12 : decode cX6_times 12 = .ok (.lcmp, 1) := by decide +kernel
theorem dX6_times_13 : decode cX6_times 13 = .ok (.ifCond .ge 6, 3) := by decide +kernel
theorem dX6_times_16 : decode cX6_times 16 = .ok (.bipush (-2), 2) := by decide +kernel
theorem dX6_times_18 : decode cX6_times 18 = .ok (.ireturn, 1) := by decide +kernel
theorem dX6_times_19 : decode cX6_times 19 = .ok (.aload_n 0, 1) := by decide +kernel
theorem dX6_times_20 : decode cX6_times 20 = .ok (.iload_n 1, 1) := by decide +kernel
theorem dX6_times_21 : decode cX6_times 21 = .ok (.invokevirtual 163, 3) := by decide +kernel
theorem dX6_times_24 : decode cX6_times 24 = .ok (.ifCond .ne 6, 3) := by decide +kernel
theorem dX6_times_27 : decode cX6_times 27 = .ok (.bipush (-3), 2) := by decide +kernel
theorem dX6_times_29 : decode cX6_times 29 = .ok (.ireturn, 1) := by decide +kernel
theorem dX6_times_30 : decode cX6_times 30 = .ok (.aload_n 0, 1) := by decide +kernel
theorem dX6_times_31 : decode cX6_times 31 = .ok (.iload_n 1, 1) := by decide +kernel
theorem dX6_times_32 : decode cX6_times 32 = .ok (.invokevirtual 148, 3) := by decide +kernel
theorem dX6_times_35 : decode cX6_times 35 = .ok (.lstore 4, 2) := by decide +kernel
theorem dX6_times_37 : decode cX6_times 37 = .ok (.aload_n 0, 1) := by decide +kernel
theorem dX6_times_38 : decode cX6_times 38 = .ok (.getfield 124, 3) := by decide +kernel
theorem dX6_times_41 : decode cX6_times 41 = .ok (.ifCond .le 12, 3) := by decide +kernel
theorem dX6_times_44 : decode cX6_times 44 = .ok (.aload_n 0, 1) := by decide +kernel
theorem dX6_times_45 : decode cX6_times 45 = .ok (.aload_n 0, 1) := by decide +kernel
theorem dX6_times_46 : decode cX6_times 46 = .ok (.getfield 124, 3) := by decide +kernel
theorem dX6_times_49 : decode cX6_times 49 = .ok (.invokevirtual 102, 3) := by decide +kernel
theorem dX6_times_52 : decode cX6_times 52 = .ok (.ireturn, 1) := by decide +kernel
theorem dX6_times_53 : decode cX6_times 53 = .ok (.aload_n 0, 1) := by decide +kernel
theorem dX6_times_54 : decode cX6_times 54 = .ok (.iload_n 1, 1) := by decide +kernel
theorem dX6_times_55 : decode cX6_times 55 = .ok (.invokevirtual 285, 3) := by decide +kernel
end
section
theorem dX6_times_58 : decode cX6_times 58 = .ok (.aload_n 0, 1) := by decide +kernel
theorem dX6_times_59 : decode cX6_times 59 = .ok (.aload_n 0, 1) := by decide +kernel
theorem dX6_times_60 : decode cX6_times 60 = .ok (.iload_n 1, 1) := by decide +kernel
theorem dX6_times_61 : decode cX6_times 61 = .ok (.lload 4, 2) := by decide +kernel
theorem dX6_times_63 : decode cX6_times 63 = .ok (.lload_n 2, 1) := by decide +kernel
theorem dX6_times_64 : decode cX6_times 64 = .ok (.invokevirtual 300, 3) := by decide +kernel
theorem dX6_times_67 : decode cX6_times 67 = .ok (.invokevirtual 292, 3) := by decide +kernel
theorem dX6_times_70 : decode cX6_times 70 = .ok (.ireturn, 1) := by decide +kernel
theorem dX6_divided_0 : decode cX6_divided 0 = .ok (.aload_n 0, 1) := by decide +kernel
theorem dX6_divided_1 : decode cX6_divided 1 = .ok (.getfield 16, 3) := by decide +kernel
theorem dX6_divided_4 : decode cX6_divided 4 = .ok (.iload_n 1, 1) := by decide +kernel
theorem dX6_divided_5 : decode cX6_divided 5 = .ok (.iaload, 1) := by decide +kernel
theorem dX6_divided_6 : decode cX6_divided 6 = .ok (.istore 7, 2) := by decide +kernel
theorem dX6_divided_8 : decode cX6_divided 8 = .ok (.lload 5, 2) := by decide +kernel
theorem dX6_divided_10 : decode cX6_divided 10 = .ok (.iload 7, 2) := by decide +kernel
theorem dX6_divided_12 : decode cX6_divided 12 = .ok (.invokestatic 155, 3) := by decide +kernel
theorem dX6_divided_15 : decode cX6_divided 15 = .ok (.istore 8, 2) := by decide +kernel
theorem dX6_divided_17 : decode cX6_divided 17 = .ok (.lload 5, 2) := by decide +kernel
theorem dX6_divided_19 : decode cX6_divided 19 = .ok (.iload 7, 2) := by decide +kernel
theorem dX6_divided_21 : decode cX6_divided 21 = .ok (.iload 8, 2) := by decide +kernel
theorem dX6_divided_23 : decode cX6_divided 23 = .ok (.iconst 1, 1) := by decide +kernel
theorem dX6_divided_24 : decode cX6_divided 24 = .ok (.isub, 1) := by decide +kernel
theorem dX6_divided_25 : decode cX6_divided 25 = .ok (.invokestatic 266, 3) := by decide +kernel
theorem dX6_divided_28 : decode cX6_divided 28 = .ok (.istore 9, 2) := by decide +kernel
theorem dX6_divided_30 : decode cX6_divided 30 = .ok (.aload_n 0, 1) := by decide +kernel
theorem dX6_divided_31 : decode cX6_divided 31 = .ok (.iload_n 2, 1) := by decide +kernel
theorem dX6_divided_32 : decode cX6_divided 32 = .ok (.invokevirtual 279, 3) := by decide +kernel
theorem dX6_divided_35 : decode cX6_divided 35 = .ok (.istore 10, 2) := by decide +kernel
theorem dX6_divided_37 : decode cX6_divided 37 = .ok (.lload_n 3, 1) := by decide +kernel
theorem dX6_divided_38 : decode cX6_divided 38 = .ok (.iload 7, 2) := by decide +kernel
theorem dX6_divided_40 : decode cX6_divided 40 = .ok (.invokestatic 155, 3) := by decide +kernel
theorem dX6_divided_43 : decode cX6_divided 43 = .ok (.iload 8, 2) := by decide +kernel
theorem dX6_divided_45 : decode cX6_divided 45 = .ok (.isub, 1) := by decide +kernel
theorem dX6_divided_46 : decode cX6_divided 46 = .ok (.istore 11, 2) := by decide +kernel
theorem dX6_divided_48 : decode cX6_divided 48 = .ok (.iload 11, 2) := by decide +kernel
theorem dX6_divided_50 : decode cX6_divided 50 = .ok (.ifCond .lt 174, 3) := by decide +kernel
theorem dX6_divided_53 : decode cX6_divided 53 = .ok (.iload 10, 2) := by decide +kernel
theorem dX6_divided_55 : decode cX6_divided 55 = .ok (.ifCond .eq 169, 3) := by decide +kernel
theorem dX6_divided_58 : decode cX6_divided 58 = .ok (.aload_n 0, 1) := by decide +kernel
theorem dX6_divided_59 : decode cX6_divided 59 = .ok (.iload_n 1, 1) := by decide +kernel
theorem dX6_divided_60 : decode cX6_divided 60 = .ok (.invokevirtual 148, 3) := by decide +kernel
theorem dX6_divided_63 : decode cX6_divided 63 = .ok (.lstore 12, 2) := by decide +kernel
theorem dX6_divided_65 : decode cX6_divided 65 = .ok (.iload 7, 2) := by decide +kernel
theorem dX6_divided_67 : decode cX6_divided 67 = .ok (.iload 11, 2) := by decide +kernel
theorem dX6_divided_69 : decode cX6_divided 69 = .ok (.invokestatic 304, 3) := by decide +kernel
theorem dX6_divided_72 : decode cX6_divided 72 = .ok (.lstore 14, 2) := by decide +kernel
theorem dX6_divided_74 : decode cX6_divided 74 = .ok (.lload 12, 2) := by decide +kernel
theorem dX6_divided_76 : decode cX6_divided 76 = .ok (.iload 7, 2) := by decide +kernel
theorem dX6_divided_78 : decode cX6_divided 78 = .ok (.iload 11, 2) := by decide +kernel
theorem dX6_divided_80 : decode cX6_divided 80 = .ok (.iload 8, 2) := by decide +kernel
theorem dX6_divided_82 : decode cX6_divided 82 = .ok (.iadd, 1) := by decide +kernel
theorem dX6_divided_83 : decode cX6_divided 83 = .ok (.iconst 1, 1) := by decide +kernel
theorem dX6_divided_84 : decode cX6_divided 84 = .ok (.isub, 1) := by decide +kernel
theorem dX6_divided_85 : decode cX6_divided 85 = .ok (.invokestatic 304, 3) := by decide +kernel
theorem dX6_divided_88 : decode cX6_divided 88 = .ok (.ldiv, 1) := by decide +kernel
theorem dX6_divided_89 : decode cX6_divided 89 = .ok (.iload 9, 2) := by decide +kernel
theorem dX6_divided_91 : decode cX6_divided 91 = .ok (.i2l, 1) := by decide +kernel
theorem dX6_divided_92 : decode cX6_divided 92 = .ok (.ldiv, 1) := by decide +kernel
theorem dX6_divided_93 : decode cX6_divided 93 = .ok (.lstore 16, 2) := by decide +kernel
theorem dX6_divided_95 : decode cX6_divided 95 = .ok (.lload 16, 2) := by decide +kernel
theorem dX6_divided_97 : decode cX6_divided 97 = .ok (.iload 7, 2) := by decide +kernel
theorem dX6_divided_99 : decode cX6_divided 99 = .ok (.iconst 1, 1) := by decide +kernel
theorem dX6_divided_100 : decode cX6_divided 100 = .ok (.isub, 1) := by decide +kernel
theorem dX6_divided_101 : decode cX6_divided 101 = .ok (.i2l, 1) := by decide +kernel
theorem dX6_divided_102 : decode cX6_divided 102 = .ok (.lcmp, 1) := by decide +kernel
theorem dX6_divided_103 : decode cX6_divided 103 = .ok (.ifCond .le 11, 3) := by decide +kernel
theorem dX6_divided_106 : decode cX6_divided 106 = .ok (.iload 7, 2) := by decide +kernel
theorem dX6_divided_108 : decode cX6_divided 108 = .ok (.iconst 1, 1) := by decide +kernel
theorem dX6_divided_109 : decode cX6_divided 109 = .ok (.isub, 1) := by decide +kernel
theorem dX6_divided_110 : decode cX6_divided 110 = .ok (.i2l, 1) := by decide +kernel
theorem dX6_divided_111 : decode cX6_divided 111 = .ok (.goto 5, 3) := by decide +kernel
theorem dX6_divided_114 : decode cX6_divided 114 = .ok (.lload 16, 2) := by decide +kernel
theorem dX6_divided_116 : decode cX6_divided 116 = .ok (.lstore 16, 2) := by decide +kernel
theorem dX6_divided_118 : decode cX6_divided 118 = .ok (.aload_n 0, 1) := by decide +kernel
theorem dX6_divided_119 : decode cX6_divided 119 = .ok (.iload_n 2, 1) := by decide +kernel
theorem dX6_divided_120 : decode cX6_divided 120 = .ok (.iload 11, 2) := by decide +kernel
theorem dX6_divided_122 : decode cX6_divided 122 = .ok (.lload 16, 2) := by decide +kernel
theorem dX6_divided_124 : decode cX6_divided 124 = .ok (.l2i, 1) := by decide +kernel
theorem dX6_divided_125 : decode cX6_divided 125 = .ok (.iconst 1, 1) := by decide +kernel
theorem dX6_divided_126 : decode cX6_divided 126 = .ok (.invokevirtual 262, 3) := by decide +kernel
theorem dX6_divided_129 : decode cX6_divided 129 = .ok (.istore 10, 2) := by decide +kernel
theorem dX6_divided_131 : decode cX6_divided 131 = .ok (.iload 10, 2) := by decide +kernel
theorem dX6_divided_133 : decode cX6_divided 133 = .ok (.ifCond .eq 37, 3) := by decide +kernel
theorem dX6_divided_136 : decode cX6_divided 136 = .ok (.lload 16, 2) := by decide +kernel
theorem dX6_divided_138 : decode cX6_divided 138 = .ok (.lload 5, 2) := by decide +kernel
theorem dX6_divided_140 : decode cX6_divided 140 = .ok (.lmul, 1) := by decide +kernel
theorem dX6_divided_141 : decode cX6_divided 141 = .ok (.lload 14, 2) := by decide +kernel
theorem dX6_divided_143 : decode cX6_divided 143 = .ok (.lmul, 1) := by decide +kernel
theorem dX6_divided_144 : decode cX6_divided 144 = .ok (.lload 12, 2) := by decide +kernel
theorem dX6_divided_146 : decode cX6_divided 146 = .ok (.lcmp, 1) := by decide +kernel
theorem dX6_divided_147 : decode cX6_divided 147 = .ok (.ifCond .le 23, 3) := by decide +kernel
theorem dX6_divided_150 : decode cX6_divided 150 = .ok (.aload_n 0, 1) := by decide +kernel
theorem dX6_divided_151 : decode cX6_divided 151 = .ok (.iload_n 2, 1) := by decide +kernel
theorem dX6_divided_152 : decode cX6_divided 152 = .ok (.iload 11, 2) := by decide +kernel
theorem dX6_divided_154 : decode cX6_divided 154 = .ok (.iconst 1, 1) := by decide +kernel
theorem dX6_divided_155 : decode cX6_divided 155 = .ok (.iconst (-1), 1) := by decide +kernel
theorem dX6_divided_156 : decode cX6_divided 156 = .ok (.invokevirtual 262, 3) := by decide +kernel
theorem dX6_divided_159 : decode cX6_divided 159 = .ok (.istore 10, 2) := by decide +kernel
theorem dX6_divided_161 : decode cX6_divided 161 = .ok (.lload 16, 2) := by decide +kernel
theorem dX6_divided_163 : decode cX6_divided 163 = .ok (.lconst 1, 1) := by decide +kernel
theorem dX6_divided_164 : decode cX6_divided 164 = .ok (.lsub, 1) := by decide +kernel
theorem dX6_divided_165 : decode cX6_divided 165 = .ok (.lstore 16, 2) := by decide +kernel
theorem dX6_divided_167 : decode cX6_divided 167 = .ok (.goto (-36), 3) := by decide +kernel
theorem dX6_divided_170 : decode cX6_divided 170 = .ok (.iload 8, 2) := by decide +kernel
theorem dX6_divided_172 : decode cX6_divided 172 = .ok (.iconst 1, 1) := by decide +kernel
theorem dX6_divided_173 : decode cX6_divided 173 = .ok (.isub, 1) := by decide +kernel
theorem dX6_divided_174 : decode cX6_divided 174 = .ok (.istore 18, 2) := by decide +kernel
theorem dX6_divided_176 : decode cX6_divided 176 = .ok (.iload 18, 2) := by decide +kernel
theorem dX6_divided_178 : decode cX6_divided 178 = .ok (.ifCond .lt 40, 3) := by decide +kernel
theorem dX6_divided_181 : decode cX6_divided 181 = .ok (.iload 10, 2) := by decide +kernel
theorem dX6_divided_183 : decode cX6_divided 183 = .ok (.ifCond .eq 35, 3) := by decide +kernel
theorem dX6_divided_186 : decode cX6_divided 186 = .ok (.aload_n 0, 1) := by decide +kernel
theorem dX6_divided_187 : decode cX6_divided 187 = .ok (.iload_n 1, 1) := by decide +kernel
theorem dX6_divided_188 : decode cX6_divided 188 = .ok (.iload 11, 2) := by decide +kernel
theorem dX6_divided_190 : decode cX6_divided 190 = .ok (.iload 18, 2) := by decide +kernel
theorem dX6_divided_192 : decode cX6_divided 192 = .ok (.iadd, 1) := by decide +kernel
theorem dX6_divided_193 : decode cX6_divided 193 = .ok (.lload 16, 2) := by decide +kernel
theorem dX6_divided_195 : decode cX6_divided 195 = .ok (.l2i, 1) := by decide +kernel
theorem dX6_divided_196 : decode cX6_divided 196 = .ok (.lload 5, 2) := by decide +kernel
theorem dX6_divided_198 : decode cX6_divided 198 = .ok (.iload 7, 2) := by decide +kernel
theorem dX6_divided_200 : decode cX6_divided 200 = .ok (.iload 18, 2) := by decide +kernel
theorem dX6_divided_202 : decode cX6_divided 202 = .ok (.invokestatic 266, 3) := by decide +kernel
theorem dX6_divided_205 : decode cX6_divided 205 = .ok (.imul, 1) := by decide +kernel
theorem dX6_divided_206 : decode cX6_divided 206 = .ok (.iconst (-1), 1) := by decide +kernel
theorem dX6_divided_207 : decode cX6_divided 207 = .ok (.invokevirtual 282, 3) := by decide +kernel
theorem dX6_divided_210 : decode cX6_divided 210 = .ok (.istore 10, 2) := by decide +kernel
theorem dX6_divided_212 : decode cX6_divided 212 = .ok (.iinc 18 (-1), 3) := by decide +kernel
theorem dX6_divided_215 : decode cX6_divided 215 = .ok (.goto (-39), 3) := by decide +kernel
theorem dX6_divided_218 : decode cX6_divided 218 = .ok (.iinc 11 (-1), 3) := by decide +kernel
theorem dX6_divided_221 : decode cX6_divided 221 = .ok (.goto (-173), 3) := by decide +kernel
theorem dX6_divided_224 : decode cX6_divided 224 = .ok (.iload 10, 2) := by decide +kernel
theorem dX6_divided_226 : decode cX6_divided 226 = .ok (.ireturn, 1) := by decide +kernel
theorem dX6_divide_0 : decode cX6_divide 0 = .ok (.aload_n 0, 1) := by decide +kernel
theorem dX6_divide_1 : decode cX6_divide 1 = .ok (.iload_n 1, 1) := by decide +kernel
theorem dX6_divide_2 : decode cX6_divide 2 = .ok (.invokevirtual 129, 3) := by decide +kernel
theorem dX6_divide_5 : decode cX6_divide 5 = .ok (.ifCond .eq 11, 3) := by decide +kernel
theorem dX6_divide_8 : decode cX6_divide 8 = .ok (.aload_n 0, 1) := by decide +kernel
theorem dX6_divide_9 : decode cX6_divide 9 = .ok (.iload_n 2, 1) := by decide +kernel
theorem dX6_divide_10 : decode cX6_divide 10 = .ok (.invokevirtual 129, 3) := by decide +kernel
theorem dX6_divide_13 : decode cX6_divide 13 = .ok (.ifCond .ne 5, 3) := by decide +kernel
theorem dX6_divide_16 : decode cX6_divide 16 = .ok (.iconst (-1), 1) := by decide +kernel
theorem dX6_divide_17 : decode cX6_divide 17 = .ok (.ireturn, 1) := by decide +kernel
theorem dX6_divide_18 : decode cX6_divide 18 = .ok (.lload_n 3, 1) := by decide +kernel
theorem dX6_divide_19 : decode cX6_divide 19 = .ok (.lconst 0, 1) := by decide +kernel
theorem dX6_divide_20 : decode cX6_divide 20 = .ok (.lcmp, 1) := by decide +kernel
theorem dX6_divide_21 : decode cX6_divide 21 = .ok (.ifCond .ge 6, 3) := by decide +kernel
theorem dX6_divide_24 : decode cX6_divide 24 = .ok (.bipush (-2), 2) := by decide +kernel
theorem dX6_divide_26 : decode cX6_divide 26 = .ok (.ireturn, 1) := by decide +kernel
theorem dX6_divide_27 : decode cX6_divide 27 = .ok (.aload_n 0, 1) := by decide +kernel
theorem dX6_divide_28 : decode cX6_divide 28 = .ok (.iload_n 1, 1) := by decide +kernel
theorem dX6_divide_29 : decode cX6_divide 29 = .ok (.iload_n 2, 1) := by decide +kernel
theorem dX6_divide_30 : decode cX6_divide 30 = .ok (.iconst 1, 1) := by decide +kernel
theorem dX6_divide_31 : decode cX6_divide 31 = .ok (.invokevirtual 308, 3) := by decide +kernel
theorem dX6_divide_34 : decode cX6_divide 34 = .ok (.ifCond .ge 6, 3) := by decide +kernel
theorem dX6_divide_37 : decode cX6_divide 37 = .ok (.bipush (-3), 2) := by decide +kernel
theorem dX6_divide_39 : decode cX6_divide 39 = .ok (.ireturn, 1) := by decide +kernel
theorem dX6_divide_40 : decode cX6_divide 40 = .ok (.aload_n 0, 1) := by decide +kernel
theorem dX6_divide_41 : decode cX6_divide 41 = .ok (.iload_n 1, 1) := by decide +kernel
theorem dX6_divide_42 : decode cX6_divide 42 = .ok (.invokevirtual 148, 3) := by decide +kernel
theorem dX6_divide_45 : decode cX6_divide 45 = .ok (.lstore 5, 2) := by decide +kernel
theorem dX6_divide_47 : decode cX6_divide 47 = .ok (.aload_n 0, 1) := by decide +kernel
theorem dX6_divide_48 : decode cX6_divide 48 = .ok (.getfield 124, 3) := by decide +kernel
theorem dX6_divide_51 : decode cX6_divide 51 = .ok (.ifCond .le 12, 3) := by decide +kernel
theorem dX6_divide_54 : decode cX6_divide 54 = .ok (.aload_n 0, 1) := by decide +kernel
theorem dX6_divide_55 : decode cX6_divide 55 = .ok (.aload_n 0, 1) := by decide +kernel
theorem dX6_divide_56 : decode cX6_divide 56 = .ok (.getfield 124, 3) := by decide +kernel
theorem dX6_divide_59 : decode cX6_divide 59 = .ok (.invokevirtual 102, 3) := by decide +kernel
theorem dX6_divide_62 : decode cX6_divide 62 = .ok (.ireturn, 1) := by decide +kernel
theorem dX6_divide_63 : decode cX6_divide 63 = .ok (.lload_n 3, 1) := by decide +kernel
theorem dX6_divide_64 : decode cX6_divide 64 = .ok (.lconst 0, 1) := by decide +kernel
theorem dX6_divide_65 : decode cX6_divide 65 = .ok (.lcmp, 1) := by decide +kernel
theorem dX6_divide_66 : decode cX6_divide 66 = .ok (.ifCond .ne 9, 3) := by decide +kernel
theorem dX6_divide_69 : decode cX6_divide 69 = .ok (.aload_n 0, 1) := by decide +kernel
theorem dX6_divide_70 : decode cX6_divide 70 = .ok (.iconst 5, 1) := by decide +kernel
theorem dX6_divide_71 : decode cX6_divide 71 = .ok (.invokevirtual 102, 3) := by decide +kernel
theorem dX6_divide_74 : decode cX6_divide 74 = .ok (.ireturn, 1) := by decide +kernel
theorem dX6_divide_75 : decode cX6_divide 75 = .ok (.aload_n 0, 1) := by decide +kernel
theorem dX6_divide_76 : decode cX6_divide 76 = .ok (.iload_n 1, 1) := by decide +kernel
theorem dX6_divide_77 : decode cX6_divide 77 = .ok (.invokevirtual 285, 3) := by decide +kernel
theorem dX6_divide_80 : decode cX6_divide 80 = .ok (.aload_n 0, 1) := by decide +kernel
theorem dX6_divide_81 : decode cX6_divide 81 = .ok (.aload_n 0, 1) := by decide +kernel
theorem dX6_divide_82 : decode cX6_divide 82 = .ok (.iload_n 1, 1) := by decide +kernel
theorem dX6_divide_83 : decode cX6_divide 83 = .ok (.iload_n 2, 1) := by decide +kernel
theorem dX6_divide_84 : decode cX6_divide 84 = .ok (.lload 5, 2) := by decide +kernel
theorem dX6_divide_86 : decode cX6_divide 86 = .ok (.lload_n 3, 1) := by decide +kernel
theorem dX6_divide_87 : decode cX6_divide 87 = .ok (.invokevirtual 312, 3) := by decide +kernel
theorem dX6_divide_90 : decode cX6_divide 90 = .ok (.invokevirtual 292, 3) := by decide +kernel
theorem dX6_divide_93 : decode cX6_divide 93 = .ok (.ireturn, 1) := by decide +kernel
theorem dX6_wanted_0 : decode cX6_wanted 0 = .ok (.iload 4, 2) := by decide +kernel
theorem dX6_wanted_2 : decode cX6_wanted 2 = .ok (.ifCond .eq 40, 3) := by decide +kernel
theorem dX6_wanted_5 : decode cX6_wanted 5 = .ok (.ldc2_w 127, 3) := by decide +kernel
theorem dX6_wanted_8 : decode cX6_wanted 8 = .ok (.iload_n 0, 1) := by decide +kernel
theorem dX6_wanted_9 : decode cX6_wanted 9 = .ok (.i2l, 1) := by decide +kernel
theorem dX6_wanted_10 : decode cX6_wanted 10 = .ok (.lmul, 1) := by decide +kernel
theorem dX6_wanted_11 : decode cX6_wanted 11 = .ok (.iload_n 0, 1) := by decide +kernel
theorem dX6_wanted_12 : decode cX6_wanted 12 = .ok (.i2l, 1) := by decide +kernel
theorem dX6_wanted_13 : decode cX6_wanted 13 = .ok (.lmul, 1) := by decide +kernel
theorem dX6_wanted_14 : decode cX6_wanted 14 = .ok (.lload_n 1, 1) := by decide +kernel
theorem dX6_wanted_15 : decode cX6_wanted 15 = .ok (.lmul, 1) := by decide +kernel
theorem dX6_wanted_16 : decode cX6_wanted 16 = .ok (.lload_n 1, 1) := by decide +kernel
theorem dX6_wanted_17 : decode cX6_wanted 17 = .ok (.lmul, 1) := by decide +kernel
theorem dX6_wanted_18 : decode cX6_wanted 18 = .ok (.ldc2_w 127, 3) := by decide +kernel
theorem dX6_wanted_21 : decode cX6_wanted 21 = .ok (.iload_n 0, 1) := by decide +kernel
theorem dX6_wanted_22 : decode cX6_wanted 22 = .ok (.i2l, 1) := by decide +kernel
theorem dX6_wanted_23 : decode cX6_wanted 23 = .ok (.lmul, 1) := by decide +kernel
theorem dX6_wanted_24 : decode cX6_wanted 24 = .ok (.lload_n 1, 1) := by decide +kernel
theorem dX6_wanted_25 : decode cX6_wanted 25 = .ok (.lmul, 1) := by decide +kernel
theorem dX6_wanted_26 : decode cX6_wanted 26 = .ok (.iload_n 3, 1) := by decide +kernel
theorem dX6_wanted_27 : decode cX6_wanted 27 = .ok (.i2l, 1) := by decide +kernel
theorem dX6_wanted_28 : decode cX6_wanted 28 = .ok (.lmul, 1) := by decide +kernel
theorem dX6_wanted_29 : decode cX6_wanted 29 = .ok (.ladd, 1) := by decide +kernel
theorem dX6_wanted_30 : decode cX6_wanted 30 = .ok (.iload_n 3, 1) := by decide +kernel
theorem dX6_wanted_31 : decode cX6_wanted 31 = .ok (.i2l, 1) := by decide +kernel
theorem dX6_wanted_32 : decode cX6_wanted 32 = .ok (.iload_n 3, 1) := by decide +kernel
theorem dX6_wanted_33 : decode cX6_wanted 33 = .ok (.i2l, 1) := by decide +kernel
theorem dX6_wanted_34 : decode cX6_wanted 34 = .ok (.lmul, 1) := by decide +kernel
theorem dX6_wanted_35 : decode cX6_wanted 35 = .ok (.ladd, 1) := by decide +kernel
theorem dX6_wanted_36 : decode cX6_wanted 36 = .ok (.iload_n 3, 1) := by decide +kernel
theorem dX6_wanted_37 : decode cX6_wanted 37 = .ok (.i2l, 1) := by decide +kernel
theorem dX6_wanted_38 : decode cX6_wanted 38 = .ok (.lmul, 1) := by decide +kernel
theorem dX6_wanted_39 : decode cX6_wanted 39 = .ok (.goto 17, 3) := by decide +kernel
theorem dX6_wanted_42 : decode cX6_wanted 42 = .ok (.ldc2_w 135, 3) := by decide +kernel
theorem dX6_wanted_45 : decode cX6_wanted 45 = .ok (.iload_n 0, 1) := by decide +kernel
theorem dX6_wanted_46 : decode cX6_wanted 46 = .ok (.i2l, 1) := by decide +kernel
theorem dX6_wanted_47 : decode cX6_wanted 47 = .ok (.lmul, 1) := by decide +kernel
theorem dX6_wanted_48 : decode cX6_wanted 48 = .ok (.lload_n 1, 1) := by decide +kernel
theorem dX6_wanted_49 : decode cX6_wanted 49 = .ok (.lmul, 1) := by decide +kernel
theorem dX6_wanted_50 : decode cX6_wanted 50 = .ok (.iload_n 3, 1) := by decide +kernel
theorem dX6_wanted_51 : decode cX6_wanted 51 = .ok (.i2l, 1) := by decide +kernel
theorem dX6_wanted_52 : decode cX6_wanted 52 = .ok (.ladd, 1) := by decide +kernel
theorem dX6_wanted_53 : decode cX6_wanted 53 = .ok (.iload_n 3, 1) := by decide +kernel
theorem dX6_wanted_54 : decode cX6_wanted 54 = .ok (.i2l, 1) := by decide +kernel
theorem dX6_wanted_55 : decode cX6_wanted 55 = .ok (.lmul, 1) := by decide +kernel
theorem dX6_wanted_56 : decode cX6_wanted 56 = .ok (.lreturn, 1) := by decide +kernel
theorem dX6_rooted_0 : decode cX6_rooted 0 = .ok (.aload_n 0, 1) := by decide +kernel
theorem dX6_rooted_1 : decode cX6_rooted 1 = .ok (.getfield 16, 3) := by decide +kernel
theorem dX6_rooted_4 : decode cX6_rooted 4 = .ok (.iload_n 1, 1) := by decide +kernel
theorem dX6_rooted_5 : decode cX6_rooted 5 = .ok (.iaload, 1) := by decide +kernel
theorem dX6_rooted_6 : decode cX6_rooted 6 = .ok (.istore 6, 2) := by decide +kernel
theorem dX6_rooted_8 : decode cX6_rooted 8 = .ok (.iload 5, 2) := by decide +kernel
theorem dX6_rooted_10 : decode cX6_rooted 10 = .ok (.ifCond .eq 7, 3) := by decide +kernel
theorem dX6_rooted_13 : decode cX6_rooted 13 = .ok (.iconst 3, 1) := by decide +kernel
theorem dX6_rooted_14 : decode cX6_rooted 14 = .ok (.goto 4, 3) := by decide +kernel
theorem dX6_rooted_17 : decode cX6_rooted 17 = .ok (.iconst 2, 1) := by decide +kernel
theorem dX6_rooted_18 : decode cX6_rooted 18 = .ok (.istore 7, 2) := by decide +kernel
theorem dX6_rooted_20 : decode cX6_rooted 20 = .ok (.aload_n 0, 1) := by decide +kernel
theorem dX6_rooted_21 : decode cX6_rooted 21 = .ok (.iload_n 2, 1) := by decide +kernel
theorem dX6_rooted_22 : decode cX6_rooted 22 = .ok (.invokevirtual 279, 3) := by decide +kernel
theorem dX6_rooted_25 : decode cX6_rooted 25 = .ok (.istore 8, 2) := by decide +kernel
theorem dX6_rooted_27 : decode cX6_rooted 27 = .ok (.lconst 0, 1) := by decide +kernel
theorem dX6_rooted_28 : decode cX6_rooted 28 = .ok (.lstore 9, 2) := by decide +kernel
theorem dX6_rooted_30 : decode cX6_rooted 30 = .ok (.lload_n 3, 1) := by decide +kernel
theorem dX6_rooted_31 : decode cX6_rooted 31 = .ok (.iload 6, 2) := by decide +kernel
theorem dX6_rooted_33 : decode cX6_rooted 33 = .ok (.invokestatic 155, 3) := by decide +kernel
theorem dX6_rooted_36 : decode cX6_rooted 36 = .ok (.iload 7, 2) := by decide +kernel
theorem dX6_rooted_38 : decode cX6_rooted 38 = .ok (.iadd, 1) := by decide +kernel
theorem dX6_rooted_39 : decode cX6_rooted 39 = .ok (.iconst 1, 1) := by decide +kernel
theorem dX6_rooted_40 : decode cX6_rooted 40 = .ok (.isub, 1) := by decide +kernel
theorem dX6_rooted_41 : decode cX6_rooted 41 = .ok (.iload 7, 2) := by decide +kernel
theorem dX6_rooted_43 : decode cX6_rooted 43 = .ok (.idiv, 1) := by decide +kernel
theorem dX6_rooted_44 : decode cX6_rooted 44 = .ok (.iconst 1, 1) := by decide +kernel
theorem dX6_rooted_45 : decode cX6_rooted 45 = .ok (.isub, 1) := by decide +kernel
theorem dX6_rooted_46 : decode cX6_rooted 46 = .ok (.istore 11, 2) := by decide +kernel
theorem dX6_rooted_48 : decode cX6_rooted 48 = .ok (.iload 11, 2) := by decide +kernel
theorem dX6_rooted_50 : decode cX6_rooted 50 = .ok (.ifCond .lt 122, 3) := by decide +kernel
theorem dX6_rooted_53 : decode cX6_rooted 53 = .ok (.iload 8, 2) := by decide +kernel
theorem dX6_rooted_55 : decode cX6_rooted 55 = .ok (.ifCond .eq 117, 3) := by decide +kernel
theorem dX6_rooted_58 : decode cX6_rooted 58 = .ok (.aload_n 0, 1) := by decide +kernel
theorem dX6_rooted_59 : decode cX6_rooted 59 = .ok (.iload_n 1, 1) := by decide +kernel
theorem dX6_rooted_60 : decode cX6_rooted 60 = .ok (.invokevirtual 148, 3) := by decide +kernel
theorem dX6_rooted_63 : decode cX6_rooted 63 = .ok (.lstore 12, 2) := by decide +kernel
theorem dX6_rooted_65 : decode cX6_rooted 65 = .ok (.iload 6, 2) := by decide +kernel
theorem dX6_rooted_67 : decode cX6_rooted 67 = .ok (.iload 7, 2) := by decide +kernel
theorem dX6_rooted_69 : decode cX6_rooted 69 = .ok (.iload 11, 2) := by decide +kernel
theorem dX6_rooted_71 : decode cX6_rooted 71 = .ok (.imul, 1) := by decide +kernel
theorem dX6_rooted_72 : decode cX6_rooted 72 = .ok (.invokestatic 304, 3) := by decide +kernel
theorem dX6_rooted_75 : decode cX6_rooted 75 = .ok (.lstore 14, 2) := by decide +kernel
theorem dX6_rooted_77 : decode cX6_rooted 77 = .ok (.iload 6, 2) := by decide +kernel
theorem dX6_rooted_79 : decode cX6_rooted 79 = .ok (.iconst 1, 1) := by decide +kernel
theorem dX6_rooted_80 : decode cX6_rooted 80 = .ok (.isub, 1) := by decide +kernel
theorem dX6_rooted_81 : decode cX6_rooted 81 = .ok (.istore 16, 2) := by decide +kernel
theorem dX6_rooted_83 : decode cX6_rooted 83 = .ok (.iload 6, 2) := by decide +kernel
theorem dX6_rooted_85 : decode cX6_rooted 85 = .ok (.lload 9, 2) := by decide +kernel
theorem dX6_rooted_87 : decode cX6_rooted 87 = .ok (.iload 16, 2) := by decide +kernel
theorem dX6_rooted_89 : decode cX6_rooted 89 = .ok (.iload 5, 2) := by decide +kernel
theorem dX6_rooted_91 : decode cX6_rooted 91 = .ok (.invokestatic 316, 3) := by decide +kernel
theorem dX6_rooted_94 : decode cX6_rooted 94 = .ok (.lload 14, 2) := by decide +kernel
theorem dX6_rooted_96 : decode cX6_rooted 96 = .ok (.lmul, 1) := by decide +kernel
theorem dX6_rooted_97 : decode cX6_rooted 97 = .ok (.lload 12, 2) := by decide +kernel
theorem dX6_rooted_99 : decode cX6_rooted 99 = .ok (.lcmp, 1) := by decide +kernel
theorem dX6_rooted_100 : decode cX6_rooted 100 = .ok (.ifCond .le 9, 3) := by decide +kernel
theorem dX6_rooted_103 : decode cX6_rooted 103 = .ok (.iinc 16 (-1), 3) := by decide +kernel
theorem dX6_rooted_106 : decode cX6_rooted 106 = .ok (.goto (-23), 3) := by decide +kernel
theorem dX6_rooted_109 : decode cX6_rooted 109 = .ok (.aload_n 0, 1) := by decide +kernel
theorem dX6_rooted_110 : decode cX6_rooted 110 = .ok (.iload_n 2, 1) := by decide +kernel
theorem dX6_rooted_111 : decode cX6_rooted 111 = .ok (.iload 11, 2) := by decide +kernel
theorem dX6_rooted_113 : decode cX6_rooted 113 = .ok (.iload 16, 2) := by decide +kernel
theorem dX6_rooted_115 : decode cX6_rooted 115 = .ok (.iconst 1, 1) := by decide +kernel
theorem dX6_rooted_116 : decode cX6_rooted 116 = .ok (.invokevirtual 262, 3) := by decide +kernel
theorem dX6_rooted_119 : decode cX6_rooted 119 = .ok (.ifCond .eq 32, 3) := by decide +kernel
theorem dX6_rooted_122 : decode cX6_rooted 122 = .ok (.aload_n 0, 1) := by decide +kernel
theorem dX6_rooted_123 : decode cX6_rooted 123 = .ok (.iload_n 1, 1) := by decide +kernel
theorem dX6_rooted_124 : decode cX6_rooted 124 = .ok (.iload 7, 2) := by decide +kernel
theorem dX6_rooted_126 : decode cX6_rooted 126 = .ok (.iload 11, 2) := by decide +kernel
theorem dX6_rooted_128 : decode cX6_rooted 128 = .ok (.imul, 1) := by decide +kernel
theorem dX6_rooted_129 : decode cX6_rooted 129 = .ok (.iload 6, 2) := by decide +kernel
theorem dX6_rooted_131 : decode cX6_rooted 131 = .ok (.lload 9, 2) := by decide +kernel
theorem dX6_rooted_133 : decode cX6_rooted 133 = .ok (.iload 16, 2) := by decide +kernel
theorem dX6_rooted_135 : decode cX6_rooted 135 = .ok (.iload 5, 2) := by decide +kernel
theorem dX6_rooted_137 : decode cX6_rooted 137 = .ok (.invokestatic 316, 3) := by decide +kernel
theorem dX6_rooted_140 : decode cX6_rooted 140 = .ok (.iconst (-1), 1) := by decide +kernel
theorem dX6_rooted_141 : decode cX6_rooted 141 = .ok (.invokevirtual 288, 3) := by decide +kernel
theorem dX6_rooted_144 : decode cX6_rooted 144 = .ok (.ifCond .eq 7, 3) := by decide +kernel
theorem dX6_rooted_147 : decode cX6_rooted 147 = .ok (.iconst 1, 1) := by decide +kernel
theorem dX6_rooted_148 : decode cX6_rooted 148 = .ok (.goto 4, 3) := by decide +kernel
theorem dX6_rooted_151 : decode cX6_rooted 151 = .ok (.iconst 0, 1) := by decide +kernel
theorem dX6_rooted_152 : decode cX6_rooted 152 = .ok (.istore 8, 2) := by decide +kernel
theorem dX6_rooted_154 : decode cX6_rooted 154 = .ok (.iload 6, 2) := by decide +kernel
theorem dX6_rooted_156 : decode cX6_rooted 156 = .ok (.i2l, 1) := by decide +kernel
theorem dX6_rooted_157 : decode cX6_rooted 157 = .ok (.lload 9, 2) := by decide +kernel
theorem dX6_rooted_159 : decode cX6_rooted 159 = .ok (.lmul, 1) := by decide +kernel
theorem dX6_rooted_160 : decode cX6_rooted 160 = .ok (.iload 16, 2) := by decide +kernel
theorem dX6_rooted_162 : decode cX6_rooted 162 = .ok (.i2l, 1) := by decide +kernel
theorem dX6_rooted_163 : decode cX6_rooted 163 = .ok (.ladd, 1) := by decide +kernel
theorem dX6_rooted_164 : decode cX6_rooted 164 = .ok (.lstore 9, 2) := by decide +kernel
theorem dX6_rooted_166 : decode cX6_rooted 166 = .ok (.iinc 11 (-1), 3) := by decide +kernel
theorem dX6_rooted_169 : decode cX6_rooted 169 = .ok (.goto (-121), 3) := by decide +kernel
theorem dX6_rooted_172 : decode cX6_rooted 172 = .ok (.iload 8, 2) := by decide +kernel
theorem dX6_rooted_174 : decode cX6_rooted 174 = .ok (.ireturn, 1) := by decide +kernel
theorem dX6_rootOf_0 : decode cX6_rootOf 0 = .ok (.aload_n 0, 1) := by decide +kernel
theorem dX6_rootOf_1 : decode cX6_rootOf 1 = .ok (.iload_n 1, 1) := by decide +kernel
theorem dX6_rootOf_2 : decode cX6_rootOf 2 = .ok (.invokevirtual 129, 3) := by decide +kernel
theorem dX6_rootOf_5 : decode cX6_rootOf 5 = .ok (.ifCond .eq 11, 3) := by decide +kernel
theorem dX6_rootOf_8 : decode cX6_rootOf 8 = .ok (.aload_n 0, 1) := by decide +kernel
theorem dX6_rootOf_9 : decode cX6_rootOf 9 = .ok (.iload_n 2, 1) := by decide +kernel
theorem dX6_rootOf_10 : decode cX6_rootOf 10 = .ok (.invokevirtual 129, 3) := by decide +kernel
theorem dX6_rootOf_13 : decode cX6_rootOf 13 = .ok (.ifCond .ne 5, 3) := by decide +kernel
theorem dX6_rootOf_16 : decode cX6_rootOf 16 = .ok (.iconst (-1), 1) := by decide +kernel
theorem dX6_rootOf_17 : decode cX6_rootOf 17 = .ok (.ireturn, 1) := by decide +kernel
theorem dX6_rootOf_18 : decode cX6_rootOf 18 = .ok (.aload_n 0, 1) := by decide +kernel
theorem dX6_rootOf_19 : decode cX6_rootOf 19 = .ok (.iload_n 1, 1) := by decide +kernel
theorem dX6_rootOf_20 : decode cX6_rootOf 20 = .ok (.iload_n 2, 1) := by decide +kernel
theorem dX6_rootOf_21 : decode cX6_rootOf 21 = .ok (.iconst 1, 1) := by decide +kernel
theorem dX6_rootOf_22 : decode cX6_rootOf 22 = .ok (.invokevirtual 308, 3) := by decide +kernel
theorem dX6_rootOf_25 : decode cX6_rootOf 25 = .ok (.ifCond .ge 6, 3) := by decide +kernel
theorem dX6_rootOf_28 : decode cX6_rootOf 28 = .ok (.bipush (-3), 2) := by decide +kernel
theorem dX6_rootOf_30 : decode cX6_rootOf 30 = .ok (.ireturn, 1) := by decide +kernel
theorem dX6_rootOf_31 : decode cX6_rootOf 31 = .ok (.aload_n 0, 1) := by decide +kernel
theorem dX6_rootOf_32 : decode cX6_rootOf 32 = .ok (.iload_n 1, 1) := by decide +kernel
theorem dX6_rootOf_33 : decode cX6_rootOf 33 = .ok (.invokevirtual 148, 3) := by decide +kernel
theorem dX6_rootOf_36 : decode cX6_rootOf 36 = .ok (.lstore 4, 2) := by decide +kernel
theorem dX6_rootOf_38 : decode cX6_rootOf 38 = .ok (.aload_n 0, 1) := by decide +kernel
theorem dX6_rootOf_39 : decode cX6_rootOf 39 = .ok (.getfield 124, 3) := by decide +kernel
theorem dX6_rootOf_42 : decode cX6_rootOf 42 = .ok (.ifCond .le 12, 3) := by decide +kernel
theorem dX6_rootOf_45 : decode cX6_rootOf 45 = .ok (.aload_n 0, 1) := by decide +kernel
theorem dX6_rootOf_46 : decode cX6_rootOf 46 = .ok (.aload_n 0, 1) := by decide +kernel
theorem dX6_rootOf_47 : decode cX6_rootOf 47 = .ok (.getfield 124, 3) := by decide +kernel
theorem dX6_rootOf_50 : decode cX6_rootOf 50 = .ok (.invokevirtual 102, 3) := by decide +kernel
theorem dX6_rootOf_53 : decode cX6_rootOf 53 = .ok (.ireturn, 1) := by decide +kernel
theorem dX6_rootOf_54 : decode cX6_rootOf 54 = .ok (.aload_n 0, 1) := by decide +kernel
theorem dX6_rootOf_55 : decode cX6_rootOf 55 = .ok (.iload_n 1, 1) := by decide +kernel
theorem dX6_rootOf_56 : decode cX6_rootOf 56 = .ok (.invokevirtual 285, 3) := by decide +kernel
theorem dX6_rootOf_59 : decode cX6_rootOf 59 = .ok (.aload_n 0, 1) := by decide +kernel
theorem dX6_rootOf_60 : decode cX6_rootOf 60 = .ok (.aload_n 0, 1) := by decide +kernel
theorem dX6_rootOf_61 : decode cX6_rootOf 61 = .ok (.iload_n 1, 1) := by decide +kernel
theorem dX6_rootOf_62 : decode cX6_rootOf 62 = .ok (.iload_n 2, 1) := by decide +kernel
theorem dX6_rootOf_63 : decode cX6_rootOf 63 = .ok (.lload 4, 2) := by decide +kernel
theorem dX6_rootOf_65 : decode cX6_rootOf 65 = .ok (.iload_n 3, 1) := by decide +kernel
theorem dX6_rootOf_66 : decode cX6_rootOf 66 = .ok (.invokevirtual 320, 3) := by decide +kernel
theorem dX6_rootOf_69 : decode cX6_rootOf 69 = .ok (.invokevirtual 292, 3) := by decide +kernel
theorem dX6_rootOf_72 : decode cX6_rootOf 72 = .ok (.ireturn, 1) := by decide +kernel
theorem dX6_root_0 : decode cX6_root 0 = .ok (.aload_n 0, 1) := by decide +kernel
theorem dX6_root_1 : decode cX6_root 1 = .ok (.iload_n 1, 1) := by decide +kernel
theorem dX6_root_2 : decode cX6_root 2 = .ok (.iload_n 2, 1) := by decide +kernel
theorem dX6_root_3 : decode cX6_root 3 = .ok (.iconst 0, 1) := by decide +kernel
theorem dX6_root_4 : decode cX6_root 4 = .ok (.invokevirtual 324, 3) := by decide +kernel
theorem dX6_root_7 : decode cX6_root 7 = .ok (.ireturn, 1) := by decide +kernel
theorem dX6_cube_0 : decode cX6_cube 0 = .ok (.aload_n 0, 1) := by decide +kernel
theorem dX6_cube_1 : decode cX6_cube 1 = .ok (.iload_n 1, 1) := by decide +kernel
theorem dX6_cube_2 : decode cX6_cube 2 = .ok (.iload_n 2, 1) := by decide +kernel
theorem dX6_cube_3 : decode cX6_cube 3 = .ok (.iconst 1, 1) := by decide +kernel
theorem dX6_cube_4 : decode cX6_cube 4 = .ok (.invokevirtual 324, 3) := by decide +kernel
theorem dX6_cube_7 : decode cX6_cube 7 = .ok (.ireturn, 1) := by decide +kernel
theorem dX6_turn_0 : decode cX6_turn 0 = .ok (.aload_n 0, 1) := by decide +kernel
theorem dX6_turn_1 : decode cX6_turn 1 = .ok (.iload_n 1, 1) := by decide +kernel
theorem dX6_turn_2 : decode cX6_turn 2 = .ok (.invokevirtual 129, 3) := by decide +kernel
theorem dX6_turn_5 : decode cX6_turn 5 = .ok (.ifCond .eq 11, 3) := by decide +kernel
theorem dX6_turn_8 : decode cX6_turn 8 = .ok (.aload_n 0, 1) := by decide +kernel
theorem dX6_turn_9 : decode cX6_turn 9 = .ok (.iload_n 2, 1) := by decide +kernel
theorem dX6_turn_10 : decode cX6_turn 10 = .ok (.invokevirtual 129, 3) := by decide +kernel
theorem dX6_turn_13 : decode cX6_turn 13 = .ok (.ifCond .ne 5, 3) := by decide +kernel
theorem dX6_turn_16 : decode cX6_turn 16 = .ok (.iconst (-1), 1) := by decide +kernel
theorem dX6_turn_17 : decode cX6_turn 17 = .ok (.ireturn, 1) := by decide +kernel
theorem dX6_turn_18 : decode cX6_turn 18 = .ok (.aload_n 0, 1) := by decide +kernel
theorem dX6_turn_19 : decode cX6_turn 19 = .ok (.iload_n 1, 1) := by decide +kernel
theorem dX6_turn_20 : decode cX6_turn 20 = .ok (.iload_n 2, 1) := by decide +kernel
theorem dX6_turn_21 : decode cX6_turn 21 = .ok (.iconst 0, 1) := by decide +kernel
theorem dX6_turn_22 : decode cX6_turn 22 = .ok (.invokevirtual 308, 3) := by decide +kernel
theorem dX6_turn_25 : decode cX6_turn 25 = .ok (.ifCond .ge 6, 3) := by decide +kernel
theorem dX6_turn_28 : decode cX6_turn 28 = .ok (.bipush (-3), 2) := by decide +kernel
theorem dX6_turn_30 : decode cX6_turn 30 = .ok (.ireturn, 1) := by decide +kernel
theorem dX6_turn_31 : decode cX6_turn 31 = .ok (.aload_n 0, 1) := by decide +kernel
theorem dX6_turn_32 : decode cX6_turn 32 = .ok (.iload_n 1, 1) := by decide +kernel
theorem dX6_turn_33 : decode cX6_turn 33 = .ok (.invokevirtual 148, 3) := by decide +kernel
theorem dX6_turn_36 : decode cX6_turn 36 = .ok (.lstore_n 3, 1) := by decide +kernel
theorem dX6_turn_37 : decode cX6_turn 37 = .ok (.aload_n 0, 1) := by decide +kernel
theorem dX6_turn_38 : decode cX6_turn 38 = .ok (.getfield 124, 3) := by decide +kernel
theorem dX6_turn_41 : decode cX6_turn 41 = .ok (.ifCond .le 12, 3) := by decide +kernel
theorem dX6_turn_44 : decode cX6_turn 44 = .ok (.aload_n 0, 1) := by decide +kernel
theorem dX6_turn_45 : decode cX6_turn 45 = .ok (.aload_n 0, 1) := by decide +kernel
theorem dX6_turn_46 : decode cX6_turn 46 = .ok (.getfield 124, 3) := by decide +kernel
theorem dX6_turn_49 : decode cX6_turn 49 = .ok (.invokevirtual 102, 3) := by decide +kernel
theorem dX6_turn_52 : decode cX6_turn 52 = .ok (.ireturn, 1) := by decide +kernel
theorem dX6_turn_53 : decode cX6_turn 53 = .ok (.aload_n 0, 1) := by decide +kernel
theorem dX6_turn_54 : decode cX6_turn 54 = .ok (.iload_n 1, 1) := by decide +kernel
theorem dX6_turn_55 : decode cX6_turn 55 = .ok (.invokevirtual 285, 3) := by decide +kernel
theorem dX6_turn_58 : decode cX6_turn 58 = .ok (.aload_n 0, 1) := by decide +kernel
theorem dX6_turn_59 : decode cX6_turn 59 = .ok (.iload_n 2, 1) := by decide +kernel
theorem dX6_turn_60 : decode cX6_turn 60 = .ok (.invokevirtual 279, 3) := by decide +kernel
theorem dX6_turn_63 : decode cX6_turn 63 = .ok (.istore 5, 2) := by decide +kernel
theorem dX6_turn_65 : decode cX6_turn 65 = .ok (.lload_n 3, 1) := by decide +kernel
theorem dX6_turn_66 : decode cX6_turn 66 = .ok (.aload_n 0, 1) := by decide +kernel
theorem dX6_turn_67 : decode cX6_turn 67 = .ok (.getfield 16, 3) := by decide +kernel
theorem dX6_turn_70 : decode cX6_turn 70 = .ok (.iload_n 1, 1) := by decide +kernel
theorem dX6_turn_71 : decode cX6_turn 71 = .ok (.iaload, 1) := by decide +kernel
theorem dX6_turn_72 : decode cX6_turn 72 = .ok (.invokestatic 155, 3) := by decide +kernel
theorem dX6_turn_75 : decode cX6_turn 75 = .ok (.iconst 1, 1) := by decide +kernel
theorem dX6_turn_76 : decode cX6_turn 76 = .ok (.isub, 1) := by decide +kernel
theorem dX6_turn_77 : decode cX6_turn 77 = .ok (.istore 6, 2) := by decide +kernel
theorem dX6_turn_79 : decode cX6_turn 79 = .ok (.iload 6, 2) := by decide +kernel
theorem dX6_turn_81 : decode cX6_turn 81 = .ok (.ifCond .lt 64, 3) := by decide +kernel
theorem dX6_turn_84 : decode cX6_turn 84 = .ok (.iload 5, 2) := by decide +kernel
theorem dX6_turn_86 : decode cX6_turn 86 = .ok (.ifCond .eq 59, 3) := by decide +kernel
theorem dX6_turn_89 : decode cX6_turn 89 = .ok (.aload_n 0, 1) := by decide +kernel
theorem dX6_turn_90 : decode cX6_turn 90 = .ok (.iload_n 2, 1) := by decide +kernel
theorem dX6_turn_91 : decode cX6_turn 91 = .ok (.aload_n 0, 1) := by decide +kernel
theorem dX6_turn_92 : decode cX6_turn 92 = .ok (.iload_n 2, 1) := by decide +kernel
theorem dX6_turn_93 : decode cX6_turn 93 = .ok (.invokevirtual 148, 3) := by decide +kernel
theorem dX6_turn_96 : decode cX6_turn 96 = .ok (.aload_n 0, 1) := by decide +kernel
theorem dX6_turn_97 : decode cX6_turn 97 = .ok (.getfield 16, 3) := by decide +kernel
theorem dX6_turn_100 : decode cX6_turn 100 = .ok (.iload_n 1, 1) := by decide +kernel
theorem dX6_turn_101 : decode cX6_turn 101 = .ok (.iaload, 1) := by decide +kernel
theorem dX6_turn_102 : decode cX6_turn 102 = .ok (.i2l, 1) := by decide +kernel
theorem dX6_turn_103 : decode cX6_turn 103 = .ok (.invokevirtual 300, 3) := by decide +kernel
theorem dX6_turn_106 : decode cX6_turn 106 = .ok (.ifCond .eq 30, 3) := by decide +kernel
theorem dX6_turn_109 : decode cX6_turn 109 = .ok (.aload_n 0, 1) := by decide +kernel
theorem dX6_turn_110 : decode cX6_turn 110 = .ok (.iload_n 2, 1) := by decide +kernel
theorem dX6_turn_111 : decode cX6_turn 111 = .ok (.iconst 0, 1) := by decide +kernel
theorem dX6_turn_112 : decode cX6_turn 112 = .ok (.lload_n 3, 1) := by decide +kernel
theorem dX6_turn_113 : decode cX6_turn 113 = .ok (.aload_n 0, 1) := by decide +kernel
theorem dX6_turn_114 : decode cX6_turn 114 = .ok (.getfield 16, 3) := by decide +kernel
theorem dX6_turn_117 : decode cX6_turn 117 = .ok (.iload_n 1, 1) := by decide +kernel
theorem dX6_turn_118 : decode cX6_turn 118 = .ok (.iaload, 1) := by decide +kernel
theorem dX6_turn_119 : decode cX6_turn 119 = .ok (.iload 6, 2) := by decide +kernel
theorem dX6_turn_121 : decode cX6_turn 121 = .ok (.invokestatic 266, 3) := by decide +kernel
theorem dX6_turn_124 : decode cX6_turn 124 = .ok (.i2l, 1) := by decide +kernel
theorem dX6_turn_125 : decode cX6_turn 125 = .ok (.iconst 1, 1) := by decide +kernel
theorem dX6_turn_126 : decode cX6_turn 126 = .ok (.invokevirtual 288, 3) := by decide +kernel
theorem dX6_turn_129 : decode cX6_turn 129 = .ok (.ifCond .eq 7, 3) := by decide +kernel
theorem dX6_turn_132 : decode cX6_turn 132 = .ok (.iconst 1, 1) := by decide +kernel
theorem dX6_turn_133 : decode cX6_turn 133 = .ok (.goto 4, 3) := by decide +kernel
theorem dX6_turn_136 : decode cX6_turn 136 = .ok (.iconst 0, 1) := by decide +kernel
theorem dX6_turn_137 : decode cX6_turn 137 = .ok (.istore 5, 2) := by decide +kernel
theorem dX6_turn_139 : decode cX6_turn 139 = .ok (.iinc 6 (-1), 3) := by decide +kernel
theorem dX6_turn_142 : decode cX6_turn 142 = .ok (.goto (-63), 3) := by decide +kernel
theorem dX6_turn_145 : decode cX6_turn 145 = .ok (.aload_n 0, 1) := by decide +kernel
theorem dX6_turn_146 : decode cX6_turn 146 = .ok (.iload 5, 2) := by decide +kernel
theorem dX6_turn_148 : decode cX6_turn 148 = .ok (.invokevirtual 292, 3) := by decide +kernel
theorem dX6_turn_151 : decode cX6_turn 151 = .ok (.ireturn, 1) := by decide +kernel
theorem dX6_part_0 : decode cX6_part 0 = .ok (.aload_n 0, 1) := by decide +kernel
theorem dX6_part_1 : decode cX6_part 1 = .ok (.getfield 270, 3) := by decide +kernel
theorem dX6_part_4 : decode cX6_part 4 = .ok (.ifCond .ne 9, 3) := by decide +kernel
theorem dX6_part_7 : decode cX6_part 7 = .ok (.aload_n 0, 1) := by decide +kernel
theorem dX6_part_8 : decode cX6_part 8 = .ok (.iconst 1, 1) := by decide +kernel
theorem dX6_part_9 : decode cX6_part 9 = .ok (.invokevirtual 152, 3) := by decide +kernel
theorem dX6_part_12 : decode cX6_part 12 = .ok (.lreturn, 1) := by decide +kernel
theorem dX6_part_13 : decode cX6_part 13 = .ok (.iload_n 1, 1) := by decide +kernel
theorem dX6_part_14 : decode cX6_part 14 = .ok (.i2l, 1) := by decide +kernel
theorem dX6_part_15 : decode cX6_part 15 = .ok (.lconst 0, 1) := by decide +kernel
theorem dX6_part_16 : decode cX6_part 16 = .ok (.aload_n 0, 1) := by decide +kernel
theorem dX6_part_17 : decode cX6_part 17 = .ok (.getfield 273, 3) := by decide +kernel
theorem dX6_part_20 : decode cX6_part 20 = .ok (.iconst 1, 1) := by decide +kernel
theorem dX6_part_21 : decode cX6_part 21 = .ok (.isub, 1) := by decide +kernel
theorem dX6_part_22 : decode cX6_part 22 = .ok (.i2l, 1) := by decide +kernel
theorem dX6_part_23 : decode cX6_part 23 = .ok (.invokestatic 92, 3) := by decide +kernel
theorem dX6_part_26 : decode cX6_part 26 = .ok (.ifCond .ne 9, 3) := by decide +kernel
theorem dX6_part_29 : decode cX6_part 29 = .ok (.aload_n 0, 1) := by decide +kernel
theorem dX6_part_30 : decode cX6_part 30 = .ok (.iconst 2, 1) := by decide +kernel
theorem dX6_part_31 : decode cX6_part 31 = .ok (.invokevirtual 152, 3) := by decide +kernel
theorem dX6_part_34 : decode cX6_part 34 = .ok (.lreturn, 1) := by decide +kernel
theorem dX6_part_35 : decode cX6_part 35 = .ok (.aload_n 0, 1) := by decide +kernel
theorem dX6_part_36 : decode cX6_part 36 = .ok (.getfield 57, 3) := by decide +kernel
theorem dX6_part_39 : decode cX6_part 39 = .ok (.iload_n 1, 1) := by decide +kernel
theorem dX6_part_40 : decode cX6_part 40 = .ok (.baload, 1) := by decide +kernel
theorem dX6_part_41 : decode cX6_part 41 = .ok (.ifCond .ne 9, 3) := by decide +kernel
theorem dX6_part_44 : decode cX6_part 44 = .ok (.aload_n 0, 1) := by decide +kernel
theorem dX6_part_45 : decode cX6_part 45 = .ok (.iconst 1, 1) := by decide +kernel
theorem dX6_part_46 : decode cX6_part 46 = .ok (.invokevirtual 152, 3) := by decide +kernel
theorem dX6_part_49 : decode cX6_part 49 = .ok (.lreturn, 1) := by decide +kernel
theorem dX6_part_50 : decode cX6_part 50 = .ok (.iload_n 2, 1) := by decide +kernel
theorem dX6_part_51 : decode cX6_part 51 = .ok (.i2l, 1) := by decide +kernel
theorem dX6_part_52 : decode cX6_part 52 = .ok (.lconst 0, 1) := by decide +kernel
theorem dX6_part_53 : decode cX6_part 53 = .ok (.aload_n 0, 1) := by decide +kernel
theorem dX6_part_54 : decode cX6_part 54 = .ok (.getfield 276, 3) := by decide +kernel
theorem dX6_part_57 : decode cX6_part 57 = .ok (.iconst 1, 1) := by decide +kernel
theorem dX6_part_58 : decode cX6_part 58 = .ok (.isub, 1) := by decide +kernel
theorem dX6_part_59 : decode cX6_part 59 = .ok (.i2l, 1) := by decide +kernel
theorem dX6_part_60 : decode cX6_part 60 = .ok (.invokestatic 92, 3) := by decide +kernel
theorem dX6_part_63 : decode cX6_part 63 = .ok (.ifCond .eq 17, 3) := by decide +kernel
theorem dX6_part_66 : decode cX6_part 66 = .ok (.aload_n 0, 1) := by decide +kernel
theorem dX6_part_67 : decode cX6_part 67 = .ok (.getfield 61, 3) := by decide +kernel
theorem dX6_part_70 : decode cX6_part 70 = .ok (.bipush 20, 2) := by decide +kernel
theorem dX6_part_72 : decode cX6_part 72 = .ok (.iload_n 1, 1) := by decide +kernel
theorem dX6_part_73 : decode cX6_part 73 = .ok (.imul, 1) := by decide +kernel
theorem dX6_part_74 : decode cX6_part 74 = .ok (.iload_n 2, 1) := by decide +kernel
theorem dX6_part_75 : decode cX6_part 75 = .ok (.iadd, 1) := by decide +kernel
theorem dX6_part_76 : decode cX6_part 76 = .ok (.laload, 1) := by decide +kernel
theorem dX6_part_77 : decode cX6_part 77 = .ok (.goto 8, 3) := by decide +kernel
theorem dX6_part_80 : decode cX6_part 80 = .ok (.aload_n 0, 1) := by decide +kernel
theorem dX6_part_81 : decode cX6_part 81 = .ok (.iconst 2, 1) := by decide +kernel
theorem dX6_part_82 : decode cX6_part 82 = .ok (.invokevirtual 152, 3) := by decide +kernel
theorem dX6_part_85 : decode cX6_part 85 = .ok (.lreturn, 1) := by decide +kernel
theorem dX6_tally_0 : decode cX6_tally 0 = .ok (.aload_n 0, 1) := by decide +kernel
theorem dX6_tally_1 : decode cX6_tally 1 = .ok (.getfield 230, 3) := by decide +kernel
theorem dX6_tally_4 : decode cX6_tally 4 = .ok (.ifCond .ne 9, 3) := by decide +kernel
theorem dX6_tally_7 : decode cX6_tally 7 = .ok (.aload_n 0, 1) := by decide +kernel
theorem dX6_tally_8 : decode cX6_tally 8 = .ok (.iconst 1, 1) := by decide +kernel
theorem dX6_tally_9 : decode cX6_tally 9 = .ok (.invokevirtual 102, 3) := by decide +kernel
theorem dX6_tally_12 : decode cX6_tally 12 = .ok (.ireturn, 1) := by decide +kernel
theorem dX6_tally_13 : decode cX6_tally 13 = .ok (.iload_n 1, 1) := by decide +kernel
theorem dX6_tally_14 : decode cX6_tally 14 = .ok (.i2l, 1) := by decide +kernel
theorem dX6_tally_15 : decode cX6_tally 15 = .ok (.lconst 0, 1) := by decide +kernel
theorem dX6_tally_16 : decode cX6_tally 16 = .ok (.aload_n 0, 1) := by decide +kernel
theorem dX6_tally_17 : decode cX6_tally 17 = .ok (.getfield 13, 3) := by decide +kernel
theorem dX6_tally_20 : decode cX6_tally 20 = .ok (.aload_n 0, 1) := by decide +kernel
theorem dX6_tally_21 : decode cX6_tally 21 = .ok (.getfield 233, 3) := by decide +kernel
theorem dX6_tally_24 : decode cX6_tally 24 = .ok (.iaload, 1) := by decide +kernel
theorem dX6_tally_25 : decode cX6_tally 25 = .ok (.iconst 1, 1) := by decide +kernel
theorem dX6_tally_26 : decode cX6_tally 26 = .ok (.isub, 1) := by decide +kernel
theorem dX6_tally_27 : decode cX6_tally 27 = .ok (.i2l, 1) := by decide +kernel
theorem dX6_tally_28 : decode cX6_tally 28 = .ok (.invokestatic 92, 3) := by decide +kernel
theorem dX6_tally_31 : decode cX6_tally 31 = .ok (.ifCond .ne 9, 3) := by decide +kernel
theorem dX6_tally_34 : decode cX6_tally 34 = .ok (.aload_n 0, 1) := by decide +kernel
theorem dX6_tally_35 : decode cX6_tally 35 = .ok (.iconst 2, 1) := by decide +kernel
theorem dX6_tally_36 : decode cX6_tally 36 = .ok (.invokevirtual 102, 3) := by decide +kernel
theorem dX6_tally_39 : decode cX6_tally 39 = .ok (.ireturn, 1) := by decide +kernel
theorem dX6_tally_40 : decode cX6_tally 40 = .ok (.iconst 0, 1) := by decide +kernel
theorem dX6_tally_41 : decode cX6_tally 41 = .ok (.istore_n 3, 1) := by decide +kernel
theorem dX6_tally_42 : decode cX6_tally 42 = .ok (.iconst 0, 1) := by decide +kernel
theorem dX6_tally_43 : decode cX6_tally 43 = .ok (.istore 4, 2) := by decide +kernel
theorem dX6_tally_45 : decode cX6_tally 45 = .ok (.iconst 0, 1) := by decide +kernel
theorem dX6_tally_46 : decode cX6_tally 46 = .ok (.istore 5, 2) := by decide +kernel
theorem dX6_tally_48 : decode cX6_tally 48 = .ok (.iload 5, 2) := by decide +kernel
theorem dX6_tally_50 : decode cX6_tally 50 = .ok (.aload_n 0, 1) := by decide +kernel
theorem dX6_tally_51 : decode cX6_tally 51 = .ok (.getfield 236, 3) := by decide +kernel
theorem dX6_tally_54 : decode cX6_tally 54 = .ok (.if_icmp .ge 93, 3) := by decide +kernel
theorem dX6_tally_57 : decode cX6_tally 57 = .ok (.aload_n 0, 1) := by decide +kernel
theorem dX6_tally_58 : decode cX6_tally 58 = .ok (.getfield 54, 3) := by decide +kernel
theorem dX6_tally_61 : decode cX6_tally 61 = .ok (.bipush 7, 2) := by decide +kernel
theorem dX6_tally_63 : decode cX6_tally 63 = .ok (.iload 5, 2) := by decide +kernel
theorem dX6_tally_65 : decode cX6_tally 65 = .ok (.imul, 1) := by decide +kernel
theorem dX6_tally_66 : decode cX6_tally 66 = .ok (.iaload, 1) := by decide +kernel
theorem dX6_tally_67 : decode cX6_tally 67 = .ok (.aload_n 0, 1) := by decide +kernel
theorem dX6_tally_68 : decode cX6_tally 68 = .ok (.getfield 233, 3) := by decide +kernel
theorem dX6_tally_71 : decode cX6_tally 71 = .ok (.if_icmp .ne 23, 3) := by decide +kernel
theorem dX6_tally_74 : decode cX6_tally 74 = .ok (.aload_n 0, 1) := by decide +kernel
theorem dX6_tally_75 : decode cX6_tally 75 = .ok (.getfield 54, 3) := by decide +kernel
theorem dX6_tally_78 : decode cX6_tally 78 = .ok (.bipush 7, 2) := by decide +kernel
theorem dX6_tally_80 : decode cX6_tally 80 = .ok (.iload 5, 2) := by decide +kernel
theorem dX6_tally_82 : decode cX6_tally 82 = .ok (.imul, 1) := by decide +kernel
theorem dX6_tally_83 : decode cX6_tally 83 = .ok (.iconst 1, 1) := by decide +kernel
theorem dX6_tally_84 : decode cX6_tally 84 = .ok (.iadd, 1) := by decide +kernel
theorem dX6_tally_85 : decode cX6_tally 85 = .ok (.iaload, 1) := by decide +kernel
theorem dX6_tally_86 : decode cX6_tally 86 = .ok (.iload_n 1, 1) := by decide +kernel
theorem dX6_tally_87 : decode cX6_tally 87 = .ok (.if_icmp .ne 7, 3) := by decide +kernel
theorem dX6_tally_90 : decode cX6_tally 90 = .ok (.iconst 1, 1) := by decide +kernel
theorem dX6_tally_91 : decode cX6_tally 91 = .ok (.goto 4, 3) := by decide +kernel
theorem dX6_tally_94 : decode cX6_tally 94 = .ok (.iconst 0, 1) := by decide +kernel
theorem dX6_tally_95 : decode cX6_tally 95 = .ok (.istore 6, 2) := by decide +kernel
theorem dX6_tally_97 : decode cX6_tally 97 = .ok (.iload_n 3, 1) := by decide +kernel
theorem dX6_tally_98 : decode cX6_tally 98 = .ok (.iload 6, 2) := by decide +kernel
theorem dX6_tally_100 : decode cX6_tally 100 = .ok (.ifCond .eq 7, 3) := by decide +kernel
theorem dX6_tally_103 : decode cX6_tally 103 = .ok (.iconst 1, 1) := by decide +kernel
theorem dX6_tally_104 : decode cX6_tally 104 = .ok (.goto 4, 3) := by decide +kernel
theorem dX6_tally_107 : decode cX6_tally 107 = .ok (.iconst 0, 1) := by decide +kernel
theorem dX6_tally_108 : decode cX6_tally 108 = .ok (.iadd, 1) := by decide +kernel
theorem dX6_tally_109 : decode cX6_tally 109 = .ok (.istore_n 3, 1) := by decide +kernel
theorem dX6_tally_110 : decode cX6_tally 110 = .ok (.iload 4, 2) := by decide +kernel
theorem dX6_tally_112 : decode cX6_tally 112 = .ok (.iload 6, 2) := by decide +kernel
theorem dX6_tally_114 : decode cX6_tally 114 = .ok (.ifCond .eq 23, 3) := by decide +kernel
theorem dX6_tally_117 : decode cX6_tally 117 = .ok (.aload_n 0, 1) := by decide +kernel
theorem dX6_tally_118 : decode cX6_tally 118 = .ok (.getfield 54, 3) := by decide +kernel
theorem dX6_tally_121 : decode cX6_tally 121 = .ok (.bipush 7, 2) := by decide +kernel
theorem dX6_tally_123 : decode cX6_tally 123 = .ok (.iload 5, 2) := by decide +kernel
theorem dX6_tally_125 : decode cX6_tally 125 = .ok (.imul, 1) := by decide +kernel
theorem dX6_tally_126 : decode cX6_tally 126 = .ok (.iconst 4, 1) := by decide +kernel
theorem dX6_tally_127 : decode cX6_tally 127 = .ok (.iadd, 1) := by decide +kernel
theorem dX6_tally_128 : decode cX6_tally 128 = .ok (.iaload, 1) := by decide +kernel
theorem dX6_tally_129 : decode cX6_tally 129 = .ok (.iload_n 2, 1) := by decide +kernel
theorem dX6_tally_130 : decode cX6_tally 130 = .ok (.if_icmp .ne 7, 3) := by decide +kernel
theorem dX6_tally_133 : decode cX6_tally 133 = .ok (.iconst 1, 1) := by decide +kernel
theorem dX6_tally_134 : decode cX6_tally 134 = .ok (.goto 4, 3) := by decide +kernel
theorem dX6_tally_137 : decode cX6_tally 137 = .ok (.iconst 0, 1) := by decide +kernel
theorem dX6_tally_138 : decode cX6_tally 138 = .ok (.iadd, 1) := by decide +kernel
theorem dX6_tally_139 : decode cX6_tally 139 = .ok (.istore 4, 2) := by decide +kernel
theorem dX6_tally_141 : decode cX6_tally 141 = .ok (.iinc 5 1, 3) := by decide +kernel
theorem dX6_tally_144 : decode cX6_tally 144 = .ok (.goto (-96), 3) := by decide +kernel
theorem dX6_tally_147 : decode cX6_tally 147 = .ok (.iload_n 3, 1) := by decide +kernel
theorem dX6_tally_148 : decode cX6_tally 148 = .ok (.ifCond .ne 9, 3) := by decide +kernel
theorem dX6_tally_151 : decode cX6_tally 151 = .ok (.aload_n 0, 1) := by decide +kernel
theorem dX6_tally_152 : decode cX6_tally 152 = .ok (.iconst 1, 1) := by decide +kernel
theorem dX6_tally_153 : decode cX6_tally 153 = .ok (.invokevirtual 102, 3) := by decide +kernel
theorem dX6_tally_156 : decode cX6_tally 156 = .ok (.ireturn, 1) := by decide +kernel
theorem dX6_tally_157 : decode cX6_tally 157 = .ok (.iload_n 2, 1) := by decide +kernel
theorem dX6_tally_158 : decode cX6_tally 158 = .ok (.i2l, 1) := by decide +kernel
theorem dX6_tally_159 : decode cX6_tally 159 = .ok (.lconst 1, 1) := by decide +kernel
theorem dX6_tally_160 : decode cX6_tally 160 = .ok (.ldc2_w 166, 3) := by decide +kernel
theorem dX6_tally_163 : decode cX6_tally 163 = .ok (.invokestatic 92, 3) := by decide +kernel
theorem dX6_tally_166 : decode cX6_tally 166 = .ok (.ifCond .eq 8, 3) := by decide +kernel
theorem dX6_tally_169 : decode cX6_tally 169 = .ok (.iload 4, 2) := by decide +kernel
theorem dX6_tally_171 : decode cX6_tally 171 = .ok (.goto 8, 3) := by decide +kernel
theorem dX6_tally_174 : decode cX6_tally 174 = .ok (.aload_n 0, 1) := by decide +kernel
theorem dX6_tally_175 : decode cX6_tally 175 = .ok (.iconst 2, 1) := by decide +kernel
theorem dX6_tally_176 : decode cX6_tally 176 = .ok (.invokevirtual 102, 3) := by decide +kernel
theorem dX6_tally_179 : decode cX6_tally 179 = .ok (.ireturn, 1) := by decide +kernel
theorem dX6_steps_0 : decode cX6_steps 0 = .ok (.aload_n 0, 1) := by decide +kernel
theorem dX6_steps_1 : decode cX6_steps 1 = .ok (.getfield 236, 3) := by decide +kernel
theorem dX6_steps_4 : decode cX6_steps 4 = .ok (.ireturn, 1) := by decide +kernel
theorem dX6_step_0 : decode cX6_step 0 = .ok (.iload_n 1, 1) := by decide +kernel
theorem dX6_step_1 : decode cX6_step 1 = .ok (.i2l, 1) := by decide +kernel
theorem dX6_step_2 : decode cX6_step 2 = .ok (.lconst 0, 1) := by decide +kernel
theorem dX6_step_3 : decode cX6_step 3 = .ok (.aload_n 0, 1) := by decide +kernel
theorem dX6_step_4 : decode cX6_step 4 = .ok (.getfield 236, 3) := by decide +kernel
theorem dX6_step_7 : decode cX6_step 7 = .ok (.iconst 1, 1) := by decide +kernel
theorem dX6_step_8 : decode cX6_step 8 = .ok (.isub, 1) := by decide +kernel
theorem dX6_step_9 : decode cX6_step 9 = .ok (.i2l, 1) := by decide +kernel
theorem dX6_step_10 : decode cX6_step 10 = .ok (.invokestatic 92, 3) := by decide +kernel
theorem dX6_step_13 : decode cX6_step 13 = .ok (.ifCond .ne 5, 3) := by decide +kernel
theorem dX6_step_16 : decode cX6_step 16 = .ok (.iconst (-1), 1) := by decide +kernel
theorem dX6_step_17 : decode cX6_step 17 = .ok (.ireturn, 1) := by decide +kernel
theorem dX6_step_18 : decode cX6_step 18 = .ok (.iload_n 2, 1) := by decide +kernel
theorem dX6_step_19 : decode cX6_step 19 = .ok (.i2l, 1) := by decide +kernel
theorem dX6_step_20 : decode cX6_step 20 = .ok (.lconst 0, 1) := by decide +kernel
theorem dX6_step_21 : decode cX6_step 21 = .ok (.ldc2_w 327, 3) := by decide +kernel
theorem dX6_step_24 : decode cX6_step 24 = .ok (.invokestatic 92, 3) := by decide +kernel
theorem dX6_step_27 : decode cX6_step 27 = .ok (.ifCond .eq 17, 3) := by decide +kernel
theorem dX6_step_30 : decode cX6_step 30 = .ok (.aload_n 0, 1) := by decide +kernel
theorem dX6_step_31 : decode cX6_step 31 = .ok (.getfield 54, 3) := by decide +kernel
theorem dX6_step_34 : decode cX6_step 34 = .ok (.bipush 7, 2) := by decide +kernel
theorem dX6_step_36 : decode cX6_step 36 = .ok (.iload_n 1, 1) := by decide +kernel
theorem dX6_step_37 : decode cX6_step 37 = .ok (.imul, 1) := by decide +kernel
theorem dX6_step_38 : decode cX6_step 38 = .ok (.iload_n 2, 1) := by decide +kernel
theorem dX6_step_39 : decode cX6_step 39 = .ok (.iadd, 1) := by decide +kernel
theorem dX6_step_40 : decode cX6_step 40 = .ok (.iaload, 1) := by decide +kernel
theorem dX6_step_41 : decode cX6_step 41 = .ok (.goto 5, 3) := by decide +kernel
theorem dX6_step_44 : decode cX6_step 44 = .ok (.bipush (-2), 2) := by decide +kernel
theorem dX6_step_46 : decode cX6_step 46 = .ok (.ireturn, 1) := by decide +kernel
theorem dX6_stuck_0 : decode cX6_stuck 0 = .ok (.iload_n 1, 1) := by decide +kernel
theorem dX6_stuck_1 : decode cX6_stuck 1 = .ok (.ifCond .ne 10, 3) := by decide +kernel
theorem dX6_stuck_4 : decode cX6_stuck 4 = .ok (.aload_n 0, 1) := by decide +kernel
theorem dX6_stuck_5 : decode cX6_stuck 5 = .ok (.getfield 242, 3) := by decide +kernel
theorem dX6_stuck_8 : decode cX6_stuck 8 = .ok (.goto 29, 3) := by decide +kernel
theorem dX6_stuck_11 : decode cX6_stuck 11 = .ok (.iload_n 1, 1) := by decide +kernel
theorem dX6_stuck_12 : decode cX6_stuck 12 = .ok (.iconst 1, 1) := by decide +kernel
theorem dX6_stuck_13 : decode cX6_stuck 13 = .ok (.if_icmp .ne 10, 3) := by decide +kernel
theorem dX6_stuck_16 : decode cX6_stuck 16 = .ok (.aload_n 0, 1) := by decide +kernel
theorem dX6_stuck_17 : decode cX6_stuck 17 = .ok (.getfield 46, 3) := by decide +kernel
theorem dX6_stuck_20 : decode cX6_stuck 20 = .ok (.goto 17, 3) := by decide +kernel
theorem dX6_stuck_23 : decode cX6_stuck 23 = .ok (.iload_n 1, 1) := by decide +kernel
theorem dX6_stuck_24 : decode cX6_stuck 24 = .ok (.iconst 2, 1) := by decide +kernel
theorem dX6_stuck_25 : decode cX6_stuck 25 = .ok (.if_icmp .ne 10, 3) := by decide +kernel
theorem dX6_stuck_28 : decode cX6_stuck 28 = .ok (.aload_n 0, 1) := by decide +kernel
theorem dX6_stuck_29 : decode cX6_stuck 29 = .ok (.getfield 50, 3) := by decide +kernel
theorem dX6_stuck_32 : decode cX6_stuck 32 = .ok (.goto 5, 3) := by decide +kernel
theorem dX6_stuck_35 : decode cX6_stuck 35 = .ok (.bipush (-2), 2) := by decide +kernel
theorem dX6_stuck_37 : decode cX6_stuck 37 = .ok (.ireturn, 1) := by decide +kernel
theorem dX6_undo_0 : decode cX6_undo 0 = .ok (.aload_n 0, 1) := by decide +kernel
theorem dX6_undo_1 : decode cX6_undo 1 = .ok (.getfield 239, 3) := by decide +kernel
theorem dX6_undo_4 : decode cX6_undo 4 = .ok (.ifCond .eq 10, 3) := by decide +kernel
theorem dX6_undo_7 : decode cX6_undo 7 = .ok (.aload_n 0, 1) := by decide +kernel
theorem dX6_undo_8 : decode cX6_undo 8 = .ok (.getfield 137, 3) := by decide +kernel
theorem dX6_undo_11 : decode cX6_undo 11 = .ok (.ifCond .eq 6, 3) := by decide +kernel
theorem dX6_undo_14 : decode cX6_undo 14 = .ok (.bipush (-3), 2) := by decide +kernel
theorem dX6_undo_16 : decode cX6_undo 16 = .ok (.ireturn, 1) := by decide +kernel
theorem dX6_undo_17 : decode cX6_undo 17 = .ok (.aload_n 0, 1) := by decide +kernel
theorem dX6_undo_18 : decode cX6_undo 18 = .ok (.dup, 1) := by decide +kernel
theorem dX6_undo_19 : decode cX6_undo 19 = .ok (.getfield 239, 3) := by decide +kernel
theorem dX6_undo_22 : decode cX6_undo 22 = .ok (.iconst 1, 1) := by decide +kernel
theorem dX6_undo_23 : decode cX6_undo 23 = .ok (.isub, 1) := by decide +kernel
theorem dX6_undo_24 : decode cX6_undo 24 = .ok (.putfield 239, 3) := by decide +kernel
theorem dX6_undo_27 : decode cX6_undo 27 = .ok (.aload_n 0, 1) := by decide +kernel
theorem dX6_undo_28 : decode cX6_undo 28 = .ok (.aload_n 0, 1) := by decide +kernel
theorem dX6_undo_29 : decode cX6_undo 29 = .ok (.getfield 239, 3) := by decide +kernel
theorem dX6_undo_32 : decode cX6_undo 32 = .ok (.invokevirtual 248, 3) := by decide +kernel
theorem dX6_undo_35 : decode cX6_undo 35 = .ok (.aload_n 0, 1) := by decide +kernel
theorem dX6_undo_36 : decode cX6_undo 36 = .ok (.getfield 239, 3) := by decide +kernel
theorem dX6_undo_39 : decode cX6_undo 39 = .ok (.ireturn, 1) := by decide +kernel
theorem dX6_pupil_0 : decode cX6_pupil 0 = .ok (.aload_n 0, 1) := by decide +kernel
theorem dX6_pupil_1 : decode cX6_pupil 1 = .ok (.getfield 329, 3) := by decide +kernel
theorem dX6_pupil_4 : decode cX6_pupil 4 = .ok (.sipush 300, 3) := by decide +kernel
theorem dX6_pupil_7 : decode cX6_pupil 7 = .ok (.if_icmp .ne 6, 3) := by decide +kernel
theorem dX6_pupil_10 : decode cX6_pupil 10 = .ok (.bipush (-4), 2) := by decide +kernel
theorem dX6_pupil_12 : decode cX6_pupil 12 = .ok (.ireturn, 1) := by decide +kernel
theorem dX6_pupil_13 : decode cX6_pupil 13 = .ok (.aload_n 0, 1) := by decide +kernel
theorem dX6_pupil_14 : decode cX6_pupil 14 = .ok (.getfield 65, 3) := by decide +kernel
theorem dX6_pupil_17 : decode cX6_pupil 17 = .ok (.iconst 4, 1) := by decide +kernel
theorem dX6_pupil_18 : decode cX6_pupil 18 = .ok (.aload_n 0, 1) := by decide +kernel
theorem dX6_pupil_19 : decode cX6_pupil 19 = .ok (.getfield 329, 3) := by decide +kernel
theorem dX6_pupil_22 : decode cX6_pupil 22 = .ok (.imul, 1) := by decide +kernel
theorem dX6_pupil_23 : decode cX6_pupil 23 = .ok (.iload_n 1, 1) := by decide +kernel
theorem dX6_pupil_24 : decode cX6_pupil 24 = .ok (.iastore, 1) := by decide +kernel
theorem dX6_pupil_25 : decode cX6_pupil 25 = .ok (.aload_n 0, 1) := by decide +kernel
theorem dX6_pupil_26 : decode cX6_pupil 26 = .ok (.getfield 65, 3) := by decide +kernel
theorem dX6_pupil_29 : decode cX6_pupil 29 = .ok (.iconst 4, 1) := by decide +kernel
theorem dX6_pupil_30 : decode cX6_pupil 30 = .ok (.aload_n 0, 1) := by decide +kernel
theorem dX6_pupil_31 : decode cX6_pupil 31 = .ok (.getfield 329, 3) := by decide +kernel
theorem dX6_pupil_34 : decode cX6_pupil 34 = .ok (.imul, 1) := by decide +kernel
theorem dX6_pupil_35 : decode cX6_pupil 35 = .ok (.iconst 1, 1) := by decide +kernel
theorem dX6_pupil_36 : decode cX6_pupil 36 = .ok (.iadd, 1) := by decide +kernel
theorem dX6_pupil_37 : decode cX6_pupil 37 = .ok (.iload_n 2, 1) := by decide +kernel
theorem dX6_pupil_38 : decode cX6_pupil 38 = .ok (.iastore, 1) := by decide +kernel
theorem dX6_pupil_39 : decode cX6_pupil 39 = .ok (.aload_n 0, 1) := by decide +kernel
theorem dX6_pupil_40 : decode cX6_pupil 40 = .ok (.getfield 65, 3) := by decide +kernel
theorem dX6_pupil_43 : decode cX6_pupil 43 = .ok (.iconst 4, 1) := by decide +kernel
theorem dX6_pupil_44 : decode cX6_pupil 44 = .ok (.aload_n 0, 1) := by decide +kernel
theorem dX6_pupil_45 : decode cX6_pupil 45 = .ok (.getfield 329, 3) := by decide +kernel
theorem dX6_pupil_48 : decode cX6_pupil 48 = .ok (.imul, 1) := by decide +kernel
theorem dX6_pupil_49 : decode cX6_pupil 49 = .ok (.iconst 2, 1) := by decide +kernel
theorem dX6_pupil_50 : decode cX6_pupil 50 = .ok (.iadd, 1) := by decide +kernel
theorem dX6_pupil_51 : decode cX6_pupil 51 = .ok (.iload_n 3, 1) := by decide +kernel
theorem dX6_pupil_52 : decode cX6_pupil 52 = .ok (.iastore, 1) := by decide +kernel
theorem dX6_pupil_53 : decode cX6_pupil 53 = .ok (.aload_n 0, 1) := by decide +kernel
theorem dX6_pupil_54 : decode cX6_pupil 54 = .ok (.getfield 65, 3) := by decide +kernel
theorem dX6_pupil_57 : decode cX6_pupil 57 = .ok (.iconst 4, 1) := by decide +kernel
theorem dX6_pupil_58 : decode cX6_pupil 58 = .ok (.aload_n 0, 1) := by decide +kernel
theorem dX6_pupil_59 : decode cX6_pupil 59 = .ok (.getfield 329, 3) := by decide +kernel
theorem dX6_pupil_62 : decode cX6_pupil 62 = .ok (.imul, 1) := by decide +kernel
theorem dX6_pupil_63 : decode cX6_pupil 63 = .ok (.iconst 3, 1) := by decide +kernel
theorem dX6_pupil_64 : decode cX6_pupil 64 = .ok (.iadd, 1) := by decide +kernel
theorem dX6_pupil_65 : decode cX6_pupil 65 = .ok (.iload 4, 2) := by decide +kernel
theorem dX6_pupil_67 : decode cX6_pupil 67 = .ok (.iastore, 1) := by decide +kernel
theorem dX6_pupil_68 : decode cX6_pupil 68 = .ok (.aload_n 0, 1) := by decide +kernel
theorem dX6_pupil_69 : decode cX6_pupil 69 = .ok (.dup, 1) := by decide +kernel
theorem dX6_pupil_70 : decode cX6_pupil 70 = .ok (.getfield 329, 3) := by decide +kernel
theorem dX6_pupil_73 : decode cX6_pupil 73 = .ok (.iconst 1, 1) := by decide +kernel
theorem dX6_pupil_74 : decode cX6_pupil 74 = .ok (.iadd, 1) := by decide +kernel
theorem dX6_pupil_75 : decode cX6_pupil 75 = .ok (.putfield 329, 3) := by decide +kernel
theorem dX6_pupil_78 : decode cX6_pupil 78 = .ok (.aload_n 0, 1) := by decide +kernel
theorem dX6_pupil_79 : decode cX6_pupil 79 = .ok (.getfield 329, 3) := by decide +kernel
theorem dX6_pupil_82 : decode cX6_pupil 82 = .ok (.ireturn, 1) := by decide +kernel
theorem dX6_begin_0 : decode cX6_begin 0 = .ok (.aload_n 0, 1) := by decide +kernel
theorem dX6_begin_1 : decode cX6_begin 1 = .ok (.getfield 329, 3) := by decide +kernel
theorem dX6_begin_4 : decode cX6_begin 4 = .ok (.istore_n 1, 1) := by decide +kernel
theorem dX6_begin_5 : decode cX6_begin 5 = .ok (.aload_n 0, 1) := by decide +kernel
theorem dX6_begin_6 : decode cX6_begin 6 = .ok (.iconst 0, 1) := by decide +kernel
theorem dX6_begin_7 : decode cX6_begin 7 = .ok (.putfield 329, 3) := by decide +kernel
theorem dX6_begin_10 : decode cX6_begin 10 = .ok (.iload_n 1, 1) := by decide +kernel
theorem dX6_begin_11 : decode cX6_begin 11 = .ok (.ireturn, 1) := by decide +kernel
theorem dX6_isLike_0 : decode cX6_isLike 0 = .ok (.aload_n 0, 1) := by decide +kernel
theorem dX6_isLike_1 : decode cX6_isLike 1 = .ok (.getfield 65, 3) := by decide +kernel
theorem dX6_isLike_4 : decode cX6_isLike 4 = .ok (.iconst 4, 1) := by decide +kernel
theorem dX6_isLike_5 : decode cX6_isLike 5 = .ok (.iload_n 1, 1) := by decide +kernel
theorem dX6_isLike_6 : decode cX6_isLike 6 = .ok (.imul, 1) := by decide +kernel
theorem dX6_isLike_7 : decode cX6_isLike 7 = .ok (.iload_n 2, 1) := by decide +kernel
theorem dX6_isLike_8 : decode cX6_isLike 8 = .ok (.iadd, 1) := by decide +kernel
theorem dX6_isLike_9 : decode cX6_isLike 9 = .ok (.iaload, 1) := by decide +kernel
theorem dX6_isLike_10 : decode cX6_isLike 10 = .ok (.aload_n 0, 1) := by decide +kernel
theorem dX6_isLike_11 : decode cX6_isLike 11 = .ok (.getfield 54, 3) := by decide +kernel
theorem dX6_isLike_14 : decode cX6_isLike 14 = .ok (.bipush 7, 2) := by decide +kernel
theorem dX6_isLike_16 : decode cX6_isLike 16 = .ok (.iload_n 1, 1) := by decide +kernel
theorem dX6_isLike_17 : decode cX6_isLike 17 = .ok (.imul, 1) := by decide +kernel
theorem dX6_isLike_18 : decode cX6_isLike 18 = .ok (.iload_n 2, 1) := by decide +kernel
theorem dX6_isLike_19 : decode cX6_isLike 19 = .ok (.iadd, 1) := by decide +kernel
theorem dX6_isLike_20 : decode cX6_isLike 20 = .ok (.iaload, 1) := by decide +kernel
theorem dX6_isLike_21 : decode cX6_isLike 21 = .ok (.if_icmp .ne 35, 3) := by decide +kernel
theorem dX6_isLike_24 : decode cX6_isLike 24 = .ok (.aload_n 0, 1) := by decide +kernel
theorem dX6_isLike_25 : decode cX6_isLike 25 = .ok (.getfield 65, 3) := by decide +kernel
theorem dX6_isLike_28 : decode cX6_isLike 28 = .ok (.iconst 4, 1) := by decide +kernel
theorem dX6_isLike_29 : decode cX6_isLike 29 = .ok (.iload_n 1, 1) := by decide +kernel
theorem dX6_isLike_30 : decode cX6_isLike 30 = .ok (.imul, 1) := by decide +kernel
theorem dX6_isLike_31 : decode cX6_isLike 31 = .ok (.iload_n 2, 1) := by decide +kernel
theorem dX6_isLike_32 : decode cX6_isLike 32 = .ok (.iadd, 1) := by decide +kernel
theorem dX6_isLike_33 : decode cX6_isLike 33 = .ok (.iconst 1, 1) := by decide +kernel
theorem dX6_isLike_34 : decode cX6_isLike 34 = .ok (.iadd, 1) := by decide +kernel
theorem dX6_isLike_35 : decode cX6_isLike 35 = .ok (.iaload, 1) := by decide +kernel
theorem dX6_isLike_36 : decode cX6_isLike 36 = .ok (.aload_n 0, 1) := by decide +kernel
theorem dX6_isLike_37 : decode cX6_isLike 37 = .ok (.getfield 54, 3) := by decide +kernel
theorem dX6_isLike_40 : decode cX6_isLike 40 = .ok (.bipush 7, 2) := by decide +kernel
theorem dX6_isLike_42 : decode cX6_isLike 42 = .ok (.iload_n 1, 1) := by decide +kernel
theorem dX6_isLike_43 : decode cX6_isLike 43 = .ok (.imul, 1) := by decide +kernel
theorem dX6_isLike_44 : decode cX6_isLike 44 = .ok (.iload_n 2, 1) := by decide +kernel
theorem dX6_isLike_45 : decode cX6_isLike 45 = .ok (.iadd, 1) := by decide +kernel
theorem dX6_isLike_46 : decode cX6_isLike 46 = .ok (.iconst 1, 1) := by decide +kernel
theorem dX6_isLike_47 : decode cX6_isLike 47 = .ok (.iadd, 1) := by decide +kernel
theorem dX6_isLike_48 : decode cX6_isLike 48 = .ok (.iaload, 1) := by decide +kernel
theorem dX6_isLike_49 : decode cX6_isLike 49 = .ok (.if_icmp .ne 7, 3) := by decide +kernel
theorem dX6_isLike_52 : decode cX6_isLike 52 = .ok (.iconst 1, 1) := by decide +kernel
theorem dX6_isLike_53 : decode cX6_isLike 53 = .ok (.goto 4, 3) := by decide +kernel
theorem dX6_isLike_56 : decode cX6_isLike 56 = .ok (.iconst 0, 1) := by decide +kernel
theorem dX6_isLike_57 : decode cX6_isLike 57 = .ok (.ireturn, 1) := by decide +kernel
theorem dX6_slip_0 : decode cX6_slip 0 = .ok (.aload_n 0, 1) := by decide +kernel
theorem dX6_slip_1 : decode cX6_slip 1 = .ok (.getfield 329, 3) := by decide +kernel
theorem dX6_slip_4 : decode cX6_slip 4 = .ok (.aload_n 0, 1) := by decide +kernel
theorem dX6_slip_5 : decode cX6_slip 5 = .ok (.getfield 236, 3) := by decide +kernel
theorem dX6_slip_8 : decode cX6_slip 8 = .ok (.if_icmp .ge 10, 3) := by decide +kernel
theorem dX6_slip_11 : decode cX6_slip 11 = .ok (.aload_n 0, 1) := by decide +kernel
theorem dX6_slip_12 : decode cX6_slip 12 = .ok (.getfield 329, 3) := by decide +kernel
theorem dX6_slip_15 : decode cX6_slip 15 = .ok (.goto 7, 3) := by decide +kernel
theorem dX6_slip_18 : decode cX6_slip 18 = .ok (.aload_n 0, 1) := by decide +kernel
theorem dX6_slip_19 : decode cX6_slip 19 = .ok (.getfield 236, 3) := by decide +kernel
theorem dX6_slip_22 : decode cX6_slip 22 = .ok (.istore_n 1, 1) := by decide +kernel
theorem dX6_slip_23 : decode cX6_slip 23 = .ok (.iconst 0, 1) := by decide +kernel
theorem dX6_slip_24 : decode cX6_slip 24 = .ok (.istore_n 2, 1) := by decide +kernel
theorem dX6_slip_25 : decode cX6_slip 25 = .ok (.iload_n 2, 1) := by decide +kernel
theorem dX6_slip_26 : decode cX6_slip 26 = .ok (.iload_n 1, 1) := by decide +kernel
theorem dX6_slip_27 : decode cX6_slip 27 = .ok (.if_icmp .ge 29, 3) := by decide +kernel
theorem dX6_slip_30 : decode cX6_slip 30 = .ok (.aload_n 0, 1) := by decide +kernel
theorem dX6_slip_31 : decode cX6_slip 31 = .ok (.iload_n 2, 1) := by decide +kernel
theorem dX6_slip_32 : decode cX6_slip 32 = .ok (.iconst 0, 1) := by decide +kernel
theorem dX6_slip_33 : decode cX6_slip 33 = .ok (.invokevirtual 332, 3) := by decide +kernel
theorem dX6_slip_36 : decode cX6_slip 36 = .ok (.ifCond .eq 12, 3) := by decide +kernel
theorem dX6_slip_39 : decode cX6_slip 39 = .ok (.aload_n 0, 1) := by decide +kernel
theorem dX6_slip_40 : decode cX6_slip 40 = .ok (.iload_n 2, 1) := by decide +kernel
theorem dX6_slip_41 : decode cX6_slip 41 = .ok (.iconst 2, 1) := by decide +kernel
theorem dX6_slip_42 : decode cX6_slip 42 = .ok (.invokevirtual 332, 3) := by decide +kernel
theorem dX6_slip_45 : decode cX6_slip 45 = .ok (.ifCond .ne 5, 3) := by decide +kernel
theorem dX6_slip_48 : decode cX6_slip 48 = .ok (.iload_n 2, 1) := by decide +kernel
theorem dX6_slip_49 : decode cX6_slip 49 = .ok (.ireturn, 1) := by decide +kernel
theorem dX6_slip_50 : decode cX6_slip 50 = .ok (.iinc 2 1, 3) := by decide +kernel
theorem dX6_slip_53 : decode cX6_slip 53 = .ok (.goto (-28), 3) := by decide +kernel
theorem dX6_slip_56 : decode cX6_slip 56 = .ok (.aload_n 0, 1) := by decide +kernel
theorem dX6_slip_57 : decode cX6_slip 57 = .ok (.getfield 329, 3) := by decide +kernel
theorem dX6_slip_60 : decode cX6_slip 60 = .ok (.aload_n 0, 1) := by decide +kernel
theorem dX6_slip_61 : decode cX6_slip 61 = .ok (.getfield 236, 3) := by decide +kernel
theorem dX6_slip_64 : decode cX6_slip 64 = .ok (.if_icmp .ne 8, 3) := by decide +kernel
theorem dX6_slip_67 : decode cX6_slip 67 = .ok (.bipush (-5), 2) := by decide +kernel
theorem dX6_slip_69 : decode cX6_slip 69 = .ok (.goto 4, 3) := by decide +kernel
theorem dX6_slip_72 : decode cX6_slip 72 = .ok (.iload_n 1, 1) := by decide +kernel
theorem dX6_slip_73 : decode cX6_slip 73 = .ok (.ireturn, 1) := by decide +kernel
theorem dX6_lapse_0 : decode cX6_lapse 0 = .ok (.aload_n 0, 1) := by decide +kernel
theorem dX6_lapse_1 : decode cX6_lapse 1 = .ok (.invokevirtual 335, 3) := by decide +kernel
theorem dX6_lapse_4 : decode cX6_lapse 4 = .ok (.istore_n 1, 1) := by decide +kernel
theorem dX6_lapse_5 : decode cX6_lapse 5 = .ok (.iload_n 1, 1) := by decide +kernel
theorem dX6_lapse_6 : decode cX6_lapse 6 = .ok (.bipush (-5), 2) := by decide +kernel
theorem dX6_lapse_8 : decode cX6_lapse 8 = .ok (.if_icmp .ne 5, 3) := by decide +kernel
theorem dX6_lapse_11 : decode cX6_lapse 11 = .ok (.iconst 0, 1) := by decide +kernel
theorem dX6_lapse_12 : decode cX6_lapse 12 = .ok (.ireturn, 1) := by decide +kernel
theorem dX6_lapse_13 : decode cX6_lapse 13 = .ok (.iload_n 1, 1) := by decide +kernel
theorem dX6_lapse_14 : decode cX6_lapse 14 = .ok (.aload_n 0, 1) := by decide +kernel
theorem dX6_lapse_15 : decode cX6_lapse 15 = .ok (.getfield 329, 3) := by decide +kernel
theorem dX6_lapse_18 : decode cX6_lapse 18 = .ok (.if_icmp .ne 7, 3) := by decide +kernel
theorem dX6_lapse_21 : decode cX6_lapse 21 = .ok (.iconst 3, 1) := by decide +kernel
theorem dX6_lapse_22 : decode cX6_lapse 22 = .ok (.goto 29, 3) := by decide +kernel
theorem dX6_lapse_25 : decode cX6_lapse 25 = .ok (.iload_n 1, 1) := by decide +kernel
theorem dX6_lapse_26 : decode cX6_lapse 26 = .ok (.aload_n 0, 1) := by decide +kernel
theorem dX6_lapse_27 : decode cX6_lapse 27 = .ok (.getfield 236, 3) := by decide +kernel
theorem dX6_lapse_30 : decode cX6_lapse 30 = .ok (.if_icmp .ne 7, 3) := by decide +kernel
theorem dX6_lapse_33 : decode cX6_lapse 33 = .ok (.iconst 4, 1) := by decide +kernel
theorem dX6_lapse_34 : decode cX6_lapse 34 = .ok (.goto 17, 3) := by decide +kernel
theorem dX6_lapse_37 : decode cX6_lapse 37 = .ok (.aload_n 0, 1) := by decide +kernel
theorem dX6_lapse_38 : decode cX6_lapse 38 = .ok (.iload_n 1, 1) := by decide +kernel
theorem dX6_lapse_39 : decode cX6_lapse 39 = .ok (.iconst 0, 1) := by decide +kernel
theorem dX6_lapse_40 : decode cX6_lapse 40 = .ok (.invokevirtual 332, 3) := by decide +kernel
theorem dX6_lapse_43 : decode cX6_lapse 43 = .ok (.ifCond .ne 7, 3) := by decide +kernel
theorem dX6_lapse_46 : decode cX6_lapse 46 = .ok (.iconst 1, 1) := by decide +kernel
theorem dX6_lapse_47 : decode cX6_lapse 47 = .ok (.goto 4, 3) := by decide +kernel
theorem dX6_lapse_50 : decode cX6_lapse 50 = .ok (.iconst 2, 1) := by decide +kernel
theorem dX6_lapse_51 : decode cX6_lapse 51 = .ok (.ireturn, 1) := by decide +kernel
theorem dX6_fix_0 : decode cX6_fix 0 = .ok (.aload_n 0, 1) := by decide +kernel
theorem dX6_fix_1 : decode cX6_fix 1 = .ok (.invokevirtual 335, 3) := by decide +kernel
theorem dX6_fix_4 : decode cX6_fix 4 = .ok (.istore_n 1, 1) := by decide +kernel
theorem dX6_fix_5 : decode cX6_fix 5 = .ok (.iload_n 1, 1) := by decide +kernel
theorem dX6_fix_6 : decode cX6_fix 6 = .ok (.bipush (-5), 2) := by decide +kernel
theorem dX6_fix_8 : decode cX6_fix 8 = .ok (.if_icmp .ne 6, 3) := by decide +kernel
theorem dX6_fix_11 : decode cX6_fix 11 = .ok (.bipush (-3), 2) := by decide +kernel
theorem dX6_fix_13 : decode cX6_fix 13 = .ok (.ireturn, 1) := by decide +kernel
theorem dX6_fix_14 : decode cX6_fix 14 = .ok (.iload_n 1, 1) := by decide +kernel
theorem dX6_fix_15 : decode cX6_fix 15 = .ok (.sipush 300, 3) := by decide +kernel
theorem dX6_fix_18 : decode cX6_fix 18 = .ok (.if_icmp .ne 6, 3) := by decide +kernel
theorem dX6_fix_21 : decode cX6_fix 21 = .ok (.bipush (-4), 2) := by decide +kernel
theorem dX6_fix_23 : decode cX6_fix 23 = .ok (.ireturn, 1) := by decide +kernel
theorem dX6_fix_24 : decode cX6_fix 24 = .ok (.iload_n 1, 1) := by decide +kernel
theorem dX6_fix_25 : decode cX6_fix 25 = .ok (.aload_n 0, 1) := by decide +kernel
theorem dX6_fix_26 : decode cX6_fix 26 = .ok (.getfield 236, 3) := by decide +kernel
theorem dX6_fix_29 : decode cX6_fix 29 = .ok (.if_icmp .ne 13, 3) := by decide +kernel
theorem dX6_fix_32 : decode cX6_fix 32 = .ok (.aload_n 0, 1) := by decide +kernel
theorem dX6_fix_33 : decode cX6_fix 33 = .ok (.iload_n 1, 1) := by decide +kernel
theorem dX6_fix_34 : decode cX6_fix 34 = .ok (.putfield 329, 3) := by decide +kernel
theorem dX6_fix_37 : decode cX6_fix 37 = .ok (.aload_n 0, 1) := by decide +kernel
theorem dX6_fix_38 : decode cX6_fix 38 = .ok (.invokevirtual 335, 3) := by decide +kernel
theorem dX6_fix_41 : decode cX6_fix 41 = .ok (.ireturn, 1) := by decide +kernel
theorem dX6_fix_42 : decode cX6_fix 42 = .ok (.iconst 0, 1) := by decide +kernel
theorem dX6_fix_43 : decode cX6_fix 43 = .ok (.istore_n 2, 1) := by decide +kernel
theorem dX6_fix_44 : decode cX6_fix 44 = .ok (.iload_n 2, 1) := by decide +kernel
theorem dX6_fix_45 : decode cX6_fix 45 = .ok (.iconst 4, 1) := by decide +kernel
theorem dX6_fix_46 : decode cX6_fix 46 = .ok (.if_icmp .ge 30, 3) := by decide +kernel
theorem dX6_fix_49 : decode cX6_fix 49 = .ok (.aload_n 0, 1) := by decide +kernel
theorem dX6_fix_50 : decode cX6_fix 50 = .ok (.getfield 65, 3) := by decide +kernel
theorem dX6_fix_53 : decode cX6_fix 53 = .ok (.iconst 4, 1) := by decide +kernel
theorem dX6_fix_54 : decode cX6_fix 54 = .ok (.iload_n 1, 1) := by decide +kernel
theorem dX6_fix_55 : decode cX6_fix 55 = .ok (.imul, 1) := by decide +kernel
theorem dX6_fix_56 : decode cX6_fix 56 = .ok (.iload_n 2, 1) := by decide +kernel
theorem dX6_fix_57 : decode cX6_fix 57 = .ok (.iadd, 1) := by decide +kernel
theorem dX6_fix_58 : decode cX6_fix 58 = .ok (.aload_n 0, 1) := by decide +kernel
theorem dX6_fix_59 : decode cX6_fix 59 = .ok (.getfield 54, 3) := by decide +kernel
theorem dX6_fix_62 : decode cX6_fix 62 = .ok (.bipush 7, 2) := by decide +kernel
theorem dX6_fix_64 : decode cX6_fix 64 = .ok (.iload_n 1, 1) := by decide +kernel
theorem dX6_fix_65 : decode cX6_fix 65 = .ok (.imul, 1) := by decide +kernel
theorem dX6_fix_66 : decode cX6_fix 66 = .ok (.iload_n 2, 1) := by decide +kernel
theorem dX6_fix_67 : decode cX6_fix 67 = .ok (.iadd, 1) := by decide +kernel
theorem dX6_fix_68 : decode cX6_fix 68 = .ok (.iaload, 1) := by decide +kernel
theorem dX6_fix_69 : decode cX6_fix 69 = .ok (.iastore, 1) := by decide +kernel
theorem dX6_fix_70 : decode cX6_fix 70 = .ok (.iinc 2 1, 3) := by decide +kernel
theorem dX6_fix_73 : decode cX6_fix 73 = .ok (.goto (-29), 3) := by decide +kernel
theorem dX6_fix_76 : decode cX6_fix 76 = .ok (.aload_n 0, 1) := by decide +kernel
theorem dX6_fix_77 : decode cX6_fix 77 = .ok (.iload_n 1, 1) := by decide +kernel
theorem dX6_fix_78 : decode cX6_fix 78 = .ok (.aload_n 0, 1) := by decide +kernel
theorem dX6_fix_79 : decode cX6_fix 79 = .ok (.getfield 329, 3) := by decide +kernel
theorem dX6_fix_82 : decode cX6_fix 82 = .ok (.if_icmp .ne 9, 3) := by decide +kernel
theorem dX6_fix_85 : decode cX6_fix 85 = .ok (.iload_n 1, 1) := by decide +kernel
theorem dX6_fix_86 : decode cX6_fix 86 = .ok (.iconst 1, 1) := by decide +kernel
theorem dX6_fix_87 : decode cX6_fix 87 = .ok (.iadd, 1) := by decide +kernel
theorem dX6_fix_88 : decode cX6_fix 88 = .ok (.goto 7, 3) := by decide +kernel
theorem dX6_fix_91 : decode cX6_fix 91 = .ok (.aload_n 0, 1) := by decide +kernel
theorem dX6_fix_92 : decode cX6_fix 92 = .ok (.getfield 329, 3) := by decide +kernel
theorem dX6_fix_95 : decode cX6_fix 95 = .ok (.putfield 329, 3) := by decide +kernel
theorem dX6_fix_98 : decode cX6_fix 98 = .ok (.aload_n 0, 1) := by decide +kernel
theorem dX6_fix_99 : decode cX6_fix 99 = .ok (.invokevirtual 335, 3) := by decide +kernel
theorem dX6_fix_102 : decode cX6_fix 102 = .ok (.ireturn, 1) := by decide +kernel
theorem dX6_draw_0 : decode cX6_draw 0 = .ok (.aload_n 0, 1) := by decide +kernel
theorem dX6_draw_1 : decode cX6_draw 1 = .ok (.ldc_w 339, 3) := by decide +kernel
theorem dX6_draw_4 : decode cX6_draw 4 = .ok (.aload_n 0, 1) := by decide +kernel
theorem dX6_draw_5 : decode cX6_draw 5 = .ok (.getfield 340, 3) := by decide +kernel
theorem dX6_draw_8 : decode cX6_draw 8 = .ok (.imul, 1) := by decide +kernel
theorem dX6_draw_9 : decode cX6_draw 9 = .ok (.sipush 12345, 3) := by decide +kernel
theorem dX6_draw_12 : decode cX6_draw 12 = .ok (.iadd, 1) := by decide +kernel
theorem dX6_draw_13 : decode cX6_draw 13 = .ok (.putfield 340, 3) := by decide +kernel
theorem dX6_draw_16 : decode cX6_draw 16 = .ok (.aload_n 0, 1) := by decide +kernel
theorem dX6_draw_17 : decode cX6_draw 17 = .ok (.getfield 340, 3) := by decide +kernel
theorem dX6_draw_20 : decode cX6_draw 20 = .ok (.bipush 16, 2) := by decide +kernel
theorem dX6_draw_22 : decode cX6_draw 22 = .ok (.iushr, 1) := by decide +kernel
theorem dX6_draw_23 : decode cX6_draw 23 = .ok (.ireturn, 1) := by decide +kernel
theorem dX6_isTrue_0 : decode cX6_isTrue 0 = .ok (.iload_n 0, 1) := by decide +kernel
theorem dX6_isTrue_1 : decode cX6_isTrue 1 = .ok (.ifCond .ne 18, 3) := by decide +kernel
theorem dX6_isTrue_4 : decode cX6_isTrue 4 = .ok (.iload_n 1, 1) := by decide +kernel
theorem dX6_isTrue_5 : decode cX6_isTrue 5 = .ok (.iload_n 2, 1) := by decide +kernel
theorem dX6_isTrue_6 : decode cX6_isTrue 6 = .ok (.iadd, 1) := by decide +kernel
theorem dX6_isTrue_7 : decode cX6_isTrue 7 = .ok (.iload_n 3, 1) := by decide +kernel
theorem dX6_isTrue_8 : decode cX6_isTrue 8 = .ok (.if_icmp .ne 7, 3) := by decide +kernel
theorem dX6_isTrue_11 : decode cX6_isTrue 11 = .ok (.iconst 1, 1) := by decide +kernel
theorem dX6_isTrue_12 : decode cX6_isTrue 12 = .ok (.goto 39, 3) := by decide +kernel
theorem dX6_isTrue_15 : decode cX6_isTrue 15 = .ok (.iconst 0, 1) := by decide +kernel
theorem dX6_isTrue_16 : decode cX6_isTrue 16 = .ok (.goto 35, 3) := by decide +kernel
theorem dX6_isTrue_19 : decode cX6_isTrue 19 = .ok (.iload_n 0, 1) := by decide +kernel
theorem dX6_isTrue_20 : decode cX6_isTrue 20 = .ok (.iconst 1, 1) := by decide +kernel
theorem dX6_isTrue_21 : decode cX6_isTrue 21 = .ok (.if_icmp .ne 18, 3) := by decide +kernel
theorem dX6_isTrue_24 : decode cX6_isTrue 24 = .ok (.iload_n 1, 1) := by decide +kernel
theorem dX6_isTrue_25 : decode cX6_isTrue 25 = .ok (.iload_n 2, 1) := by decide +kernel
theorem dX6_isTrue_26 : decode cX6_isTrue 26 = .ok (.isub, 1) := by decide +kernel
theorem dX6_isTrue_27 : decode cX6_isTrue 27 = .ok (.iload_n 3, 1) := by decide +kernel
theorem dX6_isTrue_28 : decode cX6_isTrue 28 = .ok (.if_icmp .ne 7, 3) := by decide +kernel
theorem dX6_isTrue_31 : decode cX6_isTrue 31 = .ok (.iconst 1, 1) := by decide +kernel
theorem dX6_isTrue_32 : decode cX6_isTrue 32 = .ok (.goto 19, 3) := by decide +kernel
theorem dX6_isTrue_35 : decode cX6_isTrue 35 = .ok (.iconst 0, 1) := by decide +kernel
theorem dX6_isTrue_36 : decode cX6_isTrue 36 = .ok (.goto 15, 3) := by decide +kernel
theorem dX6_isTrue_39 : decode cX6_isTrue 39 = .ok (.iload_n 1, 1) := by decide +kernel
theorem dX6_isTrue_40 : decode cX6_isTrue 40 = .ok (.iload_n 2, 1) := by decide +kernel
theorem dX6_isTrue_41 : decode cX6_isTrue 41 = .ok (.imul, 1) := by decide +kernel
theorem dX6_isTrue_42 : decode cX6_isTrue 42 = .ok (.iload_n 3, 1) := by decide +kernel
theorem dX6_isTrue_43 : decode cX6_isTrue 43 = .ok (.if_icmp .ne 7, 3) := by decide +kernel
theorem dX6_isTrue_46 : decode cX6_isTrue 46 = .ok (.iconst 1, 1) := by decide +kernel
theorem dX6_isTrue_47 : decode cX6_isTrue 47 = .ok (.goto 4, 3) := by decide +kernel
theorem dX6_isTrue_50 : decode cX6_isTrue 50 = .ok (.iconst 0, 1) := by decide +kernel
theorem dX6_isTrue_51 : decode cX6_isTrue 51 = .ok (.ireturn, 1) := by decide +kernel
theorem dX6_numberAt_0 : decode cX6_numberAt 0 = .ok (.iconst 0, 1) := by decide +kernel
theorem dX6_numberAt_1 : decode cX6_numberAt 1 = .ok (.istore_n 3, 1) := by decide +kernel
theorem dX6_numberAt_2 : decode cX6_numberAt 2 = .ok (.iload_n 1, 1) := by decide +kernel
theorem dX6_numberAt_3 : decode cX6_numberAt 3 = .ok (.istore 4, 2) := by decide +kernel
theorem dX6_numberAt_5 : decode cX6_numberAt 5 = .ok (.iload 4, 2) := by decide +kernel
theorem dX6_numberAt_7 : decode cX6_numberAt 7 = .ok (.iload_n 2, 1) := by decide +kernel
theorem dX6_numberAt_8 : decode cX6_numberAt 8 = .ok (.if_icmp .ge 22, 3) := by decide +kernel
theorem dX6_numberAt_11 : decode cX6_numberAt 11 = .ok (.bipush 10, 2) := by decide +kernel
theorem dX6_numberAt_13 : decode cX6_numberAt 13 = .ok (.iload_n 3, 1) := by decide +kernel
theorem dX6_numberAt_14 : decode cX6_numberAt 14 = .ok (.imul, 1) := by decide +kernel
theorem dX6_numberAt_15 : decode cX6_numberAt 15 = .ok (.aload_n 0, 1) := by decide +kernel
theorem dX6_numberAt_16 : decode cX6_numberAt 16 = .ok (.getfield 83, 3) := by decide +kernel
theorem dX6_numberAt_19 : decode cX6_numberAt 19 = .ok (.iload 4, 2) := by decide +kernel
theorem dX6_numberAt_21 : decode cX6_numberAt 21 = .ok (.iaload, 1) := by decide +kernel
theorem dX6_numberAt_22 : decode cX6_numberAt 22 = .ok (.iadd, 1) := by decide +kernel
theorem dX6_numberAt_23 : decode cX6_numberAt 23 = .ok (.istore_n 3, 1) := by decide +kernel
theorem dX6_numberAt_24 : decode cX6_numberAt 24 = .ok (.iinc 4 1, 3) := by decide +kernel
theorem dX6_numberAt_27 : decode cX6_numberAt 27 = .ok (.goto (-22), 3) := by decide +kernel
theorem dX6_numberAt_30 : decode cX6_numberAt 30 = .ok (.iload_n 3, 1) := by decide +kernel
theorem dX6_numberAt_31 : decode cX6_numberAt 31 = .ok (.ireturn, 1) := by decide +kernel
theorem dX6_findFillings_0 : decode cX6_findFillings 0 = .ok (.iconst 0, 1) := by decide +kernel
theorem dX6_findFillings_1 : decode cX6_findFillings 1 = .ok (.istore_n 2, 1) := by decide +kernel
theorem dX6_findFillings_2 : decode cX6_findFillings 2 = .ok (.iconst 0, 1) := by decide +kernel
theorem dX6_findFillings_3 : decode cX6_findFillings 3 = .ok (.istore_n 3, 1) := by decide +kernel
theorem dX6_findFillings_4 : decode cX6_findFillings 4 = .ok (.iload_n 3, 1) := by decide +kernel
theorem dX6_findFillings_5 : decode cX6_findFillings 5 = .ok (.bipush 12, 2) := by decide +kernel
theorem dX6_findFillings_7 : decode cX6_findFillings 7 = .ok (.if_icmp .ge 50, 3) := by decide +kernel
theorem dX6_findFillings_10 : decode cX6_findFillings 10 = .ok (.aload_n 0, 1) := by decide +kernel
theorem dX6_findFillings_11 : decode cX6_findFillings 11 = .ok (.getfield 83, 3) := by decide +kernel
theorem dX6_findFillings_14 : decode cX6_findFillings 14 = .ok (.iload_n 3, 1) := by decide +kernel
theorem dX6_findFillings_15 : decode cX6_findFillings 15 = .ok (.aload_n 0, 1) := by decide +kernel
theorem dX6_findFillings_16 : decode cX6_findFillings 16 = .ok (.getfield 71, 3) := by decide +kernel
theorem dX6_findFillings_19 : decode cX6_findFillings 19 = .ok (.bipush 12, 2) := by decide +kernel
theorem dX6_findFillings_21 : decode cX6_findFillings 21 = .ok (.iload_n 1, 1) := by decide +kernel
theorem dX6_findFillings_22 : decode cX6_findFillings 22 = .ok (.imul, 1) := by decide +kernel
theorem dX6_findFillings_23 : decode cX6_findFillings 23 = .ok (.iload_n 3, 1) := by decide +kernel
theorem dX6_findFillings_24 : decode cX6_findFillings 24 = .ok (.iadd, 1) := by decide +kernel
theorem dX6_findFillings_25 : decode cX6_findFillings 25 = .ok (.iaload, 1) := by decide +kernel
theorem dX6_findFillings_26 : decode cX6_findFillings 26 = .ok (.iastore, 1) := by decide +kernel
theorem dX6_findFillings_27 : decode cX6_findFillings 27 = .ok (.aload_n 0, 1) := by decide +kernel
theorem dX6_findFillings_28 : decode cX6_findFillings 28 = .ok (.getfield 74, 3) := by decide +kernel
theorem dX6_findFillings_31 : decode cX6_findFillings 31 = .ok (.bipush 12, 2) := by decide +kernel
theorem dX6_findFillings_33 : decode cX6_findFillings 33 = .ok (.iload_n 1, 1) := by decide +kernel
theorem dX6_findFillings_34 : decode cX6_findFillings 34 = .ok (.imul, 1) := by decide +kernel
theorem dX6_findFillings_35 : decode cX6_findFillings 35 = .ok (.iload_n 3, 1) := by decide +kernel
theorem dX6_findFillings_36 : decode cX6_findFillings 36 = .ok (.iadd, 1) := by decide +kernel
theorem dX6_findFillings_37 : decode cX6_findFillings 37 = .ok (.baload, 1) := by decide +kernel
theorem dX6_findFillings_38 : decode cX6_findFillings 38 = .ok (.ifCond .eq 13, 3) := by decide +kernel
theorem dX6_findFillings_41 : decode cX6_findFillings 41 = .ok (.aload_n 0, 1) := by decide +kernel
theorem dX6_findFillings_42 : decode cX6_findFillings 42 = .ok (.getfield 86, 3) := by decide +kernel
theorem dX6_findFillings_45 : decode cX6_findFillings 45 = .ok (.iload_n 2, 1) := by decide +kernel
theorem dX6_findFillings_46 : decode cX6_findFillings 46 = .ok (.iload_n 3, 1) := by decide +kernel
theorem dX6_findFillings_47 : decode cX6_findFillings 47 = .ok (.iastore, 1) := by decide +kernel
theorem dX6_findFillings_48 : decode cX6_findFillings 48 = .ok (.iinc 2 1, 3) := by decide +kernel
theorem dX6_findFillings_51 : decode cX6_findFillings 51 = .ok (.iinc 3 1, 3) := by decide +kernel
theorem dX6_findFillings_54 : decode cX6_findFillings 54 = .ok (.goto (-50), 3) := by decide +kernel
theorem dX6_findFillings_57 : decode cX6_findFillings 57 = .ok (.iconst 1, 1) := by decide +kernel
theorem dX6_findFillings_58 : decode cX6_findFillings 58 = .ok (.istore_n 3, 1) := by decide +kernel
theorem dX6_findFillings_59 : decode cX6_findFillings 59 = .ok (.iconst 0, 1) := by decide +kernel
theorem dX6_findFillings_60 : decode cX6_findFillings 60 = .ok (.istore 4, 2) := by decide +kernel
theorem dX6_findFillings_62 : decode cX6_findFillings 62 = .ok (.iload 4, 2) := by decide +kernel
theorem dX6_findFillings_64 : decode cX6_findFillings 64 = .ok (.iload_n 2, 1) := by decide +kernel
theorem dX6_findFillings_65 : decode cX6_findFillings 65 = .ok (.if_icmp .ge 14, 3) := by decide +kernel
theorem dX6_findFillings_68 : decode cX6_findFillings 68 = .ok (.iload_n 3, 1) := by decide +kernel
theorem dX6_findFillings_69 : decode cX6_findFillings 69 = .ok (.bipush 10, 2) := by decide +kernel
theorem dX6_findFillings_71 : decode cX6_findFillings 71 = .ok (.imul, 1) := by decide +kernel
theorem dX6_findFillings_72 : decode cX6_findFillings 72 = .ok (.istore_n 3, 1) := by decide +kernel
theorem dX6_findFillings_73 : decode cX6_findFillings 73 = .ok (.iinc 4 1, 3) := by decide +kernel
theorem dX6_findFillings_76 : decode cX6_findFillings 76 = .ok (.goto (-14), 3) := by decide +kernel
theorem dX6_findFillings_79 : decode cX6_findFillings 79 = .ok (.iconst 0, 1) := by decide +kernel
theorem dX6_findFillings_80 : decode cX6_findFillings 80 = .ok (.istore 4, 2) := by decide +kernel
theorem dX6_findFillings_82 : decode cX6_findFillings 82 = .ok (.iload 4, 2) := by decide +kernel
theorem dX6_findFillings_84 : decode cX6_findFillings 84 = .ok (.iload_n 3, 1) := by decide +kernel
theorem dX6_findFillings_85 : decode cX6_findFillings 85 = .ok (.if_icmp .ge 140, 3) := by decide +kernel
theorem dX6_findFillings_88 : decode cX6_findFillings 88 = .ok (.iload 4, 2) := by decide +kernel
theorem dX6_findFillings_90 : decode cX6_findFillings 90 = .ok (.istore 5, 2) := by decide +kernel
theorem dX6_findFillings_92 : decode cX6_findFillings 92 = .ok (.iload_n 2, 1) := by decide +kernel
theorem dX6_findFillings_93 : decode cX6_findFillings 93 = .ok (.iconst 1, 1) := by decide +kernel
theorem dX6_findFillings_94 : decode cX6_findFillings 94 = .ok (.isub, 1) := by decide +kernel
theorem dX6_findFillings_95 : decode cX6_findFillings 95 = .ok (.istore 6, 2) := by decide +kernel
theorem dX6_findFillings_97 : decode cX6_findFillings 97 = .ok (.iload 6, 2) := by decide +kernel
theorem dX6_findFillings_99 : decode cX6_findFillings 99 = .ok (.ifCond .lt 33, 3) := by decide +kernel
theorem dX6_findFillings_102 : decode cX6_findFillings 102 = .ok (.aload_n 0, 1) := by decide +kernel
theorem dX6_findFillings_103 : decode cX6_findFillings 103 = .ok (.getfield 83, 3) := by decide +kernel
theorem dX6_findFillings_106 : decode cX6_findFillings 106 = .ok (.aload_n 0, 1) := by decide +kernel
theorem dX6_findFillings_107 : decode cX6_findFillings 107 = .ok (.getfield 86, 3) := by decide +kernel
theorem dX6_findFillings_110 : decode cX6_findFillings 110 = .ok (.iload 6, 2) := by decide +kernel
theorem dX6_findFillings_112 : decode cX6_findFillings 112 = .ok (.iaload, 1) := by decide +kernel
theorem dX6_findFillings_113 : decode cX6_findFillings 113 = .ok (.iload 5, 2) := by decide +kernel
theorem dX6_findFillings_115 : decode cX6_findFillings 115 = .ok (.bipush 10, 2) := by decide +kernel
theorem dX6_findFillings_117 : decode cX6_findFillings 117 = .ok (.irem, 1) := by decide +kernel
theorem dX6_findFillings_118 : decode cX6_findFillings 118 = .ok (.iastore, 1) := by decide +kernel
theorem dX6_findFillings_119 : decode cX6_findFillings 119 = .ok (.iload 5, 2) := by decide +kernel
theorem dX6_findFillings_121 : decode cX6_findFillings 121 = .ok (.bipush 10, 2) := by decide +kernel
theorem dX6_findFillings_123 : decode cX6_findFillings 123 = .ok (.idiv, 1) := by decide +kernel
theorem dX6_findFillings_124 : decode cX6_findFillings 124 = .ok (.istore 5, 2) := by decide +kernel
theorem dX6_findFillings_126 : decode cX6_findFillings 126 = .ok (.iinc 6 (-1), 3) := by decide +kernel
theorem dX6_findFillings_129 : decode cX6_findFillings 129 = .ok (.goto (-32), 3) := by decide +kernel
theorem dX6_findFillings_132 : decode cX6_findFillings 132 = .ok (.aload_n 0, 1) := by decide +kernel
theorem dX6_findFillings_133 : decode cX6_findFillings 133 = .ok (.getfield 68, 3) := by decide +kernel
theorem dX6_findFillings_136 : decode cX6_findFillings 136 = .ok (.iload_n 1, 1) := by decide +kernel
theorem dX6_findFillings_137 : decode cX6_findFillings 137 = .ok (.iaload, 1) := by decide +kernel
theorem dX6_findFillings_138 : decode cX6_findFillings 138 = .ok (.aload_n 0, 1) := by decide +kernel
theorem dX6_findFillings_139 : decode cX6_findFillings 139 = .ok (.iconst 0, 1) := by decide +kernel
theorem dX6_findFillings_140 : decode cX6_findFillings 140 = .ok (.iconst 3, 1) := by decide +kernel
theorem dX6_findFillings_141 : decode cX6_findFillings 141 = .ok (.invokevirtual 343, 3) := by decide +kernel
theorem dX6_findFillings_144 : decode cX6_findFillings 144 = .ok (.aload_n 0, 1) := by decide +kernel
theorem dX6_findFillings_145 : decode cX6_findFillings 145 = .ok (.iconst 3, 1) := by decide +kernel
theorem dX6_findFillings_146 : decode cX6_findFillings 146 = .ok (.bipush 6, 2) := by decide +kernel
theorem dX6_findFillings_148 : decode cX6_findFillings 148 = .ok (.invokevirtual 343, 3) := by decide +kernel
theorem dX6_findFillings_151 : decode cX6_findFillings 151 = .ok (.aload_n 0, 1) := by decide +kernel
theorem dX6_findFillings_152 : decode cX6_findFillings 152 = .ok (.bipush 6, 2) := by decide +kernel
theorem dX6_findFillings_154 : decode cX6_findFillings 154 = .ok (.bipush 12, 2) := by decide +kernel
theorem dX6_findFillings_156 : decode cX6_findFillings 156 = .ok (.invokevirtual 343, 3) := by decide +kernel
theorem dX6_findFillings_159 : decode cX6_findFillings 159 = .ok (.invokestatic 346, 3) := by decide +kernel
theorem dX6_findFillings_162 : decode cX6_findFillings 162 = .ok (.ifCond .eq 57, 3) := by decide +kernel
theorem dX6_findFillings_165 : decode cX6_findFillings 165 = .ok (.aload_n 0, 1) := by decide +kernel
theorem dX6_findFillings_166 : decode cX6_findFillings 166 = .ok (.getfield 80, 3) := by decide +kernel
theorem dX6_findFillings_169 : decode cX6_findFillings 169 = .ok (.iload_n 1, 1) := by decide +kernel
theorem dX6_findFillings_170 : decode cX6_findFillings 170 = .ok (.iaload, 1) := by decide +kernel
theorem dX6_findFillings_171 : decode cX6_findFillings 171 = .ok (.ifCond .ne 38, 3) := by decide +kernel
theorem dX6_findFillings_174 : decode cX6_findFillings 174 = .ok (.iconst 0, 1) := by decide +kernel
theorem dX6_findFillings_175 : decode cX6_findFillings 175 = .ok (.istore 6, 2) := by decide +kernel
theorem dX6_findFillings_177 : decode cX6_findFillings 177 = .ok (.iload 6, 2) := by decide +kernel
theorem dX6_findFillings_179 : decode cX6_findFillings 179 = .ok (.bipush 12, 2) := by decide +kernel
theorem dX6_findFillings_181 : decode cX6_findFillings 181 = .ok (.if_icmp .ge 28, 3) := by decide +kernel
end
section
theorem dX6_findFillings_184 : decode cX6_findFillings 184 = .ok (.aload_n 0, 1) := by decide +kernel
theorem dX6_findFillings_185 : decode cX6_findFillings 185 = .ok (.getfield 77, 3) := by decide +kernel
theorem dX6_findFillings_188 : decode cX6_findFillings 188 = .ok (.bipush 12, 2) := by decide +kernel
theorem dX6_findFillings_190 : decode cX6_findFillings 190 = .ok (.iload_n 1, 1) := by decide +kernel
theorem dX6_findFillings_191 : decode cX6_findFillings 191 = .ok (.imul, 1) := by decide +kernel
theorem dX6_findFillings_192 : decode cX6_findFillings 192 = .ok (.iload 6, 2) := by decide +kernel
theorem dX6_findFillings_194 : decode cX6_findFillings 194 = .ok (.iadd, 1) := by decide +kernel
theorem dX6_findFillings_195 : decode cX6_findFillings 195 = .ok (.aload_n 0, 1) := by decide +kernel
theorem dX6_findFillings_196 : decode cX6_findFillings 196 = .ok (.getfield 83, 3) := by decide +kernel
theorem dX6_findFillings_199 : decode cX6_findFillings 199 = .ok (.iload 6, 2) := by decide +kernel
theorem dX6_findFillings_201 : decode cX6_findFillings 201 = .ok (.iaload, 1) := by decide +kernel
theorem dX6_findFillings_202 : decode cX6_findFillings 202 = .ok (.iastore, 1) := by decide +kernel
theorem dX6_findFillings_203 : decode cX6_findFillings 203 = .ok (.iinc 6 1, 3) := by decide +kernel
theorem dX6_findFillings_206 : decode cX6_findFillings 206 = .ok (.goto (-29), 3) := by decide +kernel
theorem dX6_findFillings_209 : decode cX6_findFillings 209 = .ok (.aload_n 0, 1) := by decide +kernel
theorem dX6_findFillings_210 : decode cX6_findFillings 210 = .ok (.getfield 80, 3) := by decide +kernel
theorem dX6_findFillings_213 : decode cX6_findFillings 213 = .ok (.iload_n 1, 1) := by decide +kernel
theorem dX6_findFillings_214 : decode cX6_findFillings 214 = .ok (.dup2, 1) := by decide +kernel
theorem dX6_findFillings_215 : decode cX6_findFillings 215 = .ok (.iaload, 1) := by decide +kernel
theorem dX6_findFillings_216 : decode cX6_findFillings 216 = .ok (.iconst 1, 1) := by decide +kernel
theorem dX6_findFillings_217 : decode cX6_findFillings 217 = .ok (.iadd, 1) := by decide +kernel
theorem dX6_findFillings_218 : decode cX6_findFillings 218 = .ok (.iastore, 1) := by decide +kernel
theorem dX6_findFillings_219 : decode cX6_findFillings 219 = .ok (.iinc 4 1, 3) := by decide +kernel
theorem dX6_findFillings_222 : decode cX6_findFillings 222 = .ok (.goto (-140), 3) := by decide +kernel
theorem dX6_findFillings_225 : decode cX6_findFillings 225 = .ok (.return_, 1) := by decide +kernel
theorem dX6_writeNumber_0 : decode cX6_writeNumber 0 = .ok (.iload_n 3, 1) := by decide +kernel
theorem dX6_writeNumber_1 : decode cX6_writeNumber 1 = .ok (.istore 4, 2) := by decide +kernel
theorem dX6_writeNumber_3 : decode cX6_writeNumber 3 = .ok (.iload_n 2, 1) := by decide +kernel
theorem dX6_writeNumber_4 : decode cX6_writeNumber 4 = .ok (.iconst 1, 1) := by decide +kernel
theorem dX6_writeNumber_5 : decode cX6_writeNumber 5 = .ok (.isub, 1) := by decide +kernel
theorem dX6_writeNumber_6 : decode cX6_writeNumber 6 = .ok (.istore 5, 2) := by decide +kernel
theorem dX6_writeNumber_8 : decode cX6_writeNumber 8 = .ok (.iload 5, 2) := by decide +kernel
theorem dX6_writeNumber_10 : decode cX6_writeNumber 10 = .ok (.ifCond .lt 30, 3) := by decide +kernel
theorem dX6_writeNumber_13 : decode cX6_writeNumber 13 = .ok (.aload_n 0, 1) := by decide +kernel
theorem dX6_writeNumber_14 : decode cX6_writeNumber 14 = .ok (.getfield 71, 3) := by decide +kernel
theorem dX6_writeNumber_17 : decode cX6_writeNumber 17 = .ok (.iload_n 1, 1) := by decide +kernel
theorem dX6_writeNumber_18 : decode cX6_writeNumber 18 = .ok (.iload 5, 2) := by decide +kernel
theorem dX6_writeNumber_20 : decode cX6_writeNumber 20 = .ok (.iadd, 1) := by decide +kernel
theorem dX6_writeNumber_21 : decode cX6_writeNumber 21 = .ok (.iload 4, 2) := by decide +kernel
theorem dX6_writeNumber_23 : decode cX6_writeNumber 23 = .ok (.bipush 10, 2) := by decide +kernel
theorem dX6_writeNumber_25 : decode cX6_writeNumber 25 = .ok (.irem, 1) := by decide +kernel
theorem dX6_writeNumber_26 : decode cX6_writeNumber 26 = .ok (.iastore, 1) := by decide +kernel
theorem dX6_writeNumber_27 : decode cX6_writeNumber 27 = .ok (.iload 4, 2) := by decide +kernel
theorem dX6_writeNumber_29 : decode cX6_writeNumber 29 = .ok (.bipush 10, 2) := by decide +kernel
theorem dX6_writeNumber_31 : decode cX6_writeNumber 31 = .ok (.idiv, 1) := by decide +kernel
theorem dX6_writeNumber_32 : decode cX6_writeNumber 32 = .ok (.istore 4, 2) := by decide +kernel
theorem dX6_writeNumber_34 : decode cX6_writeNumber 34 = .ok (.iinc 5 (-1), 3) := by decide +kernel
theorem dX6_writeNumber_37 : decode cX6_writeNumber 37 = .ok (.goto (-29), 3) := by decide +kernel
theorem dX6_writeNumber_40 : decode cX6_writeNumber 40 = .ok (.return_, 1) := by decide +kernel
theorem dX6_exercise_0 : decode cX6_exercise 0 = .ok (.iload_n 1, 1) := by decide +kernel
theorem dX6_exercise_1 : decode cX6_exercise 1 = .ok (.i2l, 1) := by decide +kernel
theorem dX6_exercise_2 : decode cX6_exercise 2 = .ok (.lconst 0, 1) := by decide +kernel
theorem dX6_exercise_3 : decode cX6_exercise 3 = .ok (.ldc2_w 135, 3) := by decide +kernel
theorem dX6_exercise_6 : decode cX6_exercise 6 = .ok (.invokestatic 92, 3) := by decide +kernel
theorem dX6_exercise_9 : decode cX6_exercise 9 = .ok (.ifCond .ne 6, 3) := by decide +kernel
theorem dX6_exercise_12 : decode cX6_exercise 12 = .ok (.bipush (-2), 2) := by decide +kernel
theorem dX6_exercise_14 : decode cX6_exercise 14 = .ok (.ireturn, 1) := by decide +kernel
theorem dX6_exercise_15 : decode cX6_exercise 15 = .ok (.aload_n 0, 1) := by decide +kernel
theorem dX6_exercise_16 : decode cX6_exercise 16 = .ok (.getfield 349, 3) := by decide +kernel
theorem dX6_exercise_19 : decode cX6_exercise 19 = .ok (.sipush 200, 3) := by decide +kernel
theorem dX6_exercise_22 : decode cX6_exercise 22 = .ok (.if_icmp .ne 6, 3) := by decide +kernel
theorem dX6_exercise_25 : decode cX6_exercise 25 = .ok (.bipush (-4), 2) := by decide +kernel
theorem dX6_exercise_27 : decode cX6_exercise 27 = .ok (.ireturn, 1) := by decide +kernel
theorem dX6_exercise_28 : decode cX6_exercise 28 = .ok (.aload_n 0, 1) := by decide +kernel
theorem dX6_exercise_29 : decode cX6_exercise 29 = .ok (.getfield 349, 3) := by decide +kernel
theorem dX6_exercise_32 : decode cX6_exercise 32 = .ok (.istore_n 3, 1) := by decide +kernel
theorem dX6_exercise_33 : decode cX6_exercise 33 = .ok (.aload_n 0, 1) := by decide +kernel
theorem dX6_exercise_34 : decode cX6_exercise 34 = .ok (.iload_n 2, 1) := by decide +kernel
theorem dX6_exercise_35 : decode cX6_exercise 35 = .ok (.putfield 340, 3) := by decide +kernel
theorem dX6_exercise_38 : decode cX6_exercise 38 = .ok (.aload_n 0, 1) := by decide +kernel
theorem dX6_exercise_39 : decode cX6_exercise 39 = .ok (.invokevirtual 352, 3) := by decide +kernel
theorem dX6_exercise_42 : decode cX6_exercise 42 = .ok (.sipush 1000, 3) := by decide +kernel
theorem dX6_exercise_45 : decode cX6_exercise 45 = .ok (.irem, 1) := by decide +kernel
theorem dX6_exercise_46 : decode cX6_exercise 46 = .ok (.istore 4, 2) := by decide +kernel
theorem dX6_exercise_48 : decode cX6_exercise 48 = .ok (.aload_n 0, 1) := by decide +kernel
theorem dX6_exercise_49 : decode cX6_exercise 49 = .ok (.invokevirtual 352, 3) := by decide +kernel
theorem dX6_exercise_52 : decode cX6_exercise 52 = .ok (.sipush 1000, 3) := by decide +kernel
theorem dX6_exercise_55 : decode cX6_exercise 55 = .ok (.irem, 1) := by decide +kernel
theorem dX6_exercise_56 : decode cX6_exercise 56 = .ok (.istore 5, 2) := by decide +kernel
theorem dX6_exercise_58 : decode cX6_exercise 58 = .ok (.iload_n 1, 1) := by decide +kernel
theorem dX6_exercise_59 : decode cX6_exercise 59 = .ok (.iconst 1, 1) := by decide +kernel
theorem dX6_exercise_60 : decode cX6_exercise 60 = .ok (.if_icmp .ne 22, 3) := by decide +kernel
theorem dX6_exercise_63 : decode cX6_exercise 63 = .ok (.iload 4, 2) := by decide +kernel
theorem dX6_exercise_65 : decode cX6_exercise 65 = .ok (.iload 5, 2) := by decide +kernel
theorem dX6_exercise_67 : decode cX6_exercise 67 = .ok (.if_icmp .ge 15, 3) := by decide +kernel
theorem dX6_exercise_70 : decode cX6_exercise 70 = .ok (.iload 4, 2) := by decide +kernel
theorem dX6_exercise_72 : decode cX6_exercise 72 = .ok (.istore 6, 2) := by decide +kernel
theorem dX6_exercise_74 : decode cX6_exercise 74 = .ok (.iload 5, 2) := by decide +kernel
theorem dX6_exercise_76 : decode cX6_exercise 76 = .ok (.istore 4, 2) := by decide +kernel
theorem dX6_exercise_78 : decode cX6_exercise 78 = .ok (.iload 6, 2) := by decide +kernel
theorem dX6_exercise_80 : decode cX6_exercise 80 = .ok (.istore 5, 2) := by decide +kernel
theorem dX6_exercise_82 : decode cX6_exercise 82 = .ok (.aload_n 0, 1) := by decide +kernel
theorem dX6_exercise_83 : decode cX6_exercise 83 = .ok (.getfield 68, 3) := by decide +kernel
theorem dX6_exercise_86 : decode cX6_exercise 86 = .ok (.iload_n 3, 1) := by decide +kernel
theorem dX6_exercise_87 : decode cX6_exercise 87 = .ok (.iload_n 1, 1) := by decide +kernel
theorem dX6_exercise_88 : decode cX6_exercise 88 = .ok (.iastore, 1) := by decide +kernel
theorem dX6_exercise_89 : decode cX6_exercise 89 = .ok (.aload_n 0, 1) := by decide +kernel
theorem dX6_exercise_90 : decode cX6_exercise 90 = .ok (.bipush 12, 2) := by decide +kernel
theorem dX6_exercise_92 : decode cX6_exercise 92 = .ok (.iload_n 3, 1) := by decide +kernel
theorem dX6_exercise_93 : decode cX6_exercise 93 = .ok (.imul, 1) := by decide +kernel
theorem dX6_exercise_94 : decode cX6_exercise 94 = .ok (.iconst 3, 1) := by decide +kernel
theorem dX6_exercise_95 : decode cX6_exercise 95 = .ok (.iload 4, 2) := by decide +kernel
theorem dX6_exercise_97 : decode cX6_exercise 97 = .ok (.invokevirtual 355, 3) := by decide +kernel
theorem dX6_exercise_100 : decode cX6_exercise 100 = .ok (.aload_n 0, 1) := by decide +kernel
theorem dX6_exercise_101 : decode cX6_exercise 101 = .ok (.bipush 12, 2) := by decide +kernel
theorem dX6_exercise_103 : decode cX6_exercise 103 = .ok (.iload_n 3, 1) := by decide +kernel
theorem dX6_exercise_104 : decode cX6_exercise 104 = .ok (.imul, 1) := by decide +kernel
theorem dX6_exercise_105 : decode cX6_exercise 105 = .ok (.iconst 3, 1) := by decide +kernel
theorem dX6_exercise_106 : decode cX6_exercise 106 = .ok (.iadd, 1) := by decide +kernel
theorem dX6_exercise_107 : decode cX6_exercise 107 = .ok (.iconst 3, 1) := by decide +kernel
theorem dX6_exercise_108 : decode cX6_exercise 108 = .ok (.iload 5, 2) := by decide +kernel
theorem dX6_exercise_110 : decode cX6_exercise 110 = .ok (.invokevirtual 355, 3) := by decide +kernel
theorem dX6_exercise_113 : decode cX6_exercise 113 = .ok (.aload_n 0, 1) := by decide +kernel
theorem dX6_exercise_114 : decode cX6_exercise 114 = .ok (.bipush 12, 2) := by decide +kernel
theorem dX6_exercise_116 : decode cX6_exercise 116 = .ok (.iload_n 3, 1) := by decide +kernel
theorem dX6_exercise_117 : decode cX6_exercise 117 = .ok (.imul, 1) := by decide +kernel
theorem dX6_exercise_118 : decode cX6_exercise 118 = .ok (.bipush 6, 2) := by decide +kernel
theorem dX6_exercise_120 : decode cX6_exercise 120 = .ok (.iadd, 1) := by decide +kernel
theorem dX6_exercise_121 : decode cX6_exercise 121 = .ok (.bipush 6, 2) := by decide +kernel
theorem dX6_exercise_123 : decode cX6_exercise 123 = .ok (.iload_n 1, 1) := by decide +kernel
theorem dX6_exercise_124 : decode cX6_exercise 124 = .ok (.ifCond .ne 11, 3) := by decide +kernel
theorem dX6_exercise_127 : decode cX6_exercise 127 = .ok (.iload 4, 2) := by decide +kernel
theorem dX6_exercise_129 : decode cX6_exercise 129 = .ok (.iload 5, 2) := by decide +kernel
theorem dX6_exercise_131 : decode cX6_exercise 131 = .ok (.iadd, 1) := by decide +kernel
theorem dX6_exercise_132 : decode cX6_exercise 132 = .ok (.goto 21, 3) := by decide +kernel
theorem dX6_exercise_135 : decode cX6_exercise 135 = .ok (.iload_n 1, 1) := by decide +kernel
theorem dX6_exercise_136 : decode cX6_exercise 136 = .ok (.iconst 1, 1) := by decide +kernel
theorem dX6_exercise_137 : decode cX6_exercise 137 = .ok (.if_icmp .ne 11, 3) := by decide +kernel
theorem dX6_exercise_140 : decode cX6_exercise 140 = .ok (.iload 4, 2) := by decide +kernel
theorem dX6_exercise_142 : decode cX6_exercise 142 = .ok (.iload 5, 2) := by decide +kernel
theorem dX6_exercise_144 : decode cX6_exercise 144 = .ok (.isub, 1) := by decide +kernel
theorem dX6_exercise_145 : decode cX6_exercise 145 = .ok (.goto 8, 3) := by decide +kernel
theorem dX6_exercise_148 : decode cX6_exercise 148 = .ok (.iload 4, 2) := by decide +kernel
theorem dX6_exercise_150 : decode cX6_exercise 150 = .ok (.iload 5, 2) := by decide +kernel
theorem dX6_exercise_152 : decode cX6_exercise 152 = .ok (.imul, 1) := by decide +kernel
theorem dX6_exercise_153 : decode cX6_exercise 153 = .ok (.invokevirtual 355, 3) := by decide +kernel
theorem dX6_exercise_156 : decode cX6_exercise 156 = .ok (.iconst 0, 1) := by decide +kernel
theorem dX6_exercise_157 : decode cX6_exercise 157 = .ok (.istore 6, 2) := by decide +kernel
theorem dX6_exercise_159 : decode cX6_exercise 159 = .ok (.iload 6, 2) := by decide +kernel
theorem dX6_exercise_161 : decode cX6_exercise 161 = .ok (.bipush 12, 2) := by decide +kernel
theorem dX6_exercise_163 : decode cX6_exercise 163 = .ok (.if_icmp .ge 22, 3) := by decide +kernel
theorem dX6_exercise_166 : decode cX6_exercise 166 = .ok (.aload_n 0, 1) := by decide +kernel
theorem dX6_exercise_167 : decode cX6_exercise 167 = .ok (.getfield 74, 3) := by decide +kernel
theorem dX6_exercise_170 : decode cX6_exercise 170 = .ok (.bipush 12, 2) := by decide +kernel
theorem dX6_exercise_172 : decode cX6_exercise 172 = .ok (.iload_n 3, 1) := by decide +kernel
theorem dX6_exercise_173 : decode cX6_exercise 173 = .ok (.imul, 1) := by decide +kernel
theorem dX6_exercise_174 : decode cX6_exercise 174 = .ok (.iload 6, 2) := by decide +kernel
theorem dX6_exercise_176 : decode cX6_exercise 176 = .ok (.iadd, 1) := by decide +kernel
theorem dX6_exercise_177 : decode cX6_exercise 177 = .ok (.iconst 0, 1) := by decide +kernel
theorem dX6_exercise_178 : decode cX6_exercise 178 = .ok (.bastore, 1) := by decide +kernel
theorem dX6_exercise_179 : decode cX6_exercise 179 = .ok (.iinc 6 1, 3) := by decide +kernel
theorem dX6_exercise_182 : decode cX6_exercise 182 = .ok (.goto (-23), 3) := by decide +kernel
theorem dX6_exercise_185 : decode cX6_exercise 185 = .ok (.iconst 1, 1) := by decide +kernel
theorem dX6_exercise_186 : decode cX6_exercise 186 = .ok (.aload_n 0, 1) := by decide +kernel
theorem dX6_exercise_187 : decode cX6_exercise 187 = .ok (.invokevirtual 352, 3) := by decide +kernel
theorem dX6_exercise_190 : decode cX6_exercise 190 = .ok (.iconst 4, 1) := by decide +kernel
theorem dX6_exercise_191 : decode cX6_exercise 191 = .ok (.irem, 1) := by decide +kernel
theorem dX6_exercise_192 : decode cX6_exercise 192 = .ok (.iadd, 1) := by decide +kernel
theorem dX6_exercise_193 : decode cX6_exercise 193 = .ok (.istore 6, 2) := by decide +kernel
theorem dX6_exercise_195 : decode cX6_exercise 195 = .ok (.iconst 0, 1) := by decide +kernel
theorem dX6_exercise_196 : decode cX6_exercise 196 = .ok (.istore 7, 2) := by decide +kernel
theorem dX6_exercise_198 : decode cX6_exercise 198 = .ok (.iload 7, 2) := by decide +kernel
theorem dX6_exercise_200 : decode cX6_exercise 200 = .ok (.iload 6, 2) := by decide +kernel
theorem dX6_exercise_202 : decode cX6_exercise 202 = .ok (.if_icmp .ge 58, 3) := by decide +kernel
theorem dX6_exercise_205 : decode cX6_exercise 205 = .ok (.aload_n 0, 1) := by decide +kernel
theorem dX6_exercise_206 : decode cX6_exercise 206 = .ok (.invokevirtual 352, 3) := by decide +kernel
theorem dX6_exercise_209 : decode cX6_exercise 209 = .ok (.bipush 12, 2) := by decide +kernel
theorem dX6_exercise_211 : decode cX6_exercise 211 = .ok (.irem, 1) := by decide +kernel
theorem dX6_exercise_212 : decode cX6_exercise 212 = .ok (.istore 8, 2) := by decide +kernel
theorem dX6_exercise_214 : decode cX6_exercise 214 = .ok (.aload_n 0, 1) := by decide +kernel
theorem dX6_exercise_215 : decode cX6_exercise 215 = .ok (.getfield 74, 3) := by decide +kernel
theorem dX6_exercise_218 : decode cX6_exercise 218 = .ok (.bipush 12, 2) := by decide +kernel
theorem dX6_exercise_220 : decode cX6_exercise 220 = .ok (.iload_n 3, 1) := by decide +kernel
theorem dX6_exercise_221 : decode cX6_exercise 221 = .ok (.imul, 1) := by decide +kernel
theorem dX6_exercise_222 : decode cX6_exercise 222 = .ok (.iload 8, 2) := by decide +kernel
theorem dX6_exercise_224 : decode cX6_exercise 224 = .ok (.iadd, 1) := by decide +kernel
theorem dX6_exercise_225 : decode cX6_exercise 225 = .ok (.baload, 1) := by decide +kernel
theorem dX6_exercise_226 : decode cX6_exercise 226 = .ok (.ifCond .eq 15, 3) := by decide +kernel
theorem dX6_exercise_229 : decode cX6_exercise 229 = .ok (.iload 8, 2) := by decide +kernel
theorem dX6_exercise_231 : decode cX6_exercise 231 = .ok (.iconst 1, 1) := by decide +kernel
theorem dX6_exercise_232 : decode cX6_exercise 232 = .ok (.iadd, 1) := by decide +kernel
theorem dX6_exercise_233 : decode cX6_exercise 233 = .ok (.bipush 12, 2) := by decide +kernel
theorem dX6_exercise_235 : decode cX6_exercise 235 = .ok (.irem, 1) := by decide +kernel
theorem dX6_exercise_236 : decode cX6_exercise 236 = .ok (.istore 8, 2) := by decide +kernel
theorem dX6_exercise_238 : decode cX6_exercise 238 = .ok (.goto (-24), 3) := by decide +kernel
theorem dX6_exercise_241 : decode cX6_exercise 241 = .ok (.aload_n 0, 1) := by decide +kernel
theorem dX6_exercise_242 : decode cX6_exercise 242 = .ok (.getfield 74, 3) := by decide +kernel
theorem dX6_exercise_245 : decode cX6_exercise 245 = .ok (.bipush 12, 2) := by decide +kernel
theorem dX6_exercise_247 : decode cX6_exercise 247 = .ok (.iload_n 3, 1) := by decide +kernel
theorem dX6_exercise_248 : decode cX6_exercise 248 = .ok (.imul, 1) := by decide +kernel
theorem dX6_exercise_249 : decode cX6_exercise 249 = .ok (.iload 8, 2) := by decide +kernel
theorem dX6_exercise_251 : decode cX6_exercise 251 = .ok (.iadd, 1) := by decide +kernel
theorem dX6_exercise_252 : decode cX6_exercise 252 = .ok (.iconst 1, 1) := by decide +kernel
theorem dX6_exercise_253 : decode cX6_exercise 253 = .ok (.bastore, 1) := by decide +kernel
theorem dX6_exercise_254 : decode cX6_exercise 254 = .ok (.iinc 7 1, 3) := by decide +kernel
theorem dX6_exercise_257 : decode cX6_exercise 257 = .ok (.goto (-59), 3) := by decide +kernel
theorem dX6_exercise_260 : decode cX6_exercise 260 = .ok (.aload_n 0, 1) := by decide +kernel
theorem dX6_exercise_261 : decode cX6_exercise 261 = .ok (.getfield 80, 3) := by decide +kernel
theorem dX6_exercise_264 : decode cX6_exercise 264 = .ok (.iload_n 3, 1) := by decide +kernel
theorem dX6_exercise_265 : decode cX6_exercise 265 = .ok (.iconst 0, 1) := by decide +kernel
theorem dX6_exercise_266 : decode cX6_exercise 266 = .ok (.iastore, 1) := by decide +kernel
theorem dX6_exercise_267 : decode cX6_exercise 267 = .ok (.aload_n 0, 1) := by decide +kernel
theorem dX6_exercise_268 : decode cX6_exercise 268 = .ok (.iload_n 3, 1) := by decide +kernel
theorem dX6_exercise_269 : decode cX6_exercise 269 = .ok (.invokevirtual 359, 3) := by decide +kernel
theorem dX6_exercise_272 : decode cX6_exercise 272 = .ok (.aload_n 0, 1) := by decide +kernel
theorem dX6_exercise_273 : decode cX6_exercise 273 = .ok (.dup, 1) := by decide +kernel
theorem dX6_exercise_274 : decode cX6_exercise 274 = .ok (.getfield 349, 3) := by decide +kernel
theorem dX6_exercise_277 : decode cX6_exercise 277 = .ok (.iconst 1, 1) := by decide +kernel
theorem dX6_exercise_278 : decode cX6_exercise 278 = .ok (.iadd, 1) := by decide +kernel
theorem dX6_exercise_279 : decode cX6_exercise 279 = .ok (.putfield 349, 3) := by decide +kernel
theorem dX6_exercise_282 : decode cX6_exercise 282 = .ok (.iload_n 3, 1) := by decide +kernel
theorem dX6_exercise_283 : decode cX6_exercise 283 = .ok (.ireturn, 1) := by decide +kernel
theorem dX6_isExercise_0 : decode cX6_isExercise 0 = .ok (.iload_n 1, 1) := by decide +kernel
theorem dX6_isExercise_1 : decode cX6_isExercise 1 = .ok (.i2l, 1) := by decide +kernel
theorem dX6_isExercise_2 : decode cX6_isExercise 2 = .ok (.lconst 0, 1) := by decide +kernel
theorem dX6_isExercise_3 : decode cX6_isExercise 3 = .ok (.aload_n 0, 1) := by decide +kernel
theorem dX6_isExercise_4 : decode cX6_isExercise 4 = .ok (.getfield 349, 3) := by decide +kernel
theorem dX6_isExercise_7 : decode cX6_isExercise 7 = .ok (.iconst 1, 1) := by decide +kernel
theorem dX6_isExercise_8 : decode cX6_isExercise 8 = .ok (.isub, 1) := by decide +kernel
theorem dX6_isExercise_9 : decode cX6_isExercise 9 = .ok (.i2l, 1) := by decide +kernel
theorem dX6_isExercise_10 : decode cX6_isExercise 10 = .ok (.invokestatic 92, 3) := by decide +kernel
theorem dX6_isExercise_13 : decode cX6_isExercise 13 = .ok (.ireturn, 1) := by decide +kernel
theorem dX6_place_0 : decode cX6_place 0 = .ok (.aload_n 0, 1) := by decide +kernel
theorem dX6_place_1 : decode cX6_place 1 = .ok (.iload_n 1, 1) := by decide +kernel
theorem dX6_place_2 : decode cX6_place 2 = .ok (.invokevirtual 362, 3) := by decide +kernel
theorem dX6_place_5 : decode cX6_place 5 = .ok (.ifCond .ne 7, 3) := by decide +kernel
theorem dX6_place_8 : decode cX6_place 8 = .ok (.iconst (-1), 1) := by decide +kernel
theorem dX6_place_9 : decode cX6_place 9 = .ok (.goto 50, 3) := by decide +kernel
theorem dX6_place_12 : decode cX6_place 12 = .ok (.iload_n 2, 1) := by decide +kernel
theorem dX6_place_13 : decode cX6_place 13 = .ok (.i2l, 1) := by decide +kernel
theorem dX6_place_14 : decode cX6_place 14 = .ok (.lconst 0, 1) := by decide +kernel
theorem dX6_place_15 : decode cX6_place 15 = .ok (.ldc2_w 365, 3) := by decide +kernel
theorem dX6_place_18 : decode cX6_place 18 = .ok (.invokestatic 92, 3) := by decide +kernel
theorem dX6_place_21 : decode cX6_place 21 = .ok (.ifCond .ne 8, 3) := by decide +kernel
theorem dX6_place_24 : decode cX6_place 24 = .ok (.bipush (-2), 2) := by decide +kernel
theorem dX6_place_26 : decode cX6_place 26 = .ok (.goto 33, 3) := by decide +kernel
theorem dX6_place_29 : decode cX6_place 29 = .ok (.aload_n 0, 1) := by decide +kernel
theorem dX6_place_30 : decode cX6_place 30 = .ok (.getfield 74, 3) := by decide +kernel
theorem dX6_place_33 : decode cX6_place 33 = .ok (.bipush 12, 2) := by decide +kernel
theorem dX6_place_35 : decode cX6_place 35 = .ok (.iload_n 1, 1) := by decide +kernel
theorem dX6_place_36 : decode cX6_place 36 = .ok (.imul, 1) := by decide +kernel
theorem dX6_place_37 : decode cX6_place 37 = .ok (.iload_n 2, 1) := by decide +kernel
theorem dX6_place_38 : decode cX6_place 38 = .ok (.iadd, 1) := by decide +kernel
theorem dX6_place_39 : decode cX6_place 39 = .ok (.baload, 1) := by decide +kernel
theorem dX6_place_40 : decode cX6_place 40 = .ok (.ifCond .eq 8, 3) := by decide +kernel
theorem dX6_place_43 : decode cX6_place 43 = .ok (.bipush (-5), 2) := by decide +kernel
theorem dX6_place_45 : decode cX6_place 45 = .ok (.goto 14, 3) := by decide +kernel
theorem dX6_place_48 : decode cX6_place 48 = .ok (.aload_n 0, 1) := by decide +kernel
theorem dX6_place_49 : decode cX6_place 49 = .ok (.getfield 71, 3) := by decide +kernel
theorem dX6_place_52 : decode cX6_place 52 = .ok (.bipush 12, 2) := by decide +kernel
theorem dX6_place_54 : decode cX6_place 54 = .ok (.iload_n 1, 1) := by decide +kernel
theorem dX6_place_55 : decode cX6_place 55 = .ok (.imul, 1) := by decide +kernel
theorem dX6_place_56 : decode cX6_place 56 = .ok (.iload_n 2, 1) := by decide +kernel
theorem dX6_place_57 : decode cX6_place 57 = .ok (.iadd, 1) := by decide +kernel
theorem dX6_place_58 : decode cX6_place 58 = .ok (.iaload, 1) := by decide +kernel
theorem dX6_place_59 : decode cX6_place 59 = .ok (.ireturn, 1) := by decide +kernel
theorem dX6_fillings_0 : decode cX6_fillings 0 = .ok (.aload_n 0, 1) := by decide +kernel
theorem dX6_fillings_1 : decode cX6_fillings 1 = .ok (.iload_n 1, 1) := by decide +kernel
theorem dX6_fillings_2 : decode cX6_fillings 2 = .ok (.invokevirtual 362, 3) := by decide +kernel
theorem dX6_fillings_5 : decode cX6_fillings 5 = .ok (.ifCond .eq 12, 3) := by decide +kernel
theorem dX6_fillings_8 : decode cX6_fillings 8 = .ok (.aload_n 0, 1) := by decide +kernel
theorem dX6_fillings_9 : decode cX6_fillings 9 = .ok (.getfield 80, 3) := by decide +kernel
theorem dX6_fillings_12 : decode cX6_fillings 12 = .ok (.iload_n 1, 1) := by decide +kernel
theorem dX6_fillings_13 : decode cX6_fillings 13 = .ok (.iaload, 1) := by decide +kernel
theorem dX6_fillings_14 : decode cX6_fillings 14 = .ok (.goto 4, 3) := by decide +kernel
theorem dX6_fillings_17 : decode cX6_fillings 17 = .ok (.iconst (-1), 1) := by decide +kernel
theorem dX6_fillings_18 : decode cX6_fillings 18 = .ok (.ireturn, 1) := by decide +kernel
theorem dX6_answer_0 : decode cX6_answer 0 = .ok (.aload_n 0, 1) := by decide +kernel
theorem dX6_answer_1 : decode cX6_answer 1 = .ok (.iload_n 1, 1) := by decide +kernel
theorem dX6_answer_2 : decode cX6_answer 2 = .ok (.invokevirtual 362, 3) := by decide +kernel
theorem dX6_answer_5 : decode cX6_answer 5 = .ok (.ifCond .ne 7, 3) := by decide +kernel
theorem dX6_answer_8 : decode cX6_answer 8 = .ok (.iconst (-1), 1) := by decide +kernel
theorem dX6_answer_9 : decode cX6_answer 9 = .ok (.goto 31, 3) := by decide +kernel
theorem dX6_answer_12 : decode cX6_answer 12 = .ok (.iload_n 2, 1) := by decide +kernel
theorem dX6_answer_13 : decode cX6_answer 13 = .ok (.i2l, 1) := by decide +kernel
theorem dX6_answer_14 : decode cX6_answer 14 = .ok (.lconst 0, 1) := by decide +kernel
theorem dX6_answer_15 : decode cX6_answer 15 = .ok (.ldc2_w 365, 3) := by decide +kernel
theorem dX6_answer_18 : decode cX6_answer 18 = .ok (.invokestatic 92, 3) := by decide +kernel
theorem dX6_answer_21 : decode cX6_answer 21 = .ok (.ifCond .eq 17, 3) := by decide +kernel
theorem dX6_answer_24 : decode cX6_answer 24 = .ok (.aload_n 0, 1) := by decide +kernel
theorem dX6_answer_25 : decode cX6_answer 25 = .ok (.getfield 77, 3) := by decide +kernel
theorem dX6_answer_28 : decode cX6_answer 28 = .ok (.bipush 12, 2) := by decide +kernel
theorem dX6_answer_30 : decode cX6_answer 30 = .ok (.iload_n 1, 1) := by decide +kernel
theorem dX6_answer_31 : decode cX6_answer 31 = .ok (.imul, 1) := by decide +kernel
theorem dX6_answer_32 : decode cX6_answer 32 = .ok (.iload_n 2, 1) := by decide +kernel
theorem dX6_answer_33 : decode cX6_answer 33 = .ok (.iadd, 1) := by decide +kernel
theorem dX6_answer_34 : decode cX6_answer 34 = .ok (.iaload, 1) := by decide +kernel
theorem dX6_answer_35 : decode cX6_answer 35 = .ok (.goto 5, 3) := by decide +kernel
theorem dX6_answer_38 : decode cX6_answer 38 = .ok (.bipush (-2), 2) := by decide +kernel
theorem dX6_answer_40 : decode cX6_answer 40 = .ok (.ireturn, 1) := by decide +kernel
theorem dX6_told_0 : decode cX6_told 0 = .ok (.iconst 0, 1) := by decide +kernel
theorem dX6_told_1 : decode cX6_told 1 = .ok (.istore_n 2, 1) := by decide +kernel
theorem dX6_told_2 : decode cX6_told 2 = .ok (.iconst 0, 1) := by decide +kernel
theorem dX6_told_3 : decode cX6_told 3 = .ok (.istore_n 3, 1) := by decide +kernel
theorem dX6_told_4 : decode cX6_told 4 = .ok (.iload_n 3, 1) := by decide +kernel
theorem dX6_told_5 : decode cX6_told 5 = .ok (.aload_n 0, 1) := by decide +kernel
theorem dX6_told_6 : decode cX6_told 6 = .ok (.getfield 349, 3) := by decide +kernel
theorem dX6_told_9 : decode cX6_told 9 = .ok (.if_icmp .ge 27, 3) := by decide +kernel
theorem dX6_told_12 : decode cX6_told 12 = .ok (.iload_n 2, 1) := by decide +kernel
theorem dX6_told_13 : decode cX6_told 13 = .ok (.aload_n 0, 1) := by decide +kernel
theorem dX6_told_14 : decode cX6_told 14 = .ok (.getfield 80, 3) := by decide +kernel
theorem dX6_told_17 : decode cX6_told 17 = .ok (.iload_n 3, 1) := by decide +kernel
theorem dX6_told_18 : decode cX6_told 18 = .ok (.iaload, 1) := by decide +kernel
theorem dX6_told_19 : decode cX6_told 19 = .ok (.iconst 1, 1) := by decide +kernel
theorem dX6_told_20 : decode cX6_told 20 = .ok (.if_icmp .ne 7, 3) := by decide +kernel
theorem dX6_told_23 : decode cX6_told 23 = .ok (.iconst 1, 1) := by decide +kernel
theorem dX6_told_24 : decode cX6_told 24 = .ok (.goto 4, 3) := by decide +kernel
theorem dX6_told_27 : decode cX6_told 27 = .ok (.iconst 0, 1) := by decide +kernel
theorem dX6_told_28 : decode cX6_told 28 = .ok (.iadd, 1) := by decide +kernel
theorem dX6_told_29 : decode cX6_told 29 = .ok (.istore_n 2, 1) := by decide +kernel
theorem dX6_told_30 : decode cX6_told 30 = .ok (.iinc 3 1, 3) := by decide +kernel
theorem dX6_told_33 : decode cX6_told 33 = .ok (.goto (-29), 3) := by decide +kernel
theorem dX6_told_36 : decode cX6_told 36 = .ok (.iload_n 1, 1) := by decide +kernel
theorem dX6_told_37 : decode cX6_told 37 = .ok (.tableswitch 75 0 6 #[43, 48, 53, 58, 63, 68, 73], 43) := by decide +kernel
theorem dX6_told_80 : decode cX6_told 80 = .ok (.aload_n 0, 1) := by decide +kernel
theorem dX6_told_81 : decode cX6_told 81 = .ok (.getfield 89, 3) := by decide +kernel
theorem dX6_told_84 : decode cX6_told 84 = .ok (.ireturn, 1) := by decide +kernel
theorem dX6_told_85 : decode cX6_told 85 = .ok (.aload_n 0, 1) := by decide +kernel
theorem dX6_told_86 : decode cX6_told 86 = .ok (.getfield 349, 3) := by decide +kernel
theorem dX6_told_89 : decode cX6_told 89 = .ok (.ireturn, 1) := by decide +kernel
theorem dX6_told_90 : decode cX6_told 90 = .ok (.aload_n 0, 1) := by decide +kernel
theorem dX6_told_91 : decode cX6_told 91 = .ok (.getfield 245, 3) := by decide +kernel
theorem dX6_told_94 : decode cX6_told 94 = .ok (.ireturn, 1) := by decide +kernel
theorem dX6_told_95 : decode cX6_told 95 = .ok (.aload_n 0, 1) := by decide +kernel
theorem dX6_told_96 : decode cX6_told 96 = .ok (.getfield 251, 3) := by decide +kernel
theorem dX6_told_99 : decode cX6_told 99 = .ok (.ireturn, 1) := by decide +kernel
theorem dX6_told_100 : decode cX6_told 100 = .ok (.aload_n 0, 1) := by decide +kernel
theorem dX6_told_101 : decode cX6_told 101 = .ok (.getfield 96, 3) := by decide +kernel
theorem dX6_told_104 : decode cX6_told 104 = .ok (.ireturn, 1) := by decide +kernel
theorem dX6_told_105 : decode cX6_told 105 = .ok (.aload_n 0, 1) := by decide +kernel
theorem dX6_told_106 : decode cX6_told 106 = .ok (.getfield 329, 3) := by decide +kernel
theorem dX6_told_109 : decode cX6_told 109 = .ok (.ireturn, 1) := by decide +kernel
theorem dX6_told_110 : decode cX6_told 110 = .ok (.iload_n 2, 1) := by decide +kernel
theorem dX6_told_111 : decode cX6_told 111 = .ok (.ireturn, 1) := by decide +kernel
theorem dX6_told_112 : decode cX6_told 112 = .ok (.bipush (-2), 2) := by decide +kernel
theorem dX6_told_114 : decode cX6_told 114 = .ok (.ireturn, 1) := by decide +kernel
theorem dX6_fault_0 : decode cX6_fault 0 = .ok (.aload_n 0, 1) := by decide +kernel
theorem dX6_fault_1 : decode cX6_fault 1 = .ok (.getfield 99, 3) := by decide +kernel
theorem dX6_fault_4 : decode cX6_fault 4 = .ok (.ireturn, 1) := by decide +kernel
theorem dJ7_copyOf_59c91_0 : decode cJ7_copyOf_59c91 0 = .ok (.iload_n 1, 1) := by decide +kernel
theorem dJ7_copyOf_59c91_1 : decode cJ7_copyOf_59c91 1 = .ok (.aload_n 0, 1) := by decide +kernel
theorem dJ7_copyOf_59c91_2 : decode cJ7_copyOf_59c91 2 = .ok (.arraylength, 1) := by decide +kernel
theorem dJ7_copyOf_59c91_3 : decode cJ7_copyOf_59c91 3 = .ok (.if_icmp .ne 11, 3) := by decide +kernel
theorem dJ7_copyOf_59c91_6 : decode cJ7_copyOf_59c91 6 = .ok (.aload_n 0, 1) := by decide +kernel
theorem dJ7_copyOf_59c91_7 : decode cJ7_copyOf_59c91 7 = .ok (.invokevirtual 316, 3) := by decide +kernel
theorem dJ7_copyOf_59c91_10 : decode cJ7_copyOf_59c91 10 = .ok (.checkcast 317, 3) := by decide +kernel
theorem dJ7_copyOf_59c91_13 : decode cJ7_copyOf_59c91 13 = .ok (.areturn, 1) := by decide +kernel
theorem dJ7_copyOf_59c91_14 : decode cJ7_copyOf_59c91 14 = .ok (.iload_n 1, 1) := by decide +kernel
theorem dJ7_copyOf_59c91_15 : decode cJ7_copyOf_59c91 15 = .ok (.newarray .int, 2) := by decide +kernel
theorem dJ7_copyOf_59c91_17 : decode cJ7_copyOf_59c91 17 = .ok (.astore_n 2, 1) := by decide +kernel
theorem dJ7_copyOf_59c91_18 : decode cJ7_copyOf_59c91 18 = .ok (.aload_n 0, 1) := by decide +kernel
theorem dJ7_copyOf_59c91_19 : decode cJ7_copyOf_59c91 19 = .ok (.iconst 0, 1) := by decide +kernel
theorem dJ7_copyOf_59c91_20 : decode cJ7_copyOf_59c91 20 = .ok (.aload_n 2, 1) := by decide +kernel
theorem dJ7_copyOf_59c91_21 : decode cJ7_copyOf_59c91 21 = .ok (.iconst 0, 1) := by decide +kernel
theorem dJ7_copyOf_59c91_22 : decode cJ7_copyOf_59c91 22 = .ok (.aload_n 0, 1) := by decide +kernel
theorem dJ7_copyOf_59c91_23 : decode cJ7_copyOf_59c91 23 = .ok (.arraylength, 1) := by decide +kernel
theorem dJ7_copyOf_59c91_24 : decode cJ7_copyOf_59c91 24 = .ok (.iload_n 1, 1) := by decide +kernel
theorem dJ7_copyOf_59c91_25 : decode cJ7_copyOf_59c91 25 = .ok (.invokestatic 304, 3) := by decide +kernel
theorem dJ7_copyOf_59c91_28 : decode cJ7_copyOf_59c91 28 = .ok (.invokestatic 150, 3) := by decide +kernel
theorem dJ7_copyOf_59c91_31 : decode cJ7_copyOf_59c91 31 = .ok (.aload_n 2, 1) := by decide +kernel
theorem dJ7_copyOf_59c91_32 : decode cJ7_copyOf_59c91 32 = .ok (.areturn, 1) := by decide +kernel
theorem dL_law_0 : decode cL_law 0 = .ok (.new 7, 3) := by decide +kernel
theorem dL_law_3 : decode cL_law 3 = .ok (.dup, 1) := by decide +kernel
theorem dL_law_4 : decode cL_law 4 = .ok (.invokespecial 9, 3) := by decide +kernel
theorem dL_law_7 : decode cL_law 7 = .ok (.astore_n 1, 1) := by decide +kernel
theorem dL_law_8 : decode cL_law 8 = .ok (.new 10, 3) := by decide +kernel
theorem dL_law_11 : decode cL_law 11 = .ok (.dup, 1) := by decide +kernel
theorem dL_law_12 : decode cL_law 12 = .ok (.invokespecial 12, 3) := by decide +kernel
theorem dL_law_15 : decode cL_law 15 = .ok (.astore_n 2, 1) := by decide +kernel
theorem dL_law_16 : decode cL_law 16 = .ok (.iconst 0, 1) := by decide +kernel
theorem dL_law_17 : decode cL_law 17 = .ok (.istore_n 3, 1) := by decide +kernel
theorem dL_law_18 : decode cL_law 18 = .ok (.iload_n 3, 1) := by decide +kernel
theorem dL_law_19 : decode cL_law 19 = .ok (.aload_n 0, 1) := by decide +kernel
theorem dL_law_20 : decode cL_law 20 = .ok (.arraylength, 1) := by decide +kernel
theorem dL_law_21 : decode cL_law 21 = .ok (.bipush 6, 2) := by decide +kernel
theorem dL_law_23 : decode cL_law 23 = .ok (.isub, 1) := by decide +kernel
theorem dL_law_24 : decode cL_law 24 = .ok (.if_icmp .gt 1762, 3) := by decide +kernel
theorem dL_law_27 : decode cL_law 27 = .ok (.aload_n 0, 1) := by decide +kernel
theorem dL_law_28 : decode cL_law 28 = .ok (.iload_n 3, 1) := by decide +kernel
theorem dL_law_29 : decode cL_law 29 = .ok (.iaload, 1) := by decide +kernel
theorem dL_law_30 : decode cL_law 30 = .ok (.bipush 63, 2) := by decide +kernel
theorem dL_law_32 : decode cL_law 32 = .ok (.iand, 1) := by decide +kernel
theorem dL_law_33 : decode cL_law 33 = .ok (.tableswitch 1747 0 43 #[191, 224, 257, 300, 353, 396, 429, 453, 516, 539, 572, 605, 638, 651, 714, 727, 751, 784, 847, 880, 974, 1037, 1100, 1163, 1236, 1269, 1302, 1335, 1369, 1402, 1415, 1448, 1471, 1484, 1537, 1550, 1563, 1576, 1589, 1622, 1655, 1678, 1711, 1734], 191) := by decide +kernel
theorem dL_law_224 : decode cL_law 224 = .ok (.aload_n 1, 1) := by decide +kernel
theorem dL_law_225 : decode cL_law 225 = .ok (.aload_n 0, 1) := by decide +kernel
theorem dL_law_226 : decode cL_law 226 = .ok (.iload_n 3, 1) := by decide +kernel
theorem dL_law_227 : decode cL_law 227 = .ok (.iconst 1, 1) := by decide +kernel
theorem dL_law_228 : decode cL_law 228 = .ok (.iadd, 1) := by decide +kernel
theorem dL_law_229 : decode cL_law 229 = .ok (.iaload, 1) := by decide +kernel
theorem dL_law_230 : decode cL_law 230 = .ok (.aload_n 0, 1) := by decide +kernel
theorem dL_law_231 : decode cL_law 231 = .ok (.iload_n 3, 1) := by decide +kernel
theorem dL_law_232 : decode cL_law 232 = .ok (.iconst 2, 1) := by decide +kernel
theorem dL_law_233 : decode cL_law 233 = .ok (.iadd, 1) := by decide +kernel
theorem dL_law_234 : decode cL_law 234 = .ok (.iaload, 1) := by decide +kernel
theorem dL_law_235 : decode cL_law 235 = .ok (.invokevirtual 13, 3) := by decide +kernel
theorem dL_law_238 : decode cL_law 238 = .ok (.aload_n 2, 1) := by decide +kernel
theorem dL_law_239 : decode cL_law 239 = .ok (.aload_n 0, 1) := by decide +kernel
theorem dL_law_240 : decode cL_law 240 = .ok (.iload_n 3, 1) := by decide +kernel
theorem dL_law_241 : decode cL_law 241 = .ok (.iconst 1, 1) := by decide +kernel
theorem dL_law_242 : decode cL_law 242 = .ok (.iadd, 1) := by decide +kernel
end
section
theorem dL_law_243 : decode cL_law 243 = .ok (.iaload, 1) := by decide +kernel
theorem dL_law_244 : decode cL_law 244 = .ok (.aload_n 0, 1) := by decide +kernel
theorem dL_law_245 : decode cL_law 245 = .ok (.iload_n 3, 1) := by decide +kernel
theorem dL_law_246 : decode cL_law 246 = .ok (.iconst 2, 1) := by decide +kernel
theorem dL_law_247 : decode cL_law 247 = .ok (.iadd, 1) := by decide +kernel
theorem dL_law_248 : decode cL_law 248 = .ok (.iaload, 1) := by decide +kernel
theorem dL_law_249 : decode cL_law 249 = .ok (.invokevirtual 17, 3) := by decide +kernel
theorem dL_law_252 : decode cL_law 252 = .ok (.if_icmp .eq 1528, 3) := by decide +kernel
theorem dL_law_255 : decode cL_law 255 = .ok (.iconst 0, 1) := by decide +kernel
theorem dL_law_256 : decode cL_law 256 = .ok (.ireturn, 1) := by decide +kernel
theorem dL_law_257 : decode cL_law 257 = .ok (.aload_n 1, 1) := by decide +kernel
theorem dL_law_258 : decode cL_law 258 = .ok (.aload_n 0, 1) := by decide +kernel
theorem dL_law_259 : decode cL_law 259 = .ok (.iload_n 3, 1) := by decide +kernel
theorem dL_law_260 : decode cL_law 260 = .ok (.iconst 1, 1) := by decide +kernel
theorem dL_law_261 : decode cL_law 261 = .ok (.iadd, 1) := by decide +kernel
theorem dL_law_262 : decode cL_law 262 = .ok (.iaload, 1) := by decide +kernel
theorem dL_law_263 : decode cL_law 263 = .ok (.aload_n 0, 1) := by decide +kernel
theorem dL_law_264 : decode cL_law 264 = .ok (.iload_n 3, 1) := by decide +kernel
theorem dL_law_265 : decode cL_law 265 = .ok (.iconst 2, 1) := by decide +kernel
theorem dL_law_266 : decode cL_law 266 = .ok (.iadd, 1) := by decide +kernel
theorem dL_law_267 : decode cL_law 267 = .ok (.iaload, 1) := by decide +kernel
theorem dL_law_268 : decode cL_law 268 = .ok (.invokevirtual 18, 3) := by decide +kernel
theorem dL_law_271 : decode cL_law 271 = .ok (.aload_n 2, 1) := by decide +kernel
theorem dL_law_272 : decode cL_law 272 = .ok (.aload_n 0, 1) := by decide +kernel
theorem dL_law_273 : decode cL_law 273 = .ok (.iload_n 3, 1) := by decide +kernel
theorem dL_law_274 : decode cL_law 274 = .ok (.iconst 1, 1) := by decide +kernel
theorem dL_law_275 : decode cL_law 275 = .ok (.iadd, 1) := by decide +kernel
theorem dL_law_276 : decode cL_law 276 = .ok (.iaload, 1) := by decide +kernel
theorem dL_law_277 : decode cL_law 277 = .ok (.aload_n 0, 1) := by decide +kernel
theorem dL_law_278 : decode cL_law 278 = .ok (.iload_n 3, 1) := by decide +kernel
theorem dL_law_279 : decode cL_law 279 = .ok (.iconst 2, 1) := by decide +kernel
theorem dL_law_280 : decode cL_law 280 = .ok (.iadd, 1) := by decide +kernel
theorem dL_law_281 : decode cL_law 281 = .ok (.iaload, 1) := by decide +kernel
theorem dL_law_282 : decode cL_law 282 = .ok (.invokevirtual 21, 3) := by decide +kernel
theorem dL_law_285 : decode cL_law 285 = .ok (.if_icmp .eq 1495, 3) := by decide +kernel
theorem dL_law_288 : decode cL_law 288 = .ok (.iconst 0, 1) := by decide +kernel
theorem dL_law_289 : decode cL_law 289 = .ok (.ireturn, 1) := by decide +kernel
theorem dL_law_290 : decode cL_law 290 = .ok (.aload_n 1, 1) := by decide +kernel
theorem dL_law_291 : decode cL_law 291 = .ok (.aload_n 0, 1) := by decide +kernel
theorem dL_law_292 : decode cL_law 292 = .ok (.iload_n 3, 1) := by decide +kernel
theorem dL_law_293 : decode cL_law 293 = .ok (.iconst 1, 1) := by decide +kernel
theorem dL_law_294 : decode cL_law 294 = .ok (.iadd, 1) := by decide +kernel
theorem dL_law_295 : decode cL_law 295 = .ok (.iaload, 1) := by decide +kernel
theorem dL_law_296 : decode cL_law 296 = .ok (.aload_n 0, 1) := by decide +kernel
theorem dL_law_297 : decode cL_law 297 = .ok (.iload_n 3, 1) := by decide +kernel
theorem dL_law_298 : decode cL_law 298 = .ok (.iconst 2, 1) := by decide +kernel
theorem dL_law_299 : decode cL_law 299 = .ok (.iadd, 1) := by decide +kernel
theorem dL_law_300 : decode cL_law 300 = .ok (.iaload, 1) := by decide +kernel
theorem dL_law_301 : decode cL_law 301 = .ok (.aload_n 0, 1) := by decide +kernel
theorem dL_law_302 : decode cL_law 302 = .ok (.iload_n 3, 1) := by decide +kernel
theorem dL_law_303 : decode cL_law 303 = .ok (.iconst 3, 1) := by decide +kernel
theorem dL_law_304 : decode cL_law 304 = .ok (.iadd, 1) := by decide +kernel
theorem dL_law_305 : decode cL_law 305 = .ok (.iaload, 1) := by decide +kernel
theorem dL_law_306 : decode cL_law 306 = .ok (.invokevirtual 22, 3) := by decide +kernel
theorem dL_law_309 : decode cL_law 309 = .ok (.aload_n 2, 1) := by decide +kernel
theorem dL_law_310 : decode cL_law 310 = .ok (.aload_n 0, 1) := by decide +kernel
theorem dL_law_311 : decode cL_law 311 = .ok (.iload_n 3, 1) := by decide +kernel
theorem dL_law_312 : decode cL_law 312 = .ok (.iconst 1, 1) := by decide +kernel
theorem dL_law_313 : decode cL_law 313 = .ok (.iadd, 1) := by decide +kernel
theorem dL_law_314 : decode cL_law 314 = .ok (.iaload, 1) := by decide +kernel
theorem dL_law_315 : decode cL_law 315 = .ok (.aload_n 0, 1) := by decide +kernel
theorem dL_law_316 : decode cL_law 316 = .ok (.iload_n 3, 1) := by decide +kernel
theorem dL_law_317 : decode cL_law 317 = .ok (.iconst 2, 1) := by decide +kernel
theorem dL_law_318 : decode cL_law 318 = .ok (.iadd, 1) := by decide +kernel
theorem dL_law_319 : decode cL_law 319 = .ok (.iaload, 1) := by decide +kernel
theorem dL_law_320 : decode cL_law 320 = .ok (.aload_n 0, 1) := by decide +kernel
theorem dL_law_321 : decode cL_law 321 = .ok (.iload_n 3, 1) := by decide +kernel
theorem dL_law_322 : decode cL_law 322 = .ok (.iconst 3, 1) := by decide +kernel
theorem dL_law_323 : decode cL_law 323 = .ok (.iadd, 1) := by decide +kernel
theorem dL_law_324 : decode cL_law 324 = .ok (.iaload, 1) := by decide +kernel
theorem dL_law_325 : decode cL_law 325 = .ok (.invokevirtual 26, 3) := by decide +kernel
theorem dL_law_328 : decode cL_law 328 = .ok (.if_icmp .eq 1452, 3) := by decide +kernel
theorem dL_law_331 : decode cL_law 331 = .ok (.iconst 0, 1) := by decide +kernel
theorem dL_law_332 : decode cL_law 332 = .ok (.ireturn, 1) := by decide +kernel
theorem dL_law_333 : decode cL_law 333 = .ok (.aload_n 1, 1) := by decide +kernel
theorem dL_law_334 : decode cL_law 334 = .ok (.aload_n 0, 1) := by decide +kernel
theorem dL_law_335 : decode cL_law 335 = .ok (.iload_n 3, 1) := by decide +kernel
theorem dL_law_336 : decode cL_law 336 = .ok (.iconst 1, 1) := by decide +kernel
theorem dL_law_337 : decode cL_law 337 = .ok (.iadd, 1) := by decide +kernel
theorem dL_law_338 : decode cL_law 338 = .ok (.iaload, 1) := by decide +kernel
theorem dL_law_339 : decode cL_law 339 = .ok (.aload_n 0, 1) := by decide +kernel
theorem dL_law_340 : decode cL_law 340 = .ok (.iload_n 3, 1) := by decide +kernel
theorem dL_law_341 : decode cL_law 341 = .ok (.iconst 2, 1) := by decide +kernel
theorem dL_law_342 : decode cL_law 342 = .ok (.iadd, 1) := by decide +kernel
theorem dL_law_343 : decode cL_law 343 = .ok (.iaload, 1) := by decide +kernel
theorem dL_law_344 : decode cL_law 344 = .ok (.aload_n 0, 1) := by decide +kernel
theorem dL_law_345 : decode cL_law 345 = .ok (.iload_n 3, 1) := by decide +kernel
theorem dL_law_346 : decode cL_law 346 = .ok (.iconst 3, 1) := by decide +kernel
theorem dL_law_347 : decode cL_law 347 = .ok (.iadd, 1) := by decide +kernel
theorem dL_law_348 : decode cL_law 348 = .ok (.iaload, 1) := by decide +kernel
theorem dL_law_349 : decode cL_law 349 = .ok (.aload_n 0, 1) := by decide +kernel
theorem dL_law_350 : decode cL_law 350 = .ok (.iload_n 3, 1) := by decide +kernel
theorem dL_law_351 : decode cL_law 351 = .ok (.iconst 4, 1) := by decide +kernel
theorem dL_law_352 : decode cL_law 352 = .ok (.iadd, 1) := by decide +kernel
theorem dL_law_353 : decode cL_law 353 = .ok (.iaload, 1) := by decide +kernel
theorem dL_law_354 : decode cL_law 354 = .ok (.invokevirtual 27, 3) := by decide +kernel
theorem dL_law_357 : decode cL_law 357 = .ok (.aload_n 2, 1) := by decide +kernel
theorem dL_law_358 : decode cL_law 358 = .ok (.aload_n 0, 1) := by decide +kernel
theorem dL_law_359 : decode cL_law 359 = .ok (.iload_n 3, 1) := by decide +kernel
theorem dL_law_360 : decode cL_law 360 = .ok (.iconst 1, 1) := by decide +kernel
theorem dL_law_361 : decode cL_law 361 = .ok (.iadd, 1) := by decide +kernel
theorem dL_law_362 : decode cL_law 362 = .ok (.iaload, 1) := by decide +kernel
theorem dL_law_363 : decode cL_law 363 = .ok (.aload_n 0, 1) := by decide +kernel
theorem dL_law_364 : decode cL_law 364 = .ok (.iload_n 3, 1) := by decide +kernel
theorem dL_law_365 : decode cL_law 365 = .ok (.iconst 2, 1) := by decide +kernel
theorem dL_law_366 : decode cL_law 366 = .ok (.iadd, 1) := by decide +kernel
theorem dL_law_367 : decode cL_law 367 = .ok (.iaload, 1) := by decide +kernel
theorem dL_law_368 : decode cL_law 368 = .ok (.aload_n 0, 1) := by decide +kernel
theorem dL_law_369 : decode cL_law 369 = .ok (.iload_n 3, 1) := by decide +kernel
theorem dL_law_370 : decode cL_law 370 = .ok (.iconst 3, 1) := by decide +kernel
theorem dL_law_371 : decode cL_law 371 = .ok (.iadd, 1) := by decide +kernel
theorem dL_law_372 : decode cL_law 372 = .ok (.iaload, 1) := by decide +kernel
theorem dL_law_373 : decode cL_law 373 = .ok (.aload_n 0, 1) := by decide +kernel
theorem dL_law_374 : decode cL_law 374 = .ok (.iload_n 3, 1) := by decide +kernel
theorem dL_law_375 : decode cL_law 375 = .ok (.iconst 4, 1) := by decide +kernel
theorem dL_law_376 : decode cL_law 376 = .ok (.iadd, 1) := by decide +kernel
theorem dL_law_377 : decode cL_law 377 = .ok (.iaload, 1) := by decide +kernel
theorem dL_law_378 : decode cL_law 378 = .ok (.invokevirtual 31, 3) := by decide +kernel
theorem dL_law_381 : decode cL_law 381 = .ok (.if_icmp .eq 1399, 3) := by decide +kernel
theorem dL_law_384 : decode cL_law 384 = .ok (.iconst 0, 1) := by decide +kernel
theorem dL_law_385 : decode cL_law 385 = .ok (.ireturn, 1) := by decide +kernel
theorem dL_law_386 : decode cL_law 386 = .ok (.aload_n 1, 1) := by decide +kernel
theorem dL_law_387 : decode cL_law 387 = .ok (.aload_n 0, 1) := by decide +kernel
theorem dL_law_388 : decode cL_law 388 = .ok (.iload_n 3, 1) := by decide +kernel
theorem dL_law_389 : decode cL_law 389 = .ok (.iconst 1, 1) := by decide +kernel
theorem dL_law_390 : decode cL_law 390 = .ok (.iadd, 1) := by decide +kernel
theorem dL_law_391 : decode cL_law 391 = .ok (.iaload, 1) := by decide +kernel
theorem dL_law_392 : decode cL_law 392 = .ok (.aload_n 0, 1) := by decide +kernel
theorem dL_law_393 : decode cL_law 393 = .ok (.iload_n 3, 1) := by decide +kernel
theorem dL_law_394 : decode cL_law 394 = .ok (.iconst 2, 1) := by decide +kernel
theorem dL_law_395 : decode cL_law 395 = .ok (.iadd, 1) := by decide +kernel
theorem dL_law_396 : decode cL_law 396 = .ok (.iaload, 1) := by decide +kernel
theorem dL_law_397 : decode cL_law 397 = .ok (.aload_n 0, 1) := by decide +kernel
theorem dL_law_398 : decode cL_law 398 = .ok (.iload_n 3, 1) := by decide +kernel
theorem dL_law_399 : decode cL_law 399 = .ok (.iconst 3, 1) := by decide +kernel
theorem dL_law_400 : decode cL_law 400 = .ok (.iadd, 1) := by decide +kernel
theorem dL_law_401 : decode cL_law 401 = .ok (.iaload, 1) := by decide +kernel
theorem dL_law_402 : decode cL_law 402 = .ok (.invokevirtual 32, 3) := by decide +kernel
theorem dL_law_405 : decode cL_law 405 = .ok (.aload_n 2, 1) := by decide +kernel
theorem dL_law_406 : decode cL_law 406 = .ok (.aload_n 0, 1) := by decide +kernel
theorem dL_law_407 : decode cL_law 407 = .ok (.iload_n 3, 1) := by decide +kernel
theorem dL_law_408 : decode cL_law 408 = .ok (.iconst 1, 1) := by decide +kernel
theorem dL_law_409 : decode cL_law 409 = .ok (.iadd, 1) := by decide +kernel
theorem dL_law_410 : decode cL_law 410 = .ok (.iaload, 1) := by decide +kernel
theorem dL_law_411 : decode cL_law 411 = .ok (.aload_n 0, 1) := by decide +kernel
theorem dL_law_412 : decode cL_law 412 = .ok (.iload_n 3, 1) := by decide +kernel
theorem dL_law_413 : decode cL_law 413 = .ok (.iconst 2, 1) := by decide +kernel
theorem dL_law_414 : decode cL_law 414 = .ok (.iadd, 1) := by decide +kernel
theorem dL_law_415 : decode cL_law 415 = .ok (.iaload, 1) := by decide +kernel
theorem dL_law_416 : decode cL_law 416 = .ok (.aload_n 0, 1) := by decide +kernel
theorem dL_law_417 : decode cL_law 417 = .ok (.iload_n 3, 1) := by decide +kernel
theorem dL_law_418 : decode cL_law 418 = .ok (.iconst 3, 1) := by decide +kernel
theorem dL_law_419 : decode cL_law 419 = .ok (.iadd, 1) := by decide +kernel
theorem dL_law_420 : decode cL_law 420 = .ok (.iaload, 1) := by decide +kernel
theorem dL_law_421 : decode cL_law 421 = .ok (.invokevirtual 35, 3) := by decide +kernel
theorem dL_law_424 : decode cL_law 424 = .ok (.if_icmp .eq 1356, 3) := by decide +kernel
theorem dL_law_427 : decode cL_law 427 = .ok (.iconst 0, 1) := by decide +kernel
theorem dL_law_428 : decode cL_law 428 = .ok (.ireturn, 1) := by decide +kernel
theorem dL_law_429 : decode cL_law 429 = .ok (.aload_n 1, 1) := by decide +kernel
theorem dL_law_430 : decode cL_law 430 = .ok (.aload_n 0, 1) := by decide +kernel
theorem dL_law_431 : decode cL_law 431 = .ok (.iload_n 3, 1) := by decide +kernel
theorem dL_law_432 : decode cL_law 432 = .ok (.iconst 1, 1) := by decide +kernel
theorem dL_law_433 : decode cL_law 433 = .ok (.iadd, 1) := by decide +kernel
theorem dL_law_434 : decode cL_law 434 = .ok (.iaload, 1) := by decide +kernel
theorem dL_law_435 : decode cL_law 435 = .ok (.aload_n 0, 1) := by decide +kernel
theorem dL_law_436 : decode cL_law 436 = .ok (.iload_n 3, 1) := by decide +kernel
theorem dL_law_437 : decode cL_law 437 = .ok (.iconst 2, 1) := by decide +kernel
theorem dL_law_438 : decode cL_law 438 = .ok (.iadd, 1) := by decide +kernel
theorem dL_law_439 : decode cL_law 439 = .ok (.iaload, 1) := by decide +kernel
theorem dL_law_440 : decode cL_law 440 = .ok (.invokevirtual 36, 3) := by decide +kernel
theorem dL_law_443 : decode cL_law 443 = .ok (.aload_n 2, 1) := by decide +kernel
theorem dL_law_444 : decode cL_law 444 = .ok (.aload_n 0, 1) := by decide +kernel
theorem dL_law_445 : decode cL_law 445 = .ok (.iload_n 3, 1) := by decide +kernel
theorem dL_law_446 : decode cL_law 446 = .ok (.iconst 1, 1) := by decide +kernel
theorem dL_law_447 : decode cL_law 447 = .ok (.iadd, 1) := by decide +kernel
theorem dL_law_448 : decode cL_law 448 = .ok (.iaload, 1) := by decide +kernel
theorem dL_law_449 : decode cL_law 449 = .ok (.aload_n 0, 1) := by decide +kernel
theorem dL_law_450 : decode cL_law 450 = .ok (.iload_n 3, 1) := by decide +kernel
theorem dL_law_451 : decode cL_law 451 = .ok (.iconst 2, 1) := by decide +kernel
theorem dL_law_452 : decode cL_law 452 = .ok (.iadd, 1) := by decide +kernel
theorem dL_law_453 : decode cL_law 453 = .ok (.iaload, 1) := by decide +kernel
theorem dL_law_454 : decode cL_law 454 = .ok (.invokevirtual 39, 3) := by decide +kernel
theorem dL_law_457 : decode cL_law 457 = .ok (.if_icmp .eq 1323, 3) := by decide +kernel
theorem dL_law_460 : decode cL_law 460 = .ok (.iconst 0, 1) := by decide +kernel
theorem dL_law_461 : decode cL_law 461 = .ok (.ireturn, 1) := by decide +kernel
theorem dL_law_462 : decode cL_law 462 = .ok (.aload_n 1, 1) := by decide +kernel
theorem dL_law_463 : decode cL_law 463 = .ok (.aload_n 0, 1) := by decide +kernel
theorem dL_law_464 : decode cL_law 464 = .ok (.iload_n 3, 1) := by decide +kernel
theorem dL_law_465 : decode cL_law 465 = .ok (.iconst 1, 1) := by decide +kernel
theorem dL_law_466 : decode cL_law 466 = .ok (.iadd, 1) := by decide +kernel
theorem dL_law_467 : decode cL_law 467 = .ok (.iaload, 1) := by decide +kernel
theorem dL_law_468 : decode cL_law 468 = .ok (.invokevirtual 40, 3) := by decide +kernel
theorem dL_law_471 : decode cL_law 471 = .ok (.aload_n 2, 1) := by decide +kernel
theorem dL_law_472 : decode cL_law 472 = .ok (.aload_n 0, 1) := by decide +kernel
theorem dL_law_473 : decode cL_law 473 = .ok (.iload_n 3, 1) := by decide +kernel
theorem dL_law_474 : decode cL_law 474 = .ok (.iconst 1, 1) := by decide +kernel
theorem dL_law_475 : decode cL_law 475 = .ok (.iadd, 1) := by decide +kernel
theorem dL_law_476 : decode cL_law 476 = .ok (.iaload, 1) := by decide +kernel
theorem dL_law_477 : decode cL_law 477 = .ok (.invokevirtual 44, 3) := by decide +kernel
theorem dL_law_480 : decode cL_law 480 = .ok (.lcmp, 1) := by decide +kernel
theorem dL_law_481 : decode cL_law 481 = .ok (.ifCond .eq 1299, 3) := by decide +kernel
theorem dL_law_484 : decode cL_law 484 = .ok (.iconst 0, 1) := by decide +kernel
theorem dL_law_485 : decode cL_law 485 = .ok (.ireturn, 1) := by decide +kernel
theorem dL_law_486 : decode cL_law 486 = .ok (.aload_n 1, 1) := by decide +kernel
theorem dL_law_487 : decode cL_law 487 = .ok (.aload_n 0, 1) := by decide +kernel
theorem dL_law_488 : decode cL_law 488 = .ok (.iload_n 3, 1) := by decide +kernel
theorem dL_law_489 : decode cL_law 489 = .ok (.iconst 1, 1) := by decide +kernel
theorem dL_law_490 : decode cL_law 490 = .ok (.iadd, 1) := by decide +kernel
theorem dL_law_491 : decode cL_law 491 = .ok (.iaload, 1) := by decide +kernel
theorem dL_law_492 : decode cL_law 492 = .ok (.aload_n 0, 1) := by decide +kernel
theorem dL_law_493 : decode cL_law 493 = .ok (.iload_n 3, 1) := by decide +kernel
theorem dL_law_494 : decode cL_law 494 = .ok (.iconst 2, 1) := by decide +kernel
theorem dL_law_495 : decode cL_law 495 = .ok (.iadd, 1) := by decide +kernel
theorem dL_law_496 : decode cL_law 496 = .ok (.iaload, 1) := by decide +kernel
theorem dL_law_497 : decode cL_law 497 = .ok (.i2l, 1) := by decide +kernel
theorem dL_law_498 : decode cL_law 498 = .ok (.bipush 32, 2) := by decide +kernel
theorem dL_law_500 : decode cL_law 500 = .ok (.lshl, 1) := by decide +kernel
theorem dL_law_501 : decode cL_law 501 = .ok (.aload_n 0, 1) := by decide +kernel
theorem dL_law_502 : decode cL_law 502 = .ok (.iload_n 3, 1) := by decide +kernel
theorem dL_law_503 : decode cL_law 503 = .ok (.iconst 3, 1) := by decide +kernel
theorem dL_law_504 : decode cL_law 504 = .ok (.iadd, 1) := by decide +kernel
theorem dL_law_505 : decode cL_law 505 = .ok (.iaload, 1) := by decide +kernel
theorem dL_law_506 : decode cL_law 506 = .ok (.i2l, 1) := by decide +kernel
theorem dL_law_507 : decode cL_law 507 = .ok (.ldc2_w 45, 3) := by decide +kernel
theorem dL_law_510 : decode cL_law 510 = .ok (.land, 1) := by decide +kernel
theorem dL_law_511 : decode cL_law 511 = .ok (.lor, 1) := by decide +kernel
theorem dL_law_512 : decode cL_law 512 = .ok (.invokevirtual 47, 3) := by decide +kernel
theorem dL_law_515 : decode cL_law 515 = .ok (.aload_n 2, 1) := by decide +kernel
theorem dL_law_516 : decode cL_law 516 = .ok (.aload_n 0, 1) := by decide +kernel
theorem dL_law_517 : decode cL_law 517 = .ok (.iload_n 3, 1) := by decide +kernel
theorem dL_law_518 : decode cL_law 518 = .ok (.iconst 1, 1) := by decide +kernel
theorem dL_law_519 : decode cL_law 519 = .ok (.iadd, 1) := by decide +kernel
theorem dL_law_520 : decode cL_law 520 = .ok (.iaload, 1) := by decide +kernel
theorem dL_law_521 : decode cL_law 521 = .ok (.aload_n 0, 1) := by decide +kernel
theorem dL_law_522 : decode cL_law 522 = .ok (.iload_n 3, 1) := by decide +kernel
theorem dL_law_523 : decode cL_law 523 = .ok (.iconst 2, 1) := by decide +kernel
theorem dL_law_524 : decode cL_law 524 = .ok (.iadd, 1) := by decide +kernel
theorem dL_law_525 : decode cL_law 525 = .ok (.iaload, 1) := by decide +kernel
theorem dL_law_526 : decode cL_law 526 = .ok (.i2l, 1) := by decide +kernel
theorem dL_law_527 : decode cL_law 527 = .ok (.bipush 32, 2) := by decide +kernel
theorem dL_law_529 : decode cL_law 529 = .ok (.lshl, 1) := by decide +kernel
theorem dL_law_530 : decode cL_law 530 = .ok (.aload_n 0, 1) := by decide +kernel
theorem dL_law_531 : decode cL_law 531 = .ok (.iload_n 3, 1) := by decide +kernel
theorem dL_law_532 : decode cL_law 532 = .ok (.iconst 3, 1) := by decide +kernel
theorem dL_law_533 : decode cL_law 533 = .ok (.iadd, 1) := by decide +kernel
theorem dL_law_534 : decode cL_law 534 = .ok (.iaload, 1) := by decide +kernel
theorem dL_law_535 : decode cL_law 535 = .ok (.i2l, 1) := by decide +kernel
theorem dL_law_536 : decode cL_law 536 = .ok (.ldc2_w 45, 3) := by decide +kernel
theorem dL_law_539 : decode cL_law 539 = .ok (.land, 1) := by decide +kernel
theorem dL_law_540 : decode cL_law 540 = .ok (.lor, 1) := by decide +kernel
theorem dL_law_541 : decode cL_law 541 = .ok (.invokevirtual 51, 3) := by decide +kernel
theorem dL_law_544 : decode cL_law 544 = .ok (.if_icmp .eq 1236, 3) := by decide +kernel
theorem dL_law_547 : decode cL_law 547 = .ok (.iconst 0, 1) := by decide +kernel
theorem dL_law_548 : decode cL_law 548 = .ok (.ireturn, 1) := by decide +kernel
theorem dL_law_549 : decode cL_law 549 = .ok (.aload_n 1, 1) := by decide +kernel
theorem dL_law_550 : decode cL_law 550 = .ok (.aload_n 0, 1) := by decide +kernel
theorem dL_law_551 : decode cL_law 551 = .ok (.iload_n 3, 1) := by decide +kernel
theorem dL_law_552 : decode cL_law 552 = .ok (.iconst 1, 1) := by decide +kernel
theorem dL_law_553 : decode cL_law 553 = .ok (.iadd, 1) := by decide +kernel
theorem dL_law_554 : decode cL_law 554 = .ok (.iaload, 1) := by decide +kernel
theorem dL_law_555 : decode cL_law 555 = .ok (.invokevirtual 52, 3) := by decide +kernel
theorem dL_law_558 : decode cL_law 558 = .ok (.aload_n 2, 1) := by decide +kernel
theorem dL_law_559 : decode cL_law 559 = .ok (.aload_n 0, 1) := by decide +kernel
theorem dL_law_560 : decode cL_law 560 = .ok (.iload_n 3, 1) := by decide +kernel
theorem dL_law_561 : decode cL_law 561 = .ok (.iconst 1, 1) := by decide +kernel
theorem dL_law_562 : decode cL_law 562 = .ok (.iadd, 1) := by decide +kernel
theorem dL_law_563 : decode cL_law 563 = .ok (.iaload, 1) := by decide +kernel
theorem dL_law_564 : decode cL_law 564 = .ok (.invokevirtual 56, 3) := by decide +kernel
theorem dL_law_567 : decode cL_law 567 = .ok (.if_icmp .eq 1213, 3) := by decide +kernel
theorem dL_law_570 : decode cL_law 570 = .ok (.iconst 0, 1) := by decide +kernel
theorem dL_law_571 : decode cL_law 571 = .ok (.ireturn, 1) := by decide +kernel
theorem dL_law_572 : decode cL_law 572 = .ok (.aload_n 1, 1) := by decide +kernel
theorem dL_law_573 : decode cL_law 573 = .ok (.aload_n 0, 1) := by decide +kernel
theorem dL_law_574 : decode cL_law 574 = .ok (.iload_n 3, 1) := by decide +kernel
theorem dL_law_575 : decode cL_law 575 = .ok (.iconst 1, 1) := by decide +kernel
theorem dL_law_576 : decode cL_law 576 = .ok (.iadd, 1) := by decide +kernel
theorem dL_law_577 : decode cL_law 577 = .ok (.iaload, 1) := by decide +kernel
theorem dL_law_578 : decode cL_law 578 = .ok (.aload_n 0, 1) := by decide +kernel
theorem dL_law_579 : decode cL_law 579 = .ok (.iload_n 3, 1) := by decide +kernel
theorem dL_law_580 : decode cL_law 580 = .ok (.iconst 2, 1) := by decide +kernel
theorem dL_law_581 : decode cL_law 581 = .ok (.iadd, 1) := by decide +kernel
theorem dL_law_582 : decode cL_law 582 = .ok (.iaload, 1) := by decide +kernel
theorem dL_law_583 : decode cL_law 583 = .ok (.invokevirtual 57, 3) := by decide +kernel
theorem dL_law_586 : decode cL_law 586 = .ok (.aload_n 2, 1) := by decide +kernel
theorem dL_law_587 : decode cL_law 587 = .ok (.aload_n 0, 1) := by decide +kernel
theorem dL_law_588 : decode cL_law 588 = .ok (.iload_n 3, 1) := by decide +kernel
theorem dL_law_589 : decode cL_law 589 = .ok (.iconst 1, 1) := by decide +kernel
theorem dL_law_590 : decode cL_law 590 = .ok (.iadd, 1) := by decide +kernel
theorem dL_law_591 : decode cL_law 591 = .ok (.iaload, 1) := by decide +kernel
theorem dL_law_592 : decode cL_law 592 = .ok (.aload_n 0, 1) := by decide +kernel
theorem dL_law_593 : decode cL_law 593 = .ok (.iload_n 3, 1) := by decide +kernel
theorem dL_law_594 : decode cL_law 594 = .ok (.iconst 2, 1) := by decide +kernel
theorem dL_law_595 : decode cL_law 595 = .ok (.iadd, 1) := by decide +kernel
theorem dL_law_596 : decode cL_law 596 = .ok (.iaload, 1) := by decide +kernel
theorem dL_law_597 : decode cL_law 597 = .ok (.invokevirtual 60, 3) := by decide +kernel
theorem dL_law_600 : decode cL_law 600 = .ok (.if_icmp .eq 1180, 3) := by decide +kernel
theorem dL_law_603 : decode cL_law 603 = .ok (.iconst 0, 1) := by decide +kernel
theorem dL_law_604 : decode cL_law 604 = .ok (.ireturn, 1) := by decide +kernel
theorem dL_law_605 : decode cL_law 605 = .ok (.aload_n 1, 1) := by decide +kernel
theorem dL_law_606 : decode cL_law 606 = .ok (.aload_n 0, 1) := by decide +kernel
theorem dL_law_607 : decode cL_law 607 = .ok (.iload_n 3, 1) := by decide +kernel
theorem dL_law_608 : decode cL_law 608 = .ok (.iconst 1, 1) := by decide +kernel
theorem dL_law_609 : decode cL_law 609 = .ok (.iadd, 1) := by decide +kernel
theorem dL_law_610 : decode cL_law 610 = .ok (.iaload, 1) := by decide +kernel
theorem dL_law_611 : decode cL_law 611 = .ok (.aload_n 0, 1) := by decide +kernel
theorem dL_law_612 : decode cL_law 612 = .ok (.iload_n 3, 1) := by decide +kernel
theorem dL_law_613 : decode cL_law 613 = .ok (.iconst 2, 1) := by decide +kernel
theorem dL_law_614 : decode cL_law 614 = .ok (.iadd, 1) := by decide +kernel
theorem dL_law_615 : decode cL_law 615 = .ok (.iaload, 1) := by decide +kernel
theorem dL_law_616 : decode cL_law 616 = .ok (.invokevirtual 61, 3) := by decide +kernel
theorem dL_law_619 : decode cL_law 619 = .ok (.aload_n 2, 1) := by decide +kernel
theorem dL_law_620 : decode cL_law 620 = .ok (.aload_n 0, 1) := by decide +kernel
theorem dL_law_621 : decode cL_law 621 = .ok (.iload_n 3, 1) := by decide +kernel
theorem dL_law_622 : decode cL_law 622 = .ok (.iconst 1, 1) := by decide +kernel
theorem dL_law_623 : decode cL_law 623 = .ok (.iadd, 1) := by decide +kernel
theorem dL_law_624 : decode cL_law 624 = .ok (.iaload, 1) := by decide +kernel
theorem dL_law_625 : decode cL_law 625 = .ok (.aload_n 0, 1) := by decide +kernel
theorem dL_law_626 : decode cL_law 626 = .ok (.iload_n 3, 1) := by decide +kernel
theorem dL_law_627 : decode cL_law 627 = .ok (.iconst 2, 1) := by decide +kernel
theorem dL_law_628 : decode cL_law 628 = .ok (.iadd, 1) := by decide +kernel
theorem dL_law_629 : decode cL_law 629 = .ok (.iaload, 1) := by decide +kernel
theorem dL_law_630 : decode cL_law 630 = .ok (.invokevirtual 64, 3) := by decide +kernel
theorem dL_law_633 : decode cL_law 633 = .ok (.if_icmp .eq 1147, 3) := by decide +kernel
theorem dL_law_636 : decode cL_law 636 = .ok (.iconst 0, 1) := by decide +kernel
theorem dL_law_637 : decode cL_law 637 = .ok (.ireturn, 1) := by decide +kernel
theorem dL_law_638 : decode cL_law 638 = .ok (.aload_n 1, 1) := by decide +kernel
theorem dL_law_639 : decode cL_law 639 = .ok (.aload_n 0, 1) := by decide +kernel
theorem dL_law_640 : decode cL_law 640 = .ok (.iload_n 3, 1) := by decide +kernel
theorem dL_law_641 : decode cL_law 641 = .ok (.iconst 1, 1) := by decide +kernel
theorem dL_law_642 : decode cL_law 642 = .ok (.iadd, 1) := by decide +kernel
theorem dL_law_643 : decode cL_law 643 = .ok (.iaload, 1) := by decide +kernel
theorem dL_law_644 : decode cL_law 644 = .ok (.aload_n 0, 1) := by decide +kernel
theorem dL_law_645 : decode cL_law 645 = .ok (.iload_n 3, 1) := by decide +kernel
theorem dL_law_646 : decode cL_law 646 = .ok (.iconst 2, 1) := by decide +kernel
theorem dL_law_647 : decode cL_law 647 = .ok (.iadd, 1) := by decide +kernel
theorem dL_law_648 : decode cL_law 648 = .ok (.iaload, 1) := by decide +kernel
theorem dL_law_649 : decode cL_law 649 = .ok (.invokevirtual 65, 3) := by decide +kernel
theorem dL_law_652 : decode cL_law 652 = .ok (.aload_n 2, 1) := by decide +kernel
theorem dL_law_653 : decode cL_law 653 = .ok (.aload_n 0, 1) := by decide +kernel
theorem dL_law_654 : decode cL_law 654 = .ok (.iload_n 3, 1) := by decide +kernel
theorem dL_law_655 : decode cL_law 655 = .ok (.iconst 1, 1) := by decide +kernel
theorem dL_law_656 : decode cL_law 656 = .ok (.iadd, 1) := by decide +kernel
theorem dL_law_657 : decode cL_law 657 = .ok (.iaload, 1) := by decide +kernel
theorem dL_law_658 : decode cL_law 658 = .ok (.aload_n 0, 1) := by decide +kernel
theorem dL_law_659 : decode cL_law 659 = .ok (.iload_n 3, 1) := by decide +kernel
theorem dL_law_660 : decode cL_law 660 = .ok (.iconst 2, 1) := by decide +kernel
theorem dL_law_661 : decode cL_law 661 = .ok (.iadd, 1) := by decide +kernel
theorem dL_law_662 : decode cL_law 662 = .ok (.iaload, 1) := by decide +kernel
theorem dL_law_663 : decode cL_law 663 = .ok (.invokevirtual 68, 3) := by decide +kernel
theorem dL_law_666 : decode cL_law 666 = .ok (.if_icmp .eq 1114, 3) := by decide +kernel
theorem dL_law_669 : decode cL_law 669 = .ok (.iconst 0, 1) := by decide +kernel
theorem dL_law_670 : decode cL_law 670 = .ok (.ireturn, 1) := by decide +kernel
theorem dL_law_671 : decode cL_law 671 = .ok (.aload_n 1, 1) := by decide +kernel
theorem dL_law_672 : decode cL_law 672 = .ok (.invokevirtual 69, 3) := by decide +kernel
theorem dL_law_675 : decode cL_law 675 = .ok (.aload_n 2, 1) := by decide +kernel
theorem dL_law_676 : decode cL_law 676 = .ok (.invokevirtual 73, 3) := by decide +kernel
theorem dL_law_679 : decode cL_law 679 = .ok (.if_icmp .eq 1101, 3) := by decide +kernel
theorem dL_law_682 : decode cL_law 682 = .ok (.iconst 0, 1) := by decide +kernel
theorem dL_law_683 : decode cL_law 683 = .ok (.ireturn, 1) := by decide +kernel
theorem dL_law_684 : decode cL_law 684 = .ok (.aload_n 1, 1) := by decide +kernel
theorem dL_law_685 : decode cL_law 685 = .ok (.aload_n 0, 1) := by decide +kernel
theorem dL_law_686 : decode cL_law 686 = .ok (.iload_n 3, 1) := by decide +kernel
theorem dL_law_687 : decode cL_law 687 = .ok (.iconst 1, 1) := by decide +kernel
theorem dL_law_688 : decode cL_law 688 = .ok (.iadd, 1) := by decide +kernel
theorem dL_law_689 : decode cL_law 689 = .ok (.iaload, 1) := by decide +kernel
theorem dL_law_690 : decode cL_law 690 = .ok (.aload_n 0, 1) := by decide +kernel
theorem dL_law_691 : decode cL_law 691 = .ok (.iload_n 3, 1) := by decide +kernel
theorem dL_law_692 : decode cL_law 692 = .ok (.iconst 2, 1) := by decide +kernel
theorem dL_law_693 : decode cL_law 693 = .ok (.iadd, 1) := by decide +kernel
theorem dL_law_694 : decode cL_law 694 = .ok (.iaload, 1) := by decide +kernel
theorem dL_law_695 : decode cL_law 695 = .ok (.aload_n 0, 1) := by decide +kernel
theorem dL_law_696 : decode cL_law 696 = .ok (.iload_n 3, 1) := by decide +kernel
theorem dL_law_697 : decode cL_law 697 = .ok (.iconst 3, 1) := by decide +kernel
theorem dL_law_698 : decode cL_law 698 = .ok (.iadd, 1) := by decide +kernel
theorem dL_law_699 : decode cL_law 699 = .ok (.iaload, 1) := by decide +kernel
theorem dL_law_700 : decode cL_law 700 = .ok (.aload_n 0, 1) := by decide +kernel
theorem dL_law_701 : decode cL_law 701 = .ok (.iload_n 3, 1) := by decide +kernel
theorem dL_law_702 : decode cL_law 702 = .ok (.iconst 4, 1) := by decide +kernel
theorem dL_law_703 : decode cL_law 703 = .ok (.iadd, 1) := by decide +kernel
theorem dL_law_704 : decode cL_law 704 = .ok (.iaload, 1) := by decide +kernel
theorem dL_law_705 : decode cL_law 705 = .ok (.aload_n 0, 1) := by decide +kernel
theorem dL_law_706 : decode cL_law 706 = .ok (.iload_n 3, 1) := by decide +kernel
theorem dL_law_707 : decode cL_law 707 = .ok (.iconst 5, 1) := by decide +kernel
theorem dL_law_708 : decode cL_law 708 = .ok (.iadd, 1) := by decide +kernel
theorem dL_law_709 : decode cL_law 709 = .ok (.iaload, 1) := by decide +kernel
theorem dL_law_710 : decode cL_law 710 = .ok (.invokevirtual 74, 3) := by decide +kernel
theorem dL_law_713 : decode cL_law 713 = .ok (.aload_n 2, 1) := by decide +kernel
theorem dL_law_714 : decode cL_law 714 = .ok (.aload_n 0, 1) := by decide +kernel
theorem dL_law_715 : decode cL_law 715 = .ok (.iload_n 3, 1) := by decide +kernel
theorem dL_law_716 : decode cL_law 716 = .ok (.iconst 1, 1) := by decide +kernel
theorem dL_law_717 : decode cL_law 717 = .ok (.iadd, 1) := by decide +kernel
theorem dL_law_718 : decode cL_law 718 = .ok (.iaload, 1) := by decide +kernel
theorem dL_law_719 : decode cL_law 719 = .ok (.aload_n 0, 1) := by decide +kernel
theorem dL_law_720 : decode cL_law 720 = .ok (.iload_n 3, 1) := by decide +kernel
theorem dL_law_721 : decode cL_law 721 = .ok (.iconst 2, 1) := by decide +kernel
theorem dL_law_722 : decode cL_law 722 = .ok (.iadd, 1) := by decide +kernel
theorem dL_law_723 : decode cL_law 723 = .ok (.iaload, 1) := by decide +kernel
theorem dL_law_724 : decode cL_law 724 = .ok (.aload_n 0, 1) := by decide +kernel
theorem dL_law_725 : decode cL_law 725 = .ok (.iload_n 3, 1) := by decide +kernel
theorem dL_law_726 : decode cL_law 726 = .ok (.iconst 3, 1) := by decide +kernel
end
section
theorem dL_law_727 : decode cL_law 727 = .ok (.iadd, 1) := by decide +kernel
theorem dL_law_728 : decode cL_law 728 = .ok (.iaload, 1) := by decide +kernel
theorem dL_law_729 : decode cL_law 729 = .ok (.aload_n 0, 1) := by decide +kernel
theorem dL_law_730 : decode cL_law 730 = .ok (.iload_n 3, 1) := by decide +kernel
theorem dL_law_731 : decode cL_law 731 = .ok (.iconst 4, 1) := by decide +kernel
theorem dL_law_732 : decode cL_law 732 = .ok (.iadd, 1) := by decide +kernel
theorem dL_law_733 : decode cL_law 733 = .ok (.iaload, 1) := by decide +kernel
theorem dL_law_734 : decode cL_law 734 = .ok (.aload_n 0, 1) := by decide +kernel
theorem dL_law_735 : decode cL_law 735 = .ok (.iload_n 3, 1) := by decide +kernel
theorem dL_law_736 : decode cL_law 736 = .ok (.iconst 5, 1) := by decide +kernel
theorem dL_law_737 : decode cL_law 737 = .ok (.iadd, 1) := by decide +kernel
theorem dL_law_738 : decode cL_law 738 = .ok (.iaload, 1) := by decide +kernel
theorem dL_law_739 : decode cL_law 739 = .ok (.invokevirtual 78, 3) := by decide +kernel
theorem dL_law_742 : decode cL_law 742 = .ok (.if_icmp .eq 1038, 3) := by decide +kernel
theorem dL_law_745 : decode cL_law 745 = .ok (.iconst 0, 1) := by decide +kernel
theorem dL_law_746 : decode cL_law 746 = .ok (.ireturn, 1) := by decide +kernel
theorem dL_law_747 : decode cL_law 747 = .ok (.aload_n 1, 1) := by decide +kernel
theorem dL_law_748 : decode cL_law 748 = .ok (.invokevirtual 79, 3) := by decide +kernel
theorem dL_law_751 : decode cL_law 751 = .ok (.aload_n 2, 1) := by decide +kernel
theorem dL_law_752 : decode cL_law 752 = .ok (.invokevirtual 82, 3) := by decide +kernel
theorem dL_law_755 : decode cL_law 755 = .ok (.if_icmp .eq 1025, 3) := by decide +kernel
theorem dL_law_758 : decode cL_law 758 = .ok (.iconst 0, 1) := by decide +kernel
theorem dL_law_759 : decode cL_law 759 = .ok (.ireturn, 1) := by decide +kernel
theorem dL_law_760 : decode cL_law 760 = .ok (.aload_n 1, 1) := by decide +kernel
theorem dL_law_761 : decode cL_law 761 = .ok (.aload_n 0, 1) := by decide +kernel
theorem dL_law_762 : decode cL_law 762 = .ok (.iload_n 3, 1) := by decide +kernel
theorem dL_law_763 : decode cL_law 763 = .ok (.iconst 1, 1) := by decide +kernel
theorem dL_law_764 : decode cL_law 764 = .ok (.iadd, 1) := by decide +kernel
theorem dL_law_765 : decode cL_law 765 = .ok (.iaload, 1) := by decide +kernel
theorem dL_law_766 : decode cL_law 766 = .ok (.invokevirtual 83, 3) := by decide +kernel
theorem dL_law_769 : decode cL_law 769 = .ok (.aload_n 2, 1) := by decide +kernel
theorem dL_law_770 : decode cL_law 770 = .ok (.aload_n 0, 1) := by decide +kernel
theorem dL_law_771 : decode cL_law 771 = .ok (.iload_n 3, 1) := by decide +kernel
theorem dL_law_772 : decode cL_law 772 = .ok (.iconst 1, 1) := by decide +kernel
theorem dL_law_773 : decode cL_law 773 = .ok (.iadd, 1) := by decide +kernel
theorem dL_law_774 : decode cL_law 774 = .ok (.iaload, 1) := by decide +kernel
theorem dL_law_775 : decode cL_law 775 = .ok (.invokevirtual 86, 3) := by decide +kernel
theorem dL_law_778 : decode cL_law 778 = .ok (.lcmp, 1) := by decide +kernel
theorem dL_law_779 : decode cL_law 779 = .ok (.ifCond .eq 1001, 3) := by decide +kernel
theorem dL_law_782 : decode cL_law 782 = .ok (.iconst 0, 1) := by decide +kernel
theorem dL_law_783 : decode cL_law 783 = .ok (.ireturn, 1) := by decide +kernel
theorem dL_law_784 : decode cL_law 784 = .ok (.aload_n 1, 1) := by decide +kernel
theorem dL_law_785 : decode cL_law 785 = .ok (.aload_n 0, 1) := by decide +kernel
theorem dL_law_786 : decode cL_law 786 = .ok (.iload_n 3, 1) := by decide +kernel
theorem dL_law_787 : decode cL_law 787 = .ok (.iconst 1, 1) := by decide +kernel
theorem dL_law_788 : decode cL_law 788 = .ok (.iadd, 1) := by decide +kernel
theorem dL_law_789 : decode cL_law 789 = .ok (.iaload, 1) := by decide +kernel
theorem dL_law_790 : decode cL_law 790 = .ok (.aload_n 0, 1) := by decide +kernel
theorem dL_law_791 : decode cL_law 791 = .ok (.iload_n 3, 1) := by decide +kernel
theorem dL_law_792 : decode cL_law 792 = .ok (.iconst 2, 1) := by decide +kernel
theorem dL_law_793 : decode cL_law 793 = .ok (.iadd, 1) := by decide +kernel
theorem dL_law_794 : decode cL_law 794 = .ok (.iaload, 1) := by decide +kernel
theorem dL_law_795 : decode cL_law 795 = .ok (.invokevirtual 87, 3) := by decide +kernel
theorem dL_law_798 : decode cL_law 798 = .ok (.aload_n 2, 1) := by decide +kernel
theorem dL_law_799 : decode cL_law 799 = .ok (.aload_n 0, 1) := by decide +kernel
theorem dL_law_800 : decode cL_law 800 = .ok (.iload_n 3, 1) := by decide +kernel
theorem dL_law_801 : decode cL_law 801 = .ok (.iconst 1, 1) := by decide +kernel
theorem dL_law_802 : decode cL_law 802 = .ok (.iadd, 1) := by decide +kernel
theorem dL_law_803 : decode cL_law 803 = .ok (.iaload, 1) := by decide +kernel
theorem dL_law_804 : decode cL_law 804 = .ok (.aload_n 0, 1) := by decide +kernel
theorem dL_law_805 : decode cL_law 805 = .ok (.iload_n 3, 1) := by decide +kernel
theorem dL_law_806 : decode cL_law 806 = .ok (.iconst 2, 1) := by decide +kernel
theorem dL_law_807 : decode cL_law 807 = .ok (.iadd, 1) := by decide +kernel
theorem dL_law_808 : decode cL_law 808 = .ok (.iaload, 1) := by decide +kernel
theorem dL_law_809 : decode cL_law 809 = .ok (.invokevirtual 90, 3) := by decide +kernel
theorem dL_law_812 : decode cL_law 812 = .ok (.if_icmp .eq 968, 3) := by decide +kernel
theorem dL_law_815 : decode cL_law 815 = .ok (.iconst 0, 1) := by decide +kernel
theorem dL_law_816 : decode cL_law 816 = .ok (.ireturn, 1) := by decide +kernel
theorem dL_law_817 : decode cL_law 817 = .ok (.aload_n 1, 1) := by decide +kernel
theorem dL_law_818 : decode cL_law 818 = .ok (.aload_n 0, 1) := by decide +kernel
theorem dL_law_819 : decode cL_law 819 = .ok (.iload_n 3, 1) := by decide +kernel
theorem dL_law_820 : decode cL_law 820 = .ok (.iconst 1, 1) := by decide +kernel
theorem dL_law_821 : decode cL_law 821 = .ok (.iadd, 1) := by decide +kernel
theorem dL_law_822 : decode cL_law 822 = .ok (.iaload, 1) := by decide +kernel
theorem dL_law_823 : decode cL_law 823 = .ok (.aload_n 0, 1) := by decide +kernel
theorem dL_law_824 : decode cL_law 824 = .ok (.iload_n 3, 1) := by decide +kernel
theorem dL_law_825 : decode cL_law 825 = .ok (.iconst 2, 1) := by decide +kernel
theorem dL_law_826 : decode cL_law 826 = .ok (.iadd, 1) := by decide +kernel
theorem dL_law_827 : decode cL_law 827 = .ok (.iaload, 1) := by decide +kernel
theorem dL_law_828 : decode cL_law 828 = .ok (.i2l, 1) := by decide +kernel
theorem dL_law_829 : decode cL_law 829 = .ok (.bipush 32, 2) := by decide +kernel
theorem dL_law_831 : decode cL_law 831 = .ok (.lshl, 1) := by decide +kernel
theorem dL_law_832 : decode cL_law 832 = .ok (.aload_n 0, 1) := by decide +kernel
theorem dL_law_833 : decode cL_law 833 = .ok (.iload_n 3, 1) := by decide +kernel
theorem dL_law_834 : decode cL_law 834 = .ok (.iconst 3, 1) := by decide +kernel
theorem dL_law_835 : decode cL_law 835 = .ok (.iadd, 1) := by decide +kernel
theorem dL_law_836 : decode cL_law 836 = .ok (.iaload, 1) := by decide +kernel
theorem dL_law_837 : decode cL_law 837 = .ok (.i2l, 1) := by decide +kernel
theorem dL_law_838 : decode cL_law 838 = .ok (.ldc2_w 45, 3) := by decide +kernel
theorem dL_law_841 : decode cL_law 841 = .ok (.land, 1) := by decide +kernel
theorem dL_law_842 : decode cL_law 842 = .ok (.lor, 1) := by decide +kernel
theorem dL_law_843 : decode cL_law 843 = .ok (.invokevirtual 91, 3) := by decide +kernel
theorem dL_law_846 : decode cL_law 846 = .ok (.aload_n 2, 1) := by decide +kernel
theorem dL_law_847 : decode cL_law 847 = .ok (.aload_n 0, 1) := by decide +kernel
theorem dL_law_848 : decode cL_law 848 = .ok (.iload_n 3, 1) := by decide +kernel
theorem dL_law_849 : decode cL_law 849 = .ok (.iconst 1, 1) := by decide +kernel
theorem dL_law_850 : decode cL_law 850 = .ok (.iadd, 1) := by decide +kernel
theorem dL_law_851 : decode cL_law 851 = .ok (.iaload, 1) := by decide +kernel
theorem dL_law_852 : decode cL_law 852 = .ok (.aload_n 0, 1) := by decide +kernel
theorem dL_law_853 : decode cL_law 853 = .ok (.iload_n 3, 1) := by decide +kernel
theorem dL_law_854 : decode cL_law 854 = .ok (.iconst 2, 1) := by decide +kernel
theorem dL_law_855 : decode cL_law 855 = .ok (.iadd, 1) := by decide +kernel
theorem dL_law_856 : decode cL_law 856 = .ok (.iaload, 1) := by decide +kernel
theorem dL_law_857 : decode cL_law 857 = .ok (.i2l, 1) := by decide +kernel
theorem dL_law_858 : decode cL_law 858 = .ok (.bipush 32, 2) := by decide +kernel
theorem dL_law_860 : decode cL_law 860 = .ok (.lshl, 1) := by decide +kernel
theorem dL_law_861 : decode cL_law 861 = .ok (.aload_n 0, 1) := by decide +kernel
theorem dL_law_862 : decode cL_law 862 = .ok (.iload_n 3, 1) := by decide +kernel
theorem dL_law_863 : decode cL_law 863 = .ok (.iconst 3, 1) := by decide +kernel
theorem dL_law_864 : decode cL_law 864 = .ok (.iadd, 1) := by decide +kernel
theorem dL_law_865 : decode cL_law 865 = .ok (.iaload, 1) := by decide +kernel
theorem dL_law_866 : decode cL_law 866 = .ok (.i2l, 1) := by decide +kernel
theorem dL_law_867 : decode cL_law 867 = .ok (.ldc2_w 45, 3) := by decide +kernel
theorem dL_law_870 : decode cL_law 870 = .ok (.land, 1) := by decide +kernel
theorem dL_law_871 : decode cL_law 871 = .ok (.lor, 1) := by decide +kernel
theorem dL_law_872 : decode cL_law 872 = .ok (.invokevirtual 94, 3) := by decide +kernel
theorem dL_law_875 : decode cL_law 875 = .ok (.if_icmp .eq 905, 3) := by decide +kernel
theorem dL_law_878 : decode cL_law 878 = .ok (.iconst 0, 1) := by decide +kernel
theorem dL_law_879 : decode cL_law 879 = .ok (.ireturn, 1) := by decide +kernel
theorem dL_law_880 : decode cL_law 880 = .ok (.aload_n 1, 1) := by decide +kernel
theorem dL_law_881 : decode cL_law 881 = .ok (.aload_n 0, 1) := by decide +kernel
theorem dL_law_882 : decode cL_law 882 = .ok (.iload_n 3, 1) := by decide +kernel
theorem dL_law_883 : decode cL_law 883 = .ok (.iconst 1, 1) := by decide +kernel
theorem dL_law_884 : decode cL_law 884 = .ok (.iadd, 1) := by decide +kernel
theorem dL_law_885 : decode cL_law 885 = .ok (.iaload, 1) := by decide +kernel
theorem dL_law_886 : decode cL_law 886 = .ok (.aload_n 0, 1) := by decide +kernel
theorem dL_law_887 : decode cL_law 887 = .ok (.iload_n 3, 1) := by decide +kernel
theorem dL_law_888 : decode cL_law 888 = .ok (.iconst 2, 1) := by decide +kernel
theorem dL_law_889 : decode cL_law 889 = .ok (.iadd, 1) := by decide +kernel
theorem dL_law_890 : decode cL_law 890 = .ok (.iaload, 1) := by decide +kernel
theorem dL_law_891 : decode cL_law 891 = .ok (.invokevirtual 95, 3) := by decide +kernel
theorem dL_law_894 : decode cL_law 894 = .ok (.aload_n 2, 1) := by decide +kernel
theorem dL_law_895 : decode cL_law 895 = .ok (.aload_n 0, 1) := by decide +kernel
theorem dL_law_896 : decode cL_law 896 = .ok (.iload_n 3, 1) := by decide +kernel
theorem dL_law_897 : decode cL_law 897 = .ok (.iconst 1, 1) := by decide +kernel
theorem dL_law_898 : decode cL_law 898 = .ok (.iadd, 1) := by decide +kernel
theorem dL_law_899 : decode cL_law 899 = .ok (.iaload, 1) := by decide +kernel
theorem dL_law_900 : decode cL_law 900 = .ok (.aload_n 0, 1) := by decide +kernel
theorem dL_law_901 : decode cL_law 901 = .ok (.iload_n 3, 1) := by decide +kernel
theorem dL_law_902 : decode cL_law 902 = .ok (.iconst 2, 1) := by decide +kernel
theorem dL_law_903 : decode cL_law 903 = .ok (.iadd, 1) := by decide +kernel
theorem dL_law_904 : decode cL_law 904 = .ok (.iaload, 1) := by decide +kernel
theorem dL_law_905 : decode cL_law 905 = .ok (.invokevirtual 98, 3) := by decide +kernel
theorem dL_law_908 : decode cL_law 908 = .ok (.if_icmp .eq 872, 3) := by decide +kernel
theorem dL_law_911 : decode cL_law 911 = .ok (.iconst 0, 1) := by decide +kernel
theorem dL_law_912 : decode cL_law 912 = .ok (.ireturn, 1) := by decide +kernel
theorem dL_law_913 : decode cL_law 913 = .ok (.aload_n 1, 1) := by decide +kernel
theorem dL_law_914 : decode cL_law 914 = .ok (.aload_n 0, 1) := by decide +kernel
theorem dL_law_915 : decode cL_law 915 = .ok (.iload_n 3, 1) := by decide +kernel
theorem dL_law_916 : decode cL_law 916 = .ok (.iconst 1, 1) := by decide +kernel
theorem dL_law_917 : decode cL_law 917 = .ok (.iadd, 1) := by decide +kernel
theorem dL_law_918 : decode cL_law 918 = .ok (.iaload, 1) := by decide +kernel
theorem dL_law_919 : decode cL_law 919 = .ok (.i2l, 1) := by decide +kernel
theorem dL_law_920 : decode cL_law 920 = .ok (.bipush 32, 2) := by decide +kernel
theorem dL_law_922 : decode cL_law 922 = .ok (.lshl, 1) := by decide +kernel
theorem dL_law_923 : decode cL_law 923 = .ok (.aload_n 0, 1) := by decide +kernel
theorem dL_law_924 : decode cL_law 924 = .ok (.iload_n 3, 1) := by decide +kernel
theorem dL_law_925 : decode cL_law 925 = .ok (.iconst 2, 1) := by decide +kernel
theorem dL_law_926 : decode cL_law 926 = .ok (.iadd, 1) := by decide +kernel
theorem dL_law_927 : decode cL_law 927 = .ok (.iaload, 1) := by decide +kernel
theorem dL_law_928 : decode cL_law 928 = .ok (.i2l, 1) := by decide +kernel
theorem dL_law_929 : decode cL_law 929 = .ok (.ldc2_w 45, 3) := by decide +kernel
theorem dL_law_932 : decode cL_law 932 = .ok (.land, 1) := by decide +kernel
theorem dL_law_933 : decode cL_law 933 = .ok (.lor, 1) := by decide +kernel
theorem dL_law_934 : decode cL_law 934 = .ok (.aload_n 0, 1) := by decide +kernel
theorem dL_law_935 : decode cL_law 935 = .ok (.iload_n 3, 1) := by decide +kernel
theorem dL_law_936 : decode cL_law 936 = .ok (.iconst 3, 1) := by decide +kernel
theorem dL_law_937 : decode cL_law 937 = .ok (.iadd, 1) := by decide +kernel
theorem dL_law_938 : decode cL_law 938 = .ok (.iaload, 1) := by decide +kernel
theorem dL_law_939 : decode cL_law 939 = .ok (.i2l, 1) := by decide +kernel
theorem dL_law_940 : decode cL_law 940 = .ok (.bipush 32, 2) := by decide +kernel
theorem dL_law_942 : decode cL_law 942 = .ok (.lshl, 1) := by decide +kernel
theorem dL_law_943 : decode cL_law 943 = .ok (.aload_n 0, 1) := by decide +kernel
theorem dL_law_944 : decode cL_law 944 = .ok (.iload_n 3, 1) := by decide +kernel
theorem dL_law_945 : decode cL_law 945 = .ok (.iconst 4, 1) := by decide +kernel
theorem dL_law_946 : decode cL_law 946 = .ok (.iadd, 1) := by decide +kernel
theorem dL_law_947 : decode cL_law 947 = .ok (.iaload, 1) := by decide +kernel
theorem dL_law_948 : decode cL_law 948 = .ok (.i2l, 1) := by decide +kernel
theorem dL_law_949 : decode cL_law 949 = .ok (.ldc2_w 45, 3) := by decide +kernel
theorem dL_law_952 : decode cL_law 952 = .ok (.land, 1) := by decide +kernel
theorem dL_law_953 : decode cL_law 953 = .ok (.lor, 1) := by decide +kernel
theorem dL_law_954 : decode cL_law 954 = .ok (.invokevirtual 99, 3) := by decide +kernel
theorem dL_law_957 : decode cL_law 957 = .ok (.aload_n 2, 1) := by decide +kernel
theorem dL_law_958 : decode cL_law 958 = .ok (.aload_n 0, 1) := by decide +kernel
theorem dL_law_959 : decode cL_law 959 = .ok (.iload_n 3, 1) := by decide +kernel
theorem dL_law_960 : decode cL_law 960 = .ok (.iconst 1, 1) := by decide +kernel
theorem dL_law_961 : decode cL_law 961 = .ok (.iadd, 1) := by decide +kernel
theorem dL_law_962 : decode cL_law 962 = .ok (.iaload, 1) := by decide +kernel
theorem dL_law_963 : decode cL_law 963 = .ok (.i2l, 1) := by decide +kernel
theorem dL_law_964 : decode cL_law 964 = .ok (.bipush 32, 2) := by decide +kernel
theorem dL_law_966 : decode cL_law 966 = .ok (.lshl, 1) := by decide +kernel
theorem dL_law_967 : decode cL_law 967 = .ok (.aload_n 0, 1) := by decide +kernel
theorem dL_law_968 : decode cL_law 968 = .ok (.iload_n 3, 1) := by decide +kernel
theorem dL_law_969 : decode cL_law 969 = .ok (.iconst 2, 1) := by decide +kernel
theorem dL_law_970 : decode cL_law 970 = .ok (.iadd, 1) := by decide +kernel
theorem dL_law_971 : decode cL_law 971 = .ok (.iaload, 1) := by decide +kernel
theorem dL_law_972 : decode cL_law 972 = .ok (.i2l, 1) := by decide +kernel
theorem dL_law_973 : decode cL_law 973 = .ok (.ldc2_w 45, 3) := by decide +kernel
theorem dL_law_976 : decode cL_law 976 = .ok (.land, 1) := by decide +kernel
theorem dL_law_977 : decode cL_law 977 = .ok (.lor, 1) := by decide +kernel
theorem dL_law_978 : decode cL_law 978 = .ok (.aload_n 0, 1) := by decide +kernel
theorem dL_law_979 : decode cL_law 979 = .ok (.iload_n 3, 1) := by decide +kernel
theorem dL_law_980 : decode cL_law 980 = .ok (.iconst 3, 1) := by decide +kernel
theorem dL_law_981 : decode cL_law 981 = .ok (.iadd, 1) := by decide +kernel
theorem dL_law_982 : decode cL_law 982 = .ok (.iaload, 1) := by decide +kernel
theorem dL_law_983 : decode cL_law 983 = .ok (.i2l, 1) := by decide +kernel
theorem dL_law_984 : decode cL_law 984 = .ok (.bipush 32, 2) := by decide +kernel
theorem dL_law_986 : decode cL_law 986 = .ok (.lshl, 1) := by decide +kernel
theorem dL_law_987 : decode cL_law 987 = .ok (.aload_n 0, 1) := by decide +kernel
theorem dL_law_988 : decode cL_law 988 = .ok (.iload_n 3, 1) := by decide +kernel
theorem dL_law_989 : decode cL_law 989 = .ok (.iconst 4, 1) := by decide +kernel
theorem dL_law_990 : decode cL_law 990 = .ok (.iadd, 1) := by decide +kernel
theorem dL_law_991 : decode cL_law 991 = .ok (.iaload, 1) := by decide +kernel
theorem dL_law_992 : decode cL_law 992 = .ok (.i2l, 1) := by decide +kernel
theorem dL_law_993 : decode cL_law 993 = .ok (.ldc2_w 45, 3) := by decide +kernel
theorem dL_law_996 : decode cL_law 996 = .ok (.land, 1) := by decide +kernel
theorem dL_law_997 : decode cL_law 997 = .ok (.lor, 1) := by decide +kernel
theorem dL_law_998 : decode cL_law 998 = .ok (.invokevirtual 103, 3) := by decide +kernel
theorem dL_law_1001 : decode cL_law 1001 = .ok (.lcmp, 1) := by decide +kernel
theorem dL_law_1002 : decode cL_law 1002 = .ok (.ifCond .eq 778, 3) := by decide +kernel
theorem dL_law_1005 : decode cL_law 1005 = .ok (.iconst 0, 1) := by decide +kernel
theorem dL_law_1006 : decode cL_law 1006 = .ok (.ireturn, 1) := by decide +kernel
theorem dL_law_1007 : decode cL_law 1007 = .ok (.aload_n 1, 1) := by decide +kernel
theorem dL_law_1008 : decode cL_law 1008 = .ok (.aload_n 0, 1) := by decide +kernel
theorem dL_law_1009 : decode cL_law 1009 = .ok (.iload_n 3, 1) := by decide +kernel
theorem dL_law_1010 : decode cL_law 1010 = .ok (.iconst 1, 1) := by decide +kernel
theorem dL_law_1011 : decode cL_law 1011 = .ok (.iadd, 1) := by decide +kernel
theorem dL_law_1012 : decode cL_law 1012 = .ok (.iaload, 1) := by decide +kernel
theorem dL_law_1013 : decode cL_law 1013 = .ok (.aload_n 0, 1) := by decide +kernel
theorem dL_law_1014 : decode cL_law 1014 = .ok (.iload_n 3, 1) := by decide +kernel
theorem dL_law_1015 : decode cL_law 1015 = .ok (.iconst 2, 1) := by decide +kernel
theorem dL_law_1016 : decode cL_law 1016 = .ok (.iadd, 1) := by decide +kernel
theorem dL_law_1017 : decode cL_law 1017 = .ok (.iaload, 1) := by decide +kernel
theorem dL_law_1018 : decode cL_law 1018 = .ok (.i2l, 1) := by decide +kernel
theorem dL_law_1019 : decode cL_law 1019 = .ok (.bipush 32, 2) := by decide +kernel
theorem dL_law_1021 : decode cL_law 1021 = .ok (.lshl, 1) := by decide +kernel
theorem dL_law_1022 : decode cL_law 1022 = .ok (.aload_n 0, 1) := by decide +kernel
theorem dL_law_1023 : decode cL_law 1023 = .ok (.iload_n 3, 1) := by decide +kernel
theorem dL_law_1024 : decode cL_law 1024 = .ok (.iconst 3, 1) := by decide +kernel
theorem dL_law_1025 : decode cL_law 1025 = .ok (.iadd, 1) := by decide +kernel
theorem dL_law_1026 : decode cL_law 1026 = .ok (.iaload, 1) := by decide +kernel
theorem dL_law_1027 : decode cL_law 1027 = .ok (.i2l, 1) := by decide +kernel
theorem dL_law_1028 : decode cL_law 1028 = .ok (.ldc2_w 45, 3) := by decide +kernel
theorem dL_law_1031 : decode cL_law 1031 = .ok (.land, 1) := by decide +kernel
theorem dL_law_1032 : decode cL_law 1032 = .ok (.lor, 1) := by decide +kernel
theorem dL_law_1033 : decode cL_law 1033 = .ok (.invokevirtual 104, 3) := by decide +kernel
theorem dL_law_1036 : decode cL_law 1036 = .ok (.aload_n 2, 1) := by decide +kernel
theorem dL_law_1037 : decode cL_law 1037 = .ok (.aload_n 0, 1) := by decide +kernel
theorem dL_law_1038 : decode cL_law 1038 = .ok (.iload_n 3, 1) := by decide +kernel
theorem dL_law_1039 : decode cL_law 1039 = .ok (.iconst 1, 1) := by decide +kernel
theorem dL_law_1040 : decode cL_law 1040 = .ok (.iadd, 1) := by decide +kernel
theorem dL_law_1041 : decode cL_law 1041 = .ok (.iaload, 1) := by decide +kernel
theorem dL_law_1042 : decode cL_law 1042 = .ok (.aload_n 0, 1) := by decide +kernel
theorem dL_law_1043 : decode cL_law 1043 = .ok (.iload_n 3, 1) := by decide +kernel
theorem dL_law_1044 : decode cL_law 1044 = .ok (.iconst 2, 1) := by decide +kernel
theorem dL_law_1045 : decode cL_law 1045 = .ok (.iadd, 1) := by decide +kernel
theorem dL_law_1046 : decode cL_law 1046 = .ok (.iaload, 1) := by decide +kernel
theorem dL_law_1047 : decode cL_law 1047 = .ok (.i2l, 1) := by decide +kernel
theorem dL_law_1048 : decode cL_law 1048 = .ok (.bipush 32, 2) := by decide +kernel
theorem dL_law_1050 : decode cL_law 1050 = .ok (.lshl, 1) := by decide +kernel
theorem dL_law_1051 : decode cL_law 1051 = .ok (.aload_n 0, 1) := by decide +kernel
theorem dL_law_1052 : decode cL_law 1052 = .ok (.iload_n 3, 1) := by decide +kernel
theorem dL_law_1053 : decode cL_law 1053 = .ok (.iconst 3, 1) := by decide +kernel
theorem dL_law_1054 : decode cL_law 1054 = .ok (.iadd, 1) := by decide +kernel
theorem dL_law_1055 : decode cL_law 1055 = .ok (.iaload, 1) := by decide +kernel
theorem dL_law_1056 : decode cL_law 1056 = .ok (.i2l, 1) := by decide +kernel
theorem dL_law_1057 : decode cL_law 1057 = .ok (.ldc2_w 45, 3) := by decide +kernel
theorem dL_law_1060 : decode cL_law 1060 = .ok (.land, 1) := by decide +kernel
theorem dL_law_1061 : decode cL_law 1061 = .ok (.lor, 1) := by decide +kernel
theorem dL_law_1062 : decode cL_law 1062 = .ok (.invokevirtual 107, 3) := by decide +kernel
theorem dL_law_1065 : decode cL_law 1065 = .ok (.if_icmp .eq 715, 3) := by decide +kernel
theorem dL_law_1068 : decode cL_law 1068 = .ok (.iconst 0, 1) := by decide +kernel
theorem dL_law_1069 : decode cL_law 1069 = .ok (.ireturn, 1) := by decide +kernel
theorem dL_law_1070 : decode cL_law 1070 = .ok (.aload_n 1, 1) := by decide +kernel
theorem dL_law_1071 : decode cL_law 1071 = .ok (.aload_n 0, 1) := by decide +kernel
theorem dL_law_1072 : decode cL_law 1072 = .ok (.iload_n 3, 1) := by decide +kernel
theorem dL_law_1073 : decode cL_law 1073 = .ok (.iconst 1, 1) := by decide +kernel
theorem dL_law_1074 : decode cL_law 1074 = .ok (.iadd, 1) := by decide +kernel
theorem dL_law_1075 : decode cL_law 1075 = .ok (.iaload, 1) := by decide +kernel
theorem dL_law_1076 : decode cL_law 1076 = .ok (.aload_n 0, 1) := by decide +kernel
theorem dL_law_1077 : decode cL_law 1077 = .ok (.iload_n 3, 1) := by decide +kernel
theorem dL_law_1078 : decode cL_law 1078 = .ok (.iconst 2, 1) := by decide +kernel
theorem dL_law_1079 : decode cL_law 1079 = .ok (.iadd, 1) := by decide +kernel
theorem dL_law_1080 : decode cL_law 1080 = .ok (.iaload, 1) := by decide +kernel
theorem dL_law_1081 : decode cL_law 1081 = .ok (.i2l, 1) := by decide +kernel
theorem dL_law_1082 : decode cL_law 1082 = .ok (.bipush 32, 2) := by decide +kernel
theorem dL_law_1084 : decode cL_law 1084 = .ok (.lshl, 1) := by decide +kernel
theorem dL_law_1085 : decode cL_law 1085 = .ok (.aload_n 0, 1) := by decide +kernel
theorem dL_law_1086 : decode cL_law 1086 = .ok (.iload_n 3, 1) := by decide +kernel
theorem dL_law_1087 : decode cL_law 1087 = .ok (.iconst 3, 1) := by decide +kernel
theorem dL_law_1088 : decode cL_law 1088 = .ok (.iadd, 1) := by decide +kernel
theorem dL_law_1089 : decode cL_law 1089 = .ok (.iaload, 1) := by decide +kernel
theorem dL_law_1090 : decode cL_law 1090 = .ok (.i2l, 1) := by decide +kernel
theorem dL_law_1091 : decode cL_law 1091 = .ok (.ldc2_w 45, 3) := by decide +kernel
theorem dL_law_1094 : decode cL_law 1094 = .ok (.land, 1) := by decide +kernel
theorem dL_law_1095 : decode cL_law 1095 = .ok (.lor, 1) := by decide +kernel
theorem dL_law_1096 : decode cL_law 1096 = .ok (.invokevirtual 108, 3) := by decide +kernel
theorem dL_law_1099 : decode cL_law 1099 = .ok (.aload_n 2, 1) := by decide +kernel
theorem dL_law_1100 : decode cL_law 1100 = .ok (.aload_n 0, 1) := by decide +kernel
theorem dL_law_1101 : decode cL_law 1101 = .ok (.iload_n 3, 1) := by decide +kernel
theorem dL_law_1102 : decode cL_law 1102 = .ok (.iconst 1, 1) := by decide +kernel
theorem dL_law_1103 : decode cL_law 1103 = .ok (.iadd, 1) := by decide +kernel
theorem dL_law_1104 : decode cL_law 1104 = .ok (.iaload, 1) := by decide +kernel
theorem dL_law_1105 : decode cL_law 1105 = .ok (.aload_n 0, 1) := by decide +kernel
theorem dL_law_1106 : decode cL_law 1106 = .ok (.iload_n 3, 1) := by decide +kernel
theorem dL_law_1107 : decode cL_law 1107 = .ok (.iconst 2, 1) := by decide +kernel
theorem dL_law_1108 : decode cL_law 1108 = .ok (.iadd, 1) := by decide +kernel
theorem dL_law_1109 : decode cL_law 1109 = .ok (.iaload, 1) := by decide +kernel
theorem dL_law_1110 : decode cL_law 1110 = .ok (.i2l, 1) := by decide +kernel
theorem dL_law_1111 : decode cL_law 1111 = .ok (.bipush 32, 2) := by decide +kernel
theorem dL_law_1113 : decode cL_law 1113 = .ok (.lshl, 1) := by decide +kernel
theorem dL_law_1114 : decode cL_law 1114 = .ok (.aload_n 0, 1) := by decide +kernel
theorem dL_law_1115 : decode cL_law 1115 = .ok (.iload_n 3, 1) := by decide +kernel
theorem dL_law_1116 : decode cL_law 1116 = .ok (.iconst 3, 1) := by decide +kernel
theorem dL_law_1117 : decode cL_law 1117 = .ok (.iadd, 1) := by decide +kernel
theorem dL_law_1118 : decode cL_law 1118 = .ok (.iaload, 1) := by decide +kernel
theorem dL_law_1119 : decode cL_law 1119 = .ok (.i2l, 1) := by decide +kernel
theorem dL_law_1120 : decode cL_law 1120 = .ok (.ldc2_w 45, 3) := by decide +kernel
theorem dL_law_1123 : decode cL_law 1123 = .ok (.land, 1) := by decide +kernel
theorem dL_law_1124 : decode cL_law 1124 = .ok (.lor, 1) := by decide +kernel
theorem dL_law_1125 : decode cL_law 1125 = .ok (.invokevirtual 111, 3) := by decide +kernel
theorem dL_law_1128 : decode cL_law 1128 = .ok (.if_icmp .eq 652, 3) := by decide +kernel
theorem dL_law_1131 : decode cL_law 1131 = .ok (.iconst 0, 1) := by decide +kernel
theorem dL_law_1132 : decode cL_law 1132 = .ok (.ireturn, 1) := by decide +kernel
theorem dL_law_1133 : decode cL_law 1133 = .ok (.aload_n 1, 1) := by decide +kernel
theorem dL_law_1134 : decode cL_law 1134 = .ok (.aload_n 0, 1) := by decide +kernel
theorem dL_law_1135 : decode cL_law 1135 = .ok (.iload_n 3, 1) := by decide +kernel
theorem dL_law_1136 : decode cL_law 1136 = .ok (.iconst 1, 1) := by decide +kernel
theorem dL_law_1137 : decode cL_law 1137 = .ok (.iadd, 1) := by decide +kernel
theorem dL_law_1138 : decode cL_law 1138 = .ok (.iaload, 1) := by decide +kernel
theorem dL_law_1139 : decode cL_law 1139 = .ok (.aload_n 0, 1) := by decide +kernel
theorem dL_law_1140 : decode cL_law 1140 = .ok (.iload_n 3, 1) := by decide +kernel
theorem dL_law_1141 : decode cL_law 1141 = .ok (.iconst 2, 1) := by decide +kernel
theorem dL_law_1142 : decode cL_law 1142 = .ok (.iadd, 1) := by decide +kernel
theorem dL_law_1143 : decode cL_law 1143 = .ok (.iaload, 1) := by decide +kernel
theorem dL_law_1144 : decode cL_law 1144 = .ok (.i2l, 1) := by decide +kernel
theorem dL_law_1145 : decode cL_law 1145 = .ok (.bipush 32, 2) := by decide +kernel
theorem dL_law_1147 : decode cL_law 1147 = .ok (.lshl, 1) := by decide +kernel
theorem dL_law_1148 : decode cL_law 1148 = .ok (.aload_n 0, 1) := by decide +kernel
theorem dL_law_1149 : decode cL_law 1149 = .ok (.iload_n 3, 1) := by decide +kernel
theorem dL_law_1150 : decode cL_law 1150 = .ok (.iconst 3, 1) := by decide +kernel
theorem dL_law_1151 : decode cL_law 1151 = .ok (.iadd, 1) := by decide +kernel
theorem dL_law_1152 : decode cL_law 1152 = .ok (.iaload, 1) := by decide +kernel
theorem dL_law_1153 : decode cL_law 1153 = .ok (.i2l, 1) := by decide +kernel
theorem dL_law_1154 : decode cL_law 1154 = .ok (.ldc2_w 45, 3) := by decide +kernel
theorem dL_law_1157 : decode cL_law 1157 = .ok (.land, 1) := by decide +kernel
theorem dL_law_1158 : decode cL_law 1158 = .ok (.lor, 1) := by decide +kernel
theorem dL_law_1159 : decode cL_law 1159 = .ok (.invokevirtual 112, 3) := by decide +kernel
theorem dL_law_1162 : decode cL_law 1162 = .ok (.aload_n 2, 1) := by decide +kernel
theorem dL_law_1163 : decode cL_law 1163 = .ok (.aload_n 0, 1) := by decide +kernel
theorem dL_law_1164 : decode cL_law 1164 = .ok (.iload_n 3, 1) := by decide +kernel
theorem dL_law_1165 : decode cL_law 1165 = .ok (.iconst 1, 1) := by decide +kernel
theorem dL_law_1166 : decode cL_law 1166 = .ok (.iadd, 1) := by decide +kernel
theorem dL_law_1167 : decode cL_law 1167 = .ok (.iaload, 1) := by decide +kernel
theorem dL_law_1168 : decode cL_law 1168 = .ok (.aload_n 0, 1) := by decide +kernel
theorem dL_law_1169 : decode cL_law 1169 = .ok (.iload_n 3, 1) := by decide +kernel
theorem dL_law_1170 : decode cL_law 1170 = .ok (.iconst 2, 1) := by decide +kernel
theorem dL_law_1171 : decode cL_law 1171 = .ok (.iadd, 1) := by decide +kernel
theorem dL_law_1172 : decode cL_law 1172 = .ok (.iaload, 1) := by decide +kernel
theorem dL_law_1173 : decode cL_law 1173 = .ok (.i2l, 1) := by decide +kernel
theorem dL_law_1174 : decode cL_law 1174 = .ok (.bipush 32, 2) := by decide +kernel
theorem dL_law_1176 : decode cL_law 1176 = .ok (.lshl, 1) := by decide +kernel
theorem dL_law_1177 : decode cL_law 1177 = .ok (.aload_n 0, 1) := by decide +kernel
theorem dL_law_1178 : decode cL_law 1178 = .ok (.iload_n 3, 1) := by decide +kernel
theorem dL_law_1179 : decode cL_law 1179 = .ok (.iconst 3, 1) := by decide +kernel
theorem dL_law_1180 : decode cL_law 1180 = .ok (.iadd, 1) := by decide +kernel
theorem dL_law_1181 : decode cL_law 1181 = .ok (.iaload, 1) := by decide +kernel
theorem dL_law_1182 : decode cL_law 1182 = .ok (.i2l, 1) := by decide +kernel
theorem dL_law_1183 : decode cL_law 1183 = .ok (.ldc2_w 45, 3) := by decide +kernel
theorem dL_law_1186 : decode cL_law 1186 = .ok (.land, 1) := by decide +kernel
theorem dL_law_1187 : decode cL_law 1187 = .ok (.lor, 1) := by decide +kernel
theorem dL_law_1188 : decode cL_law 1188 = .ok (.invokevirtual 115, 3) := by decide +kernel
theorem dL_law_1191 : decode cL_law 1191 = .ok (.if_icmp .eq 589, 3) := by decide +kernel
theorem dL_law_1194 : decode cL_law 1194 = .ok (.iconst 0, 1) := by decide +kernel
theorem dL_law_1195 : decode cL_law 1195 = .ok (.ireturn, 1) := by decide +kernel
theorem dL_law_1196 : decode cL_law 1196 = .ok (.aload_n 1, 1) := by decide +kernel
theorem dL_law_1197 : decode cL_law 1197 = .ok (.aload_n 0, 1) := by decide +kernel
theorem dL_law_1198 : decode cL_law 1198 = .ok (.iload_n 3, 1) := by decide +kernel
theorem dL_law_1199 : decode cL_law 1199 = .ok (.iconst 1, 1) := by decide +kernel
theorem dL_law_1200 : decode cL_law 1200 = .ok (.iadd, 1) := by decide +kernel
theorem dL_law_1201 : decode cL_law 1201 = .ok (.iaload, 1) := by decide +kernel
theorem dL_law_1202 : decode cL_law 1202 = .ok (.aload_n 0, 1) := by decide +kernel
theorem dL_law_1203 : decode cL_law 1203 = .ok (.iload_n 3, 1) := by decide +kernel
theorem dL_law_1204 : decode cL_law 1204 = .ok (.iconst 2, 1) := by decide +kernel
theorem dL_law_1205 : decode cL_law 1205 = .ok (.iadd, 1) := by decide +kernel
theorem dL_law_1206 : decode cL_law 1206 = .ok (.iaload, 1) := by decide +kernel
theorem dL_law_1207 : decode cL_law 1207 = .ok (.aload_n 0, 1) := by decide +kernel
theorem dL_law_1208 : decode cL_law 1208 = .ok (.iload_n 3, 1) := by decide +kernel
theorem dL_law_1209 : decode cL_law 1209 = .ok (.iconst 3, 1) := by decide +kernel
theorem dL_law_1210 : decode cL_law 1210 = .ok (.iadd, 1) := by decide +kernel
theorem dL_law_1211 : decode cL_law 1211 = .ok (.iaload, 1) := by decide +kernel
theorem dL_law_1212 : decode cL_law 1212 = .ok (.i2l, 1) := by decide +kernel
theorem dL_law_1213 : decode cL_law 1213 = .ok (.bipush 32, 2) := by decide +kernel
theorem dL_law_1215 : decode cL_law 1215 = .ok (.lshl, 1) := by decide +kernel
theorem dL_law_1216 : decode cL_law 1216 = .ok (.aload_n 0, 1) := by decide +kernel
theorem dL_law_1217 : decode cL_law 1217 = .ok (.iload_n 3, 1) := by decide +kernel
theorem dL_law_1218 : decode cL_law 1218 = .ok (.iconst 4, 1) := by decide +kernel
theorem dL_law_1219 : decode cL_law 1219 = .ok (.iadd, 1) := by decide +kernel
theorem dL_law_1220 : decode cL_law 1220 = .ok (.iaload, 1) := by decide +kernel
theorem dL_law_1221 : decode cL_law 1221 = .ok (.i2l, 1) := by decide +kernel
end
section
theorem dL_law_1222 : decode cL_law 1222 = .ok (.ldc2_w 45, 3) := by decide +kernel
theorem dL_law_1225 : decode cL_law 1225 = .ok (.land, 1) := by decide +kernel
theorem dL_law_1226 : decode cL_law 1226 = .ok (.lor, 1) := by decide +kernel
theorem dL_law_1227 : decode cL_law 1227 = .ok (.invokevirtual 116, 3) := by decide +kernel
theorem dL_law_1230 : decode cL_law 1230 = .ok (.aload_n 2, 1) := by decide +kernel
theorem dL_law_1231 : decode cL_law 1231 = .ok (.aload_n 0, 1) := by decide +kernel
theorem dL_law_1232 : decode cL_law 1232 = .ok (.iload_n 3, 1) := by decide +kernel
theorem dL_law_1233 : decode cL_law 1233 = .ok (.iconst 1, 1) := by decide +kernel
theorem dL_law_1234 : decode cL_law 1234 = .ok (.iadd, 1) := by decide +kernel
theorem dL_law_1235 : decode cL_law 1235 = .ok (.iaload, 1) := by decide +kernel
theorem dL_law_1236 : decode cL_law 1236 = .ok (.aload_n 0, 1) := by decide +kernel
theorem dL_law_1237 : decode cL_law 1237 = .ok (.iload_n 3, 1) := by decide +kernel
theorem dL_law_1238 : decode cL_law 1238 = .ok (.iconst 2, 1) := by decide +kernel
theorem dL_law_1239 : decode cL_law 1239 = .ok (.iadd, 1) := by decide +kernel
theorem dL_law_1240 : decode cL_law 1240 = .ok (.iaload, 1) := by decide +kernel
theorem dL_law_1241 : decode cL_law 1241 = .ok (.aload_n 0, 1) := by decide +kernel
theorem dL_law_1242 : decode cL_law 1242 = .ok (.iload_n 3, 1) := by decide +kernel
theorem dL_law_1243 : decode cL_law 1243 = .ok (.iconst 3, 1) := by decide +kernel
theorem dL_law_1244 : decode cL_law 1244 = .ok (.iadd, 1) := by decide +kernel
theorem dL_law_1245 : decode cL_law 1245 = .ok (.iaload, 1) := by decide +kernel
theorem dL_law_1246 : decode cL_law 1246 = .ok (.i2l, 1) := by decide +kernel
theorem dL_law_1247 : decode cL_law 1247 = .ok (.bipush 32, 2) := by decide +kernel
theorem dL_law_1249 : decode cL_law 1249 = .ok (.lshl, 1) := by decide +kernel
theorem dL_law_1250 : decode cL_law 1250 = .ok (.aload_n 0, 1) := by decide +kernel
theorem dL_law_1251 : decode cL_law 1251 = .ok (.iload_n 3, 1) := by decide +kernel
theorem dL_law_1252 : decode cL_law 1252 = .ok (.iconst 4, 1) := by decide +kernel
theorem dL_law_1253 : decode cL_law 1253 = .ok (.iadd, 1) := by decide +kernel
theorem dL_law_1254 : decode cL_law 1254 = .ok (.iaload, 1) := by decide +kernel
theorem dL_law_1255 : decode cL_law 1255 = .ok (.i2l, 1) := by decide +kernel
theorem dL_law_1256 : decode cL_law 1256 = .ok (.ldc2_w 45, 3) := by decide +kernel
theorem dL_law_1259 : decode cL_law 1259 = .ok (.land, 1) := by decide +kernel
theorem dL_law_1260 : decode cL_law 1260 = .ok (.lor, 1) := by decide +kernel
theorem dL_law_1261 : decode cL_law 1261 = .ok (.invokevirtual 120, 3) := by decide +kernel
theorem dL_law_1264 : decode cL_law 1264 = .ok (.if_icmp .eq 516, 3) := by decide +kernel
theorem dL_law_1267 : decode cL_law 1267 = .ok (.iconst 0, 1) := by decide +kernel
theorem dL_law_1268 : decode cL_law 1268 = .ok (.ireturn, 1) := by decide +kernel
theorem dL_law_1269 : decode cL_law 1269 = .ok (.aload_n 1, 1) := by decide +kernel
theorem dL_law_1270 : decode cL_law 1270 = .ok (.aload_n 0, 1) := by decide +kernel
theorem dL_law_1271 : decode cL_law 1271 = .ok (.iload_n 3, 1) := by decide +kernel
theorem dL_law_1272 : decode cL_law 1272 = .ok (.iconst 1, 1) := by decide +kernel
theorem dL_law_1273 : decode cL_law 1273 = .ok (.iadd, 1) := by decide +kernel
theorem dL_law_1274 : decode cL_law 1274 = .ok (.iaload, 1) := by decide +kernel
theorem dL_law_1275 : decode cL_law 1275 = .ok (.aload_n 0, 1) := by decide +kernel
theorem dL_law_1276 : decode cL_law 1276 = .ok (.iload_n 3, 1) := by decide +kernel
theorem dL_law_1277 : decode cL_law 1277 = .ok (.iconst 2, 1) := by decide +kernel
theorem dL_law_1278 : decode cL_law 1278 = .ok (.iadd, 1) := by decide +kernel
theorem dL_law_1279 : decode cL_law 1279 = .ok (.iaload, 1) := by decide +kernel
theorem dL_law_1280 : decode cL_law 1280 = .ok (.invokevirtual 121, 3) := by decide +kernel
theorem dL_law_1283 : decode cL_law 1283 = .ok (.aload_n 2, 1) := by decide +kernel
theorem dL_law_1284 : decode cL_law 1284 = .ok (.aload_n 0, 1) := by decide +kernel
theorem dL_law_1285 : decode cL_law 1285 = .ok (.iload_n 3, 1) := by decide +kernel
theorem dL_law_1286 : decode cL_law 1286 = .ok (.iconst 1, 1) := by decide +kernel
theorem dL_law_1287 : decode cL_law 1287 = .ok (.iadd, 1) := by decide +kernel
theorem dL_law_1288 : decode cL_law 1288 = .ok (.iaload, 1) := by decide +kernel
theorem dL_law_1289 : decode cL_law 1289 = .ok (.aload_n 0, 1) := by decide +kernel
theorem dL_law_1290 : decode cL_law 1290 = .ok (.iload_n 3, 1) := by decide +kernel
theorem dL_law_1291 : decode cL_law 1291 = .ok (.iconst 2, 1) := by decide +kernel
theorem dL_law_1292 : decode cL_law 1292 = .ok (.iadd, 1) := by decide +kernel
theorem dL_law_1293 : decode cL_law 1293 = .ok (.iaload, 1) := by decide +kernel
theorem dL_law_1294 : decode cL_law 1294 = .ok (.invokevirtual 124, 3) := by decide +kernel
theorem dL_law_1297 : decode cL_law 1297 = .ok (.if_icmp .eq 483, 3) := by decide +kernel
theorem dL_law_1300 : decode cL_law 1300 = .ok (.iconst 0, 1) := by decide +kernel
theorem dL_law_1301 : decode cL_law 1301 = .ok (.ireturn, 1) := by decide +kernel
theorem dL_law_1302 : decode cL_law 1302 = .ok (.aload_n 1, 1) := by decide +kernel
theorem dL_law_1303 : decode cL_law 1303 = .ok (.aload_n 0, 1) := by decide +kernel
theorem dL_law_1304 : decode cL_law 1304 = .ok (.iload_n 3, 1) := by decide +kernel
theorem dL_law_1305 : decode cL_law 1305 = .ok (.iconst 1, 1) := by decide +kernel
theorem dL_law_1306 : decode cL_law 1306 = .ok (.iadd, 1) := by decide +kernel
theorem dL_law_1307 : decode cL_law 1307 = .ok (.iaload, 1) := by decide +kernel
theorem dL_law_1308 : decode cL_law 1308 = .ok (.aload_n 0, 1) := by decide +kernel
theorem dL_law_1309 : decode cL_law 1309 = .ok (.iload_n 3, 1) := by decide +kernel
theorem dL_law_1310 : decode cL_law 1310 = .ok (.iconst 2, 1) := by decide +kernel
theorem dL_law_1311 : decode cL_law 1311 = .ok (.iadd, 1) := by decide +kernel
theorem dL_law_1312 : decode cL_law 1312 = .ok (.iaload, 1) := by decide +kernel
theorem dL_law_1313 : decode cL_law 1313 = .ok (.invokevirtual 125, 3) := by decide +kernel
theorem dL_law_1316 : decode cL_law 1316 = .ok (.aload_n 2, 1) := by decide +kernel
theorem dL_law_1317 : decode cL_law 1317 = .ok (.aload_n 0, 1) := by decide +kernel
theorem dL_law_1318 : decode cL_law 1318 = .ok (.iload_n 3, 1) := by decide +kernel
theorem dL_law_1319 : decode cL_law 1319 = .ok (.iconst 1, 1) := by decide +kernel
theorem dL_law_1320 : decode cL_law 1320 = .ok (.iadd, 1) := by decide +kernel
theorem dL_law_1321 : decode cL_law 1321 = .ok (.iaload, 1) := by decide +kernel
theorem dL_law_1322 : decode cL_law 1322 = .ok (.aload_n 0, 1) := by decide +kernel
theorem dL_law_1323 : decode cL_law 1323 = .ok (.iload_n 3, 1) := by decide +kernel
theorem dL_law_1324 : decode cL_law 1324 = .ok (.iconst 2, 1) := by decide +kernel
theorem dL_law_1325 : decode cL_law 1325 = .ok (.iadd, 1) := by decide +kernel
theorem dL_law_1326 : decode cL_law 1326 = .ok (.iaload, 1) := by decide +kernel
theorem dL_law_1327 : decode cL_law 1327 = .ok (.invokevirtual 128, 3) := by decide +kernel
theorem dL_law_1330 : decode cL_law 1330 = .ok (.if_icmp .eq 450, 3) := by decide +kernel
theorem dL_law_1333 : decode cL_law 1333 = .ok (.iconst 0, 1) := by decide +kernel
theorem dL_law_1334 : decode cL_law 1334 = .ok (.ireturn, 1) := by decide +kernel
theorem dL_law_1335 : decode cL_law 1335 = .ok (.aload_n 1, 1) := by decide +kernel
theorem dL_law_1336 : decode cL_law 1336 = .ok (.aload_n 0, 1) := by decide +kernel
theorem dL_law_1337 : decode cL_law 1337 = .ok (.iload_n 3, 1) := by decide +kernel
theorem dL_law_1338 : decode cL_law 1338 = .ok (.iconst 1, 1) := by decide +kernel
theorem dL_law_1339 : decode cL_law 1339 = .ok (.iadd, 1) := by decide +kernel
theorem dL_law_1340 : decode cL_law 1340 = .ok (.iaload, 1) := by decide +kernel
theorem dL_law_1341 : decode cL_law 1341 = .ok (.aload_n 0, 1) := by decide +kernel
theorem dL_law_1342 : decode cL_law 1342 = .ok (.iload_n 3, 1) := by decide +kernel
theorem dL_law_1343 : decode cL_law 1343 = .ok (.iconst 2, 1) := by decide +kernel
theorem dL_law_1344 : decode cL_law 1344 = .ok (.iadd, 1) := by decide +kernel
theorem dL_law_1345 : decode cL_law 1345 = .ok (.iaload, 1) := by decide +kernel
theorem dL_law_1346 : decode cL_law 1346 = .ok (.invokevirtual 129, 3) := by decide +kernel
theorem dL_law_1349 : decode cL_law 1349 = .ok (.aload_n 2, 1) := by decide +kernel
theorem dL_law_1350 : decode cL_law 1350 = .ok (.aload_n 0, 1) := by decide +kernel
theorem dL_law_1351 : decode cL_law 1351 = .ok (.iload_n 3, 1) := by decide +kernel
theorem dL_law_1352 : decode cL_law 1352 = .ok (.iconst 1, 1) := by decide +kernel
theorem dL_law_1353 : decode cL_law 1353 = .ok (.iadd, 1) := by decide +kernel
theorem dL_law_1354 : decode cL_law 1354 = .ok (.iaload, 1) := by decide +kernel
theorem dL_law_1355 : decode cL_law 1355 = .ok (.aload_n 0, 1) := by decide +kernel
theorem dL_law_1356 : decode cL_law 1356 = .ok (.iload_n 3, 1) := by decide +kernel
theorem dL_law_1357 : decode cL_law 1357 = .ok (.iconst 2, 1) := by decide +kernel
theorem dL_law_1358 : decode cL_law 1358 = .ok (.iadd, 1) := by decide +kernel
theorem dL_law_1359 : decode cL_law 1359 = .ok (.iaload, 1) := by decide +kernel
theorem dL_law_1360 : decode cL_law 1360 = .ok (.invokevirtual 132, 3) := by decide +kernel
theorem dL_law_1363 : decode cL_law 1363 = .ok (.if_icmp .eq 417, 3) := by decide +kernel
theorem dL_law_1366 : decode cL_law 1366 = .ok (.iconst 0, 1) := by decide +kernel
theorem dL_law_1367 : decode cL_law 1367 = .ok (.ireturn, 1) := by decide +kernel
theorem dL_law_1368 : decode cL_law 1368 = .ok (.aload_n 1, 1) := by decide +kernel
theorem dL_law_1369 : decode cL_law 1369 = .ok (.aload_n 0, 1) := by decide +kernel
theorem dL_law_1370 : decode cL_law 1370 = .ok (.iload_n 3, 1) := by decide +kernel
theorem dL_law_1371 : decode cL_law 1371 = .ok (.iconst 1, 1) := by decide +kernel
theorem dL_law_1372 : decode cL_law 1372 = .ok (.iadd, 1) := by decide +kernel
theorem dL_law_1373 : decode cL_law 1373 = .ok (.iaload, 1) := by decide +kernel
theorem dL_law_1374 : decode cL_law 1374 = .ok (.aload_n 0, 1) := by decide +kernel
theorem dL_law_1375 : decode cL_law 1375 = .ok (.iload_n 3, 1) := by decide +kernel
theorem dL_law_1376 : decode cL_law 1376 = .ok (.iconst 2, 1) := by decide +kernel
theorem dL_law_1377 : decode cL_law 1377 = .ok (.iadd, 1) := by decide +kernel
theorem dL_law_1378 : decode cL_law 1378 = .ok (.iaload, 1) := by decide +kernel
theorem dL_law_1379 : decode cL_law 1379 = .ok (.invokevirtual 133, 3) := by decide +kernel
theorem dL_law_1382 : decode cL_law 1382 = .ok (.aload_n 2, 1) := by decide +kernel
theorem dL_law_1383 : decode cL_law 1383 = .ok (.aload_n 0, 1) := by decide +kernel
theorem dL_law_1384 : decode cL_law 1384 = .ok (.iload_n 3, 1) := by decide +kernel
theorem dL_law_1385 : decode cL_law 1385 = .ok (.iconst 1, 1) := by decide +kernel
theorem dL_law_1386 : decode cL_law 1386 = .ok (.iadd, 1) := by decide +kernel
theorem dL_law_1387 : decode cL_law 1387 = .ok (.iaload, 1) := by decide +kernel
theorem dL_law_1388 : decode cL_law 1388 = .ok (.aload_n 0, 1) := by decide +kernel
theorem dL_law_1389 : decode cL_law 1389 = .ok (.iload_n 3, 1) := by decide +kernel
theorem dL_law_1390 : decode cL_law 1390 = .ok (.iconst 2, 1) := by decide +kernel
theorem dL_law_1391 : decode cL_law 1391 = .ok (.iadd, 1) := by decide +kernel
theorem dL_law_1392 : decode cL_law 1392 = .ok (.iaload, 1) := by decide +kernel
theorem dL_law_1393 : decode cL_law 1393 = .ok (.invokevirtual 137, 3) := by decide +kernel
theorem dL_law_1396 : decode cL_law 1396 = .ok (.lcmp, 1) := by decide +kernel
theorem dL_law_1397 : decode cL_law 1397 = .ok (.ifCond .eq 383, 3) := by decide +kernel
theorem dL_law_1400 : decode cL_law 1400 = .ok (.iconst 0, 1) := by decide +kernel
theorem dL_law_1401 : decode cL_law 1401 = .ok (.ireturn, 1) := by decide +kernel
theorem dL_law_1402 : decode cL_law 1402 = .ok (.aload_n 1, 1) := by decide +kernel
theorem dL_law_1403 : decode cL_law 1403 = .ok (.aload_n 0, 1) := by decide +kernel
theorem dL_law_1404 : decode cL_law 1404 = .ok (.iload_n 3, 1) := by decide +kernel
theorem dL_law_1405 : decode cL_law 1405 = .ok (.iconst 1, 1) := by decide +kernel
theorem dL_law_1406 : decode cL_law 1406 = .ok (.iadd, 1) := by decide +kernel
theorem dL_law_1407 : decode cL_law 1407 = .ok (.iaload, 1) := by decide +kernel
theorem dL_law_1408 : decode cL_law 1408 = .ok (.aload_n 0, 1) := by decide +kernel
theorem dL_law_1409 : decode cL_law 1409 = .ok (.iload_n 3, 1) := by decide +kernel
theorem dL_law_1410 : decode cL_law 1410 = .ok (.iconst 2, 1) := by decide +kernel
theorem dL_law_1411 : decode cL_law 1411 = .ok (.iadd, 1) := by decide +kernel
theorem dL_law_1412 : decode cL_law 1412 = .ok (.iaload, 1) := by decide +kernel
theorem dL_law_1413 : decode cL_law 1413 = .ok (.invokevirtual 138, 3) := by decide +kernel
theorem dL_law_1416 : decode cL_law 1416 = .ok (.aload_n 2, 1) := by decide +kernel
theorem dL_law_1417 : decode cL_law 1417 = .ok (.aload_n 0, 1) := by decide +kernel
theorem dL_law_1418 : decode cL_law 1418 = .ok (.iload_n 3, 1) := by decide +kernel
theorem dL_law_1419 : decode cL_law 1419 = .ok (.iconst 1, 1) := by decide +kernel
theorem dL_law_1420 : decode cL_law 1420 = .ok (.iadd, 1) := by decide +kernel
theorem dL_law_1421 : decode cL_law 1421 = .ok (.iaload, 1) := by decide +kernel
theorem dL_law_1422 : decode cL_law 1422 = .ok (.aload_n 0, 1) := by decide +kernel
theorem dL_law_1423 : decode cL_law 1423 = .ok (.iload_n 3, 1) := by decide +kernel
theorem dL_law_1424 : decode cL_law 1424 = .ok (.iconst 2, 1) := by decide +kernel
theorem dL_law_1425 : decode cL_law 1425 = .ok (.iadd, 1) := by decide +kernel
theorem dL_law_1426 : decode cL_law 1426 = .ok (.iaload, 1) := by decide +kernel
theorem dL_law_1427 : decode cL_law 1427 = .ok (.invokevirtual 141, 3) := by decide +kernel
theorem dL_law_1430 : decode cL_law 1430 = .ok (.if_icmp .eq 350, 3) := by decide +kernel
theorem dL_law_1433 : decode cL_law 1433 = .ok (.iconst 0, 1) := by decide +kernel
theorem dL_law_1434 : decode cL_law 1434 = .ok (.ireturn, 1) := by decide +kernel
theorem dL_law_1435 : decode cL_law 1435 = .ok (.aload_n 1, 1) := by decide +kernel
theorem dL_law_1436 : decode cL_law 1436 = .ok (.invokevirtual 142, 3) := by decide +kernel
theorem dL_law_1439 : decode cL_law 1439 = .ok (.aload_n 2, 1) := by decide +kernel
theorem dL_law_1440 : decode cL_law 1440 = .ok (.invokevirtual 145, 3) := by decide +kernel
theorem dL_law_1443 : decode cL_law 1443 = .ok (.if_icmp .eq 337, 3) := by decide +kernel
theorem dL_law_1446 : decode cL_law 1446 = .ok (.iconst 0, 1) := by decide +kernel
theorem dL_law_1447 : decode cL_law 1447 = .ok (.ireturn, 1) := by decide +kernel
theorem dL_law_1448 : decode cL_law 1448 = .ok (.aload_n 1, 1) := by decide +kernel
theorem dL_law_1449 : decode cL_law 1449 = .ok (.aload_n 0, 1) := by decide +kernel
theorem dL_law_1450 : decode cL_law 1450 = .ok (.iload_n 3, 1) := by decide +kernel
theorem dL_law_1451 : decode cL_law 1451 = .ok (.iconst 1, 1) := by decide +kernel
theorem dL_law_1452 : decode cL_law 1452 = .ok (.iadd, 1) := by decide +kernel
theorem dL_law_1453 : decode cL_law 1453 = .ok (.iaload, 1) := by decide +kernel
theorem dL_law_1454 : decode cL_law 1454 = .ok (.aload_n 0, 1) := by decide +kernel
theorem dL_law_1455 : decode cL_law 1455 = .ok (.iload_n 3, 1) := by decide +kernel
theorem dL_law_1456 : decode cL_law 1456 = .ok (.iconst 2, 1) := by decide +kernel
theorem dL_law_1457 : decode cL_law 1457 = .ok (.iadd, 1) := by decide +kernel
theorem dL_law_1458 : decode cL_law 1458 = .ok (.iaload, 1) := by decide +kernel
theorem dL_law_1459 : decode cL_law 1459 = .ok (.invokevirtual 146, 3) := by decide +kernel
theorem dL_law_1462 : decode cL_law 1462 = .ok (.aload_n 2, 1) := by decide +kernel
theorem dL_law_1463 : decode cL_law 1463 = .ok (.aload_n 0, 1) := by decide +kernel
theorem dL_law_1464 : decode cL_law 1464 = .ok (.iload_n 3, 1) := by decide +kernel
theorem dL_law_1465 : decode cL_law 1465 = .ok (.iconst 1, 1) := by decide +kernel
theorem dL_law_1466 : decode cL_law 1466 = .ok (.iadd, 1) := by decide +kernel
theorem dL_law_1467 : decode cL_law 1467 = .ok (.iaload, 1) := by decide +kernel
theorem dL_law_1468 : decode cL_law 1468 = .ok (.aload_n 0, 1) := by decide +kernel
theorem dL_law_1469 : decode cL_law 1469 = .ok (.iload_n 3, 1) := by decide +kernel
theorem dL_law_1470 : decode cL_law 1470 = .ok (.iconst 2, 1) := by decide +kernel
theorem dL_law_1471 : decode cL_law 1471 = .ok (.iadd, 1) := by decide +kernel
theorem dL_law_1472 : decode cL_law 1472 = .ok (.iaload, 1) := by decide +kernel
theorem dL_law_1473 : decode cL_law 1473 = .ok (.invokevirtual 149, 3) := by decide +kernel
theorem dL_law_1476 : decode cL_law 1476 = .ok (.if_icmp .eq 304, 3) := by decide +kernel
theorem dL_law_1479 : decode cL_law 1479 = .ok (.iconst 0, 1) := by decide +kernel
theorem dL_law_1480 : decode cL_law 1480 = .ok (.ireturn, 1) := by decide +kernel
theorem dL_law_1481 : decode cL_law 1481 = .ok (.aload_n 1, 1) := by decide +kernel
theorem dL_law_1482 : decode cL_law 1482 = .ok (.aload_n 0, 1) := by decide +kernel
theorem dL_law_1483 : decode cL_law 1483 = .ok (.iload_n 3, 1) := by decide +kernel
theorem dL_law_1484 : decode cL_law 1484 = .ok (.iconst 1, 1) := by decide +kernel
theorem dL_law_1485 : decode cL_law 1485 = .ok (.iadd, 1) := by decide +kernel
theorem dL_law_1486 : decode cL_law 1486 = .ok (.iaload, 1) := by decide +kernel
theorem dL_law_1487 : decode cL_law 1487 = .ok (.invokevirtual 150, 3) := by decide +kernel
theorem dL_law_1490 : decode cL_law 1490 = .ok (.aload_n 2, 1) := by decide +kernel
theorem dL_law_1491 : decode cL_law 1491 = .ok (.aload_n 0, 1) := by decide +kernel
theorem dL_law_1492 : decode cL_law 1492 = .ok (.iload_n 3, 1) := by decide +kernel
theorem dL_law_1493 : decode cL_law 1493 = .ok (.iconst 1, 1) := by decide +kernel
theorem dL_law_1494 : decode cL_law 1494 = .ok (.iadd, 1) := by decide +kernel
theorem dL_law_1495 : decode cL_law 1495 = .ok (.iaload, 1) := by decide +kernel
theorem dL_law_1496 : decode cL_law 1496 = .ok (.invokevirtual 153, 3) := by decide +kernel
theorem dL_law_1499 : decode cL_law 1499 = .ok (.if_icmp .eq 281, 3) := by decide +kernel
theorem dL_law_1502 : decode cL_law 1502 = .ok (.iconst 0, 1) := by decide +kernel
theorem dL_law_1503 : decode cL_law 1503 = .ok (.ireturn, 1) := by decide +kernel
theorem dL_law_1504 : decode cL_law 1504 = .ok (.aload_n 1, 1) := by decide +kernel
theorem dL_law_1505 : decode cL_law 1505 = .ok (.invokevirtual 154, 3) := by decide +kernel
theorem dL_law_1508 : decode cL_law 1508 = .ok (.aload_n 2, 1) := by decide +kernel
theorem dL_law_1509 : decode cL_law 1509 = .ok (.invokevirtual 157, 3) := by decide +kernel
theorem dL_law_1512 : decode cL_law 1512 = .ok (.if_icmp .eq 268, 3) := by decide +kernel
theorem dL_law_1515 : decode cL_law 1515 = .ok (.iconst 0, 1) := by decide +kernel
theorem dL_law_1516 : decode cL_law 1516 = .ok (.ireturn, 1) := by decide +kernel
theorem dL_law_1517 : decode cL_law 1517 = .ok (.aload_n 1, 1) := by decide +kernel
theorem dL_law_1518 : decode cL_law 1518 = .ok (.aload_n 0, 1) := by decide +kernel
theorem dL_law_1519 : decode cL_law 1519 = .ok (.iload_n 3, 1) := by decide +kernel
theorem dL_law_1520 : decode cL_law 1520 = .ok (.iconst 1, 1) := by decide +kernel
theorem dL_law_1521 : decode cL_law 1521 = .ok (.iadd, 1) := by decide +kernel
theorem dL_law_1522 : decode cL_law 1522 = .ok (.iaload, 1) := by decide +kernel
theorem dL_law_1523 : decode cL_law 1523 = .ok (.aload_n 0, 1) := by decide +kernel
theorem dL_law_1524 : decode cL_law 1524 = .ok (.iload_n 3, 1) := by decide +kernel
theorem dL_law_1525 : decode cL_law 1525 = .ok (.iconst 2, 1) := by decide +kernel
theorem dL_law_1526 : decode cL_law 1526 = .ok (.iadd, 1) := by decide +kernel
theorem dL_law_1527 : decode cL_law 1527 = .ok (.iaload, 1) := by decide +kernel
theorem dL_law_1528 : decode cL_law 1528 = .ok (.aload_n 0, 1) := by decide +kernel
theorem dL_law_1529 : decode cL_law 1529 = .ok (.iload_n 3, 1) := by decide +kernel
theorem dL_law_1530 : decode cL_law 1530 = .ok (.iconst 3, 1) := by decide +kernel
theorem dL_law_1531 : decode cL_law 1531 = .ok (.iadd, 1) := by decide +kernel
theorem dL_law_1532 : decode cL_law 1532 = .ok (.iaload, 1) := by decide +kernel
theorem dL_law_1533 : decode cL_law 1533 = .ok (.aload_n 0, 1) := by decide +kernel
theorem dL_law_1534 : decode cL_law 1534 = .ok (.iload_n 3, 1) := by decide +kernel
theorem dL_law_1535 : decode cL_law 1535 = .ok (.iconst 4, 1) := by decide +kernel
theorem dL_law_1536 : decode cL_law 1536 = .ok (.iadd, 1) := by decide +kernel
theorem dL_law_1537 : decode cL_law 1537 = .ok (.iaload, 1) := by decide +kernel
theorem dL_law_1538 : decode cL_law 1538 = .ok (.invokevirtual 158, 3) := by decide +kernel
theorem dL_law_1541 : decode cL_law 1541 = .ok (.aload_n 2, 1) := by decide +kernel
theorem dL_law_1542 : decode cL_law 1542 = .ok (.aload_n 0, 1) := by decide +kernel
theorem dL_law_1543 : decode cL_law 1543 = .ok (.iload_n 3, 1) := by decide +kernel
theorem dL_law_1544 : decode cL_law 1544 = .ok (.iconst 1, 1) := by decide +kernel
theorem dL_law_1545 : decode cL_law 1545 = .ok (.iadd, 1) := by decide +kernel
theorem dL_law_1546 : decode cL_law 1546 = .ok (.iaload, 1) := by decide +kernel
theorem dL_law_1547 : decode cL_law 1547 = .ok (.aload_n 0, 1) := by decide +kernel
theorem dL_law_1548 : decode cL_law 1548 = .ok (.iload_n 3, 1) := by decide +kernel
theorem dL_law_1549 : decode cL_law 1549 = .ok (.iconst 2, 1) := by decide +kernel
theorem dL_law_1550 : decode cL_law 1550 = .ok (.iadd, 1) := by decide +kernel
theorem dL_law_1551 : decode cL_law 1551 = .ok (.iaload, 1) := by decide +kernel
theorem dL_law_1552 : decode cL_law 1552 = .ok (.aload_n 0, 1) := by decide +kernel
theorem dL_law_1553 : decode cL_law 1553 = .ok (.iload_n 3, 1) := by decide +kernel
theorem dL_law_1554 : decode cL_law 1554 = .ok (.iconst 3, 1) := by decide +kernel
theorem dL_law_1555 : decode cL_law 1555 = .ok (.iadd, 1) := by decide +kernel
theorem dL_law_1556 : decode cL_law 1556 = .ok (.iaload, 1) := by decide +kernel
theorem dL_law_1557 : decode cL_law 1557 = .ok (.aload_n 0, 1) := by decide +kernel
theorem dL_law_1558 : decode cL_law 1558 = .ok (.iload_n 3, 1) := by decide +kernel
theorem dL_law_1559 : decode cL_law 1559 = .ok (.iconst 4, 1) := by decide +kernel
theorem dL_law_1560 : decode cL_law 1560 = .ok (.iadd, 1) := by decide +kernel
theorem dL_law_1561 : decode cL_law 1561 = .ok (.iaload, 1) := by decide +kernel
theorem dL_law_1562 : decode cL_law 1562 = .ok (.invokevirtual 161, 3) := by decide +kernel
theorem dL_law_1565 : decode cL_law 1565 = .ok (.if_icmp .eq 215, 3) := by decide +kernel
theorem dL_law_1568 : decode cL_law 1568 = .ok (.iconst 0, 1) := by decide +kernel
theorem dL_law_1569 : decode cL_law 1569 = .ok (.ireturn, 1) := by decide +kernel
theorem dL_law_1570 : decode cL_law 1570 = .ok (.aload_n 1, 1) := by decide +kernel
theorem dL_law_1571 : decode cL_law 1571 = .ok (.invokevirtual 162, 3) := by decide +kernel
theorem dL_law_1574 : decode cL_law 1574 = .ok (.aload_n 2, 1) := by decide +kernel
theorem dL_law_1575 : decode cL_law 1575 = .ok (.invokevirtual 165, 3) := by decide +kernel
theorem dL_law_1578 : decode cL_law 1578 = .ok (.if_icmp .eq 202, 3) := by decide +kernel
theorem dL_law_1581 : decode cL_law 1581 = .ok (.iconst 0, 1) := by decide +kernel
theorem dL_law_1582 : decode cL_law 1582 = .ok (.ireturn, 1) := by decide +kernel
theorem dL_law_1583 : decode cL_law 1583 = .ok (.aload_n 1, 1) := by decide +kernel
theorem dL_law_1584 : decode cL_law 1584 = .ok (.invokevirtual 166, 3) := by decide +kernel
theorem dL_law_1587 : decode cL_law 1587 = .ok (.aload_n 2, 1) := by decide +kernel
theorem dL_law_1588 : decode cL_law 1588 = .ok (.invokevirtual 169, 3) := by decide +kernel
theorem dL_law_1591 : decode cL_law 1591 = .ok (.if_icmp .eq 189, 3) := by decide +kernel
theorem dL_law_1594 : decode cL_law 1594 = .ok (.iconst 0, 1) := by decide +kernel
theorem dL_law_1595 : decode cL_law 1595 = .ok (.ireturn, 1) := by decide +kernel
theorem dL_law_1596 : decode cL_law 1596 = .ok (.aload_n 1, 1) := by decide +kernel
theorem dL_law_1597 : decode cL_law 1597 = .ok (.invokevirtual 170, 3) := by decide +kernel
theorem dL_law_1600 : decode cL_law 1600 = .ok (.aload_n 2, 1) := by decide +kernel
theorem dL_law_1601 : decode cL_law 1601 = .ok (.invokevirtual 173, 3) := by decide +kernel
theorem dL_law_1604 : decode cL_law 1604 = .ok (.if_icmp .eq 176, 3) := by decide +kernel
theorem dL_law_1607 : decode cL_law 1607 = .ok (.iconst 0, 1) := by decide +kernel
theorem dL_law_1608 : decode cL_law 1608 = .ok (.ireturn, 1) := by decide +kernel
theorem dL_law_1609 : decode cL_law 1609 = .ok (.aload_n 1, 1) := by decide +kernel
theorem dL_law_1610 : decode cL_law 1610 = .ok (.invokevirtual 174, 3) := by decide +kernel
theorem dL_law_1613 : decode cL_law 1613 = .ok (.aload_n 2, 1) := by decide +kernel
theorem dL_law_1614 : decode cL_law 1614 = .ok (.invokevirtual 177, 3) := by decide +kernel
theorem dL_law_1617 : decode cL_law 1617 = .ok (.if_icmp .eq 163, 3) := by decide +kernel
theorem dL_law_1620 : decode cL_law 1620 = .ok (.iconst 0, 1) := by decide +kernel
theorem dL_law_1621 : decode cL_law 1621 = .ok (.ireturn, 1) := by decide +kernel
theorem dL_law_1622 : decode cL_law 1622 = .ok (.aload_n 1, 1) := by decide +kernel
theorem dL_law_1623 : decode cL_law 1623 = .ok (.aload_n 0, 1) := by decide +kernel
theorem dL_law_1624 : decode cL_law 1624 = .ok (.iload_n 3, 1) := by decide +kernel
theorem dL_law_1625 : decode cL_law 1625 = .ok (.iconst 1, 1) := by decide +kernel
theorem dL_law_1626 : decode cL_law 1626 = .ok (.iadd, 1) := by decide +kernel
theorem dL_law_1627 : decode cL_law 1627 = .ok (.iaload, 1) := by decide +kernel
theorem dL_law_1628 : decode cL_law 1628 = .ok (.aload_n 0, 1) := by decide +kernel
theorem dL_law_1629 : decode cL_law 1629 = .ok (.iload_n 3, 1) := by decide +kernel
theorem dL_law_1630 : decode cL_law 1630 = .ok (.iconst 2, 1) := by decide +kernel
theorem dL_law_1631 : decode cL_law 1631 = .ok (.iadd, 1) := by decide +kernel
theorem dL_law_1632 : decode cL_law 1632 = .ok (.iaload, 1) := by decide +kernel
theorem dL_law_1633 : decode cL_law 1633 = .ok (.invokevirtual 178, 3) := by decide +kernel
theorem dL_law_1636 : decode cL_law 1636 = .ok (.aload_n 2, 1) := by decide +kernel
theorem dL_law_1637 : decode cL_law 1637 = .ok (.aload_n 0, 1) := by decide +kernel
theorem dL_law_1638 : decode cL_law 1638 = .ok (.iload_n 3, 1) := by decide +kernel
theorem dL_law_1639 : decode cL_law 1639 = .ok (.iconst 1, 1) := by decide +kernel
theorem dL_law_1640 : decode cL_law 1640 = .ok (.iadd, 1) := by decide +kernel
theorem dL_law_1641 : decode cL_law 1641 = .ok (.iaload, 1) := by decide +kernel
theorem dL_law_1642 : decode cL_law 1642 = .ok (.aload_n 0, 1) := by decide +kernel
theorem dL_law_1643 : decode cL_law 1643 = .ok (.iload_n 3, 1) := by decide +kernel
theorem dL_law_1644 : decode cL_law 1644 = .ok (.iconst 2, 1) := by decide +kernel
theorem dL_law_1645 : decode cL_law 1645 = .ok (.iadd, 1) := by decide +kernel
theorem dL_law_1646 : decode cL_law 1646 = .ok (.iaload, 1) := by decide +kernel
theorem dL_law_1647 : decode cL_law 1647 = .ok (.invokevirtual 181, 3) := by decide +kernel
theorem dL_law_1650 : decode cL_law 1650 = .ok (.if_icmp .eq 130, 3) := by decide +kernel
theorem dL_law_1653 : decode cL_law 1653 = .ok (.iconst 0, 1) := by decide +kernel
theorem dL_law_1654 : decode cL_law 1654 = .ok (.ireturn, 1) := by decide +kernel
theorem dL_law_1655 : decode cL_law 1655 = .ok (.aload_n 1, 1) := by decide +kernel
theorem dL_law_1656 : decode cL_law 1656 = .ok (.aload_n 0, 1) := by decide +kernel
theorem dL_law_1657 : decode cL_law 1657 = .ok (.iload_n 3, 1) := by decide +kernel
theorem dL_law_1658 : decode cL_law 1658 = .ok (.iconst 1, 1) := by decide +kernel
theorem dL_law_1659 : decode cL_law 1659 = .ok (.iadd, 1) := by decide +kernel
theorem dL_law_1660 : decode cL_law 1660 = .ok (.iaload, 1) := by decide +kernel
theorem dL_law_1661 : decode cL_law 1661 = .ok (.aload_n 0, 1) := by decide +kernel
theorem dL_law_1662 : decode cL_law 1662 = .ok (.iload_n 3, 1) := by decide +kernel
theorem dL_law_1663 : decode cL_law 1663 = .ok (.iconst 2, 1) := by decide +kernel
theorem dL_law_1664 : decode cL_law 1664 = .ok (.iadd, 1) := by decide +kernel
theorem dL_law_1665 : decode cL_law 1665 = .ok (.iaload, 1) := by decide +kernel
theorem dL_law_1666 : decode cL_law 1666 = .ok (.invokevirtual 182, 3) := by decide +kernel
theorem dL_law_1669 : decode cL_law 1669 = .ok (.aload_n 2, 1) := by decide +kernel
theorem dL_law_1670 : decode cL_law 1670 = .ok (.aload_n 0, 1) := by decide +kernel
theorem dL_law_1671 : decode cL_law 1671 = .ok (.iload_n 3, 1) := by decide +kernel
theorem dL_law_1672 : decode cL_law 1672 = .ok (.iconst 1, 1) := by decide +kernel
theorem dL_law_1673 : decode cL_law 1673 = .ok (.iadd, 1) := by decide +kernel
theorem dL_law_1674 : decode cL_law 1674 = .ok (.iaload, 1) := by decide +kernel
theorem dL_law_1675 : decode cL_law 1675 = .ok (.aload_n 0, 1) := by decide +kernel
theorem dL_law_1676 : decode cL_law 1676 = .ok (.iload_n 3, 1) := by decide +kernel
theorem dL_law_1677 : decode cL_law 1677 = .ok (.iconst 2, 1) := by decide +kernel
theorem dL_law_1678 : decode cL_law 1678 = .ok (.iadd, 1) := by decide +kernel
theorem dL_law_1679 : decode cL_law 1679 = .ok (.iaload, 1) := by decide +kernel
theorem dL_law_1680 : decode cL_law 1680 = .ok (.invokevirtual 185, 3) := by decide +kernel
theorem dL_law_1683 : decode cL_law 1683 = .ok (.if_icmp .eq 97, 3) := by decide +kernel
theorem dL_law_1686 : decode cL_law 1686 = .ok (.iconst 0, 1) := by decide +kernel
theorem dL_law_1687 : decode cL_law 1687 = .ok (.ireturn, 1) := by decide +kernel
theorem dL_law_1688 : decode cL_law 1688 = .ok (.aload_n 1, 1) := by decide +kernel
theorem dL_law_1689 : decode cL_law 1689 = .ok (.aload_n 0, 1) := by decide +kernel
theorem dL_law_1690 : decode cL_law 1690 = .ok (.iload_n 3, 1) := by decide +kernel
theorem dL_law_1691 : decode cL_law 1691 = .ok (.iconst 1, 1) := by decide +kernel
theorem dL_law_1692 : decode cL_law 1692 = .ok (.iadd, 1) := by decide +kernel
theorem dL_law_1693 : decode cL_law 1693 = .ok (.iaload, 1) := by decide +kernel
theorem dL_law_1694 : decode cL_law 1694 = .ok (.invokevirtual 186, 3) := by decide +kernel
theorem dL_law_1697 : decode cL_law 1697 = .ok (.aload_n 2, 1) := by decide +kernel
theorem dL_law_1698 : decode cL_law 1698 = .ok (.aload_n 0, 1) := by decide +kernel
theorem dL_law_1699 : decode cL_law 1699 = .ok (.iload_n 3, 1) := by decide +kernel
theorem dL_law_1700 : decode cL_law 1700 = .ok (.iconst 1, 1) := by decide +kernel
theorem dL_law_1701 : decode cL_law 1701 = .ok (.iadd, 1) := by decide +kernel
theorem dL_law_1702 : decode cL_law 1702 = .ok (.iaload, 1) := by decide +kernel
theorem dL_law_1703 : decode cL_law 1703 = .ok (.invokevirtual 189, 3) := by decide +kernel
theorem dL_law_1706 : decode cL_law 1706 = .ok (.if_icmp .eq 74, 3) := by decide +kernel
theorem dL_law_1709 : decode cL_law 1709 = .ok (.iconst 0, 1) := by decide +kernel
theorem dL_law_1710 : decode cL_law 1710 = .ok (.ireturn, 1) := by decide +kernel
theorem dL_law_1711 : decode cL_law 1711 = .ok (.aload_n 1, 1) := by decide +kernel
theorem dL_law_1712 : decode cL_law 1712 = .ok (.aload_n 0, 1) := by decide +kernel
theorem dL_law_1713 : decode cL_law 1713 = .ok (.iload_n 3, 1) := by decide +kernel
theorem dL_law_1714 : decode cL_law 1714 = .ok (.iconst 1, 1) := by decide +kernel
theorem dL_law_1715 : decode cL_law 1715 = .ok (.iadd, 1) := by decide +kernel
theorem dL_law_1716 : decode cL_law 1716 = .ok (.iaload, 1) := by decide +kernel
theorem dL_law_1717 : decode cL_law 1717 = .ok (.aload_n 0, 1) := by decide +kernel
theorem dL_law_1718 : decode cL_law 1718 = .ok (.iload_n 3, 1) := by decide +kernel
theorem dL_law_1719 : decode cL_law 1719 = .ok (.iconst 2, 1) := by decide +kernel
theorem dL_law_1720 : decode cL_law 1720 = .ok (.iadd, 1) := by decide +kernel
theorem dL_law_1721 : decode cL_law 1721 = .ok (.iaload, 1) := by decide +kernel
theorem dL_law_1722 : decode cL_law 1722 = .ok (.invokevirtual 190, 3) := by decide +kernel
theorem dL_law_1725 : decode cL_law 1725 = .ok (.aload_n 2, 1) := by decide +kernel
theorem dL_law_1726 : decode cL_law 1726 = .ok (.aload_n 0, 1) := by decide +kernel
theorem dL_law_1727 : decode cL_law 1727 = .ok (.iload_n 3, 1) := by decide +kernel
theorem dL_law_1728 : decode cL_law 1728 = .ok (.iconst 1, 1) := by decide +kernel
theorem dL_law_1729 : decode cL_law 1729 = .ok (.iadd, 1) := by decide +kernel
theorem dL_law_1730 : decode cL_law 1730 = .ok (.iaload, 1) := by decide +kernel
theorem dL_law_1731 : decode cL_law 1731 = .ok (.aload_n 0, 1) := by decide +kernel
theorem dL_law_1732 : decode cL_law 1732 = .ok (.iload_n 3, 1) := by decide +kernel
theorem dL_law_1733 : decode cL_law 1733 = .ok (.iconst 2, 1) := by decide +kernel
theorem dL_law_1734 : decode cL_law 1734 = .ok (.iadd, 1) := by decide +kernel
theorem dL_law_1735 : decode cL_law 1735 = .ok (.iaload, 1) := by decide +kernel
theorem dL_law_1736 : decode cL_law 1736 = .ok (.invokevirtual 193, 3) := by decide +kernel
end
section
theorem dL_law_1739 : decode cL_law 1739 = .ok (.if_icmp .eq 41, 3) := by decide +kernel
theorem dL_law_1742 : decode cL_law 1742 = .ok (.iconst 0, 1) := by decide +kernel
theorem dL_law_1743 : decode cL_law 1743 = .ok (.ireturn, 1) := by decide +kernel
theorem dL_law_1744 : decode cL_law 1744 = .ok (.aload_n 1, 1) := by decide +kernel
theorem dL_law_1745 : decode cL_law 1745 = .ok (.aload_n 0, 1) := by decide +kernel
theorem dL_law_1746 : decode cL_law 1746 = .ok (.iload_n 3, 1) := by decide +kernel
theorem dL_law_1747 : decode cL_law 1747 = .ok (.iconst 1, 1) := by decide +kernel
theorem dL_law_1748 : decode cL_law 1748 = .ok (.iadd, 1) := by decide +kernel
theorem dL_law_1749 : decode cL_law 1749 = .ok (.iaload, 1) := by decide +kernel
theorem dL_law_1750 : decode cL_law 1750 = .ok (.invokevirtual 194, 3) := by decide +kernel
theorem dL_law_1753 : decode cL_law 1753 = .ok (.aload_n 2, 1) := by decide +kernel
theorem dL_law_1754 : decode cL_law 1754 = .ok (.aload_n 0, 1) := by decide +kernel
theorem dL_law_1755 : decode cL_law 1755 = .ok (.iload_n 3, 1) := by decide +kernel
theorem dL_law_1756 : decode cL_law 1756 = .ok (.iconst 1, 1) := by decide +kernel
theorem dL_law_1757 : decode cL_law 1757 = .ok (.iadd, 1) := by decide +kernel
theorem dL_law_1758 : decode cL_law 1758 = .ok (.iaload, 1) := by decide +kernel
theorem dL_law_1759 : decode cL_law 1759 = .ok (.invokevirtual 197, 3) := by decide +kernel
theorem dL_law_1762 : decode cL_law 1762 = .ok (.if_icmp .eq 18, 3) := by decide +kernel
theorem dL_law_1765 : decode cL_law 1765 = .ok (.iconst 0, 1) := by decide +kernel
theorem dL_law_1766 : decode cL_law 1766 = .ok (.ireturn, 1) := by decide +kernel
theorem dL_law_1767 : decode cL_law 1767 = .ok (.aload_n 1, 1) := by decide +kernel
theorem dL_law_1768 : decode cL_law 1768 = .ok (.invokevirtual 198, 3) := by decide +kernel
theorem dL_law_1771 : decode cL_law 1771 = .ok (.aload_n 2, 1) := by decide +kernel
theorem dL_law_1772 : decode cL_law 1772 = .ok (.invokevirtual 201, 3) := by decide +kernel
theorem dL_law_1775 : decode cL_law 1775 = .ok (.if_icmp .eq 5, 3) := by decide +kernel
theorem dL_law_1778 : decode cL_law 1778 = .ok (.iconst 0, 1) := by decide +kernel
theorem dL_law_1779 : decode cL_law 1779 = .ok (.ireturn, 1) := by decide +kernel
theorem dL_law_1780 : decode cL_law 1780 = .ok (.iinc 3 6, 3) := by decide +kernel
theorem dL_law_1783 : decode cL_law 1783 = .ok (.goto (-1765), 3) := by decide +kernel
theorem dL_law_1786 : decode cL_law 1786 = .ok (.iconst 1, 1) := by decide +kernel
theorem dL_law_1787 : decode cL_law 1787 = .ok (.ireturn, 1) := by decide +kernel
end
section
/-! THE JUDGEMENT J: a walk over a pure state, the machine behind it. A state type with what it says of a heap; J: from this pc, these locals, this stack, this state the method comes to its end with the answer r and the state S'. -/
/-- class ids and slots, ids of the array kinds, the statics' cell of the exercises, its slot -/
abbrev JD : Type := va_G × (Nat → ClassId) × Nat × Nat
def jNest : Cond → Bool
  | .fieldLinkNest .. => true
  | .methodLinkNest .. => true
  | _ => false
def tblG : List Cond := lw_tbl.filter goodWord
theorem tg {w : Cond} (h : w ∈ lw_tbl) (g : goodWord w = true) : w ∈ tblG := List.mem_filter.mpr ⟨h, g⟩
theorem tblG_good {w : Cond} (h : w ∈ tblG) : (w.onTables && w.keeps) = true ∨ ∃ ty, w = .arrayClass ty := good_of_word (List.mem_filter.mp h).2
abbrev jTys (D : JD) : List (ClassId × FieldType) := [(D.2.1 0, .int), (D.2.1 1, .long), (D.2.1 2, .boolean), (D.2.1 3, .object RX1), (D.2.1 4, .object RX4), (D.2.1 5, .object RX0)]
def jStat (D : JD) (s : State) : Prop := ∃ (cf : ClassId) (kf : Class) (fi : Nat) (f : Field), s.fieldFound? RX0 "WEIGHTS" "[I" = some (cf, kf, fi, f) ∧ f.isStatic = true ∧ kf.init = .initialized ∧ kf.statics = some D.2.2.1 ∧ f.slot = D.2.2.2
def KD (D : JD) (s : State) : Prop := va_K D.1 vwCl (jTys D) s ∧ (∀ w ∈ lw_tbl, jNest w = true → va_Nw w s) ∧ (va_AO RX1 s ∧ va_AO RX4 s ∧ va_AO RX0 s) ∧ jStat D s
theorem KD.moved {D : JD} {s U : State} (hW : s.WarmedH U.vm) (h : KD D s) : KD D U := by
  obtain ⟨h1, h2, ⟨h3, h4, h5⟩, cf, kf, fi, f, a1, a2, a3, a4, a5⟩ := h
  obtain ⟨k', hi', he⟩ := State.fieldFound?_setVm hW.alike a1
  refine ⟨h1.moved hW.alike, fun w hw hn => ?_, ⟨h3.moved hW.alike, h4.moved hW.alike, h5.moved hW.alike⟩, cf, k', fi, f, hi', a2, by rw [he]; exact a3, by rw [he]; exact a4, a5⟩
  have hz := h2 w hw hn
  cases w <;> first | exact va_Nw.warmF hW hz | exact va_Nw.warmM hW hz | (simp [jNest] at hn)
/-- rep, free, cells so far, slots so far, kinds, lengths -/
abbrev RT (σ : Type) : Type := (JD → σ → Heap → Prop) × (σ → Nat → Prop) × (σ → Nat) × (σ → Nat) × (σ → Nat → Nat) × (σ → Nat → Nat)
def jle {σ : Type} (X : RT σ) (S S' : σ) : Prop := X.2.2.1 S ≤ X.2.2.1 S' ∧ X.2.2.2.1 S ≤ X.2.2.2.1 S' ∧ (∀ a, X.2.2.2.2.1 S a ≠ 0 → X.2.2.2.2.1 S' a = X.2.2.2.2.1 S a ∧ X.2.2.2.2.2 S' a = X.2.2.2.2.2 S a) ∧ ∀ q, X.2.1 S' q → X.2.1 S q
theorem jle.rfl' {σ : Type} {X : RT σ} {S : σ} : jle X S S := ⟨Nat.le_refl _, Nat.le_refl _, fun _ _ => ⟨rfl, rfl⟩, fun _ h => h⟩
theorem jle.tr {σ : Type} {X : RT σ} {S S1 S' : σ} (h : jle X S S1) (h1 : jle X S1 S') : jle X S S' :=
  ⟨Nat.le_trans h.1 h1.1, Nat.le_trans h.2.1 h1.2.1, fun a ha => by
    have q := h.2.2.1 a ha
    have q1 := h1.2.2.1 a (by rw [q.1]; exact ha)
    exact ⟨q1.1.trans q.1, q1.2.trans q.2⟩, fun q hq => h.2.2.2 q (h1.2.2.2 q hq)⟩
def jQ {σ : Type} (X : RT σ) (D : JD) (r : Option Value) (S' : σ) (A : Nat → Prop) : Array Value → State → Outcome → State → Prop := fun _ st oc t => oc = .returned r ∧ X.1 D S' t.heap ∧ va_F A st t
def CX (y : MethodName) (cc : ByteArray) (nL : Nat) (ret : Option FieldType) (fr lo : Nat) (D : JD) (p : Program) (R : Room) (s : State) (m : MethodId) (args : Array Value) (meth : Method) (c : Code) : Prop :=
  p.tables.exec = Jvm.exec ∧ c.code = cc ∧ c.maxLocals = nL ∧ s.vm.findClass y.cls = some m.cls ∧ (∀ w ∈ tblG, w.before args s = true) ∧ meth.sig.returnType = ret ∧ meth.locks = false ∧ meth.name = y.name ∧ KD D s ∧ fr ≤ R.frames ∧ lo ≤ R.locals
def J {σ : Type} (X : RT σ) (y : MethodName) (cc : ByteArray) (nL : Nat) (ret : Option FieldType) (fr lo : Nat) (pc : Nat) (lv : List (Nat × Value)) (st : List Value) (S : σ) (r : Option Value) (S' : σ) : Prop :=
  jle X S S' ∧ ∀ (p : Program) (l : Launch) (e : Env) (R : Room) (s : State) (m : MethodId) (args : Array Value) (below : List Frame) (meth : Method) (c : Code) (H : Heap) (locs : List Loc) (cells slots mc ms : Nat) (ls : Array Slot) (A : Nat → Prop) (D : JD),
    CX y cc nL ret fr lo D p R s m args meth c → lv_has ls nL lv → X.1 D S H → va_S A s.heap H locs → (∀ q, X.2.1 S q → A q) → cells + X.2.2.1 S' ≤ mc + X.2.2.1 S → slots + X.2.2.2.1 S' ≤ ms + X.2.2.2.1 S → mc ≤ R.cells → ms ≤ R.slots →
    W p l e R s m args below meth c H locs cells slots (MQ below (jQ X D r S' A) args s mc ms A) (F0 m pc ls st)
/-- a method's contract at one start -/
def CT {σ : Type} (X : RT σ) (y : MethodName) (cc : ByteArray) (nL : Nat) (ret : Option FieldType) (fr lo : Nat) (av : List Value) (S : σ) (r : Option Value) (S' : σ) : Prop :=
  jle X S S' ∧ ∀ (l : Launch) (D : JD), Met l y (Cond.code y cc nL ret :: tblG) { frames := fr, cells := X.2.2.1 S' - X.2.2.1 S, slots := X.2.2.2.1 S' - X.2.2.2.1 S, locals := lo } (va_Pc av (fun U => X.1 D S U.heap ∧ KD D U)) (jQ X D r S' (X.2.1 S)) (X.2.2.1 S' - X.2.2.1 S) (X.2.2.2.1 S' - X.2.2.2.1 S) (X.2.1 S)
theorem CT.of {σ : Type} {X : RT σ} {y : MethodName} {cc : ByteArray} {nL : Nat} {ret : Option FieldType} {fr lo : Nat} {av : List Value} {lv : List (Nat × Value)} {S : σ} {r : Option Value} {S' : σ} (hy : plainName y.cls = true) (hlv : lv_args 0 av = lv) (hn : (lg_sl av).length ≤ nL)
    (k : J X y cc nL ret fr lo 0 lv [] S r S') : CT X y cc nL ret fr lo av S r S' := by
  refine ⟨k.1, fun l D => ?_⟩
  refine Met.ofW (cc := cc) (maxL := nL) (ret := ret) hy rfl ?_
  intro p e s m args below meth c s₁ B hml hv
  obtain ⟨rfl, hR, hK⟩ := hv
  have hts := atoms_spec (ws := Cond.code y cc nL ret :: tblG) B.pre
  have hown : s.vm.findClass y.cls = some m.cls := findClass_of_methodNamed B.named
  have hin : meth.name = y.name := (name_of_methodNamed B.named B.method).1
  have hl := lv_entry av (n := nL) hn
  rw [lg_entry_eq]
  rw [hlv] at hl
  exact k.2 p l e _ s m _ below meth c s.heap [] 0 0 _ _ _ (X.2.1 S) D ⟨B.exec, B.bytes, hml, hown, fun w hw => hts w (List.mem_cons_of_mem _ hw), B.returns, B.notSynchronized, hin, hK, Nat.le_refl _, Nat.le_refl _⟩ hl hR va_S.rf (fun _ h => h)
    (by have := k.1.1; omega) (by have := k.1.2.1; omega) (Nat.le_refl _) (Nat.le_refl _)
section Rules
variable {σ : Type} {X : RT σ} {y : MethodName} {cc : ByteArray} {nL : Nat} {ret : Option FieldType} {fr lo : Nat} {pc : Nat} {lv lv' : List (Nat × Value)} {st rest : List Value} {S S' : σ} {r : Option Value}
/-- one instruction that leaves the heap alone -/
theorem J_go {pc' : Nat} {st' : List Value}
    (hw : ∀ (p : Program) (l : Launch) (e : Env) (R : Room) (s : State) (m : MethodId) (args : Array Value) (below : List Frame) (meth : Method) (c : Code) (H : Heap) (locs : List Loc) (cells slots : Nat) (Q : State → Prop) (ls : Array Slot) (D : JD),
      CX y cc nL ret fr lo D p R s m args meth c → lv_has ls nL lv → (∀ ls', lv_has ls' nL lv' → W p l e R s m args below meth c H locs cells slots Q (F0 m pc' ls' st')) → W p l e R s m args below meth c H locs cells slots Q (F0 m pc ls st))
    (k : J X y cc nL ret fr lo pc' lv' st' S r S') : J X y cc nL ret fr lo pc lv st S r S' := by
  refine ⟨k.1, fun p l e R s m args below meth c H locs cells slots mc ms ls A D hC hl hR hS hA h1 h2 h3 h4 => ?_⟩
  exact hw p l e R s m args below meth c H locs cells slots _ ls D hC hl (fun ls' hl' => k.2 p l e R s m args below meth c H locs cells slots mc ms ls' A D hC hl' hR hS hA h1 h2 h3 h4)
/-- a branch -/
theorem J_br {P : Prop} {pt pf : Nat} {α : Type} {a b : Option α} {w : α} (hP : Decidable P)
    (hw : ∀ (p : Program) (l : Launch) (e : Env) (R : Room) (s : State) (m : MethodId) (args : Array Value) (below : List Frame) (meth : Method) (c : Code) (H : Heap) (locs : List Loc) (cells slots : Nat) (Q : State → Prop) (ls : Array Slot) (D : JD),
      CX y cc nL ret fr lo D p R s m args meth c → (P → W p l e R s m args below meth c H locs cells slots Q (F0 m pt ls rest)) → (¬ P → W p l e R s m args below meth c H locs cells slots Q (F0 m pf ls rest)) → W p l e R s m args below meth c H locs cells slots Q (F0 m pc ls st))
    (h : (@ite _ P hP a b) = some w) (kt : P → a = some w → J X y cc nL ret fr lo pt lv rest S r S') (kf : ¬ P → b = some w → J X y cc nL ret fr lo pf lv rest S r S') : J X y cc nL ret fr lo pc lv st S r S' := by
  by_cases hp : P
  · rw [if_pos hp] at h
    have k := kt hp h
    refine ⟨k.1, fun p l e R s m args below meth c H locs cells slots mc ms ls A D hC hl hR hS hA h1 h2 h3 h4 => ?_⟩
    exact hw p l e R s m args below meth c H locs cells slots _ ls D hC (fun _ => k.2 p l e R s m args below meth c H locs cells slots mc ms ls A D hC hl hR hS hA h1 h2 h3 h4) (fun q => absurd hp q)
  · rw [if_neg hp] at h
    have k := kf hp h
    refine ⟨k.1, fun p l e R s m args below meth c H locs cells slots mc ms ls A D hC hl hR hS hA h1 h2 h3 h4 => ?_⟩
    exact hw p l e R s m args below meth c H locs cells slots _ ls D hC (fun q => absurd q hp) (fun _ => k.2 p l e R s m args below meth c H locs cells slots mc ms ls A D hC hl hR hS hA h1 h2 h3 h4)
theorem J_iconst {n : Int} (v : Int32) (hd : decode cc pc = .ok (.iconst n, 1)) (hv : Int32.ofInt n = v) (k : J X y cc nL ret fr lo (pc + 1) lv (.int v :: st) S r S') : J X y cc nL ret fr lo pc lv st S r S' :=
  J_go (fun _ _ _ _ _ _ _ _ _ _ _ _ _ _ _ ls _ hC hl kk => lv_iconst hC.1 hC.2.1 hd hv (kk ls hl)) k
theorem J_bipush {n : Int} (v : Int32) (hd : decode cc pc = .ok (.bipush n, 2)) (hv : (Int8.ofInt n).toInt32 = v) (k : J X y cc nL ret fr lo (pc + 2) lv (.int v :: st) S r S') : J X y cc nL ret fr lo pc lv st S r S' :=
  J_go (fun _ _ _ _ _ _ _ _ _ _ _ _ _ _ _ ls _ hC hl kk => lv_bipush hC.1 hC.2.1 hd hv (kk ls hl)) k
theorem J_sipush {n : Int} (v : Int32) (hd : decode cc pc = .ok (.sipush n, 3)) (hv : (Int16.ofInt n).toInt32 = v) (k : J X y cc nL ret fr lo (pc + 3) lv (.int v :: st) S r S') : J X y cc nL ret fr lo pc lv st S r S' :=
  J_go (fun _ _ _ _ _ _ _ _ _ _ _ _ _ _ _ ls _ hC hl kk => lv_sipush hC.1 hC.2.1 hd hv (kk ls hl)) k
theorem J_lconst {n : Fin 2} (v : Int64) (hd : decode cc pc = .ok (.lconst n, 1)) (hv : Int64.ofNat (n : Nat) = v) (k : J X y cc nL ret fr lo (pc + 1) lv (.long v :: st) S r S') : J X y cc nL ret fr lo pc lv st S r S' :=
  J_go (fun _ _ _ _ _ _ _ _ _ _ _ _ _ _ _ ls _ hC hl kk => lv_lconst hC.1 hC.2.1 hd hv (kk ls hl)) k
theorem J_iload_n {n : Fin 4} {i : Nat} (j : Nat) {x : Int32} (hd : decode cc pc = .ok (.iload_n n, 1)) (hi : (n : Nat) = i) (hx : lv[j]? = some (i, .int x)) (k : J X y cc nL ret fr lo (pc + 1) lv (.int x :: st) S r S') : J X y cc nL ret fr lo pc lv st S r S' :=
  J_go (fun _ _ _ _ _ _ _ _ _ _ _ _ _ _ _ ls _ hC hl kk => lv_iload_n hC.1 hC.2.1 hd hi (lv_at hl j hx) (kk ls hl)) k
theorem J_iload {i : Nat} (j : Nat) {x : Int32} (hd : decode cc pc = .ok (.iload i, 2)) (hx : lv[j]? = some (i, .int x)) (k : J X y cc nL ret fr lo (pc + 2) lv (.int x :: st) S r S') : J X y cc nL ret fr lo pc lv st S r S' :=
  J_go (fun _ _ _ _ _ _ _ _ _ _ _ _ _ _ _ ls _ hC hl kk => lv_iload hC.1 hC.2.1 hd (lv_at hl j hx) (kk ls hl)) k
theorem J_lload_n {n : Fin 4} {i : Nat} (j : Nat) {x : Int64} (hd : decode cc pc = .ok (.lload_n n, 1)) (hi : (n : Nat) = i) (hx : lv[j]? = some (i, .long x)) (k : J X y cc nL ret fr lo (pc + 1) lv (.long x :: st) S r S') : J X y cc nL ret fr lo pc lv st S r S' :=
  J_go (fun _ _ _ _ _ _ _ _ _ _ _ _ _ _ _ ls _ hC hl kk => lv_lload_n hC.1 hC.2.1 hd hi (lv_at hl j hx) (kk ls hl)) k
theorem J_lload {i : Nat} (j : Nat) {x : Int64} (hd : decode cc pc = .ok (.lload i, 2)) (hx : lv[j]? = some (i, .long x)) (k : J X y cc nL ret fr lo (pc + 2) lv (.long x :: st) S r S') : J X y cc nL ret fr lo pc lv st S r S' :=
  J_go (fun _ _ _ _ _ _ _ _ _ _ _ _ _ _ _ ls _ hC hl kk => lv_lload hC.1 hC.2.1 hd (lv_at hl j hx) (kk ls hl)) k
theorem J_fload_n {n : Fin 4} {i : Nat} (j : Nat) {x : UInt32} (hd : decode cc pc = .ok (.fload_n n, 1)) (hi : (n : Nat) = i) (hx : lv[j]? = some (i, .float x)) (k : J X y cc nL ret fr lo (pc + 1) lv (.float x :: st) S r S') : J X y cc nL ret fr lo pc lv st S r S' :=
  J_go (fun _ _ _ _ _ _ _ _ _ _ _ _ _ _ _ ls _ hC hl kk => lv_fload_n hC.1 hC.2.1 hd hi (lv_at hl j hx) (kk ls hl)) k
theorem J_dload {i : Nat} (j : Nat) {x : UInt64} (hd : decode cc pc = .ok (.dload i, 2)) (hx : lv[j]? = some (i, .double x)) (k : J X y cc nL ret fr lo (pc + 2) lv (.double x :: st) S r S') : J X y cc nL ret fr lo pc lv st S r S' :=
  J_go (fun _ _ _ _ _ _ _ _ _ _ _ _ _ _ _ ls _ hC hl kk => lv_dload hC.1 hC.2.1 hd (lv_at hl j hx) (kk ls hl)) k
theorem J_aload_n {n : Fin 4} {i : Nat} (j : Nat) {x : Nat} (hd : decode cc pc = .ok (.aload_n n, 1)) (hi : (n : Nat) = i) (hx : lv[j]? = some (i, .ref x)) (k : J X y cc nL ret fr lo (pc + 1) lv (.ref x :: st) S r S') : J X y cc nL ret fr lo pc lv st S r S' :=
  J_go (fun _ _ _ _ _ _ _ _ _ _ _ _ _ _ _ ls _ hC hl kk => lv_aload_n hC.1 hC.2.1 hd hi (lv_at hl j hx) (kk ls hl)) k
theorem J_aload {i : Nat} (j : Nat) {x : Nat} (hd : decode cc pc = .ok (.aload i, 2)) (hx : lv[j]? = some (i, .ref x)) (k : J X y cc nL ret fr lo (pc + 2) lv (.ref x :: st) S r S') : J X y cc nL ret fr lo pc lv st S r S' :=
  J_go (fun _ _ _ _ _ _ _ _ _ _ _ _ _ _ _ ls _ hC hl kk => lv_aload hC.1 hC.2.1 hd (lv_at hl j hx) (kk ls hl)) k
theorem J_aload_nq {n : Fin 4} {i : Nat} (j : Nat) {x : Option Nat} (hd : decode cc pc = .ok (.aload_n n, 1)) (hi : (n : Nat) = i) (hx : lv[j]? = some (i, va_rf x)) (k : J X y cc nL ret fr lo (pc + 1) lv (va_rf x :: st) S r S') : J X y cc nL ret fr lo pc lv st S r S' :=
  J_go (fun _ _ _ _ _ _ _ _ _ _ _ _ _ _ _ ls _ hC hl kk => by
    cases x with
    | none => exact lv_aload_nN hC.1 hC.2.1 hd hi (lv_at hl j hx) (kk ls hl)
    | some a => exact lv_aload_n hC.1 hC.2.1 hd hi (lv_at hl j hx) (kk ls hl)) k
theorem J_aloadq {i : Nat} (j : Nat) {x : Option Nat} (hd : decode cc pc = .ok (.aload i, 2)) (hx : lv[j]? = some (i, va_rf x)) (k : J X y cc nL ret fr lo (pc + 2) lv (va_rf x :: st) S r S') : J X y cc nL ret fr lo pc lv st S r S' :=
  J_go (fun _ _ _ _ _ _ _ _ _ _ _ _ _ _ _ ls _ hC hl kk => by
    cases x with
    | none => exact lv_aloadN hC.1 hC.2.1 hd (lv_at hl j hx) (kk ls hl)
    | some a => exact lv_aload hC.1 hC.2.1 hd (lv_at hl j hx) (kk ls hl)) k
abbrev lvF (i : Nat) (lv : List (Nat × Value)) : List (Nat × Value) := lv.filter (fun q => !(q.1 == i) && !(q.1 + 1 == i && q.2.category == 2))
abbrev lvF2 (i : Nat) (lv : List (Nat × Value)) : List (Nat × Value) := lv.filter (fun q => !(q.1 == i) && (!(q.1 == i + 1) && !(q.1 + 1 == i && q.2.category == 2)))
theorem J_istore_n {n : Fin 4} {i : Nat} {x : Int32} (hd : decode cc pc = .ok (.istore_n n, 1)) (hi : (n : Nat) = i) (hn : i < nL) (ks : List Nat) (hl' : lv_pick ((i, Value.int x) :: lvF i lv) ks = lv') (k : J X y cc nL ret fr lo (pc + 1) lv' st S r S') : J X y cc nL ret fr lo pc lv (.int x :: st) S r S' :=
  J_go (fun _ _ _ _ _ _ _ _ _ _ _ _ _ _ _ _ _ hC hl kk => lv_istore_n hC.1 hC.2.1 hd hi hl hn rfl (fun ls' h' => kk ls' (lv_sub h' ks hl'))) k
theorem J_istore {i : Nat} {x : Int32} (hd : decode cc pc = .ok (.istore i, 2)) (hn : i < nL) (ks : List Nat) (hl' : lv_pick ((i, Value.int x) :: lvF i lv) ks = lv') (k : J X y cc nL ret fr lo (pc + 2) lv' st S r S') : J X y cc nL ret fr lo pc lv (.int x :: st) S r S' :=
  J_go (fun _ _ _ _ _ _ _ _ _ _ _ _ _ _ _ _ _ hC hl kk => lv_istore hC.1 hC.2.1 hd hl hn rfl (fun ls' h' => kk ls' (lv_sub h' ks hl'))) k
theorem J_lstore_n {n : Fin 4} {i : Nat} {x : Int64} (hd : decode cc pc = .ok (.lstore_n n, 1)) (hi : (n : Nat) = i) (hn : i + 1 < nL) (ks : List Nat) (hl' : lv_pick ((i, Value.long x) :: lvF2 i lv) ks = lv') (k : J X y cc nL ret fr lo (pc + 1) lv' st S r S') : J X y cc nL ret fr lo pc lv (.long x :: st) S r S' :=
  J_go (fun _ _ _ _ _ _ _ _ _ _ _ _ _ _ _ _ _ hC hl kk => lv_lstore_n hC.1 hC.2.1 hd hi hl hn rfl (fun ls' h' => kk ls' (lv_sub h' ks hl'))) k
theorem J_lstore {i : Nat} {x : Int64} (hd : decode cc pc = .ok (.lstore i, 2)) (hn : i + 1 < nL) (ks : List Nat) (hl' : lv_pick ((i, Value.long x) :: lvF2 i lv) ks = lv') (k : J X y cc nL ret fr lo (pc + 2) lv' st S r S') : J X y cc nL ret fr lo pc lv (.long x :: st) S r S' :=
  J_go (fun _ _ _ _ _ _ _ _ _ _ _ _ _ _ _ _ _ hC hl kk => lv_lstore hC.1 hC.2.1 hd hl hn rfl (fun ls' h' => kk ls' (lv_sub h' ks hl'))) k
theorem J_fstore_n {n : Fin 4} {i : Nat} {x : UInt32} (hd : decode cc pc = .ok (.fstore_n n, 1)) (hi : (n : Nat) = i) (hn : i < nL) (ks : List Nat) (hl' : lv_pick ((i, Value.float x) :: lvF i lv) ks = lv') (k : J X y cc nL ret fr lo (pc + 1) lv' st S r S') : J X y cc nL ret fr lo pc lv (.float x :: st) S r S' :=
  J_go (fun _ _ _ _ _ _ _ _ _ _ _ _ _ _ _ _ _ hC hl kk => lv_fstore_n hC.1 hC.2.1 hd hi hl hn rfl (fun ls' h' => kk ls' (lv_sub h' ks hl'))) k
theorem J_dstore {i : Nat} {x : UInt64} (hd : decode cc pc = .ok (.dstore i, 2)) (hn : i + 1 < nL) (ks : List Nat) (hl' : lv_pick ((i, Value.double x) :: lvF2 i lv) ks = lv') (k : J X y cc nL ret fr lo (pc + 2) lv' st S r S') : J X y cc nL ret fr lo pc lv (.double x :: st) S r S' :=
  J_go (fun _ _ _ _ _ _ _ _ _ _ _ _ _ _ _ _ _ hC hl kk => lv_dstore hC.1 hC.2.1 hd hl hn rfl (fun ls' h' => kk ls' (lv_sub h' ks hl'))) k
theorem J_astore_n {n : Fin 4} {i : Nat} {x : Nat} (hd : decode cc pc = .ok (.astore_n n, 1)) (hi : (n : Nat) = i) (hn : i < nL) (ks : List Nat) (hl' : lv_pick ((i, Value.ref x) :: lvF i lv) ks = lv') (k : J X y cc nL ret fr lo (pc + 1) lv' st S r S') : J X y cc nL ret fr lo pc lv (.ref x :: st) S r S' :=
  J_go (fun _ _ _ _ _ _ _ _ _ _ _ _ _ _ _ _ _ hC hl kk => lv_astore_n hC.1 hC.2.1 hd hi hl hn rfl (fun ls' h' => kk ls' (lv_sub h' ks hl'))) k
theorem J_astore {i : Nat} {x : Nat} (hd : decode cc pc = .ok (.astore i, 2)) (hn : i < nL) (ks : List Nat) (hl' : lv_pick ((i, Value.ref x) :: lvF i lv) ks = lv') (k : J X y cc nL ret fr lo (pc + 2) lv' st S r S') : J X y cc nL ret fr lo pc lv (.ref x :: st) S r S' :=
  J_go (fun _ _ _ _ _ _ _ _ _ _ _ _ _ _ _ _ _ hC hl kk => lv_astore hC.1 hC.2.1 hd hl hn rfl (fun ls' h' => kk ls' (lv_sub h' ks hl'))) k
theorem J_astore_nq {n : Fin 4} {i : Nat} {x : Option Nat} (hd : decode cc pc = .ok (.astore_n n, 1)) (hi : (n : Nat) = i) (hn : i < nL) (ks : List Nat) (hl' : lv_pick ((i, va_rf x) :: lvF i lv) ks = lv') (k : J X y cc nL ret fr lo (pc + 1) lv' st S r S') : J X y cc nL ret fr lo pc lv (va_rf x :: st) S r S' :=
  J_go (fun _ _ _ _ _ _ _ _ _ _ _ _ _ _ _ _ _ hC hl kk => by
    cases x with
    | none => exact lv_astore_nN hC.1 hC.2.1 hd hi hl hn rfl (fun ls' h' => kk ls' (lv_sub h' ks hl'))
    | some a => exact lv_astore_n hC.1 hC.2.1 hd hi hl hn rfl (fun ls' h' => kk ls' (lv_sub h' ks hl'))) k
theorem J_astoreq {i : Nat} {x : Option Nat} (hd : decode cc pc = .ok (.astore i, 2)) (hn : i < nL) (ks : List Nat) (hl' : lv_pick ((i, va_rf x) :: lvF i lv) ks = lv') (k : J X y cc nL ret fr lo (pc + 2) lv' st S r S') : J X y cc nL ret fr lo pc lv (va_rf x :: st) S r S' :=
  J_go (fun _ _ _ _ _ _ _ _ _ _ _ _ _ _ _ _ _ hC hl kk => by
    cases x with
    | none => exact lv_astoreN hC.1 hC.2.1 hd hl hn rfl (fun ls' h' => kk ls' (lv_sub h' ks hl'))
    | some a => exact lv_astore hC.1 hC.2.1 hd hl hn rfl (fun ls' h' => kk ls' (lv_sub h' ks hl'))) k
theorem J_iinc {i : Nat} {n : Int} (j : Nat) {x : Int32} (v : Int32) (hd : decode cc pc = .ok (.iinc i n, 3)) (hx : lv[j]? = some (i, .int x)) (hv : Int32.ofInt n = v) (hn : i < nL) (ks : List Nat) (hl' : lv_pick ((i, Value.int (x + v)) :: lvF i lv) ks = lv') (k : J X y cc nL ret fr lo (pc + 3) lv' st S r S') : J X y cc nL ret fr lo pc lv st S r S' :=
  J_go (fun _ _ _ _ _ _ _ _ _ _ _ _ _ _ _ _ _ hC hl kk => lv_iinc (k := j) hC.1 hC.2.1 hd hl hx (by rw [hv]) hn rfl (fun ls' h' => kk ls' (lv_sub h' ks hl'))) k
/-- fewer locals are known -/
theorem J_lv (ks : List Nat) (hl' : lv_pick lv ks = lv') (k : J X y cc nL ret fr lo pc lv' st S r S') : J X y cc nL ret fr lo pc lv st S r S' :=
  J_go (fun _ _ _ _ _ _ _ _ _ _ _ _ _ _ _ ls _ _ hl kk => kk ls (lv_sub hl ks hl')) k
end Rules
end
section
section Rules2
variable {σ : Type} {X : RT σ} {y : MethodName} {cc : ByteArray} {nL : Nat} {ret : Option FieldType} {fr lo : Nat} {pc : Nat} {lv lv' : List (Nat × Value)} {st rest : List Value} {S S' : σ} {r : Option Value}

theorem J_iadd {x y0 : Int32} (hd : decode cc pc = .ok (.iadd, 1)) (k : J X y cc nL ret fr lo (pc + 1) lv (.int (x + y0) :: st) S r S') : J X y cc nL ret fr lo pc lv (.int y0 :: .int x :: st) S r S' :=
  J_go (fun _ _ _ _ _ _ _ _ _ _ _ _ _ _ _ ls _ hC hl kk => lv_iadd hC.1 hC.2.1 hd (kk ls hl)) k
theorem J_isub {x y0 : Int32} (hd : decode cc pc = .ok (.isub, 1)) (k : J X y cc nL ret fr lo (pc + 1) lv (.int (x - y0) :: st) S r S') : J X y cc nL ret fr lo pc lv (.int y0 :: .int x :: st) S r S' :=
  J_go (fun _ _ _ _ _ _ _ _ _ _ _ _ _ _ _ ls _ hC hl kk => lv_isub hC.1 hC.2.1 hd (kk ls hl)) k
theorem J_imul {x y0 : Int32} (hd : decode cc pc = .ok (.imul, 1)) (k : J X y cc nL ret fr lo (pc + 1) lv (.int (x * y0) :: st) S r S') : J X y cc nL ret fr lo pc lv (.int y0 :: .int x :: st) S r S' :=
  J_go (fun _ _ _ _ _ _ _ _ _ _ _ _ _ _ _ ls _ hC hl kk => lv_imul hC.1 hC.2.1 hd (kk ls hl)) k
theorem J_iand {x y0 : Int32} (hd : decode cc pc = .ok (.iand, 1)) (k : J X y cc nL ret fr lo (pc + 1) lv (.int (x &&& y0) :: st) S r S') : J X y cc nL ret fr lo pc lv (.int y0 :: .int x :: st) S r S' :=
  J_go (fun _ _ _ _ _ _ _ _ _ _ _ _ _ _ _ ls _ hC hl kk => lv_iand hC.1 hC.2.1 hd (kk ls hl)) k
theorem J_ior {x y0 : Int32} (hd : decode cc pc = .ok (.ior, 1)) (k : J X y cc nL ret fr lo (pc + 1) lv (.int (x ||| y0) :: st) S r S') : J X y cc nL ret fr lo pc lv (.int y0 :: .int x :: st) S r S' :=
  J_go (fun _ _ _ _ _ _ _ _ _ _ _ _ _ _ _ ls _ hC hl kk => lv_ior hC.1 hC.2.1 hd (kk ls hl)) k
theorem J_ixor {x y0 : Int32} (hd : decode cc pc = .ok (.ixor, 1)) (k : J X y cc nL ret fr lo (pc + 1) lv (.int (x ^^^ y0) :: st) S r S') : J X y cc nL ret fr lo pc lv (.int y0 :: .int x :: st) S r S' :=
  J_go (fun _ _ _ _ _ _ _ _ _ _ _ _ _ _ _ ls _ hC hl kk => lv_ixor hC.1 hC.2.1 hd (kk ls hl)) k
theorem J_ishl {x y0 : Int32} (hd : decode cc pc = .ok (.ishl, 1)) (k : J X y cc nL ret fr lo (pc + 1) lv (.int (x <<< (y0 &&& 31)) :: st) S r S') : J X y cc nL ret fr lo pc lv (.int y0 :: .int x :: st) S r S' :=
  J_go (fun _ _ _ _ _ _ _ _ _ _ _ _ _ _ _ ls _ hC hl kk => lv_ishl hC.1 hC.2.1 hd (kk ls hl)) k
theorem J_ishr {x y0 : Int32} (hd : decode cc pc = .ok (.ishr, 1)) (k : J X y cc nL ret fr lo (pc + 1) lv (.int (x >>> (y0 &&& 31)) :: st) S r S') : J X y cc nL ret fr lo pc lv (.int y0 :: .int x :: st) S r S' :=
  J_go (fun _ _ _ _ _ _ _ _ _ _ _ _ _ _ _ ls _ hC hl kk => lv_ishr hC.1 hC.2.1 hd (kk ls hl)) k
theorem J_iushr {x y0 : Int32} (hd : decode cc pc = .ok (.iushr, 1)) (k : J X y cc nL ret fr lo (pc + 1) lv (.int ((x.toUInt32 >>> (y0.toUInt32 &&& Int32.toUInt32 31)).toInt32) :: st) S r S') : J X y cc nL ret fr lo pc lv (.int y0 :: .int x :: st) S r S' :=
  J_go (fun _ _ _ _ _ _ _ _ _ _ _ _ _ _ _ ls _ hC hl kk => lv_iushr hC.1 hC.2.1 hd rfl (kk ls hl)) k
theorem J_idiv {x y0 : Int32} (hd : decode cc pc = .ok (.idiv, 1)) (hne : ¬ y0 = 0) (k : J X y cc nL ret fr lo (pc + 1) lv (.int (x / y0) :: st) S r S') : J X y cc nL ret fr lo pc lv (.int y0 :: .int x :: st) S r S' :=
  J_go (fun _ _ _ _ _ _ _ _ _ _ _ _ _ _ _ ls _ hC hl kk => lv_idiv hC.1 hC.2.1 hd hne (kk ls hl)) k
theorem J_irem {x y0 : Int32} (hd : decode cc pc = .ok (.irem, 1)) (hne : ¬ y0 = 0) (k : J X y cc nL ret fr lo (pc + 1) lv (.int (x - x / y0 * y0) :: st) S r S') : J X y cc nL ret fr lo pc lv (.int y0 :: .int x :: st) S r S' :=
  J_go (fun _ _ _ _ _ _ _ _ _ _ _ _ _ _ _ ls _ hC hl kk => lv_irem hC.1 hC.2.1 hd hne (kk ls hl)) k
theorem J_ladd {x y0 : Int64} (hd : decode cc pc = .ok (.ladd, 1)) (k : J X y cc nL ret fr lo (pc + 1) lv (.long (x + y0) :: st) S r S') : J X y cc nL ret fr lo pc lv (.long y0 :: .long x :: st) S r S' :=
  J_go (fun _ _ _ _ _ _ _ _ _ _ _ _ _ _ _ ls _ hC hl kk => lv_ladd hC.1 hC.2.1 hd (kk ls hl)) k
theorem J_lsub {x y0 : Int64} (hd : decode cc pc = .ok (.lsub, 1)) (k : J X y cc nL ret fr lo (pc + 1) lv (.long (x - y0) :: st) S r S') : J X y cc nL ret fr lo pc lv (.long y0 :: .long x :: st) S r S' :=
  J_go (fun _ _ _ _ _ _ _ _ _ _ _ _ _ _ _ ls _ hC hl kk => lv_lsub hC.1 hC.2.1 hd (kk ls hl)) k
theorem J_lmul {x y0 : Int64} (hd : decode cc pc = .ok (.lmul, 1)) (k : J X y cc nL ret fr lo (pc + 1) lv (.long (x * y0) :: st) S r S') : J X y cc nL ret fr lo pc lv (.long y0 :: .long x :: st) S r S' :=
  J_go (fun _ _ _ _ _ _ _ _ _ _ _ _ _ _ _ ls _ hC hl kk => lv_lmul hC.1 hC.2.1 hd (kk ls hl)) k
theorem J_land {x y0 : Int64} (hd : decode cc pc = .ok (.land, 1)) (k : J X y cc nL ret fr lo (pc + 1) lv (.long (x &&& y0) :: st) S r S') : J X y cc nL ret fr lo pc lv (.long y0 :: .long x :: st) S r S' :=
  J_go (fun _ _ _ _ _ _ _ _ _ _ _ _ _ _ _ ls _ hC hl kk => lv_land hC.1 hC.2.1 hd (kk ls hl)) k
theorem J_lor {x y0 : Int64} (hd : decode cc pc = .ok (.lor, 1)) (k : J X y cc nL ret fr lo (pc + 1) lv (.long (x ||| y0) :: st) S r S') : J X y cc nL ret fr lo pc lv (.long y0 :: .long x :: st) S r S' :=
  J_go (fun _ _ _ _ _ _ _ _ _ _ _ _ _ _ _ ls _ hC hl kk => lv_lor hC.1 hC.2.1 hd (kk ls hl)) k
theorem J_ldiv {x y0 : Int64} (hd : decode cc pc = .ok (.ldiv, 1)) (hne : ¬ y0 = 0) (k : J X y cc nL ret fr lo (pc + 1) lv (.long (x / y0) :: st) S r S') : J X y cc nL ret fr lo pc lv (.long y0 :: .long x :: st) S r S' :=
  J_go (fun _ _ _ _ _ _ _ _ _ _ _ _ _ _ _ ls _ hC hl kk => lv_ldiv hC.1 hC.2.1 hd hne (kk ls hl)) k
theorem J_lrem {x y0 : Int64} (hd : decode cc pc = .ok (.lrem, 1)) (hne : ¬ y0 = 0) (k : J X y cc nL ret fr lo (pc + 1) lv (.long (x - x / y0 * y0) :: st) S r S') : J X y cc nL ret fr lo pc lv (.long y0 :: .long x :: st) S r S' :=
  J_go (fun _ _ _ _ _ _ _ _ _ _ _ _ _ _ _ ls _ hC hl kk => lv_lrem hC.1 hC.2.1 hd hne (kk ls hl)) k
theorem J_lushr {x : Int64} {y0 : Int32} (hd : decode cc pc = .ok (.lushr, 1)) (k : J X y cc nL ret fr lo (pc + 1) lv (.long ((x.toUInt64 >>> (y0.toInt64.toUInt64 &&& Int64.toUInt64 63)).toInt64) :: st) S r S') : J X y cc nL ret fr lo pc lv (.int y0 :: .long x :: st) S r S' :=
  J_go (fun _ _ _ _ _ _ _ _ _ _ _ _ _ _ _ ls _ hC hl kk => lv_lushr hC.1 hC.2.1 hd rfl (kk ls hl)) k
theorem J_lshl {x : Int64} {y0 : Int32} (hd : decode cc pc = .ok (.lshl, 1)) (k : J X y cc nL ret fr lo (pc + 1) lv (.long (x <<< (y0.toInt64 &&& 63)) :: st) S r S') : J X y cc nL ret fr lo pc lv (.int y0 :: .long x :: st) S r S' :=
  J_go (fun _ _ _ _ _ _ _ _ _ _ _ _ _ _ _ ls _ hC hl kk => lv_lshl hC.1 hC.2.1 hd rfl (kk ls hl)) k
theorem J_lshr {x : Int64} {y0 : Int32} (hd : decode cc pc = .ok (.lshr, 1)) (k : J X y cc nL ret fr lo (pc + 1) lv (.long (x >>> (y0.toInt64 &&& 63)) :: st) S r S') : J X y cc nL ret fr lo pc lv (.int y0 :: .long x :: st) S r S' :=
  J_go (fun _ _ _ _ _ _ _ _ _ _ _ _ _ _ _ ls _ hC hl kk => lv_lshr hC.1 hC.2.1 hd rfl (kk ls hl)) k
theorem J_ineg {x : Int32} (hd : decode cc pc = .ok (.ineg, 1)) (k : J X y cc nL ret fr lo (pc + 1) lv (.int (-x) :: st) S r S') : J X y cc nL ret fr lo pc lv (.int x :: st) S r S' :=
  J_go (fun _ _ _ _ _ _ _ _ _ _ _ _ _ _ _ ls _ hC hl kk => lv_ineg hC.1 hC.2.1 hd (kk ls hl)) k
theorem J_i2l {x : Int32} (hd : decode cc pc = .ok (.i2l, 1)) (k : J X y cc nL ret fr lo (pc + 1) lv (.long x.toInt64 :: st) S r S') : J X y cc nL ret fr lo pc lv (.int x :: st) S r S' :=
  J_go (fun _ _ _ _ _ _ _ _ _ _ _ _ _ _ _ ls _ hC hl kk => lv_i2l hC.1 hC.2.1 hd rfl (kk ls hl)) k
theorem J_l2i {x : Int64} (hd : decode cc pc = .ok (.l2i, 1)) (k : J X y cc nL ret fr lo (pc + 1) lv (.int x.toInt32 :: st) S r S') : J X y cc nL ret fr lo pc lv (.long x :: st) S r S' :=
  J_go (fun _ _ _ _ _ _ _ _ _ _ _ _ _ _ _ ls _ hC hl kk => lv_l2i hC.1 hC.2.1 hd rfl (kk ls hl)) k
theorem J_f2l {x : UInt32} (hd : decode cc pc = .ok (.f2l, 1)) (k : J X y cc nL ret fr lo (pc + 1) lv (.long (FP.f2l x) :: st) S r S') : J X y cc nL ret fr lo pc lv (.float x :: st) S r S' :=
  J_go (fun _ _ _ _ _ _ _ _ _ _ _ _ _ _ _ ls _ hC hl kk => lv_f2l hC.1 hC.2.1 hd (kk ls hl)) k
theorem J_d2l {x : UInt64} (hd : decode cc pc = .ok (.d2l, 1)) (k : J X y cc nL ret fr lo (pc + 1) lv (.long (FP.d2l x) :: st) S r S') : J X y cc nL ret fr lo pc lv (.double x :: st) S r S' :=
  J_go (fun _ _ _ _ _ _ _ _ _ _ _ _ _ _ _ ls _ hC hl kk => lv_d2l hC.1 hC.2.1 hd (kk ls hl)) k
theorem J_frem {x y0 : UInt32} (hd : decode cc pc = .ok (.frem, 1)) (hne : vf_n32 (FP.frem x y0)) (k : J X y cc nL ret fr lo (pc + 1) lv (.float (FP.frem x y0) :: st) S r S') : J X y cc nL ret fr lo pc lv (.float y0 :: .float x :: st) S r S' :=
  J_go (fun _ _ _ _ _ _ _ _ _ _ _ _ _ _ _ ls _ hC hl kk => lv_frem hC.1 hC.2.1 hd hne (kk ls hl)) k
theorem J_drem {x y0 : UInt64} (hd : decode cc pc = .ok (.drem, 1)) (hne : vf_n64 (FP.drem x y0)) (k : J X y cc nL ret fr lo (pc + 1) lv (.double (FP.drem x y0) :: st) S r S') : J X y cc nL ret fr lo pc lv (.double y0 :: .double x :: st) S r S' :=
  J_go (fun _ _ _ _ _ _ _ _ _ _ _ _ _ _ _ ls _ hC hl kk => lv_drem hC.1 hC.2.1 hd hne (kk ls hl)) k
theorem J_fconst0  (hd : decode cc pc = .ok (.fconst 0, 1)) (k : J X y cc nL ret fr lo (pc + 1) lv (.float 0 :: st) S r S') : J X y cc nL ret fr lo pc lv (st) S r S' :=
  J_go (fun _ _ _ _ _ _ _ _ _ _ _ _ _ _ _ ls _ hC hl kk => lv_fconst0 hC.1 hC.2.1 hd (kk ls hl)) k
theorem J_dconst0  (hd : decode cc pc = .ok (.dconst 0, 1)) (k : J X y cc nL ret fr lo (pc + 1) lv (.double 0 :: st) S r S') : J X y cc nL ret fr lo pc lv (st) S r S' :=
  J_go (fun _ _ _ _ _ _ _ _ _ _ _ _ _ _ _ ls _ hC hl kk => lv_dconst0 hC.1 hC.2.1 hd (kk ls hl)) k
theorem J_dup {va : Value} (hd : decode cc pc = .ok (.dup, 1)) (hva : va.category = 1) (k : J X y cc nL ret fr lo (pc + 1) lv (va :: va :: st) S r S') : J X y cc nL ret fr lo pc lv (va :: st) S r S' :=
  J_go (fun _ _ _ _ _ _ _ _ _ _ _ _ _ _ _ ls _ hC hl kk => lv_dup hC.1 hC.2.1 hd hva (kk ls hl)) k
theorem J_pop {va : Value} (hd : decode cc pc = .ok (.pop, 1)) (hva : va.category = 1) (k : J X y cc nL ret fr lo (pc + 1) lv (st) S r S') : J X y cc nL ret fr lo pc lv (va :: st) S r S' :=
  J_go (fun _ _ _ _ _ _ _ _ _ _ _ _ _ _ _ ls _ hC hl kk => lv_pop hC.1 hC.2.1 hd hva (kk ls hl)) k
theorem J_dup2_11 {va vb : Value} (hd : decode cc pc = .ok (.dup2, 1)) (hva : va.category = 1) (hvb : vb.category = 1) (k : J X y cc nL ret fr lo (pc + 1) lv (va :: vb :: va :: vb :: st) S r S') : J X y cc nL ret fr lo pc lv (va :: vb :: st) S r S' :=
  J_go (fun _ _ _ _ _ _ _ _ _ _ _ _ _ _ _ ls _ hC hl kk => lv_dup2_11 hC.1 hC.2.1 hd hva hvb (kk ls hl)) k
theorem J_null  (hd : decode cc pc = .ok (.aconst_null, 1)) (k : J X y cc nL ret fr lo (pc + 1) lv (va_rf none :: st) S r S') : J X y cc nL ret fr lo pc lv (st) S r S' :=
  J_go (fun _ _ _ _ _ _ _ _ _ _ _ _ _ _ _ ls _ hC hl kk => lv_null hC.1 hC.2.1 hd (kk ls hl)) k
theorem J_goto {off : Int} (tgt : Nat) (hd : decode cc pc = .ok (.goto off, 3)) (ht : (pc : Int) + off = (tgt : Int)) (k : J X y cc nL ret fr lo tgt lv st S r S') : J X y cc nL ret fr lo pc lv st S r S' :=
  J_go (fun _ _ _ _ _ _ _ _ _ _ _ _ _ _ _ ls _ hC hl kk => lv_goto hC.1 hC.2.1 hd ht (kk ls hl)) k
theorem J_ldc {i : Nat} (v : Int32) (hd : decode cc pc = .ok (.ldc i, 2)) (hc : Cond.constant y.cls i v ∈ tblG) (k : J X y cc nL ret fr lo (pc + 2) lv (.int v :: st) S r S') : J X y cc nL ret fr lo pc lv st S r S' :=
  J_go (fun _ _ _ _ _ _ _ _ _ _ _ _ _ _ _ ls _ hC hl kk => lv_ldc hC.1 hC.2.1 hC.2.2.2.1 (hC.2.2.2.2.1 _ hc) hd (kk ls hl)) k
theorem J_ldcw {i : Nat} (v : Int32) (hd : decode cc pc = .ok (.ldc_w i, 3)) (hc : Cond.constant y.cls i v ∈ tblG) (k : J X y cc nL ret fr lo (pc + 3) lv (.int v :: st) S r S') : J X y cc nL ret fr lo pc lv st S r S' :=
  J_go (fun _ _ _ _ _ _ _ _ _ _ _ _ _ _ _ ls _ hC hl kk => lv_ldcw hC.1 hC.2.1 hC.2.2.2.1 (hC.2.2.2.2.1 _ hc) hd (kk ls hl)) k
theorem J_ldc2 {i : Nat} (v : Int64) (hd : decode cc pc = .ok (.ldc2_w i, 3)) (hc : Cond.constantLong y.cls i v ∈ tblG) (k : J X y cc nL ret fr lo (pc + 3) lv (.long v :: st) S r S') : J X y cc nL ret fr lo pc lv st S r S' :=
  J_go (fun _ _ _ _ _ _ _ _ _ _ _ _ _ _ _ ls _ hC hl kk => lv_ldc2 hC.1 hC.2.1 hC.2.2.2.1 (hC.2.2.2.2.1 _ hc) hd (kk ls hl)) k
theorem J_icmp_eq {x y0 : Int32} {α : Type} {a b : Option α} {w : α} {off : Int} (tgt : Nat) (hd : decode cc pc = .ok (.if_icmp .eq off, 3)) (ht : (pc : Int) + off = (tgt : Int)) (h : (if x = y0 then a else b) = some w) (kt : x = y0 → a = some w → J X y cc nL ret fr lo tgt lv st S r S') (kf : ¬ x = y0 → b = some w → J X y cc nL ret fr lo (pc + 3) lv st S r S') : J X y cc nL ret fr lo pc lv (.int y0 :: .int x :: st) S r S' :=
  J_br _ (fun _ _ _ _ _ _ _ _ _ _ _ _ _ _ _ _ _ hC k1 k2 => lv_icmp_eq hC.1 hC.2.1 hd ht k1 k2) h kt kf
theorem J_if_eq {x : Int32} {α : Type} {a b : Option α} {w : α} {off : Int} (tgt : Nat) (hd : decode cc pc = .ok (.ifCond .eq off, 3)) (ht : (pc : Int) + off = (tgt : Int)) (h : (if x = 0 then a else b) = some w) (kt : x = 0 → a = some w → J X y cc nL ret fr lo tgt lv st S r S') (kf : ¬ x = 0 → b = some w → J X y cc nL ret fr lo (pc + 3) lv st S r S') : J X y cc nL ret fr lo pc lv (.int x :: st) S r S' :=
  J_br _ (fun _ _ _ _ _ _ _ _ _ _ _ _ _ _ _ _ _ hC k1 k2 => lv_if_eq hC.1 hC.2.1 hd ht k1 k2) h kt kf
theorem J_icmp_ne {x y0 : Int32} {α : Type} {a b : Option α} {w : α} {off : Int} (tgt : Nat) (hd : decode cc pc = .ok (.if_icmp .ne off, 3)) (ht : (pc : Int) + off = (tgt : Int)) (h : (if x = y0 then a else b) = some w) (kf : x = y0 → a = some w → J X y cc nL ret fr lo (pc + 3) lv st S r S') (kt : ¬ x = y0 → b = some w → J X y cc nL ret fr lo tgt lv st S r S') : J X y cc nL ret fr lo pc lv (.int y0 :: .int x :: st) S r S' :=
  J_br _ (fun _ _ _ _ _ _ _ _ _ _ _ _ _ _ _ _ _ hC k1 k2 => lv_icmp_ne hC.1 hC.2.1 hd ht k2 k1) h kf kt
theorem J_if_ne {x : Int32} {α : Type} {a b : Option α} {w : α} {off : Int} (tgt : Nat) (hd : decode cc pc = .ok (.ifCond .ne off, 3)) (ht : (pc : Int) + off = (tgt : Int)) (h : (if x = 0 then a else b) = some w) (kf : x = 0 → a = some w → J X y cc nL ret fr lo (pc + 3) lv st S r S') (kt : ¬ x = 0 → b = some w → J X y cc nL ret fr lo tgt lv st S r S') : J X y cc nL ret fr lo pc lv (.int x :: st) S r S' :=
  J_br _ (fun _ _ _ _ _ _ _ _ _ _ _ _ _ _ _ _ _ hC k1 k2 => lv_if_ne hC.1 hC.2.1 hd ht k2 k1) h kf kt
theorem J_icmp_lt {x y0 : Int32} {α : Type} {a b : Option α} {w : α} {off : Int} (tgt : Nat) (hd : decode cc pc = .ok (.if_icmp .lt off, 3)) (ht : (pc : Int) + off = (tgt : Int)) (h : (if x < y0 then a else b) = some w) (kt : x < y0 → a = some w → J X y cc nL ret fr lo tgt lv st S r S') (kf : ¬ x < y0 → b = some w → J X y cc nL ret fr lo (pc + 3) lv st S r S') : J X y cc nL ret fr lo pc lv (.int y0 :: .int x :: st) S r S' :=
  J_br _ (fun _ _ _ _ _ _ _ _ _ _ _ _ _ _ _ _ _ hC k1 k2 => lv_icmp_lt hC.1 hC.2.1 hd ht k1 k2) h kt kf
theorem J_if_lt {x : Int32} {α : Type} {a b : Option α} {w : α} {off : Int} (tgt : Nat) (hd : decode cc pc = .ok (.ifCond .lt off, 3)) (ht : (pc : Int) + off = (tgt : Int)) (h : (if x < 0 then a else b) = some w) (kt : x < 0 → a = some w → J X y cc nL ret fr lo tgt lv st S r S') (kf : ¬ x < 0 → b = some w → J X y cc nL ret fr lo (pc + 3) lv st S r S') : J X y cc nL ret fr lo pc lv (.int x :: st) S r S' :=
  J_br _ (fun _ _ _ _ _ _ _ _ _ _ _ _ _ _ _ _ _ hC k1 k2 => lv_if_lt hC.1 hC.2.1 hd ht k1 k2) h kt kf
theorem J_icmp_ge {x y0 : Int32} {α : Type} {a b : Option α} {w : α} {off : Int} (tgt : Nat) (hd : decode cc pc = .ok (.if_icmp .ge off, 3)) (ht : (pc : Int) + off = (tgt : Int)) (h : (if y0 ≤ x then a else b) = some w) (kt : y0 ≤ x → a = some w → J X y cc nL ret fr lo tgt lv st S r S') (kf : ¬ y0 ≤ x → b = some w → J X y cc nL ret fr lo (pc + 3) lv st S r S') : J X y cc nL ret fr lo pc lv (.int y0 :: .int x :: st) S r S' :=
  J_br _ (fun _ _ _ _ _ _ _ _ _ _ _ _ _ _ _ _ _ hC k1 k2 => lv_icmp_ge hC.1 hC.2.1 hd ht k1 k2) h kt kf
theorem J_if_ge {x : Int32} {α : Type} {a b : Option α} {w : α} {off : Int} (tgt : Nat) (hd : decode cc pc = .ok (.ifCond .ge off, 3)) (ht : (pc : Int) + off = (tgt : Int)) (h : (if 0 ≤ x then a else b) = some w) (kt : 0 ≤ x → a = some w → J X y cc nL ret fr lo tgt lv st S r S') (kf : ¬ 0 ≤ x → b = some w → J X y cc nL ret fr lo (pc + 3) lv st S r S') : J X y cc nL ret fr lo pc lv (.int x :: st) S r S' :=
  J_br _ (fun _ _ _ _ _ _ _ _ _ _ _ _ _ _ _ _ _ hC k1 k2 => lv_if_ge hC.1 hC.2.1 hd ht k1 k2) h kt kf
theorem J_icmp_gt {x y0 : Int32} {α : Type} {a b : Option α} {w : α} {off : Int} (tgt : Nat) (hd : decode cc pc = .ok (.if_icmp .gt off, 3)) (ht : (pc : Int) + off = (tgt : Int)) (h : (if y0 < x then a else b) = some w) (kt : y0 < x → a = some w → J X y cc nL ret fr lo tgt lv st S r S') (kf : ¬ y0 < x → b = some w → J X y cc nL ret fr lo (pc + 3) lv st S r S') : J X y cc nL ret fr lo pc lv (.int y0 :: .int x :: st) S r S' :=
  J_br _ (fun _ _ _ _ _ _ _ _ _ _ _ _ _ _ _ _ _ hC k1 k2 => lv_icmp_gt hC.1 hC.2.1 hd ht k1 k2) h kt kf
theorem J_if_gt {x : Int32} {α : Type} {a b : Option α} {w : α} {off : Int} (tgt : Nat) (hd : decode cc pc = .ok (.ifCond .gt off, 3)) (ht : (pc : Int) + off = (tgt : Int)) (h : (if 0 < x then a else b) = some w) (kt : 0 < x → a = some w → J X y cc nL ret fr lo tgt lv st S r S') (kf : ¬ 0 < x → b = some w → J X y cc nL ret fr lo (pc + 3) lv st S r S') : J X y cc nL ret fr lo pc lv (.int x :: st) S r S' :=
  J_br _ (fun _ _ _ _ _ _ _ _ _ _ _ _ _ _ _ _ _ hC k1 k2 => lv_if_gt hC.1 hC.2.1 hd ht k1 k2) h kt kf
theorem J_icmp_le {x y0 : Int32} {α : Type} {a b : Option α} {w : α} {off : Int} (tgt : Nat) (hd : decode cc pc = .ok (.if_icmp .le off, 3)) (ht : (pc : Int) + off = (tgt : Int)) (h : (if x ≤ y0 then a else b) = some w) (kt : x ≤ y0 → a = some w → J X y cc nL ret fr lo tgt lv st S r S') (kf : ¬ x ≤ y0 → b = some w → J X y cc nL ret fr lo (pc + 3) lv st S r S') : J X y cc nL ret fr lo pc lv (.int y0 :: .int x :: st) S r S' :=
  J_br _ (fun _ _ _ _ _ _ _ _ _ _ _ _ _ _ _ _ _ hC k1 k2 => lv_icmp_le hC.1 hC.2.1 hd ht k1 k2) h kt kf
theorem J_if_le {x : Int32} {α : Type} {a b : Option α} {w : α} {off : Int} (tgt : Nat) (hd : decode cc pc = .ok (.ifCond .le off, 3)) (ht : (pc : Int) + off = (tgt : Int)) (h : (if x ≤ 0 then a else b) = some w) (kt : x ≤ 0 → a = some w → J X y cc nL ret fr lo tgt lv st S r S') (kf : ¬ x ≤ 0 → b = some w → J X y cc nL ret fr lo (pc + 3) lv st S r S') : J X y cc nL ret fr lo pc lv (.int x :: st) S r S' :=
  J_br _ (fun _ _ _ _ _ _ _ _ _ _ _ _ _ _ _ _ _ hC k1 k2 => lv_if_le hC.1 hC.2.1 hd ht k1 k2) h kt kf
theorem J_lcmp_eq {x y0 : Int64} {α : Type} {a b : Option α} {w : α} {off : Int} (tgt : Nat) (hd : decode cc pc = .ok (.lcmp, 1)) (hd2 : decode cc (pc + 1) = .ok (.ifCond .eq off, 3)) (ht : ((pc + 1 : Nat) : Int) + off = (tgt : Int)) (h : (if x = y0 then a else b) = some w) (kt : x = y0 → a = some w → J X y cc nL ret fr lo tgt lv st S r S') (kf : ¬ x = y0 → b = some w → J X y cc nL ret fr lo (pc + 4) lv st S r S') : J X y cc nL ret fr lo pc lv (.long y0 :: .long x :: st) S r S' :=
  J_br _ (fun _ _ _ _ _ _ _ _ _ _ _ _ _ _ _ _ _ hC k1 k2 => W.lcmp hC.1 hC.2.1 hd (lv_if_eq hC.1 hC.2.1 hd2 ht (fun q => k1 ((lg_cmp_eq x y0).mp q)) (fun q => k2 (fun z => q ((lg_cmp_eq x y0).mpr z))))) h kt kf
theorem J_lcmp_ne {x y0 : Int64} {α : Type} {a b : Option α} {w : α} {off : Int} (tgt : Nat) (hd : decode cc pc = .ok (.lcmp, 1)) (hd2 : decode cc (pc + 1) = .ok (.ifCond .ne off, 3)) (ht : ((pc + 1 : Nat) : Int) + off = (tgt : Int)) (h : (if x = y0 then a else b) = some w) (kf : x = y0 → a = some w → J X y cc nL ret fr lo (pc + 4) lv st S r S') (kt : ¬ x = y0 → b = some w → J X y cc nL ret fr lo tgt lv st S r S') : J X y cc nL ret fr lo pc lv (.long y0 :: .long x :: st) S r S' :=
  J_br _ (fun _ _ _ _ _ _ _ _ _ _ _ _ _ _ _ _ _ hC k1 k2 => W.lcmp hC.1 hC.2.1 hd (lv_if_ne hC.1 hC.2.1 hd2 ht (fun q => k2 (fun z => q ((lg_cmp_eq x y0).mpr z))) (fun q => k1 ((lg_cmp_eq x y0).mp q)))) h kf kt
theorem J_lcmp_lt {x y0 : Int64} {α : Type} {a b : Option α} {w : α} {off : Int} (tgt : Nat) (hd : decode cc pc = .ok (.lcmp, 1)) (hd2 : decode cc (pc + 1) = .ok (.ifCond .lt off, 3)) (ht : ((pc + 1 : Nat) : Int) + off = (tgt : Int)) (h : (if x < y0 then a else b) = some w) (kt : x < y0 → a = some w → J X y cc nL ret fr lo tgt lv st S r S') (kf : ¬ x < y0 → b = some w → J X y cc nL ret fr lo (pc + 4) lv st S r S') : J X y cc nL ret fr lo pc lv (.long y0 :: .long x :: st) S r S' :=
  J_br _ (fun _ _ _ _ _ _ _ _ _ _ _ _ _ _ _ _ _ hC k1 k2 => W.lcmp hC.1 hC.2.1 hd (lv_if_lt hC.1 hC.2.1 hd2 ht (fun q => k1 ((lg_cmp_lt x y0).mp q)) (fun q => k2 (fun z => q ((lg_cmp_lt x y0).mpr z))))) h kt kf
theorem J_lcmp_ge {x y0 : Int64} {α : Type} {a b : Option α} {w : α} {off : Int} (tgt : Nat) (hd : decode cc pc = .ok (.lcmp, 1)) (hd2 : decode cc (pc + 1) = .ok (.ifCond .ge off, 3)) (ht : ((pc + 1 : Nat) : Int) + off = (tgt : Int)) (h : (if y0 ≤ x then a else b) = some w) (kt : y0 ≤ x → a = some w → J X y cc nL ret fr lo tgt lv st S r S') (kf : ¬ y0 ≤ x → b = some w → J X y cc nL ret fr lo (pc + 4) lv st S r S') : J X y cc nL ret fr lo pc lv (.long y0 :: .long x :: st) S r S' :=
  J_br _ (fun _ _ _ _ _ _ _ _ _ _ _ _ _ _ _ _ _ hC k1 k2 => W.lcmp hC.1 hC.2.1 hd (lv_if_ge hC.1 hC.2.1 hd2 ht (fun q => k1 ((lg_cmp_ge x y0).mp q)) (fun q => k2 (fun z => q ((lg_cmp_ge x y0).mpr z))))) h kt kf
theorem J_lcmp_gt {x y0 : Int64} {α : Type} {a b : Option α} {w : α} {off : Int} (tgt : Nat) (hd : decode cc pc = .ok (.lcmp, 1)) (hd2 : decode cc (pc + 1) = .ok (.ifCond .gt off, 3)) (ht : ((pc + 1 : Nat) : Int) + off = (tgt : Int)) (h : (if y0 < x then a else b) = some w) (kt : y0 < x → a = some w → J X y cc nL ret fr lo tgt lv st S r S') (kf : ¬ y0 < x → b = some w → J X y cc nL ret fr lo (pc + 4) lv st S r S') : J X y cc nL ret fr lo pc lv (.long y0 :: .long x :: st) S r S' :=
  J_br _ (fun _ _ _ _ _ _ _ _ _ _ _ _ _ _ _ _ _ hC k1 k2 => W.lcmp hC.1 hC.2.1 hd (lv_if_gt hC.1 hC.2.1 hd2 ht (fun q => k1 ((lg_cmp_gt x y0).mp q)) (fun q => k2 (fun z => q ((lg_cmp_gt x y0).mpr z))))) h kt kf
theorem J_lcmp_le {x y0 : Int64} {α : Type} {a b : Option α} {w : α} {off : Int} (tgt : Nat) (hd : decode cc pc = .ok (.lcmp, 1)) (hd2 : decode cc (pc + 1) = .ok (.ifCond .le off, 3)) (ht : ((pc + 1 : Nat) : Int) + off = (tgt : Int)) (h : (if x ≤ y0 then a else b) = some w) (kt : x ≤ y0 → a = some w → J X y cc nL ret fr lo tgt lv st S r S') (kf : ¬ x ≤ y0 → b = some w → J X y cc nL ret fr lo (pc + 4) lv st S r S') : J X y cc nL ret fr lo pc lv (.long y0 :: .long x :: st) S r S' :=
  J_br _ (fun _ _ _ _ _ _ _ _ _ _ _ _ _ _ _ _ _ hC k1 k2 => W.lcmp hC.1 hC.2.1 hd (lv_if_le hC.1 hC.2.1 hd2 ht (fun q => k1 ((lg_cmp_le x y0).mp q)) (fun q => k2 (fun z => q ((lg_cmp_le x y0).mpr z))))) h kt kf
end Rules2
end
section
/-! calls over J -/
section JCalls
variable {σ : Type} {X : RT σ} {y : MethodName} {cc : ByteArray} {nL : Nat} {ret : Option FieldType} {fr lo : Nat} {pc : Nat} {lv : List (Nat × Value)} {st rest : List Value} {S S' : σ} {r : Option Value}
variable {y1 : MethodName} {cc1 : ByteArray} {nL1 : Nat} {ret1 : Option FieldType} {fr1 lo1 : Nat} {S1 : σ} {v : Option Value} {i n : Nat} {As st' : List Value} {b : Nat}
theorem jPay {args : Array Value} {s : State} (hts : ∀ w ∈ tblG, w.before args s = true) (hcode : Cond.code y1 cc1 nL1 ret1 ∈ tblG) : ∀ w ∈ (Cond.code y1 cc1 nL1 ret1 :: tblG), ∀ (a' : Array Value) (U : State), s.WarmedH U.vm → w.before a' U = true := by
  intro w hw a' U hW
  have hm : w ∈ tblG := by
    rcases List.mem_cons.mp hw with rfl | h
    · exact hcode
    · exact h
  exact word_at hW (tblG_good hm) (hts w hm)
/-- what a call's words say of the callee: its code, its sort -/
def jCal (y1 : MethodName) (cc1 : ByteArray) (nL1 : Nat) (ret1 : Option FieldType) (n : Nat) : Prop :=
  Cond.code y1 cc1 nL1 ret1 ∈ tblG ∧ Cond.initialized y1.cls ∈ tblG ∧ (y1.cls ≠ "java/lang/invoke/MethodHandle" ∧ y1.cls ≠ "java/lang/invoke/VarHandle") ∧ (parseMethodDescriptor y1.desc).map (fun d => d.parameters.length) = some n
theorem jSig (h : (parseMethodDescriptor y1.desc).map (fun d => d.parameters.length) = some n) : ∀ sig, parseMethodDescriptor y1.desc = some sig → n = sig.parameters.length := by
  intro sig hs
  rw [hs] at h
  exact (Option.some.inj h).symm
theorem jCB {R : Room} {s : State} {args : Array Value} {own : String} {mc ms : Nat} (hts : ∀ w ∈ tblG, w.before args s = true) (hc : jCal y1 cc1 nL1 ret1 n) (hl : Cond.methodLink own i y1 ∈ tblG) (hfr : fr1 + 1 ≤ R.frames) (hlo : 8 + (nL1 + 11) + lo1 ≤ R.locals) :
    CallB R s args own i y1 cc1 nL1 ret1 (Cond.code y1 cc1 nL1 ret1 :: tblG) { frames := fr1, cells := mc, slots := ms, locals := lo1 } mc ms n :=
  ⟨rfl, rfl, hfr, hlo, jPay hts hc.1, List.mem_cons_self, hts _ hc.1, hts _ hc.2.1, hc.2.2.1, jSig hc.2.2.2, hts _ hl⟩
theorem jCN {R : Room} {s : State} {args : Array Value} {own host : String} {mc ms : Nat} (hts : ∀ w ∈ tblG, w.before args s = true) (hc : jCal y1 cc1 nL1 ret1 n) (hl : va_Nw (Cond.methodLinkNest own i y1 host) s) (hfr : fr1 + 1 ≤ R.frames) (hlo : 8 + (nL1 + 11) + lo1 ≤ R.locals) :
    va_CN R s args own i y1 host cc1 nL1 ret1 (Cond.code y1 cc1 nL1 ret1 :: tblG) { frames := fr1, cells := mc, slots := ms, locals := lo1 } mc ms n :=
  ⟨⟨rfl, rfl, hfr, hlo, jPay hts hc.1, List.mem_cons_self⟩, hts _ hc.1, hts _ hc.2.1, hc.2.2.1, jSig hc.2.2.2, va_Nw.use rfl hl⟩
theorem jBlind {D : JD} {av : List Value} : FrameBlind (va_Pc av (fun U => X.1 D S U.heap ∧ KD D U)) := by
  intro a U g mk q
  obtain ⟨q1, q2, q3⟩ := q
  exact ⟨q1, q2, KD.moved (s := U) (State.WarmedH.refl U) q3⟩
/-- behind a call -/
theorem jRun {p : Program} {l : Launch} {e : Env} {R : Room} {s : State} {m : MethodId} {args : Array Value} {below : List Frame} {meth : Method} {c : Code} {H : Heap} {locs : List Loc} {cells slots mc ms : Nat} {ls : Array Slot} {A : Nat → Prop} {D : JD} {a : Array Value}
    (hr : va_Run p l e R s m args below meth c H locs cells slots (X.2.2.1 S1 - X.2.2.1 S) (X.2.2.2.1 S1 - X.2.2.2.1 S) (F0 m pc ls st) rest (jQ X D v S1 (X.2.1 S) a) (X.2.1 S))
    (hle : jle X S S1) (hst : v.toList ++ rest = st') (hC : CX y cc nL ret fr lo D p R s m args meth c) (hl : lv_has ls nL lv) (hS : va_S A s.heap H locs) (hA : ∀ q, X.2.1 S q → A q) (h1 : cells + X.2.2.1 S' ≤ mc + X.2.2.1 S) (h2 : slots + X.2.2.2.1 S' ≤ ms + X.2.2.2.1 S) (h3 : mc ≤ R.cells) (h4 : ms ≤ R.slots)
    (k : J X y cc nL ret fr lo (pc + 3) lv st' S1 r S') : W p l e R s m args below meth c H locs cells slots (MQ below (jQ X D r S' A) args s mc ms A) (F0 m pc ls st) := by
  intro T hT X0
  obtain ⟨v', st₀, t, T', L, h0, X', hL, e1, e2, ⟨hv, hrep, hz, hk⟩, go⟩ := hr T hT X0
  obtain rfl := Outcome.returned.inj hv
  subst hst
  rw [h0] at hz hk
  have hS' : va_S A s.heap T'.heap (locs ++ L) := ⟨Nat.le_trans hS.1 (by rw [e1]; exact hz), fun q q1 q2 => by rw [e1, hk q (Nat.lt_of_lt_of_le q1 hS.1) (fun z => q2 (hA q z))]; exact hS.2.1 q q1 q2, fun q hq => by
      rcases List.mem_append.mp hq with h | h
      · exact hS.2.2 q h
      · exact hA _ (hL q h)⟩
  obtain ⟨t2, a1, b1⟩ := k.2 p l e R s m args below meth c T'.heap (locs ++ L) (cells + (X.2.2.1 S1 - X.2.2.1 S)) (slots + (X.2.2.2.1 S1 - X.2.2.2.1 S)) mc ms ls A D hC hl (by rw [e1]; exact hrep) hS' (fun q hq => hA q (hle.2.2.2 q hq)) (by have := hle.1; omega) (by have := hle.2.1; omega) h3 h4 T' rfl X'
  exact ⟨t2, go t2 a1, b1⟩
theorem jRoom {cells mc : Nat} {a b c : Nat} (h : cells + c ≤ mc + a) (hab : a ≤ b) (hbc : b ≤ c) : cells + (b - a) ≤ mc := by omega
/-- an object stands at b, of the callee's own kind -/
def jRecv (X : RT σ) (S : σ) (b : Nat) (C : String) : Prop := ∀ (D : JD) (H : Heap) (s : State), X.1 D S H → KD D s → ∃ cell : Cell, H[b]? = some cell ∧ cell.vm.isStatics = false ∧ s.vm.findClass C = some cell.cls
theorem J_callV (hc : CT X y1 cc1 nL1 ret1 fr1 lo1 (.ref b :: As) S v S1) (hw : jCal y1 cc1 nL1 ret1 n) (hlk : Cond.methodLink y.cls i y1 ∈ tblG ∧ Cond.instanceMethod y1 ∈ tblG ∧ Cond.selects y1.cls y1 y1 ∈ tblG) (hrv : jRecv X S b y1.cls) (hn : As.length = n) (hfr : fr1 + 1 ≤ fr) (hlo : 8 + (nL1 + 11) + lo1 ≤ lo) (hst : st = As.reverse ++ .ref b :: rest) (hst' : v.toList ++ rest = st') (hW : (rest.map fun v => v.category).sum ≤ 8) (hd : decode cc pc = .ok (.invokevirtual i, 3))
    (k : J X y cc nL ret fr lo (pc + 3) lv st' S1 r S') : J X y cc nL ret fr lo pc lv st S r S' := by
  refine ⟨hc.1.tr k.1, fun p l e R s m args below meth c H locs cells slots mc ms ls A D hC hl hR hS hA h1 h2 h3 h4 => ?_⟩
  subst hst
  obtain ⟨hx, hb, hml, hown, hts, hrt, hlk2, hnm, hK, hf1, hf2⟩ := id hC
  refine jRun (va_runV (As := As) (rest := rest) (C := y1.cls) (n := n) ⟨hx, hb, hml, hown, hts⟩ (hc.2 l D) ⟨jCB hts hw hlk.1 (by omega) (by omega), hts _ hlk.2.1, hts _ hlk.2.2⟩ ⟨jBlind, hrv D H s hR hK, fun U hU hW => ⟨rfl, by rw [hU]; exact hR, hK.moved hW⟩⟩ rfl hn hl.1 rfl (lv_room hW) hd ⟨?_, ?_⟩) hc.1 hst' hC hl hS hA h1 h2 h3 h4 k
  · exact Nat.le_trans (jRoom h1 hc.1.1 k.1.1) h3
  · exact Nat.le_trans (jRoom h2 hc.1.2.1 k.1.2.1) h4
theorem J_callVN {host : String} (hc : CT X y1 cc1 nL1 ret1 fr1 lo1 (.ref b :: As) S v S1) (hw : jCal y1 cc1 nL1 ret1 n) (hlk : Cond.methodLinkNest y.cls i y1 host ∈ lw_tbl ∧ Cond.instanceMethod y1 ∈ tblG ∧ Cond.selects y1.cls y1 y1 ∈ tblG) (hrv : jRecv X S b y1.cls) (hn : As.length = n) (hfr : fr1 + 1 ≤ fr) (hlo : 8 + (nL1 + 11) + lo1 ≤ lo) (hst : st = As.reverse ++ .ref b :: rest) (hst' : v.toList ++ rest = st') (hW : (rest.map fun v => v.category).sum ≤ 8) (hd : decode cc pc = .ok (.invokevirtual i, 3))
    (k : J X y cc nL ret fr lo (pc + 3) lv st' S1 r S') : J X y cc nL ret fr lo pc lv st S r S' := by
  refine ⟨hc.1.tr k.1, fun p l e R s m args below meth c H locs cells slots mc ms ls A D hC hl hR hS hA h1 h2 h3 h4 => ?_⟩
  subst hst
  obtain ⟨hx, hb, hml, hown, hts, hrt, hlk2, hnm, hK, hf1, hf2⟩ := id hC
  refine jRun (va_runVN (As := As) (rest := rest) (C := y1.cls) (n := n) ⟨hx, hb, hml, hown, hts⟩ (hc.2 l D) ⟨jCN hts hw (hK.2.1 _ hlk.1 rfl) (by omega) (by omega), hts _ hlk.2.1, hts _ hlk.2.2⟩ ⟨jBlind, hrv D H s hR hK, fun U hU hW => ⟨rfl, by rw [hU]; exact hR, hK.moved hW⟩⟩ rfl hn hl.1 rfl (lv_room hW) hd ⟨?_, ?_⟩) hc.1 hst' hC hl hS hA h1 h2 h3 h4 k
  · exact Nat.le_trans (jRoom h1 hc.1.1 k.1.1) h3
  · exact Nat.le_trans (jRoom h2 hc.1.2.1 k.1.2.1) h4
theorem J_callS (hc : CT X y1 cc1 nL1 ret1 fr1 lo1 As S v S1) (hw : jCal y1 cc1 nL1 ret1 n) (hlk : Cond.methodLink y.cls i y1 ∈ tblG ∧ Cond.static y1 ∈ tblG) (hn : As.length = n) (hfr : fr1 + 1 ≤ fr) (hlo : 8 + (nL1 + 11) + lo1 ≤ lo) (hst : st = As.reverse ++ rest) (hst' : v.toList ++ rest = st') (hW : (rest.map fun v => v.category).sum ≤ 8) (hd : decode cc pc = .ok (.invokestatic i, 3))
    (k : J X y cc nL ret fr lo (pc + 3) lv st' S1 r S') : J X y cc nL ret fr lo pc lv st S r S' := by
  refine ⟨hc.1.tr k.1, fun p l e R s m args below meth c H locs cells slots mc ms ls A D hC hl hR hS hA h1 h2 h3 h4 => ?_⟩
  subst hst
  obtain ⟨hx, hb, hml, hown, hts, hrt, hlk2, hnm, hK, hf1, hf2⟩ := id hC
  refine jRun (va_runS (As := As) (rest := rest) (n := n) ⟨hx, hb, hml, hown, hts⟩ (hc.2 l D) ⟨jCB hts hw hlk.1 (by omega) (by omega), hts _ hlk.2⟩ ⟨jBlind, fun U hU hW => ⟨rfl, by rw [hU]; exact hR, hK.moved hW⟩⟩ rfl hn hl.1 rfl (lv_room hW) hd ⟨?_, ?_⟩) hc.1 hst' hC hl hS hA h1 h2 h3 h4 k
  · exact Nat.le_trans (jRoom h1 hc.1.1 k.1.1) h3
  · exact Nat.le_trans (jRoom h2 hc.1.2.1 k.1.2.1) h4
theorem J_callSN {host : String} (hc : CT X y1 cc1 nL1 ret1 fr1 lo1 As S v S1) (hw : jCal y1 cc1 nL1 ret1 n) (hlk : Cond.methodLinkNest y.cls i y1 host ∈ lw_tbl ∧ Cond.static y1 ∈ tblG) (hn : As.length = n) (hfr : fr1 + 1 ≤ fr) (hlo : 8 + (nL1 + 11) + lo1 ≤ lo) (hst : st = As.reverse ++ rest) (hst' : v.toList ++ rest = st') (hW : (rest.map fun v => v.category).sum ≤ 8) (hd : decode cc pc = .ok (.invokestatic i, 3))
    (k : J X y cc nL ret fr lo (pc + 3) lv st' S1 r S') : J X y cc nL ret fr lo pc lv st S r S' := by
  refine ⟨hc.1.tr k.1, fun p l e R s m args below meth c H locs cells slots mc ms ls A D hC hl hR hS hA h1 h2 h3 h4 => ?_⟩
  subst hst
  obtain ⟨hx, hb, hml, hown, hts, hrt, hlk2, hnm, hK, hf1, hf2⟩ := id hC
  refine jRun (va_runSN (As := As) (rest := rest) (n := n) ⟨hx, hb, hml, hown, hts⟩ (hc.2 l D) ⟨jCN hts hw (hK.2.1 _ hlk.1 rfl) (by omega) (by omega), hts _ hlk.2, trivial⟩ ⟨jBlind, fun U hU hW => ⟨rfl, by rw [hU]; exact hR, hK.moved hW⟩⟩ rfl hn hl.1 rfl (lv_room hW) hd ⟨?_, ?_⟩) hc.1 hst' hC hl hS hA h1 h2 h3 h4 k
  · exact Nat.le_trans (jRoom h1 hc.1.1 k.1.1) h3
  · exact Nat.le_trans (jRoom h2 hc.1.2.1 k.1.2.1) h4
theorem J_callI (hc : CT X y1 cc1 nL1 none fr1 lo1 (.ref b :: As) S v S1) (hw : jCal y1 cc1 nL1 none n) (hlk : Cond.methodLink y.cls i y1 ∈ tblG ∧ Cond.instanceMethod y1 ∈ tblG) (hy : y1.name = "<init>") (hn : As.length = n) (hfr : fr1 + 1 ≤ fr) (hlo : 8 + (nL1 + 11) + lo1 ≤ lo) (hst : st = As.reverse ++ .ref b :: rest) (hst' : v.toList ++ rest = st') (hW : (rest.map fun v => v.category).sum ≤ 8) (hd : decode cc pc = .ok (.invokespecial i, 3))
    (k : J X y cc nL ret fr lo (pc + 3) lv st' S1 r S') : J X y cc nL ret fr lo pc lv st S r S' := by
  refine ⟨hc.1.tr k.1, fun p l e R s m args below meth c H locs cells slots mc ms ls A D hC hl hR hS hA h1 h2 h3 h4 => ?_⟩
  subst hst
  obtain ⟨hx, hb, hml, hown, hts, hrt, hlk2, hnm, hK, hf1, hf2⟩ := id hC
  refine jRun (va_runI (As := As) (rest := rest) (n := n) ⟨hx, hb, hml, hown, hts⟩ (hc.2 l D) ⟨jCB hts hw hlk.1 (by omega) (by omega), hy, hts _ hlk.2⟩ ⟨jBlind, fun U hU hW => ⟨rfl, by rw [hU]; exact hR, hK.moved hW⟩⟩ rfl hn hl.1 rfl (lv_room hW) hd ⟨?_, ?_⟩) hc.1 hst' hC hl hS hA h1 h2 h3 h4 k
  · exact Nat.le_trans (jRoom h1 hc.1.1 k.1.1) h3
  · exact Nat.le_trans (jRoom h2 hc.1.2.1 k.1.2.1) h4
theorem J_callIN {host : String} (hc : CT X y1 cc1 nL1 none fr1 lo1 (.ref b :: As) S v S1) (hw : jCal y1 cc1 nL1 none n) (hlk : Cond.methodLinkNest y.cls i y1 host ∈ lw_tbl ∧ Cond.instanceMethod y1 ∈ tblG) (hy : y1.name = "<init>") (hn : As.length = n) (hfr : fr1 + 1 ≤ fr) (hlo : 8 + (nL1 + 11) + lo1 ≤ lo) (hst : st = As.reverse ++ .ref b :: rest) (hst' : v.toList ++ rest = st') (hW : (rest.map fun v => v.category).sum ≤ 8) (hd : decode cc pc = .ok (.invokespecial i, 3))
    (k : J X y cc nL ret fr lo (pc + 3) lv st' S1 r S') : J X y cc nL ret fr lo pc lv st S r S' := by
  refine ⟨hc.1.tr k.1, fun p l e R s m args below meth c H locs cells slots mc ms ls A D hC hl hR hS hA h1 h2 h3 h4 => ?_⟩
  subst hst
  obtain ⟨hx, hb, hml, hown, hts, hrt, hlk2, hnm, hK, hf1, hf2⟩ := id hC
  refine jRun (va_runIN (As := As) (rest := rest) (n := n) ⟨hx, hb, hml, hown, hts⟩ (hc.2 l D) ⟨jCN hts hw (hK.2.1 _ hlk.1 rfl) (by omega) (by omega), hy, hts _ hlk.2⟩ ⟨jBlind, fun U hU hW => ⟨rfl, by rw [hU]; exact hR, hK.moved hW⟩⟩ rfl hn hl.1 rfl (lv_room hW) hd ⟨?_, ?_⟩) hc.1 hst' hC hl hS hA h1 h2 h3 h4 k
  · exact Nat.le_trans (jRoom h1 hc.1.1 k.1.1) h3
  · exact Nat.le_trans (jRoom h2 hc.1.2.1 k.1.2.1) h4
/-- Object's own maker -/
theorem J_objInit {a : Nat} (hlk : Cond.methodLink y.cls i Lib.objectInit ∈ tblG) (h2 : Cond.instanceMethod Lib.objectInit ∈ tblG) (h3 : Cond.code Lib.objectInit ⟨#[0xb1]⟩ 1 none ∈ tblG) (hfr : 1 ≤ fr) (hlo : 24 ≤ lo) (hW : (rest.map fun v => v.category).sum ≤ 8) (hd : decode cc pc = .ok (.invokespecial i, 3)) (k : J X y cc nL ret fr lo (pc + 3) lv rest S r S') : J X y cc nL ret fr lo pc lv (.ref a :: rest) S r S' :=
  J_go (fun p l e R s m args below meth c H locs cells slots Q ls D hC hl kk => by
    obtain ⟨hx, hb, hml, hown, hts, hrt, hlk2, hnm, hK, hf1, hf2⟩ := id hC
    refine W.objInit hx hb hown (hts _ hlk) (hts _ h2) (hts _ h3) rfl (by rw [hml]; exact hl.1) rfl hd (by omega) ?_ (kk ls hl)
    have := lv_room (m := m) (pc := pc) (ls := ls) (rest := .ref a :: rest) hW
    omega) k
/-- ends -/
theorem J_iret {x : Int32} (hr : ret = some .int) (hd : decode cc pc = .ok (.ireturn, 1)) : J X y cc nL ret fr lo pc lv [.int x] S (some (.int x)) S := by
  refine ⟨jle.rfl', fun p l e R s m args below meth c H locs cells slots mc ms ls A D hC hl hR hS hA h1 h2 h3 h4 => ?_⟩
  obtain ⟨hx, hb, hml, hown, hts, hrt, hlocks, hnm, hK, hf1, hf2⟩ := id hC
  subst hr
  refine W.widen (k := mc) (n := ms) (by omega) (by omega) ?_
  exact W.iret hx hb hrt (fun t ht hW => ⟨rfl, by rw [ht]; exact hR, hS.F ht⟩) hS.2.2 hd hlocks
theorem J_zret {x : Int32} (hr : ret = some .boolean) (hz : x = 0 ∨ x = 1) (hd : decode cc pc = .ok (.ireturn, 1)) : J X y cc nL ret fr lo pc lv [.int x] S (some (.int x)) S := by
  refine ⟨jle.rfl', fun p l e R s m args below meth c H locs cells slots mc ms ls A D hC hl hR hS hA h1 h2 h3 h4 => ?_⟩
  obtain ⟨hx, hb, hml, hown, hts, hrt, hlocks, hnm, hK, hf1, hf2⟩ := id hC
  subst hr
  refine W.widen (k := mc) (n := ms) (by omega) (by omega) ?_
  exact W.zret hx hb hrt (by rcases hz with rfl | rfl <;> rfl) (fun t ht hW => ⟨rfl, by rw [ht]; exact hR, hS.F ht⟩) hS.2.2 hd hlocks
theorem J_lret {x : Int64} (hr : ret = some .long) (hd : decode cc pc = .ok (.lreturn, 1)) : J X y cc nL ret fr lo pc lv [.long x] S (some (.long x)) S := by
  refine ⟨jle.rfl', fun p l e R s m args below meth c H locs cells slots mc ms ls A D hC hl hR hS hA h1 h2 h3 h4 => ?_⟩
  obtain ⟨hx, hb, hml, hown, hts, hrt, hlocks, hnm, hK, hf1, hf2⟩ := id hC
  subst hr
  refine W.widen (k := mc) (n := ms) (by omega) (by omega) ?_
  exact W.lret hx hb hrt (fun t ht hW => ⟨rfl, by rw [ht]; exact hR, hS.F ht⟩) hS.2.2 hd hlocks
theorem J_aretq {x : Option Nat} {C : String} (hr : ret = some (.object C)) (hd : decode cc pc = .ok (.areturn, 1)) : J X y cc nL ret fr lo pc lv [va_rf x] S (some (va_rf x)) S := by
  refine ⟨jle.rfl', fun p l e R s m args below meth c H locs cells slots mc ms ls A D hC hl hR hS hA h1 h2 h3 h4 => ?_⟩
  obtain ⟨hx, hb, hml, hown, hts, hrt, hlocks, hnm, hK, hf1, hf2⟩ := id hC
  subst hr
  refine W.widen (k := mc) (n := ms) (by omega) (by omega) ?_
  exact W.aret hx hb hrt (Or.inl ⟨C, rfl⟩) (va_rf_or x) (fun t ht hW => ⟨rfl, by rw [ht]; exact hR, hS.F ht⟩) hS.2.2 hd hlocks
theorem J_vret (hr : ret = none) (hd : decode cc pc = .ok (.return_, 1)) : J X y cc nL ret fr lo pc lv [] S none S := by
  refine ⟨jle.rfl', fun p l e R s m args below meth c H locs cells slots mc ms ls A D hC hl hR hS hA h1 h2 h3 h4 => ?_⟩
  obtain ⟨hx, hb, hml, hown, hts, hrt, hlocks, hnm, hK, hf1, hf2⟩ := id hC
  subst hr
  refine W.widen (k := mc) (n := ms) (by omega) (by omega) ?_
  exact W.vret hx hb hrt (fun t ht hW => ⟨rfl, by rw [ht]; exact hR, hS.F ht⟩) hS.2.2 hd hlocks
end JCalls
end
section
/-! THE STATE OF THE PROGRAM'S OBJECTS: kinds, lengths, ints, longs, references by address; how many cells and slots there are -/
abbrev Mem : Type := (Nat → Nat) × (Nat → Nat) × (Nat → Nat → Int32) × (Nat → Nat → Int64) × (Nat → Nat → Option Nat) × Nat × Nat × Nat
def mNx (S : Mem) : Nat := S.2.2.2.2.2.1
def mSl (S : Mem) : Nat := S.2.2.2.2.2.2.1
/-- where the weights lie -/
def mW (S : Mem) : Nat := S.2.2.2.2.2.2.2
def mKd (S : Mem) (a : Nat) : Nat := if a < mNx S then S.1 a else 0
def mLn (S : Mem) (a : Nat) : Nat := S.2.1 a
def mI (S : Mem) (a k : Nat) : Int32 := S.2.2.1 a k
def mL (S : Mem) (a k : Nat) : Int64 := S.2.2.2.1 a k
def mR (S : Mem) (a k : Nat) : Option Nat := S.2.2.2.2.1 a k
def up1 {α : Type} (f : Nat → α) (a : Nat) (v : α) : Nat → α := fun b => if b = a then v else f b
def up2 {α : Type} (f : Nat → Nat → α) (a k : Nat) (v : α) : Nat → Nat → α := fun b j => if b = a ∧ j = k then v else f b j
def mSI (S : Mem) (a k : Nat) (v : Int32) : Mem := (S.1, S.2.1, up2 S.2.2.1 a k v, S.2.2.2)
def mSL (S : Mem) (a k : Nat) (v : Int64) : Mem := (S.1, S.2.1, S.2.2.1, up2 S.2.2.2.1 a k v, S.2.2.2.2)
def mSR (S : Mem) (a k : Nat) (v : Option Nat) : Mem := (S.1, S.2.1, S.2.2.1, S.2.2.2.1, up2 S.2.2.2.2.1 a k v, S.2.2.2.2.2)
/-- a new cell of a kind, of a length (0 for objects), of so many slots -/
def mNew (S : Mem) (kd ln sl : Nat) : Mem := (up1 S.1 (mNx S) kd, up1 S.2.1 (mNx S) ln, up1 S.2.2.1 (mNx S) (fun _ => 0), up1 S.2.2.2.1 (mNx S) (fun _ => 0), up1 S.2.2.2.2.1 (mNx S) (fun _ => none), mNx S + 1, mSl S + sl, mW S)
/-- a new row of ints, n long, that begins with another's -/
def mCopy (S : Mem) (a n : Nat) : Mem := (up1 S.1 (mNx S) 8, up1 S.2.1 (mNx S) n, up1 S.2.2.1 (mNx S) (fun j => if j < mLn S a then mI S a j else 0), up1 S.2.2.2.1 (mNx S) (fun _ => 0), up1 S.2.2.2.2.1 (mNx S) (fun _ => none), mNx S + 1, mSl S + n, mW S)
/-- class by class: the fields' types, how many fields -/
def cT : Nat → Nat → FieldType
  | 0 => tyX0 | 1 => tyX1 | 2 => tyX2 | 3 => tyX3 | 4 => tyX4 | 5 => tyX5 | _ => tyX6
def cN : Nat → Nat
  | 0 => 5 | 1 => 8 | 2 => 5 | 3 => 12 | 4 => 7 | 5 => 11 | _ => 45
def fvT (S : Mem) (a k : Nat) : FieldType → Value
  | .long => .long (mL S a k)
  | .object _ => va_rf (mR S a k)
  | .array _ => va_rf (mR S a k)
  | _ => .int (mI S a k)
def fv (ci : Nat) (S : Mem) (a k : Nat) : Value := fvT S a k (cT ci k)
/-- what a row of kind 8 (ints), 9 (longs), 10 (booleans), 11 .. (frames, rods, exercises) holds at a place -/
def avT (S : Mem) (a j : Nat) : Nat → Value
  | 8 => .int (mI S a j)
  | 9 => .long (mL S a j)
  | 10 => .int (mI S a j)
  | _ => va_rf (mR S a j)
def repAt (D : JD) (S : Mem) (H : Heap) (a k : Nat) : Prop :=
  if k = 0 then True else if k < 8 then t_OB a (D.1.1 (k - 1)) (cN (k - 1)) (D.1.2 (k - 1)) H (fv (k - 1) S a) else H[a]? = some (arrV (D.2.1 (k - 8)) (mLn S a) (fun j => avT S a j k))
def mRep (D : JD) (S : Mem) (H : Heap) : Prop := H.size = mNx S ∧ (∀ a, repAt D S H a (mKd S a)) ∧ ∃ cell : Cell, H[D.2.2.1]? = some cell ∧ cell.vm.isStatics = true ∧ cell.slots[D.2.2.2]? = some (.ref (mW S))
def mFree (S : Mem) (q : Nat) : Prop := mKd S q ≠ 0 ∨ mNx S ≤ q
def MX : RT Mem := (mRep, mFree, mNx, mSl, mKd, mLn)
theorem repObj {D : JD} {S : Mem} {H : Heap} {a ci : Nat} (h : mRep D S H) (hk : mKd S a = ci + 1) (hci : ci < 7) : t_OB a (D.1.1 ci) (cN ci) (D.1.2 ci) H (fv ci S a) := by
  have := h.2.1 a
  unfold repAt at this
  rw [hk, if_neg (by omega), if_pos (by omega)] at this
  exact this
theorem repArr {D : JD} {S : Mem} {H : Heap} {a z : Nat} (h : mRep D S H) (hk : mKd S a = 8 + z) : H[a]? = some (arrV (D.2.1 z) (mLn S a) (fun j => avT S a j (8 + z))) := by
  have := h.2.1 a
  unfold repAt at this
  rw [hk, if_neg (by omega), if_neg (by omega)] at this
  rw [show 8 + z - 8 = z by omega] at this
  exact this
/-- two states alike but for the cell a -/
def mSame (S S2 : Mem) (a : Nat) : Prop := mW S2 = mW S ∧ mNx S2 = mNx S ∧ mSl S2 = mSl S ∧ mKd S2 = mKd S ∧ mLn S2 = mLn S ∧ ∀ b, b ≠ a → mI S2 b = mI S b ∧ mL S2 b = mL S b ∧ mR S2 b = mR S b
theorem mSame_I (S : Mem) (a k : Nat) (v : Int32) : mSame S (mSI S a k v) a := ⟨rfl, rfl, rfl, rfl, rfl, fun b hb => ⟨by funext j; simp [mI, mSI, up2, hb], rfl, rfl⟩⟩
theorem mSame_L (S : Mem) (a k : Nat) (v : Int64) : mSame S (mSL S a k v) a := ⟨rfl, rfl, rfl, rfl, rfl, fun b hb => ⟨rfl, by funext j; simp [mL, mSL, up2, hb], rfl⟩⟩
theorem mSame_R (S : Mem) (a k : Nat) (v : Option Nat) : mSame S (mSR S a k v) a := ⟨rfl, rfl, rfl, rfl, rfl, fun b hb => ⟨rfl, rfl, by funext j; simp [mR, mSR, up2, hb]⟩⟩
theorem mSame.le {S S2 : Mem} {a : Nat} (h : mSame S S2 a) : jle MX S S2 := by
  obtain ⟨-, h1, h2, h3, h4, -⟩ := h
  refine ⟨Nat.le_of_eq h1.symm, Nat.le_of_eq h2.symm, fun b _ => ⟨congrFun h3 b, congrFun h4 b⟩, fun q hq => ?_⟩
  have hq : mKd S2 q ≠ 0 ∨ mNx S2 ≤ q := hq
  rw [h3, h1] at hq
  exact hq
theorem fvT_same {S S2 : Mem} {b : Nat} (h : mI S2 b = mI S b ∧ mL S2 b = mL S b ∧ mR S2 b = mR S b) (k : Nat) (ty : FieldType) : fvT S2 b k ty = fvT S b k ty := by
  obtain ⟨h1, h2, h3⟩ := h
  cases ty <;> simp [fvT, h1, h2, h3]
theorem avT_same {S S2 : Mem} {b : Nat} (h : mI S2 b = mI S b ∧ mL S2 b = mL S b ∧ mR S2 b = mR S b) (j k : Nat) : avT S2 b j k = avT S b j k := by
  obtain ⟨h1, h2, h3⟩ := h
  unfold avT
  split <;> simp [h1, h2, h3]
theorem repAt_same {D : JD} {S S2 : Mem} {H H2 : Heap} {b k : Nat} (h : repAt D S H b k) (hH : H2[b]? = H[b]?) (hl : mLn S2 b = mLn S b) (hs : mI S2 b = mI S b ∧ mL S2 b = mL S b ∧ mR S2 b = mR S b) : repAt D S2 H2 b k := by
  unfold repAt at h ⊢
  split
  · trivial
  · rename_i h0
    rw [if_neg h0] at h
    split
    · rename_i h1
      rw [if_pos h1] at h
      exact (h.kept hH).to (fun j _ => (fvT_same hs j _).symm)
    · rename_i h1
      rw [if_neg h1] at h
      rw [hH, h, hl]
      congr 2
      funext j
      exact (avT_same hs j k).symm
/-- one cell has changed -/
theorem mRep.put {D : JD} {S S2 : Mem} {H H2 : Heap} {a : Nat} (h : mRep D S H) (hs : mSame S S2 a) (hz : H2.size = H.size) (ho : ∀ q, q ≠ a → H2[q]? = H[q]?) (hk : mKd S a ≠ 0) (ha : repAt D S2 H2 a (mKd S a)) : mRep D S2 H2 := by
  obtain ⟨h1, h2, cell, h3, h4, h5⟩ := id h
  obtain ⟨s0, s1, s2, s3, s4, s5⟩ := hs
  refine ⟨by rw [hz, h1, s1], fun b => ?_, cell, ?_, h4, by rw [s0]; exact h5⟩
  · rw [s3]
    by_cases hb : b = a
    · subst hb; exact ha
    · exact repAt_same (h2 b) (ho b hb) (congrFun s4 b) (s5 b hb)
  · rw [ho _ ?_]; · exact h3
    intro he
    have h6 := h2 a
    unfold repAt at h6
    rw [if_neg hk] at h6
    rw [he] at h3
    split at h6
    · obtain ⟨c2, q1, q2, q3, -⟩ := h6
      cases h3.symm.trans q1
      rw [q3] at h4
      cases h4
    · cases h3.symm.trans h6
      cases h4
theorem updV_ne {f : Nat → Value} {k j : Nat} {v : Value} (h : j ≠ k) : updV f k v j = f j := by simp [updV, h]
theorem updV_eq {f : Nat → Value} {k : Nat} {v : Value} : updV f k v k = v := by simp [updV]
theorem mKd_new (S : Mem) (kd ln sl a : Nat) : mKd (mNew S kd ln sl) a = if a = mNx S then kd else mKd S a := by
  show (if a < mNx S + 1 then up1 S.1 (mNx S) kd a else 0) = _
  unfold mKd up1
  by_cases h : a = mNx S
  · subst h; simp
  · by_cases h2 : a < mNx S
    · simp [h, h2, Nat.lt_succ_of_lt h2]
    · simp [h, h2, show ¬ a < mNx S + 1 by omega]
theorem mKd_copy (S : Mem) (b n a : Nat) : mKd (mCopy S b n) a = if a = mNx S then 8 else mKd S a := by
  show (if a < mNx S + 1 then up1 S.1 (mNx S) 8 a else 0) = _
  unfold mKd up1
  by_cases h : a = mNx S
  · subst h; simp
  · by_cases h2 : a < mNx S
    · simp [h, h2, Nat.lt_succ_of_lt h2]
    · simp [h, h2, show ¬ a < mNx S + 1 by omega]
theorem mKd_lt {S : Mem} {a : Nat} (h : mKd S a ≠ 0) : a < mNx S := by
  unfold mKd at h
  split at h
  · assumption
  · exact absurd rfl h
theorem mNew_le (S : Mem) (kd ln sl : Nat) : jle MX S (mNew S kd ln sl) := by
  refine ⟨Nat.le_succ _, Nat.le_add_right _ _, fun b hb => ?_, fun q hq => ?_⟩
  · have hb : mKd S b ≠ 0 := hb
    have hl := mKd_lt hb
    refine ⟨?_, ?_⟩
    · show mKd (mNew S kd ln sl) b = _
      rw [mKd_new, if_neg (by omega)]
      rfl
    · show up1 S.2.1 (mNx S) ln b = _
      simp [up1, show b ≠ mNx S by omega]
      rfl
  · have hq : mKd (mNew S kd ln sl) q ≠ 0 ∨ mNx S + 1 ≤ q := hq
    rw [mKd_new] at hq
    show mKd S q ≠ 0 ∨ mNx S ≤ q
    by_cases h : q = mNx S
    · right; omega
    · rw [if_neg h] at hq
      rcases hq with h1 | h1
      · exact Or.inl h1
      · right; omega
theorem mCopy_le (S : Mem) (a n : Nat) : jle MX S (mCopy S a n) := by
  have h := mNew_le S 8 n n
  exact ⟨h.1, h.2.1, fun b hb => h.2.2.1 b hb, fun q hq => h.2.2.2 q hq⟩
/-- a cell has come -/
theorem mRep.new {D : JD} {S S2 : Mem} {H H2 : Heap} (h : mRep D S H) (hw : mW S2 = mW S) (hn : mNx S2 = mNx S + 1) (hk : ∀ b, b ≠ mNx S → mKd S2 b = mKd S b) (hln : ∀ b, b ≠ mNx S → mLn S2 b = mLn S b) (hs : ∀ b, b ≠ mNx S → mI S2 b = mI S b ∧ mL S2 b = mL S b ∧ mR S2 b = mR S b)
    (hz : H2.size = H.size + 1) (ho : ∀ q, q < H.size → H2[q]? = H[q]?) (ha : repAt D S2 H2 (mNx S) (mKd S2 (mNx S))) : mRep D S2 H2 := by
  obtain ⟨h1, h2, cell, h3, h4, h5⟩ := id h
  refine ⟨by rw [hz, h1, hn], fun b => ?_, cell, ?_, h4, by rw [hw]; exact h5⟩
  · by_cases hb : b = mNx S
    · subst hb; exact ha
    · rw [hk b hb]
      by_cases hb0 : mKd S b = 0
      · rw [hb0]; simp [repAt]
      · exact repAt_same (h2 b) (ho b (by rw [h1]; exact mKd_lt hb0)) (hln b hb) (hs b hb)
  · rw [ho _ (Array.getElem?_eq_some_iff.mp h3).1]; exact h3
end
section
/-! the rules of J that read and write objects and rows -/
theorem inG0 : ∀ w ∈ wsX00, w ∈ lw_tbl ∧ goodWord w = true := by decide +kernel
theorem inG1 : ∀ w ∈ wsX10, w ∈ lw_tbl ∧ goodWord w = true := by decide +kernel
theorem inG2 : ∀ w ∈ wsX20, w ∈ lw_tbl ∧ goodWord w = true := by decide +kernel
theorem inG3 : ∀ w ∈ wsX30, w ∈ lw_tbl ∧ goodWord w = true := by decide +kernel
theorem inG4 : ∀ w ∈ wsX40, w ∈ lw_tbl ∧ goodWord w = true := by decide +kernel
theorem inG5 : ∀ w ∈ wsX50, w ∈ lw_tbl ∧ goodWord w = true := by decide +kernel
theorem inG6 : ∀ w ∈ wsX60, w ∈ lw_tbl ∧ goodWord w = true := by decide +kernel
/-- what the tables say of a kind of object -/
def jCl (ci : Nat) (C : String) (T : u_T) : Prop := vwCl[ci]? = some (C, T, cN ci) ∧ (∀ w ∈ u_ws C T (cN ci), w ∈ tblG) ∧ (∀ k, k < cN ci → parseFieldDescriptor (T k).2.2.1 = some (cT ci k)) ∧ (∀ a, a < cN ci → ∀ b, b < cN ci → a ≠ b → (T a).2.1 ≠ (T b).2.1)
theorem jCl0 : jCl 0 RX0 TX0 := ⟨rfl, fun w h => tg (inG0 w h).1 (inG0 w h).2, tyX0_ok, nmX0⟩
theorem jCl1 : jCl 1 RX1 TX1 := ⟨rfl, fun w h => tg (inG1 w h).1 (inG1 w h).2, tyX1_ok, nmX1⟩
theorem jCl2 : jCl 2 RX2 TX2 := ⟨rfl, fun w h => tg (inG2 w h).1 (inG2 w h).2, tyX2_ok, nmX2⟩
theorem jCl3 : jCl 3 RX3 TX3 := ⟨rfl, fun w h => tg (inG3 w h).1 (inG3 w h).2, tyX3_ok, nmX3⟩
theorem jCl4 : jCl 4 RX4 TX4 := ⟨rfl, fun w h => tg (inG4 w h).1 (inG4 w h).2, tyX4_ok, nmX4⟩
theorem jCl5 : jCl 5 RX5 TX5 := ⟨rfl, fun w h => tg (inG5 w h).1 (inG5 w h).2, tyX5_ok, nmX5⟩
theorem jCl6 : jCl 6 RX6 TX6 := ⟨rfl, fun w h => tg (inG6 w h).1 (inG6 w h).2, tyX6_ok, nmX6⟩
/-- a field's entry in a pool -/
def jFld (own : String) (i ci k : Nat) : Prop := ci < 7 ∧ k < cN ci ∧ ∃ (C : String) (T : u_T), jCl ci C T ∧ (T k).1 = C ∧ (Cond.fieldLink own i C (T k).2.1 (T k).2.2.1 ∈ tblG ∨ ∃ host : String, Cond.fieldLinkNest own i C (T k).2.1 (T k).2.2.1 host ∈ lw_tbl)
/-- .. of a field that isn't final -/
def jFldW (own : String) (i ci k : Nat) : Prop := ci < 7 ∧ k < cN ci ∧ ∃ (C : String) (T : u_T), jCl ci C T ∧ (T k).1 = C ∧ (T k).2.2.2 = false ∧ (Cond.fieldLink own i C (T k).2.1 (T k).2.2.1 ∈ tblG ∨ ∃ host : String, Cond.fieldLinkNest own i C (T k).2.1 (T k).2.2.1 host ∈ lw_tbl)
/-- .. of a final one, in its maker -/
def jFldF (own : String) (i ci k : Nat) : Prop := ci < 7 ∧ k < cN ci ∧ ∃ (C : String) (T : u_T), jCl ci C T ∧ (T k).1 = C ∧ (T k).2.2.2 = true ∧ own = C ∧ Cond.fieldLink own i C (T k).2.1 (T k).2.2.1 ∈ tblG
def inB (i : Int32) (n : Nat) : Bool := decide (¬ (i < 0 ∨ n ≤ i.toNatClampNeg))
theorem inB_of {i : Int32} {n : Nat} (h : inB i n = true) : ¬ (i < 0 ∨ n ≤ i.toNatClampNeg) := of_decide_eq_true h
theorem inB_lt {i : Int32} {n : Nat} (h : inB i n = true) : i.toNatClampNeg < n := Nat.not_le.mp fun q => inB_of h (Or.inr q)
section JHeap
variable {y : MethodName} {cc : ByteArray} {nL : Nat} {ret : Option FieldType} {fr lo : Nat} {pc : Nat} {lv : List (Nat × Value)} {st rest : List Value} {S S' S2 : Mem} {r : Option Value} {a i ci k : Nat}
theorem J_get {v : Value} (hd : decode cc pc = .ok (.getfield i, 3)) (hf : jFld y.cls i ci k) (hk : mKd S a = ci + 1) (hv : fv ci S a k = v) (kk : J MX y cc nL ret fr lo (pc + 3) lv (v :: rest) S r S') : J MX y cc nL ret fr lo pc lv (.ref a :: rest) S r S' := by
  refine ⟨kk.1, fun p l e R s m args below meth c H locs cells slots mc ms ls A D hC hl hR hS hA h1 h2 h3 h4 => ?_⟩
  have KK := kk.2 p l e R s m args below meth c H locs cells slots mc ms ls A D hC hl hR hS hA h1 h2 h3 h4
  obtain ⟨hx, hb, hml, hown, hts, hrt, hlocks, hnm, hK, hf1, hf2⟩ := id hC
  obtain ⟨hci, hkN, C, T, ⟨g1, g2, g3, g4⟩, hC1, hlink⟩ := hf
  obtain ⟨cell, q1, q2, q3, q4⟩ := repObj hR hk hci
  obtain ⟨hSl, hfc, kC, hkC, hkind⟩ := hK.1.1 ci _ g1
  obtain ⟨cf, kf, fi, f, hi, hsl⟩ := hSl k hkN
  have hst := (u_facts hfc hkC (u_lays hts g2 hkN) hi).1
  rw [hC1] at hi
  have hs : cell.slots[f.slot]? = some v := by rw [hsl, q4 k hkN, hv]
  rcases hlink with hl1 | ⟨host, hl1⟩
  · exact W.getf hx hb hown (hts _ hl1) hi hst q1 (by rw [q3]; exact fun h => by cases h) hs rfl rfl hd KK
  · exact va_Wgetf hx hb hown (va_Nw.use rfl (hK.2.1 _ hl1 rfl)) hi hst q1 (by rw [q3]; exact fun h => by cases h) hs rfl rfl hd KK
theorem J_put {v : Value} (hd : decode cc pc = .ok (.putfield i, 3)) (hf : jFldW y.cls i ci k) (hk : mKd S a = ci + 1) (hs : mSame S S2 a) (hfv : ∀ j, fv ci S2 a j = updV (fv ci S a) k v j) (hn : narrow (cT ci k) v = v) (hfit : fits (cT ci k) v = true) (kk : J MX y cc nL ret fr lo (pc + 3) lv rest S2 r S') : J MX y cc nL ret fr lo pc lv (v :: .ref a :: rest) S r S' := by
  refine ⟨hs.le.tr kk.1, fun p l e R s m args below meth c H locs cells slots mc ms ls A D hC hl hR hS hA h1 h2 h3 h4 => ?_⟩
  obtain ⟨hx, hb, hml, hown, hts, hrt, hlocks, hnm, hK, hf1, hf2⟩ := id hC
  obtain ⟨hci, hkN, C, T, ⟨g1, g2, g3, g4⟩, hC1, hfin, hlink⟩ := hf
  have hob := repObj hR hk hci
  obtain ⟨cell, q1, q2, q3, q4⟩ := id hob
  have hap := va_apart (own := C) hts g2 (cT ci) g3 g4 hK.1 g1
  obtain ⟨hSl, hfc, kC, hkC, hkind⟩ := hK.1.1 ci _ g1
  obtain ⟨cf, kf, fi, f, hi, hsl⟩ := hSl k hkN
  have hlay := hts _ (g2 _ (u_in_lay hkN))
  unfold u_lay at hlay
  rw [if_neg (by rw [hfin]; decide)] at hlay
  have hst := (u_facts hfc hkC (u_lays hts g2 hkN) hi).1
  have h6 := u_store hfc hkC hkind hlay hi (g3 k hkN) hn hfit
  rw [hC1] at hi
  have key : ∀ (H' : Heap), H'[a]? = some (cell.setSlot f.slot v) → H'.size = H.size → (∀ q, q ≠ a → H'[q]? = H[q]?) → W p l e R s m args below meth c H' (locs ++ [⟨a, f.slot⟩]) cells slots (MQ below (jQ MX D r S' A) args s mc ms A) (F0 m (pc + 3) ls rest) := by
    intro H' e1 e2 e3
    refine kk.2 p l e R s m args below meth c H' (locs ++ [⟨a, f.slot⟩]) cells slots mc ms ls A D hC hl (mRep.put hR hs e2 e3 (by omega) ?_) (hS.put e2 e3 (hA a (Or.inl (by show mKd S a ≠ 0; omega)))) (fun q hq => hA q (hs.le.2.2.2 q hq)) (by have e : mNx S2 = mNx S := hs.2.1; show _ ≤ mc + mNx S2; rw [e]; exact h1) (by have e : mSl S2 = mSl S := hs.2.2.1; show _ ≤ ms + mSl S2; rw [e]; exact h2) h3 h4
    unfold repAt
    rw [hk, if_neg (by omega), if_pos (by omega)]
    rw [hsl] at e1
    exact t_OB.to (V := updV (fv ci S a) k v) ⟨_, e1, q2, q3, t_set q4 hap hkN v⟩ (fun j _ => (hfv j).symm)
  rcases hlink with hl1 | ⟨host, hl1⟩
  · exact W.putK hx hb (f := f) ⟨hown, hts _ hl1, ⟨_, _, _, hi⟩, hst⟩ (by rw [q2]; exact h6) q1 q3 (by rw [hsl]; exact k2_hasslot (q4 k hkN)) rfl rfl hd key
  · exact va_WputK hx hb (f := f) hown (va_Nw.use rfl (hK.2.1 _ hl1 rfl)) hi hst (by rw [q2]; exact h6) q1 q3 (by rw [hsl]; exact k2_hasslot (q4 k hkN)) rfl rfl hd key
theorem J_putF {v : Value} (hd : decode cc pc = .ok (.putfield i, 3)) (hy : y.name = "<init>") (hf : jFldF y.cls i ci k) (hk : mKd S a = ci + 1) (hs : mSame S S2 a) (hfv : ∀ j, fv ci S2 a j = updV (fv ci S a) k v j) (hn : narrow (cT ci k) v = v) (hfit : fits (cT ci k) v = true) (kk : J MX y cc nL ret fr lo (pc + 3) lv rest S2 r S') : J MX y cc nL ret fr lo pc lv (v :: .ref a :: rest) S r S' := by
  refine ⟨hs.le.tr kk.1, fun p l e R s m args below meth c H locs cells slots mc ms ls A D hC hl hR hS hA h1 h2 h3 h4 => ?_⟩
  obtain ⟨hx, hb, hml, hown, hts, hrt, hlocks, hnm, hK, hf1, hf2⟩ := id hC
  obtain ⟨hci, hkN, C, T, ⟨g1, g2, g3, g4⟩, hC1, hfin, hoc, hlink⟩ := hf
  have hob := repObj hR hk hci
  obtain ⟨cell, q1, q2, q3, q4⟩ := id hob
  have hap := va_apart (own := C) hts g2 (cT ci) g3 g4 hK.1 g1
  obtain ⟨hSl, hfc, kC, hkC, hkind⟩ := hK.1.1 ci _ g1
  obtain ⟨cf, kf, fi, f, hi, hsl⟩ := hSl k hkN
  have hlay := hts _ (g2 _ (u_in_lay hkN))
  unfold u_lay at hlay
  rw [if_pos hfin] at hlay
  have hst := (u_facts hfc hkC (u_lays hts g2 hkN) hi).1
  have hcf : m.cls = cf := by
    obtain ⟨_, _, c', _, _, _, -, -, hf', -, -, -, hown2, -⟩ := Cond.laysFinal_spec hlay
    have e1 : c' = cf := by have := hi.symm.trans hf'; simp at this; exact this.1.symm
    rw [hC1, ← hoc] at hown2
    rw [← e1]; exact Option.some.inj (hown.symm.trans hown2)
  have h6 := u_fits hfc hkC hkind (Or.inr hlay) hi (g3 k hkN) hn hfit
  rw [hC1] at hi
  have key : ∀ (H' : Heap), H'[a]? = some (cell.setSlot f.slot v) → H'.size = H.size → (∀ q, q ≠ a → H'[q]? = H[q]?) → W p l e R s m args below meth c H' (locs ++ [⟨a, f.slot⟩]) cells slots (MQ below (jQ MX D r S' A) args s mc ms A) (F0 m (pc + 3) ls rest) := by
    intro H' e1 e2 e3
    refine kk.2 p l e R s m args below meth c H' (locs ++ [⟨a, f.slot⟩]) cells slots mc ms ls A D hC hl (mRep.put hR hs e2 e3 (by omega) ?_) (hS.put e2 e3 (hA a (Or.inl (by show mKd S a ≠ 0; omega)))) (fun q hq => hA q (hs.le.2.2.2 q hq)) (by have e : mNx S2 = mNx S := hs.2.1; show _ ≤ mc + mNx S2; rw [e]; exact h1) (by have e : mSl S2 = mSl S := hs.2.2.1; show _ ≤ ms + mSl S2; rw [e]; exact h2) h3 h4
    unfold repAt
    rw [hk, if_neg (by omega), if_pos (by omega)]
    rw [hsl] at e1
    exact t_OB.to (V := updV (fv ci S a) k v) ⟨_, e1, q2, q3, t_set q4 hap hkN v⟩ (fun j _ => (hfv j).symm)
  exact W.putFinK hx hb hown (hts _ hlink) hi hst hcf (hnm.trans hy) (by rw [q2]; exact h6) q1 q3 (by rw [hsl]; exact k2_hasslot (q4 k hkN)) rfl rfl hd key
theorem fv_I {x : Int32} {ty : FieldType} (hty : cT ci k = ty) (h : ∀ S : Mem, fvT S a k ty = .int (mI S a k)) (j : Nat) : fv ci (mSI S a k x) a j = updV (fv ci S a) k (.int x) j := by
  by_cases hj : j = k
  · subst hj
    rw [updV_eq]
    unfold fv
    rw [hty, h]
    simp [mI, mSI, up2]
  · rw [updV_ne hj]
    unfold fv
    generalize cT ci j = t
    cases t <;> simp [fvT, mI, mL, mR, mSI, up2, hj]
theorem fv_L {x : Int64} (hty : cT ci k = .long) (j : Nat) : fv ci (mSL S a k x) a j = updV (fv ci S a) k (.long x) j := by
  by_cases hj : j = k
  · subst hj
    rw [updV_eq]
    unfold fv
    rw [hty]
    simp [fvT, mL, mSL, up2]
  · rw [updV_ne hj]
    unfold fv
    generalize cT ci j = t
    cases t <;> simp [fvT, mI, mL, mR, mSL, up2, hj]
theorem fv_R {x : Option Nat} {ty : FieldType} (hty : cT ci k = ty) (h : ∀ S : Mem, fvT S a k ty = va_rf (mR S a k)) (j : Nat) : fv ci (mSR S a k x) a j = updV (fv ci S a) k (va_rf x) j := by
  by_cases hj : j = k
  · subst hj
    rw [updV_eq]
    unfold fv
    rw [hty, h]
    simp [mR, mSR, up2]
  · rw [updV_ne hj]
    unfold fv
    generalize cT ci j = t
    cases t <;> simp [fvT, mI, mL, mR, mSR, up2, hj]
theorem J_putI {x : Int32} (hd : decode cc pc = .ok (.putfield i, 3)) (hf : jFldW y.cls i ci k) (hk : mKd S a = ci + 1) (hty : cT ci k = .int) (kk : J MX y cc nL ret fr lo (pc + 3) lv rest (mSI S a k x) r S') : J MX y cc nL ret fr lo pc lv (.int x :: .ref a :: rest) S r S' :=
  J_put hd hf hk (mSame_I S a k x) (fv_I hty (fun _ => rfl)) (by rw [hty]; rfl) (by rw [hty]; rfl) kk
theorem J_putIF {x : Int32} (hd : decode cc pc = .ok (.putfield i, 3)) (hy : y.name = "<init>") (hf : jFldF y.cls i ci k) (hk : mKd S a = ci + 1) (hty : cT ci k = .int) (kk : J MX y cc nL ret fr lo (pc + 3) lv rest (mSI S a k x) r S') : J MX y cc nL ret fr lo pc lv (.int x :: .ref a :: rest) S r S' :=
  J_putF hd hy hf hk (mSame_I S a k x) (fv_I hty (fun _ => rfl)) (by rw [hty]; rfl) (by rw [hty]; rfl) kk
theorem J_putZ {x : Int32} (hd : decode cc pc = .ok (.putfield i, 3)) (hf : jFldW y.cls i ci k) (hk : mKd S a = ci + 1) (hty : cT ci k = .boolean) (hz : x = 0 ∨ x = 1) (kk : J MX y cc nL ret fr lo (pc + 3) lv rest (mSI S a k x) r S') : J MX y cc nL ret fr lo pc lv (.int x :: .ref a :: rest) S r S' :=
  J_put hd hf hk (mSame_I S a k x) (fv_I hty (fun _ => rfl)) (by rw [hty]; rcases hz with rfl | rfl <;> rfl) (by rw [hty]; rcases hz with rfl | rfl <;> rfl) kk
theorem J_putZF {x : Int32} (hd : decode cc pc = .ok (.putfield i, 3)) (hy : y.name = "<init>") (hf : jFldF y.cls i ci k) (hk : mKd S a = ci + 1) (hty : cT ci k = .boolean) (hz : x = 0 ∨ x = 1) (kk : J MX y cc nL ret fr lo (pc + 3) lv rest (mSI S a k x) r S') : J MX y cc nL ret fr lo pc lv (.int x :: .ref a :: rest) S r S' :=
  J_putF hd hy hf hk (mSame_I S a k x) (fv_I hty (fun _ => rfl)) (by rw [hty]; rcases hz with rfl | rfl <;> rfl) (by rw [hty]; rcases hz with rfl | rfl <;> rfl) kk
theorem J_putL {x : Int64} (hd : decode cc pc = .ok (.putfield i, 3)) (hf : jFldW y.cls i ci k) (hk : mKd S a = ci + 1) (hty : cT ci k = .long) (kk : J MX y cc nL ret fr lo (pc + 3) lv rest (mSL S a k x) r S') : J MX y cc nL ret fr lo pc lv (.long x :: .ref a :: rest) S r S' :=
  J_put hd hf hk (mSame_L S a k x) (fv_L hty) (by rw [hty]; rfl) (by rw [hty]; rfl) kk
theorem J_putR {x : Option Nat} {C : String} (hd : decode cc pc = .ok (.putfield i, 3)) (hf : jFldW y.cls i ci k) (hk : mKd S a = ci + 1) (hty : cT ci k = .object C) (kk : J MX y cc nL ret fr lo (pc + 3) lv rest (mSR S a k x) r S') : J MX y cc nL ret fr lo pc lv (va_rf x :: .ref a :: rest) S r S' :=
  J_put hd hf hk (mSame_R S a k x) (fv_R hty (fun _ => rfl)) (by rw [hty]; cases x <;> rfl) (by rw [hty]; cases x <;> rfl) kk
theorem J_putRF {x : Option Nat} {C : String} (hd : decode cc pc = .ok (.putfield i, 3)) (hy : y.name = "<init>") (hf : jFldF y.cls i ci k) (hk : mKd S a = ci + 1) (hty : cT ci k = .object C) (kk : J MX y cc nL ret fr lo (pc + 3) lv rest (mSR S a k x) r S') : J MX y cc nL ret fr lo pc lv (va_rf x :: .ref a :: rest) S r S' :=
  J_putF hd hy hf hk (mSame_R S a k x) (fv_R hty (fun _ => rfl)) (by rw [hty]; cases x <;> rfl) (by rw [hty]; cases x <;> rfl) kk
theorem J_putA {x : Option Nat} {t : FieldType} (hd : decode cc pc = .ok (.putfield i, 3)) (hf : jFldW y.cls i ci k) (hk : mKd S a = ci + 1) (hty : cT ci k = .array t) (kk : J MX y cc nL ret fr lo (pc + 3) lv rest (mSR S a k x) r S') : J MX y cc nL ret fr lo pc lv (va_rf x :: .ref a :: rest) S r S' :=
  J_put hd hf hk (mSame_R S a k x) (fv_R hty (fun _ => rfl)) (by rw [hty]; cases x <;> rfl) (by rw [hty]; cases x <;> rfl) kk
theorem J_putAF {x : Option Nat} {t : FieldType} (hd : decode cc pc = .ok (.putfield i, 3)) (hy : y.name = "<init>") (hf : jFldF y.cls i ci k) (hk : mKd S a = ci + 1) (hty : cT ci k = .array t) (kk : J MX y cc nL ret fr lo (pc + 3) lv rest (mSR S a k x) r S') : J MX y cc nL ret fr lo pc lv (va_rf x :: .ref a :: rest) S r S' :=
  J_putF hd hy hf hk (mSame_R S a k x) (fv_R hty (fun _ => rfl)) (by rw [hty]; cases x <;> rfl) (by rw [hty]; cases x <;> rfl) kk
end JHeap
end
section
/-! rows, makings, the JDK's own -/
section JArr
variable {y : MethodName} {cc : ByteArray} {nL : Nat} {ret : Option FieldType} {fr lo : Nat} {pc : Nat} {lv : List (Nat × Value)} {st rest : List Value} {S S' S2 : Mem} {r : Option Value} {a i ci k : Nat}
theorem J_iald {j : Int32} (hd : decode cc pc = .ok (.iaload, 1)) (hk : mKd S a = 8) (hj : inB j (mLn S a) = true) (kk : J MX y cc nL ret fr lo (pc + 1) lv (.int (mI S a j.toNatClampNeg) :: rest) S r S') : J MX y cc nL ret fr lo pc lv (.int j :: .ref a :: rest) S r S' := by
  refine ⟨kk.1, fun p l e R s m args below meth c H locs cells slots mc ms ls A D hC hl hR hS hA h1 h2 h3 h4 => ?_⟩
  have KK := kk.2 p l e R s m args below meth c H locs cells slots mc ms ls A D hC hl hR hS hA h1 h2 h3 h4
  obtain ⟨hx, hb, hml, hown, hts, hrt, hlocks, hnm, hK, hf1, hf2⟩ := id hC
  exact W.iald hx hb (repArr (z := 0) hR hk) ((hK.1.2 0 _ rfl).1 _ _) (fun q => by cases q) (by rw [arrV_size]; exact inB_of hj) (by rw [arrV_read _ _ (inB_lt hj)]; rfl) rfl rfl hd KK
theorem J_zald {j : Int32} (hd : decode cc pc = .ok (.baload, 1)) (hk : mKd S a = 10) (hj : inB j (mLn S a) = true) (kk : J MX y cc nL ret fr lo (pc + 1) lv (.int (mI S a j.toNatClampNeg) :: rest) S r S') : J MX y cc nL ret fr lo pc lv (.int j :: .ref a :: rest) S r S' := by
  refine ⟨kk.1, fun p l e R s m args below meth c H locs cells slots mc ms ls A D hC hl hR hS hA h1 h2 h3 h4 => ?_⟩
  have KK := kk.2 p l e R s m args below meth c H locs cells slots mc ms ls A D hC hl hR hS hA h1 h2 h3 h4
  obtain ⟨hx, hb, hml, hown, hts, hrt, hlocks, hnm, hK, hf1, hf2⟩ := id hC
  exact W.zald hx hb (repArr (z := 2) hR hk) ((hK.1.2 2 _ rfl).1 _ _) (fun q => by cases q) (by rw [arrV_size]; exact inB_of hj) (by rw [arrV_read _ _ (inB_lt hj)]; rfl) rfl rfl hd KK
theorem J_lald {j : Int32} (hd : decode cc pc = .ok (.laload, 1)) (hk : mKd S a = 9) (hj : inB j (mLn S a) = true) (kk : J MX y cc nL ret fr lo (pc + 1) lv (.long (mL S a j.toNatClampNeg) :: rest) S r S') : J MX y cc nL ret fr lo pc lv (.int j :: .ref a :: rest) S r S' := by
  refine ⟨kk.1, fun p l e R s m args below meth c H locs cells slots mc ms ls A D hC hl hR hS hA h1 h2 h3 h4 => ?_⟩
  have KK := kk.2 p l e R s m args below meth c H locs cells slots mc ms ls A D hC hl hR hS hA h1 h2 h3 h4
  obtain ⟨hx, hb, hml, hown, hts, hrt, hlocks, hnm, hK, hf1, hf2⟩ := id hC
  exact W.lald hx hb (repArr (z := 1) hR hk) ((hK.1.2 1 _ rfl).1 _ _) (fun q => by cases q) (by rw [arrV_size]; exact inB_of hj) (by rw [arrV_read _ _ (inB_lt hj)]; rfl) rfl rfl hd KK
/-- rows of references: z is 3 (frames), 4 (rods), 5 (exercises) -/
theorem J_aald {j : Int32} {z : Nat} {C : String} (hd : decode cc pc = .ok (.aaload, 1)) (hz : ∀ D : JD, (jTys D)[z]? = some (D.2.1 z, .object C)) (hv : ∀ (S : Mem) (q : Nat), avT S a q (8 + z) = va_rf (mR S a q)) (hk : mKd S a = 8 + z) (hj : inB j (mLn S a) = true) (kk : J MX y cc nL ret fr lo (pc + 1) lv (va_rf (mR S a j.toNatClampNeg) :: rest) S r S') : J MX y cc nL ret fr lo pc lv (.int j :: .ref a :: rest) S r S' := by
  refine ⟨kk.1, fun p l e R s m args below meth c H locs cells slots mc ms ls A D hC hl hR hS hA h1 h2 h3 h4 => ?_⟩
  have KK := kk.2 p l e R s m args below meth c H locs cells slots mc ms ls A D hC hl hR hS hA h1 h2 h3 h4
  obtain ⟨hx, hb, hml, hown, hts, hrt, hlocks, hnm, hK, hf1, hf2⟩ := id hC
  exact W.aald hx hb (repArr (z := z) hR hk) ((hK.1.2 z _ (hz D)).1 _ _) rfl (fun q => by cases q) (by rw [arrV_size]; exact inB_of hj) (by rw [arrV_read _ _ (inB_lt hj), hv]) rfl rfl hd KK
theorem J_alen {z : Nat} {ty : FieldType} (hd : decode cc pc = .ok (.arraylength, 1)) (hz : ∀ D : JD, (jTys D)[z]? = some (D.2.1 z, ty)) (hk : mKd S a = 8 + z) (kk : J MX y cc nL ret fr lo (pc + 1) lv (.int (nI (mLn S a)) :: rest) S r S') : J MX y cc nL ret fr lo pc lv (.ref a :: rest) S r S' := by
  refine ⟨kk.1, fun p l e R s m args below meth c H locs cells slots mc ms ls A D hC hl hR hS hA h1 h2 h3 h4 => ?_⟩
  have KK := kk.2 p l e R s m args below meth c H locs cells slots mc ms ls A D hC hl hR hS hA h1 h2 h3 h4
  obtain ⟨hx, hb, hml, hown, hts, hrt, hlocks, hnm, hK, hf1, hf2⟩ := id hC
  exact W.alen (n := nI (mLn S a)) hx hb (repArr (z := z) hR hk) ((hK.1.2 z _ (hz D)).1 _ _) (by rw [arrV_size] <;> rfl) rfl rfl hd KK
/-- a row's place has changed -/
theorem jArrPut {p : Program} {l : Launch} {e : Env} {R : Room} {s : State} {m : MethodId} {args : Array Value} {below : List Frame} {meth : Method} {c : Code} {H : Heap} {locs : List Loc} {cells slots mc ms : Nat} {ls : Array Slot} {A : Nat → Prop} {D : JD} {z pc' q : Nat} {v : Value}
    (hC : CX y cc nL ret fr lo D p R s m args meth c) (hl : lv_has ls nL lv) (hR : mRep D S H) (hS : va_S A s.heap H locs) (hA : ∀ q, mFree S q → A q) (h1 : cells + mNx S' ≤ mc + mNx S) (h2 : slots + mSl S' ≤ ms + mSl S) (h3 : mc ≤ R.cells) (h4 : ms ≤ R.slots) (hk : mKd S a = 8 + z) (hs : mSame S S2 a)
    (hav : ∀ j, avT S2 a j (8 + z) = updV (fun j => avT S a j (8 + z)) q v j) (kk : J MX y cc nL ret fr lo pc' lv rest S2 r S') :
    ∀ (H' : Heap), H'[a]? = some ((arrV (D.2.1 z) (mLn S a) (fun j => avT S a j (8 + z))).setSlot q v) → H'.size = H.size → (∀ q, q ≠ a → H'[q]? = H[q]?) → W p l e R s m args below meth c H' (locs ++ [⟨a, q⟩]) cells slots (MQ below (jQ MX D r S' A) args s mc ms A) (F0 m pc' ls rest) := by
  intro H' e1 e2 e3
  refine kk.2 p l e R s m args below meth c H' (locs ++ [⟨a, q⟩]) cells slots mc ms ls A D hC hl (mRep.put hR hs e2 e3 (by omega) ?_) (hS.put e2 e3 (hA a (Or.inl (by show mKd S a ≠ 0; omega)))) (fun q hq => hA q (hs.le.2.2.2 q hq)) (by have e : mNx S2 = mNx S := hs.2.1; show _ ≤ mc + mNx S2; rw [e]; exact h1) (by have e : mSl S2 = mSl S := hs.2.2.1; show _ ≤ ms + mSl S2; rw [e]; exact h2) h3 h4
  unfold repAt
  rw [hk, if_neg (by omega), if_neg (by omega), e1, arrV_store, show 8 + z - 8 = z by omega]
  have e5 : mLn S2 a = mLn S a := congrFun hs.2.2.2.2.1 a
  rw [e5]
  congr 2
  funext j
  exact (hav j).symm
theorem J_iast {j x : Int32} (hd : decode cc pc = .ok (.iastore, 1)) (hk : mKd S a = 8) (hj : inB j (mLn S a) = true) (kk : J MX y cc nL ret fr lo (pc + 1) lv rest (mSI S a j.toNatClampNeg x) r S') : J MX y cc nL ret fr lo pc lv (.int x :: .int j :: .ref a :: rest) S r S' := by
  refine ⟨(mSame_I S a _ x).le.tr kk.1, fun p l e R s m args below meth c H locs cells slots mc ms ls A D hC hl hR hS hA h1 h2 h3 h4 => ?_⟩
  obtain ⟨hx, hb, hml, hown, hts, hrt, hlocks, hnm, hK, hf1, hf2⟩ := id hC
  refine W.iast hx hb (repArr (z := 0) hR hk) ((hK.1.2 0 _ rfl).1 _ _) (fun q => by cases q) (by rw [arrV_size]; exact inB_of hj) rfl rfl hd (jArrPut (z := 0) hC hl hR hS hA h1 h2 h3 h4 hk (mSame_I S a _ x) (fun q => ?_) kk)
  by_cases hq : q = j.toNatClampNeg
  · subst hq; rw [updV_eq]; simp [avT, mI, mSI, up2]
  · rw [updV_ne hq]; simp [avT, mI, mSI, up2, hq]
theorem J_zast {j x : Int32} (hd : decode cc pc = .ok (.bastore, 1)) (hk : mKd S a = 10) (hj : inB j (mLn S a) = true) (hz : x = 0 ∨ x = 1) (kk : J MX y cc nL ret fr lo (pc + 1) lv rest (mSI S a j.toNatClampNeg x) r S') : J MX y cc nL ret fr lo pc lv (.int x :: .int j :: .ref a :: rest) S r S' := by
  refine ⟨(mSame_I S a _ x).le.tr kk.1, fun p l e R s m args below meth c H locs cells slots mc ms ls A D hC hl hR hS hA h1 h2 h3 h4 => ?_⟩
  obtain ⟨hx, hb, hml, hown, hts, hrt, hlocks, hnm, hK, hf1, hf2⟩ := id hC
  have hn : narrow .boolean (.int x) = .int x := by rcases hz with rfl | rfl <;> rfl
  refine W.zast hx hb (repArr (z := 2) hR hk) ((hK.1.2 2 _ rfl).1 _ _) (fun q => by cases q) (by rw [arrV_size]; exact inB_of hj) rfl rfl hd ?_
  rw [hn]
  refine jArrPut (z := 2) hC hl hR hS hA h1 h2 h3 h4 hk (mSame_I S a _ x) (fun q => ?_) kk
  by_cases hq : q = j.toNatClampNeg
  · subst hq; rw [updV_eq]; simp [avT, mI, mSI, up2]
  · rw [updV_ne hq]; simp [avT, mI, mSI, up2, hq]
theorem J_last {j : Int32} {x : Int64} (hd : decode cc pc = .ok (.lastore, 1)) (hk : mKd S a = 9) (hj : inB j (mLn S a) = true) (kk : J MX y cc nL ret fr lo (pc + 1) lv rest (mSL S a j.toNatClampNeg x) r S') : J MX y cc nL ret fr lo pc lv (.long x :: .int j :: .ref a :: rest) S r S' := by
  refine ⟨(mSame_L S a _ x).le.tr kk.1, fun p l e R s m args below meth c H locs cells slots mc ms ls A D hC hl hR hS hA h1 h2 h3 h4 => ?_⟩
  obtain ⟨hx, hb, hml, hown, hts, hrt, hlocks, hnm, hK, hf1, hf2⟩ := id hC
  refine W.last hx hb (repArr (z := 1) hR hk) ((hK.1.2 1 _ rfl).1 _ _) (fun q => by cases q) (by rw [arrV_size]; exact inB_of hj) rfl rfl hd (jArrPut (z := 1) hC hl hR hS hA h1 h2 h3 h4 hk (mSame_L S a _ x) (fun q => ?_) kk)
  by_cases hq : q = j.toNatClampNeg
  · subst hq; rw [updV_eq]; simp [avT, mL, mSL, up2]
  · rw [updV_ne hq]; simp [avT, mL, mSL, up2, hq]
theorem J_aast {j : Int32} {z v : Nat} {C : String} {T : u_T} (hd : decode cc pc = .ok (.aastore, 1)) (hz : ∀ D : JD, (jTys D)[z]? = some (D.2.1 z, .object C)) (hv : ∀ (S : Mem) (q : Nat), avT S a q (8 + z) = va_rf (mR S a q)) (hcl : jCl ci C T) (hci : ci < 7) (hkv : mKd S v = ci + 1) (hk : mKd S a = 8 + z) (hj : inB j (mLn S a) = true) (kk : J MX y cc nL ret fr lo (pc + 1) lv rest (mSR S a j.toNatClampNeg (some v)) r S') : J MX y cc nL ret fr lo pc lv (.ref v :: .int j :: .ref a :: rest) S r S' := by
  refine ⟨(mSame_R S a _ (some v)).le.tr kk.1, fun p l e R s m args below meth c H locs cells slots mc ms ls A D hC hl hR hS hA h1 h2 h3 h4 => ?_⟩
  obtain ⟨hx, hb, hml, hown, hts, hrt, hlocks, hnm, hK, hf1, hf2⟩ := id hC
  obtain ⟨cellV, g1, g2, g3, -⟩ := repObj hR hkv hci
  have hcls := (hK.1.1 ci _ hcl.1).2
  obtain ⟨kA, comp, k1, k2, k3, -⟩ := (hK.1.2 z _ (hz D)).2
  have hcomp : comp = D.1.1 ci := Option.some.inj (k3.symm.trans hcls.1)
  subst hcomp
  obtain ⟨kC, hkC, -⟩ := hcls.2
  refine W.aast hx hb (repArr (z := z) hR hk) (fun q h => by cases h) (fun h => by cases h) k1 k2 rfl hkC ⟨fun q => inB_of hj (Or.inl q), by rw [arrV_size]; exact inB_lt hj⟩ g1 (fun q h => by rw [g3] at h; cases h) (by rw [g2]; exact hkC) (by rw [g2]; exact va_assign hcls) rfl rfl hd (jArrPut (z := z) hC hl hR hS hA h1 h2 h3 h4 hk (mSame_R S a _ (some v)) (fun q => ?_) kk)
  rw [hv]
  by_cases hq : q = j.toNatClampNeg
  · subst hq; rw [updV_eq]; simp [mR, mSR, up2, va_rf]
  · rw [updV_ne hq, hv]; simp [mR, mSR, up2, hq]
/-- types that objects of ours have -/
def okT : FieldType → Bool
  | .int => true | .boolean => true | .long => true | .object _ => true | .array _ => true | _ => false
theorem okT_new {S : Mem} {kd ln sl k : Nat} {ty : FieldType} (h : okT ty = true) : fvT (mNew S kd ln sl) (mNx S) k ty = defaultValue ty := by
  cases ty <;> first | (simp [okT] at h; done) | (simp [fvT, mI, mL, mR, mNew, up1, defaultValue, va_rf]; done)
theorem mNew_other (S : Mem) (kd ln sl : Nat) {b : Nat} (hb : b ≠ mNx S) : (mI (mNew S kd ln sl) b = mI S b ∧ mL (mNew S kd ln sl) b = mL S b ∧ mR (mNew S kd ln sl) b = mR S b) := ⟨by funext j; simp [mI, mNew, up1, hb], by funext j; simp [mL, mNew, up1, hb], by funext j; simp [mR, mNew, up1, hb]⟩
theorem mLn_new (S : Mem) (kd ln sl b : Nat) : mLn (mNew S kd ln sl) b = if b = mNx S then ln else mLn S b := by simp [mLn, mNew, up1]
/-- behind a making: the state goes on -/
theorem jNewGo {p : Program} {l : Launch} {e : Env} {R : Room} {s : State} {m : MethodId} {args : Array Value} {below : List Frame} {meth : Method} {c : Code} {H : Heap} {locs : List Loc} {cells slots mc ms : Nat} {ls : Array Slot} {A : Nat → Prop} {D : JD} {pc' kd ln sl : Nat}
    (hC : CX y cc nL ret fr lo D p R s m args meth c) (hl : lv_has ls nL lv) (hR : mRep D S H) (hS : va_S A s.heap H locs) (hA : ∀ q, mFree S q → A q) (h1 : cells + mNx S' ≤ mc + mNx S) (h2 : slots + mSl S' ≤ ms + mSl S) (h3 : mc ≤ R.cells) (h4 : ms ≤ R.slots)
    (kk : J MX y cc nL ret fr lo pc' lv st (mNew S kd ln sl) r S') {H' : Heap} (hz : H'.size = mNx S + 1) (ho : ∀ q, q < mNx S → H'[q]? = H[q]?) (ha : repAt D (mNew S kd ln sl) H' (mNx S) kd) :
    W p l e R s m args below meth c H' locs (cells + 1) (slots + sl) (MQ below (jQ MX D r S' A) args s mc ms A) (F0 m pc' ls st) := by
  have hsz : H.size = mNx S := hR.1
  refine kk.2 p l e R s m args below meth c H' locs (cells + 1) (slots + sl) mc ms ls A D hC hl (mRep.new hR rfl rfl (fun b hb => by rw [mKd_new, if_neg hb]) (fun b hb => by rw [mLn_new, if_neg hb]) (fun b hb => mNew_other S kd ln sl hb) (by rw [hz, hsz]) (fun q hq => ho q (by rw [← hsz]; exact hq)) (by rw [mKd_new, if_pos rfl]; exact ha)) ⟨by rw [hz, ← hsz]; exact Nat.le_succ_of_le hS.1, fun q q1 q2 => by rw [ho q (by rw [← hsz]; exact Nat.lt_of_lt_of_le q1 hS.1)]; exact hS.2.1 q q1 q2, hS.2.2⟩ (fun q hq => hA q ((mNew_le S kd ln sl).2.2.2 q hq)) ?_ ?_ h3 h4
  · show cells + 1 + mNx S' ≤ mc + (mNx S + 1); omega
  · show slots + sl + mSl S' ≤ ms + (mSl S + sl); omega
theorem J_new {C : String} {T : u_T} (hd : decode cc pc = .ok (.new i, 3)) (hcl : jCl ci C T) (hci : ci < 7) (hok : ∀ k, k < cN ci → okT (cT ci k) = true) (hw : Cond.classLink y.cls i C ∈ tblG ∧ Cond.instantiable C (cN ci) ∈ tblG ∧ Cond.initialized C ∈ tblG) (kk : J MX y cc nL ret fr lo (pc + 3) lv (.ref (mNx S) :: st) (mNew S (ci + 1) 0 (cN ci)) r S') : J MX y cc nL ret fr lo pc lv st S r S' := by
  refine ⟨(mNew_le S (ci + 1) 0 (cN ci)).tr kk.1, fun p l e R s m args below meth c H locs cells slots mc ms ls A D hC hl hR hS hA h1 h2 h3 h4 => ?_⟩
  obtain ⟨hx, hb, hml, hown, hts, hrt, hlocks, hnm, hK, hf1, hf2⟩ := id hC
  have hKn := hK.1.1 ci _ hcl.1
  have l1 : mNx S + 1 ≤ mNx S' := kk.1.1
  have l2 : mSl S + cN ci ≤ mSl S' := kk.1.2.1
  have h1' : cells + mNx S' ≤ mc + mNx S := h1
  have h2' : slots + mSl S' ≤ ms + mSl S := h2
  refine W.newcK hx hb hown (hts _ hw.1) (hts _ hw.2.1) (hts _ hw.2.2) rfl hd (by omega) (by omega) hKn.2.1 hR.1 fun H1 kC hkC e1 z1 o1 => ?_
  refine jNewGo hC hl hR hS hA h1 h2 h3 h4 kk z1 o1 ?_
  unfold repAt
  rw [if_neg (by omega), if_pos (by omega)]
  refine (u_born (cT ci) hts hcl.2.1 hKn hkC e1 hcl.2.2.1).to (fun k hk => ?_)
  exact (okT_new (hok k hk)).symm
def newOK (n : Int32) : Bool := decide (¬ n < 0 ∧ n.toNatClampNeg ≤ 100000)
theorem J_newa {n : Int32} {z : Nat} {at_ : ArrayType} (hd : decode cc pc = .ok (.newarray at_, 2)) (hw : Cond.arrayClass (newarray.typeOf at_) ∈ tblG) (hz : ∀ D : JD, (jTys D)[z]? = some (D.2.1 z, newarray.typeOf at_)) (hb8 : componentBytes (newarray.typeOf at_) ≤ 8) (hra : ∀ (U : State) (cA : ClassId), va_RA U cA (newarray.typeOf at_) → U.vm.findClass ("[" ++ (newarray.typeOf at_).toString) = some cA) (hav : ∀ (S : Mem) (ln sl q : Nat), avT (mNew S (8 + z) ln sl) (mNx S) q (8 + z) = defaultValue (newarray.typeOf at_)) (hn : newOK n = true) (kk : J MX y cc nL ret fr lo (pc + 2) lv (.ref (mNx S) :: st) (mNew S (8 + z) n.toNatClampNeg n.toNatClampNeg) r S') : J MX y cc nL ret fr lo pc lv (.int n :: st) S r S' := by
  refine ⟨(mNew_le S _ _ _).tr kk.1, fun p l e R s m args below meth c H locs cells slots mc ms ls A D hC hl hR hS hA h1 h2 h3 h4 => ?_⟩
  obtain ⟨hx, hb, hml, hown, hts, hrt, hlocks, hnm, hK, hf1, hf2⟩ := id hC
  obtain ⟨n0, n1⟩ := of_decide_eq_true hn
  have l1 : mNx S + 1 ≤ mNx S' := kk.1.1
  have l2 : mSl S + n.toNatClampNeg ≤ mSl S' := kk.1.2.1
  have h1' : cells + mNx S' ≤ mc + mNx S := h1
  have h2' : slots + mSl S' ≤ ms + mSl S := h2
  refine va_newaK hx hb (hts _ hw) rfl hd rfl n0 rfl (by have := Nat.mul_le_mul n1 hb8; omega) (by omega) (by omega) hR.1 fun H1 cA e1 z1 o1 hAr hNm => ?_
  refine jNewGo hC hl hR hS hA h1 h2 h3 h4 kk z1 o1 ?_
  unfold repAt
  rw [if_neg (by omega), if_neg (by omega), e1, show 8 + z - 8 = z by omega]
  have hcA : cA = D.2.1 z := Option.some.inj (hNm.symm.trans (hra s _ (hK.1.2 z _ (hz D)).2))
  subst hcA
  rw [mLn_new, if_pos rfl]
  congr 2
  funext q
  exact (hav S _ _ q).symm
theorem J_anew {n : Int32} {z : Nat} {C : String} (hd : decode cc pc = .ok (.anewarray i, 3)) (hw : Cond.classLink y.cls i C ∈ tblG) (hover : ∀ (D : JD) (s : State), KD D s → va_AO C s) (hz : ∀ D : JD, (jTys D)[z]? = some (D.2.1 z, .object C)) (hav : ∀ (S : Mem) (ln sl q : Nat), avT (mNew S (8 + z) ln sl) (mNx S) q (8 + z) = .null) (hn : newOK n = true) (kk : J MX y cc nL ret fr lo (pc + 3) lv (.ref (mNx S) :: st) (mNew S (8 + z) n.toNatClampNeg n.toNatClampNeg) r S') : J MX y cc nL ret fr lo pc lv (.int n :: st) S r S' := by
  refine ⟨(mNew_le S _ _ _).tr kk.1, fun p l e R s m args below meth c H locs cells slots mc ms ls A D hC hl hR hS hA h1 h2 h3 h4 => ?_⟩
  obtain ⟨hx, hb, hml, hown, hts, hrt, hlocks, hnm, hK, hf1, hf2⟩ := id hC
  obtain ⟨n0, n1⟩ := of_decide_eq_true hn
  have l1 : mNx S + 1 ≤ mNx S' := kk.1.1
  have l2 : mSl S + n.toNatClampNeg ≤ mSl S' := kk.1.2.1
  have h1' : cells + mNx S' ≤ mc + mNx S := h1
  have h2' : slots + mSl S' ≤ ms + mSl S := h2
  have hsz : H.size = mNx S := hR.1
  refine W.anew hx hb hown (hts _ hw) (va_AO.use (hover D s hK)) rfl hd rfl n0 (by omega) (by omega) (by omega) fun cA kA comp f1 f2 f3 f4 => ?_
  obtain ⟨kA', comp', k1, k2, k3, k4⟩ := (hK.1.2 z _ (hz D)).2
  have hcA : cA = D.2.1 z := Option.some.inj (f1.symm.trans k4)
  subst hcA
  rw [hsz]
  refine jNewGo hC hl hR hS hA h1 h2 h3 h4 kk (by rw [Array.size_push, hsz]) (fun q hq => by rw [Array.getElem?_push, if_neg (by omega)]) ?_
  unfold repAt
  rw [if_neg (by omega), if_neg (by omega), ← hsz, Array.getElem?_push_size, arrV_new, show 8 + z - 8 = z by omega, hsz, mLn_new, if_pos rfl]
  congr 2
  funext q
  exact (hav S _ _ q).symm
/-- the weights -/
theorem J_gets (hd : decode cc pc = .ok (.getstatic i, 3)) (hw : Cond.fieldLink y.cls i RX0 "WEIGHTS" "[I" ∈ tblG) (kk : J MX y cc nL ret fr lo (pc + 3) lv (.ref (mW S) :: st) S r S') : J MX y cc nL ret fr lo pc lv st S r S' := by
  refine ⟨kk.1, fun p l e R s m args below meth c H locs cells slots mc ms ls A D hC hl hR hS hA h1 h2 h3 h4 => ?_⟩
  have KK := kk.2 p l e R s m args below meth c H locs cells slots mc ms ls A D hC hl hR hS hA h1 h2 h3 h4
  obtain ⟨hx, hb, hml, hown, hts, hrt, hlocks, hnm, hK, hf1, hf2⟩ := id hC
  obtain ⟨-, -, cell, z1, z2, z3⟩ := id hR
  obtain ⟨cf, kf, fi, f, a1, a2, a3, a4, a5⟩ := hK.2.2.2
  exact W.gets hx hb hown (hts _ hw) a1 a2 a3 a4 z1 (fun e => by rw [e] at z2; cases z2) (by rw [a5]; exact z3) rfl hd KK
end JArr
section JMath
variable {σ : Type} {X : RT σ} {y : MethodName} {cc : ByteArray} {nL : Nat} {ret : Option FieldType} {fr lo : Nat} {pc : Nat} {lv : List (Nat × Value)} {rest : List Value} {S S' : σ} {r : Option Value} {i : Nat}
theorem J_mmax {x z : Int32} (hd : decode cc pc = .ok (.invokestatic i, 3)) (hw : Cond.methodLink y.cls i Lib.Math.max.name ∈ tblG ∧ Cond.static Lib.Math.max.name ∈ tblG ∧ Cond.initialized "java/lang/Math" ∈ tblG ∧ Cond.code Lib.Math.max.name Lib.Math.max.code 2 (some .int) ∈ tblG) (hfr : 1 ≤ fr) (hlo : 24 ≤ lo) (hW : (rest.map fun v => v.category).sum ≤ 8) (k : J X y cc nL ret fr lo (pc + 3) lv (.int (if x < z then z else x) :: rest) S r S') : J X y cc nL ret fr lo pc lv (.int z :: .int x :: rest) S r S' := by
  refine ⟨k.1, fun p l e R s m args below meth c H locs cells slots mc ms ls A D hC hl hR hS hA h1 h2 h3 h4 => ?_⟩
  obtain ⟨hx, hb, hml, hown, hts, hrt, hlocks, hnm, hK, hf1, hf2⟩ := id hC
  have l1 := k.1.1
  have l2 := k.1.2.1
  exact va_mmax hx hb (hml.trans hl.1.symm) hown (hts _ hw.1) (hts _ hw.2.1) (hts _ hw.2.2.1) (hts _ hw.2.2.2) (by omega) (by omega) (by omega) (by omega) hd (k.2 p l e R s m args below meth c H locs cells slots mc ms ls A D hC hl hR hS hA h1 h2 h3 h4)
theorem J_mmin {x z : Int32} (hd : decode cc pc = .ok (.invokestatic i, 3)) (hw : Cond.methodLink y.cls i Lib.Math.min.name ∈ tblG ∧ Cond.static Lib.Math.min.name ∈ tblG ∧ Cond.initialized "java/lang/Math" ∈ tblG ∧ Cond.code Lib.Math.min.name Lib.Math.min.code 2 (some .int) ∈ tblG) (hfr : 1 ≤ fr) (hlo : 24 ≤ lo) (hW : (rest.map fun v => v.category).sum ≤ 8) (k : J X y cc nL ret fr lo (pc + 3) lv (.int (if z < x then z else x) :: rest) S r S') : J X y cc nL ret fr lo pc lv (.int z :: .int x :: rest) S r S' := by
  refine ⟨k.1, fun p l e R s m args below meth c H locs cells slots mc ms ls A D hC hl hR hS hA h1 h2 h3 h4 => ?_⟩
  obtain ⟨hx, hb, hml, hown, hts, hrt, hlocks, hnm, hK, hf1, hf2⟩ := id hC
  have l1 := k.1.1
  have l2 := k.1.2.1
  exact va_mmin hx hb (hml.trans hl.1.symm) hown (hts _ hw.1) (hts _ hw.2.1) (hts _ hw.2.2.1) (hts _ hw.2.2.2) (by omega) (by omega) (by omega) (by omega) hd (k.2 p l e R s m args below meth c H locs cells slots mc ms ls A D hC hl hR hS hA h1 h2 h3 h4)
theorem J_mminL {x z : Int64} (hd : decode cc pc = .ok (.invokestatic i, 3)) (hw : Cond.methodLink y.cls i Lib.MathLoose.min_long.x ∈ tblG ∧ Cond.static Lib.MathLoose.min_long.x ∈ tblG ∧ Cond.initialized "java/lang/Math" ∈ tblG ∧ Cond.code Lib.MathLoose.min_long.x Lib.MathLoose.min_long.code 4 (some .long) ∈ tblG) (hfr : 1 ≤ fr) (hlo : 24 ≤ lo) (hW : (rest.map fun v => v.category).sum ≤ 8) (k : J X y cc nL ret fr lo (pc + 3) lv (.long (if z < x then z else x) :: rest) S r S') : J X y cc nL ret fr lo pc lv (.long z :: .long x :: rest) S r S' := by
  refine ⟨k.1, fun p l e R s m args below meth c H locs cells slots mc ms ls A D hC hl hR hS hA h1 h2 h3 h4 => ?_⟩
  obtain ⟨hx, hb, hml, hown, hts, hrt, hlocks, hnm, hK, hf1, hf2⟩ := id hC
  have l1 := k.1.1
  have l2 := k.1.2.1
  exact va_mmin_long hx hb (hml.trans hl.1.symm) hown (hts _ hw.1) (hts _ hw.2.1) (hts _ hw.2.2.1) (hts _ hw.2.2.2) (by omega) (by omega) (by omega) (by omega) hd (k.2 p l e R s m args below meth c H locs cells slots mc ms ls A D hC hl hR hS hA h1 h2 h3 h4)
end JMath
end
section
/-! THE STATE OF THE REFERENCE: where it lies, its ints by field, its rows by field, its row of longs -/
abbrev MS : Type := Nat × (Nat → Int32) × (Nat → Nat → Int32) × (Nat → Int64)
def nF (S : MS) (k : Nat) : Int32 := S.2.1 k
def nA (S : MS) (k j : Nat) : Int32 := S.2.2.1 k j
def nP (S : MS) (j : Nat) : Int64 := S.2.2.2 j
def nSF (S : MS) (k : Nat) (v : Int32) : MS := (S.1, up1 S.2.1 k v, S.2.2)
def nSA (S : MS) (k j : Nat) (v : Int32) : MS := (S.1, S.2.1, up2 S.2.2.1 k j v, S.2.2.2)
def nSP (S : MS) (j : Nat) (v : Int64) : MS := (S.1, S.2.1, S.2.2.1, up1 S.2.2.2 j v)
/-- where a field's row lies behind the object; 0: it is none -/
def mOff : Nat → Nat
  | 1 => 1 | 2 => 2 | 3 => 3 | 4 => 4 | 5 => 5 | 6 => 6 | 7 => 7 | 8 => 8 | 9 => 9 | 10 => 10 | 11 => 11 | 17 => 12 | 28 => 13 | 32 => 14 | 33 => 15 | 35 => 16 | 37 => 17 | 38 => 18 | 39 => 19 | 40 => 20 | 41 => 21 | 43 => 22 | 44 => 23 | _ => 0
def mLen : Nat → Nat
  | 8 => 540 | 9 => 540 | 10 => 540 | 11 => 540 | 17 => 60 | 28 => 35000 | 32 => 20 | 33 => 400 | 35 => 1200 | 37 => 200 | 38 => 2400 | 39 => 2400 | 40 => 2400 | 41 => 200 | 43 => 12 | 44 => 4 | _ => 30
def mZ : Nat → Nat
  | 32 => 2 | 33 => 1 | 39 => 2 | _ => 0
def nfv (S : MS) (k : Nat) : Value := if mOff k = 0 then .int (nF S k) else .ref (S.1 + mOff k)
def nav (S : MS) (k j : Nat) : Value := if k = 33 then .long (nP S j) else .int (nA S k j)
theorem mOff_inj : ∀ k, k < 45 → ∀ k2, k2 < 45 → mOff k = mOff k2 → mOff k ≠ 0 → k = k2 := by decide +kernel
theorem mOff_lt : ∀ k, k < 45 → mOff k < 24 := by decide +kernel
theorem mOff_big {k : Nat} (h : mOff k ≠ 0) : k < 45 := by
  unfold mOff at h
  split at h <;> first | omega | exact absurd rfl h
def nRep (D : JD) (S : MS) (H : Heap) : Prop := t_OB S.1 (D.1.1 6) 45 (D.1.2 6) H (nfv S) ∧ ∀ k, mOff k ≠ 0 → H[S.1 + mOff k]? = some (arrV (D.2.1 (mZ k)) (mLen k) (nav S k))
def nFree (S : MS) (q : Nat) : Prop := S.1 ≤ q ∧ q < S.1 + 24
def NX : RT MS := (nRep, nFree, fun _ => 0, fun _ => 0, fun _ _ => 0, fun _ _ => 0)
theorem nle {S S2 : MS} (h : S2.1 = S.1) : jle NX S S2 := ⟨Nat.le_refl _, Nat.le_refl _, fun _ h => absurd rfl h, fun q hq => by
  have hq : S2.1 ≤ q ∧ q < S2.1 + 24 := hq
  rw [h] at hq
  exact hq⟩
theorem nRecv {S : MS} : jRecv NX S S.1 RX6 := by
  intro D H s hR hK
  obtain ⟨⟨cell, q1, q2, q3, -⟩, -⟩ := hR
  exact ⟨cell, q1, by rw [q3]; rfl, by rw [q2]; exact (hK.1.1 6 _ rfl).2.1⟩
section JModel
variable {y : MethodName} {cc : ByteArray} {nL : Nat} {ret : Option FieldType} {fr lo : Nat} {pc : Nat} {lv : List (Nat × Value)} {st rest : List Value} {S S' S2 : MS} {r : Option Value} {a i k : Nat}
theorem J_ngetG {v : Value} (hd : decode cc pc = .ok (.getfield i, 3)) (hf : jFld y.cls i 6 k) (ha : a = S.1) (hv : nfv S k = v) (kk : J NX y cc nL ret fr lo (pc + 3) lv (v :: rest) S r S') : J NX y cc nL ret fr lo pc lv (.ref a :: rest) S r S' := by
  subst ha
  refine ⟨kk.1, fun p l e R s m args below meth c H locs cells slots mc ms ls A D hC hl hR hS hA h1 h2 h3 h4 => ?_⟩
  have KK := kk.2 p l e R s m args below meth c H locs cells slots mc ms ls A D hC hl hR hS hA h1 h2 h3 h4
  obtain ⟨hx, hb, hml, hown, hts, hrt, hlocks, hnm, hK, hf1, hf2⟩ := id hC
  obtain ⟨hci, hkN, C, T, ⟨g1, g2, g3, g4⟩, hC1, hlink⟩ := hf
  obtain ⟨⟨cell, q1, q2, q3, q4⟩, -⟩ := id hR
  obtain ⟨hSl, hfc, kC, hkC, hkind⟩ := hK.1.1 6 _ g1
  obtain ⟨cf, kf, fi, f, hi, hsl⟩ := hSl k hkN
  have hst := (u_facts hfc hkC (u_lays hts g2 hkN) hi).1
  rw [hC1] at hi
  have hs : cell.slots[f.slot]? = some v := by rw [hsl, q4 k hkN, hv]
  rcases hlink with hl1 | ⟨host, hl1⟩
  · exact W.getf hx hb hown (hts _ hl1) hi hst q1 (by rw [q3]; exact fun h => by cases h) hs rfl rfl hd KK
  · exact va_Wgetf hx hb hown (va_Nw.use rfl (hK.2.1 _ hl1 rfl)) hi hst q1 (by rw [q3]; exact fun h => by cases h) hs rfl rfl hd KK
theorem J_nget (hd : decode cc pc = .ok (.getfield i, 3)) (hf : jFld y.cls i 6 k) (ha : a = S.1) (ho : mOff k = 0) (kk : J NX y cc nL ret fr lo (pc + 3) lv (.int (nF S k) :: rest) S r S') : J NX y cc nL ret fr lo pc lv (.ref a :: rest) S r S' :=
  J_ngetG hd hf ha (by unfold nfv; rw [if_pos ho]) kk
theorem J_ngetA {o : Nat} (hd : decode cc pc = .ok (.getfield i, 3)) (hf : jFld y.cls i 6 k) (ha : a = S.1) (ho : mOff k = o + 1) (kk : J NX y cc nL ret fr lo (pc + 3) lv (.ref (a + (o + 1)) :: rest) S r S') : J NX y cc nL ret fr lo pc lv (.ref a :: rest) S r S' :=
  J_ngetG hd hf ha (by unfold nfv; rw [if_neg (by omega), ho, ha]) kk
theorem nRep.field {D : JD} {H H2 : Heap} {v : Int32} (h : nRep D S H) (ho : mOff k = 0) (e2 : ∀ q, q ≠ S.1 → H2[q]? = H[q]?) (hob : t_OB S.1 (D.1.1 6) 45 (D.1.2 6) H2 (updV (nfv S) k (.int v))) : nRep D (nSF S k v) H2 := by
  refine ⟨hob.to (fun j _ => ?_), fun q hq => ?_⟩
  · by_cases hj : j = k
    · subst hj; rw [updV_eq]; unfold nfv; rw [if_pos ho]; simp [nF, nSF, up1]
    · rw [updV_ne hj]; unfold nfv; simp [nF, nSF, up1, hj]
  · show H2[S.1 + mOff q]? = _
    rw [e2 _ (by omega), h.2 q hq]
    rfl
theorem J_nputG {x : Int32} (hd : decode cc pc = .ok (.putfield i, 3)) (hf : jFldW y.cls i 6 k) (ha : a = S.1) (ho : mOff k = 0) (hn : narrow (cT 6 k) (.int x) = .int x) (hfit : fits (cT 6 k) (.int x) = true) (kk : J NX y cc nL ret fr lo (pc + 3) lv rest (nSF S k x) r S') : J NX y cc nL ret fr lo pc lv (.int x :: .ref a :: rest) S r S' := by
  subst ha
  refine ⟨(nle rfl).tr kk.1, fun p l e R s m args below meth c H locs cells slots mc ms ls A D hC hl hR hS hA h1 h2 h3 h4 => ?_⟩
  obtain ⟨hx, hb, hml, hown, hts, hrt, hlocks, hnm, hK, hf1, hf2⟩ := id hC
  obtain ⟨hci, hkN, C, T, ⟨g1, g2, g3, g4⟩, hC1, hfin, hlink⟩ := hf
  obtain ⟨⟨cell, q1, q2, q3, q4⟩, -⟩ := id hR
  have hap := va_apart (own := C) hts g2 (cT 6) g3 g4 hK.1 g1
  obtain ⟨hSl, hfc, kC, hkC, hkind⟩ := hK.1.1 6 _ g1
  obtain ⟨cf, kf, fi, f, hi, hsl⟩ := hSl k hkN
  have hlay := hts _ (g2 _ (u_in_lay hkN))
  unfold u_lay at hlay
  rw [if_neg (by rw [hfin]; decide)] at hlay
  have hst := (u_facts hfc hkC (u_lays hts g2 hkN) hi).1
  have h6 := u_store hfc hkC hkind hlay hi (g3 k hkN) hn hfit
  rw [hC1] at hi
  have key : ∀ (H' : Heap), H'[S.1]? = some (cell.setSlot f.slot (.int x)) → H'.size = H.size → (∀ q, q ≠ S.1 → H'[q]? = H[q]?) → W p l e R s m args below meth c H' (locs ++ [⟨S.1, f.slot⟩]) cells slots (MQ below (jQ NX D r S' A) args s mc ms A) (F0 m (pc + 3) ls rest) := by
    intro H' e1 e2 e3
    rw [hsl] at e1
    exact kk.2 p l e R s m args below meth c H' (locs ++ [⟨S.1, f.slot⟩]) cells slots mc ms ls A D hC hl (nRep.field hR ho e3 ⟨_, e1, q2, q3, t_set q4 hap hkN (.int x)⟩) (hS.put e2 e3 (hA S.1 ⟨Nat.le_refl _, by show S.1 < S.1 + 24; omega⟩)) hA h1 h2 h3 h4
  rcases hlink with hl1 | ⟨host, hl1⟩
  · exact W.putK hx hb (f := f) ⟨hown, hts _ hl1, ⟨_, _, _, hi⟩, hst⟩ (by rw [q2]; exact h6) q1 q3 (by rw [hsl]; exact k2_hasslot (q4 k hkN)) rfl rfl hd key
  · exact va_WputK hx hb (f := f) hown (va_Nw.use rfl (hK.2.1 _ hl1 rfl)) hi hst (by rw [q2]; exact h6) q1 q3 (by rw [hsl]; exact k2_hasslot (q4 k hkN)) rfl rfl hd key
theorem J_nput {x : Int32} (hd : decode cc pc = .ok (.putfield i, 3)) (hf : jFldW y.cls i 6 k) (ha : a = S.1) (ho : mOff k = 0) (hty : cT 6 k = .int) (kk : J NX y cc nL ret fr lo (pc + 3) lv rest (nSF S k x) r S') : J NX y cc nL ret fr lo pc lv (.int x :: .ref a :: rest) S r S' :=
  J_nputG hd hf ha ho (by rw [hty]; rfl) (by rw [hty]; rfl) kk
theorem J_nputZ {x : Int32} (hd : decode cc pc = .ok (.putfield i, 3)) (hf : jFldW y.cls i 6 k) (ha : a = S.1) (ho : mOff k = 0) (hty : cT 6 k = .boolean) (hz : x = 0 ∨ x = 1) (kk : J NX y cc nL ret fr lo (pc + 3) lv rest (nSF S k x) r S') : J NX y cc nL ret fr lo pc lv (.int x :: .ref a :: rest) S r S' :=
  J_nputG hd hf ha ho (by rw [hty]; rcases hz with rfl | rfl <;> rfl) (by rw [hty]; rcases hz with rfl | rfl <;> rfl) kk
theorem nArr {D : JD} {H : Heap} {o : Nat} (h : nRep D S H) (ho : mOff k = o + 1) : H[S.1 + (o + 1)]? = some (arrV (D.2.1 (mZ k)) (mLen k) (nav S k)) := by
  have := h.2 k (by omega)
  rw [ho] at this
  exact this
theorem nav_i (h : k ≠ 33) (j : Nat) : nav S k j = .int (nA S k j) := by unfold nav; rw [if_neg h]
theorem J_niald {j : Int32} {o : Nat} (hd : decode cc pc = .ok (.iaload, 1)) (ha : a = S.1) (ho : mOff k = o + 1) (hz : mZ k = 0) (h33 : k ≠ 33) (hj : inB j (mLen k) = true) (kk : J NX y cc nL ret fr lo (pc + 1) lv (.int (nA S k j.toNatClampNeg) :: rest) S r S') : J NX y cc nL ret fr lo pc lv (.int j :: .ref (a + (o + 1)) :: rest) S r S' := by
  subst ha
  refine ⟨kk.1, fun p l e R s m args below meth c H locs cells slots mc ms ls A D hC hl hR hS hA h1 h2 h3 h4 => ?_⟩
  have KK := kk.2 p l e R s m args below meth c H locs cells slots mc ms ls A D hC hl hR hS hA h1 h2 h3 h4
  obtain ⟨hx, hb, hml, hown, hts, hrt, hlocks, hnm, hK, hf1, hf2⟩ := id hC
  have hc := nArr (k := k) hR ho
  rw [hz] at hc
  exact W.iald hx hb hc ((hK.1.2 0 _ rfl).1 _ _) (fun q => by cases q) (by rw [arrV_size]; exact inB_of hj) (by rw [arrV_read _ _ (inB_lt hj), nav_i h33]) rfl rfl hd KK
theorem J_nzald {j : Int32} {o : Nat} (hd : decode cc pc = .ok (.baload, 1)) (ha : a = S.1) (ho : mOff k = o + 1) (hz : mZ k = 2) (h33 : k ≠ 33) (hj : inB j (mLen k) = true) (kk : J NX y cc nL ret fr lo (pc + 1) lv (.int (nA S k j.toNatClampNeg) :: rest) S r S') : J NX y cc nL ret fr lo pc lv (.int j :: .ref (a + (o + 1)) :: rest) S r S' := by
  subst ha
  refine ⟨kk.1, fun p l e R s m args below meth c H locs cells slots mc ms ls A D hC hl hR hS hA h1 h2 h3 h4 => ?_⟩
  have KK := kk.2 p l e R s m args below meth c H locs cells slots mc ms ls A D hC hl hR hS hA h1 h2 h3 h4
  obtain ⟨hx, hb, hml, hown, hts, hrt, hlocks, hnm, hK, hf1, hf2⟩ := id hC
  have hc := nArr (k := k) hR ho
  rw [hz] at hc
  exact W.zald hx hb hc ((hK.1.2 2 _ rfl).1 _ _) (fun q => by cases q) (by rw [arrV_size]; exact inB_of hj) (by rw [arrV_read _ _ (inB_lt hj), nav_i h33]) rfl rfl hd KK
theorem J_nlald {j : Int32} (hd : decode cc pc = .ok (.laload, 1)) (ha : a = S.1) (hj : inB j (mLen 33) = true) (kk : J NX y cc nL ret fr lo (pc + 1) lv (.long (nP S j.toNatClampNeg) :: rest) S r S') : J NX y cc nL ret fr lo pc lv (.int j :: .ref (a + 15) :: rest) S r S' := by
  subst ha
  refine ⟨kk.1, fun p l e R s m args below meth c H locs cells slots mc ms ls A D hC hl hR hS hA h1 h2 h3 h4 => ?_⟩
  have KK := kk.2 p l e R s m args below meth c H locs cells slots mc ms ls A D hC hl hR hS hA h1 h2 h3 h4
  obtain ⟨hx, hb, hml, hown, hts, hrt, hlocks, hnm, hK, hf1, hf2⟩ := id hC
  have hc := nArr (k := 33) (o := 14) hR rfl
  exact W.lald hx hb hc ((hK.1.2 1 _ rfl).1 _ _) (fun q => by cases q) (by rw [arrV_size]; exact inB_of hj) (by rw [arrV_read _ _ (inB_lt hj)]; rfl) rfl rfl hd KK
theorem nRep.row {D : JD} {H H2 : Heap} {q o : Nat} {v : Value} (h : nRep D S H) (hs : S2.1 = S.1) (hF : S2.2.1 = S.2.1) (ho : mOff k = o + 1) (hav : ∀ j, nav S2 k j = updV (nav S k) q v j) (hne : ∀ k2, k2 ≠ k → nav S2 k2 = nav S k2) (e1 : H2[S.1 + (o + 1)]? = some ((arrV (D.2.1 (mZ k)) (mLen k) (nav S k)).setSlot q v)) (e3 : ∀ q, q ≠ S.1 + (o + 1) → H2[q]? = H[q]?) : nRep D S2 H2 := by
  refine ⟨?_, fun k2 hk2 => ?_⟩
  · rw [hs]
    refine (h.1.kept (e3 _ (by omega))).to (fun j _ => ?_)
    unfold nfv nF
    rw [hF, hs]
  · rw [hs]
    by_cases hk : k2 = k
    · subst hk
      rw [ho, e1, arrV_store]
      congr 2
      funext j
      exact (hav j).symm
    · have hb := mOff_big (k := k) (by omega)
      have hb2 := mOff_big hk2
      rw [e3 _ (fun he => hk (mOff_inj k2 hb2 k hb (by omega) hk2)), h.2 k2 hk2, hne k2 hk]
theorem nav_SA {j : Nat} {x : Int32} (h33 : k ≠ 33) (q : Nat) : nav (nSA S k j x) k q = updV (nav S k) j (.int x) q := by
  by_cases hq : q = j
  · subst hq; rw [updV_eq, nav_i h33]; simp [nA, nSA, up2]
  · rw [updV_ne hq, nav_i h33, nav_i h33]; simp [nA, nSA, up2, hq]
theorem nav_SAne {j : Nat} {x : Int32} (k2 : Nat) (h : k2 ≠ k) : nav (nSA S k j x) k2 = nav S k2 := by
  funext q
  unfold nav
  by_cases h3 : k2 = 33
  · rw [if_pos h3, if_pos h3]; rfl
  · rw [if_neg h3, if_neg h3]; simp [nA, nSA, up2, h]
theorem J_niast {j x : Int32} {o : Nat} (hd : decode cc pc = .ok (.iastore, 1)) (ha : a = S.1) (ho : mOff k = o + 1) (hz : mZ k = 0) (h33 : k ≠ 33) (hj : inB j (mLen k) = true) (kk : J NX y cc nL ret fr lo (pc + 1) lv rest (nSA S k j.toNatClampNeg x) r S') : J NX y cc nL ret fr lo pc lv (.int x :: .int j :: .ref (a + (o + 1)) :: rest) S r S' := by
  subst ha
  refine ⟨(nle rfl).tr kk.1, fun p l e R s m args below meth c H locs cells slots mc ms ls A D hC hl hR hS hA h1 h2 h3 h4 => ?_⟩
  obtain ⟨hx, hb, hml, hown, hts, hrt, hlocks, hnm, hK, hf1, hf2⟩ := id hC
  have hc := nArr (k := k) hR ho
  have ho24 := mOff_lt k (mOff_big (by omega))
  rw [hz] at hc
  refine W.iast hx hb hc ((hK.1.2 0 _ rfl).1 _ _) (fun q => by cases q) (by rw [arrV_size]; exact inB_of hj) rfl rfl hd fun H' e1 e2 e3 => ?_
  rw [← hz] at e1
  exact kk.2 p l e R s m args below meth c H' _ cells slots mc ms ls A D hC hl (nRep.row hR rfl rfl ho (nav_SA h33) nav_SAne e1 e3) (hS.put e2 e3 (hA _ ⟨by show S.1 ≤ _; omega, by show _ < S.1 + 24; omega⟩)) hA h1 h2 h3 h4
theorem J_nzast {j x : Int32} {o : Nat} (hd : decode cc pc = .ok (.bastore, 1)) (ha : a = S.1) (ho : mOff k = o + 1) (hz : mZ k = 2) (h33 : k ≠ 33) (hx01 : x = 0 ∨ x = 1) (hj : inB j (mLen k) = true) (kk : J NX y cc nL ret fr lo (pc + 1) lv rest (nSA S k j.toNatClampNeg x) r S') : J NX y cc nL ret fr lo pc lv (.int x :: .int j :: .ref (a + (o + 1)) :: rest) S r S' := by
  subst ha
  refine ⟨(nle rfl).tr kk.1, fun p l e R s m args below meth c H locs cells slots mc ms ls A D hC hl hR hS hA h1 h2 h3 h4 => ?_⟩
  obtain ⟨hx, hb, hml, hown, hts, hrt, hlocks, hnm, hK, hf1, hf2⟩ := id hC
  have hc := nArr (k := k) hR ho
  have ho24 := mOff_lt k (mOff_big (by omega))
  have hn : narrow .boolean (.int x) = .int x := by rcases hx01 with rfl | rfl <;> rfl
  rw [hz] at hc
  refine W.zast hx hb hc ((hK.1.2 2 _ rfl).1 _ _) (fun q => by cases q) (by rw [arrV_size]; exact inB_of hj) rfl rfl hd fun H' e1 e2 e3 => ?_
  rw [← hz, hn] at e1
  exact kk.2 p l e R s m args below meth c H' _ cells slots mc ms ls A D hC hl (nRep.row hR rfl rfl ho (nav_SA h33) nav_SAne e1 e3) (hS.put e2 e3 (hA _ ⟨by show S.1 ≤ _; omega, by show _ < S.1 + 24; omega⟩)) hA h1 h2 h3 h4
theorem J_nlast {j : Int32} {x : Int64} (hd : decode cc pc = .ok (.lastore, 1)) (ha : a = S.1) (hj : inB j (mLen 33) = true) (kk : J NX y cc nL ret fr lo (pc + 1) lv rest (nSP S j.toNatClampNeg x) r S') : J NX y cc nL ret fr lo pc lv (.long x :: .int j :: .ref (a + 15) :: rest) S r S' := by
  subst ha
  refine ⟨(nle rfl).tr kk.1, fun p l e R s m args below meth c H locs cells slots mc ms ls A D hC hl hR hS hA h1 h2 h3 h4 => ?_⟩
  obtain ⟨hx, hb, hml, hown, hts, hrt, hlocks, hnm, hK, hf1, hf2⟩ := id hC
  have hc := nArr (k := 33) (o := 14) hR rfl
  refine W.last hx hb hc ((hK.1.2 1 _ rfl).1 _ _) (fun q => by cases q) (by rw [arrV_size]; exact inB_of hj) rfl rfl hd fun H' e1 e2 e3 => ?_
  refine kk.2 p l e R s m args below meth c H' _ cells slots mc ms ls A D hC hl (nRep.row (k := 33) (o := 14) (q := j.toNatClampNeg) (v := .long x) hR rfl rfl rfl (fun q => ?_) (fun k2 hk2 => ?_) e1 e3) (hS.put e2 e3 (hA _ ⟨by show S.1 ≤ _; omega, by show _ < S.1 + 24; omega⟩)) hA h1 h2 h3 h4
  · by_cases hq : q = j.toNatClampNeg
    · subst hq; rw [updV_eq]; simp [nav, nP, nSP, up1]
    · rw [updV_ne hq]; simp [nav, nP, nSP, up1, hq]
  · funext q; simp [nav, hk2]; rfl
end JModel
end
