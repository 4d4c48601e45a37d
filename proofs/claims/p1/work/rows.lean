section
-- ===== PART A: goes FIRST, ahead of the names: the tables' words, and 'selects' of the private methods out of them =====
/-- a private method of a class that the tables say can be made, by its rows of tables_1 -/
def lw_okq (q : MethodName × Nat) : Prop := (q.1.cls ≠ "java/lang/invoke/MethodHandle" ∧ q.1.cls ≠ "java/lang/invoke/VarHandle") ∧ Cond.instantiable q.1.cls q.2 ∈ tables_1 ∧ Cond.privateMethod q.1 ∈ tables_1 ∧ Cond.instanceMethod q.1 ∈ tables_1
theorem lw_p0 : lw_okq (⟨"SegmentBench$Operand", "clear", "(I)V"⟩, 8) := ⟨⟨by decide +kernel, by decide +kernel⟩, List.mem_of_getElem? (i := 150) (by decide +kernel), List.mem_of_getElem? (i := 156) (by decide +kernel), List.mem_of_getElem? (i := 157) (by decide +kernel)⟩
theorem lw_p1 : lw_okq (⟨"java/lang/Throwable", "fillInStackTrace", "(I)Ljava/lang/Throwable;"⟩, 6) := ⟨⟨by decide +kernel, by decide +kernel⟩, List.mem_of_getElem? (i := 534) (by decide +kernel), List.mem_of_getElem? (i := 532) (by decide +kernel), List.mem_of_getElem? (i := 533) (by decide +kernel)⟩
theorem lw_p2 : lw_okq (⟨"SegmentBench$Tokens", "readWord", "([CII)I"⟩, 5) := ⟨⟨by decide +kernel, by decide +kernel⟩, List.mem_of_getElem? (i := 78) (by decide +kernel), List.mem_of_getElem? (i := 655) (by decide +kernel), List.mem_of_getElem? (i := 656) (by decide +kernel)⟩
theorem lw_p3 : lw_okq (⟨"SegmentBench$Tokens", "put", "(III)V"⟩, 5) := ⟨⟨by decide +kernel, by decide +kernel⟩, List.mem_of_getElem? (i := 78) (by decide +kernel), List.mem_of_getElem? (i := 663) (by decide +kernel), List.mem_of_getElem? (i := 664) (by decide +kernel)⟩
theorem lw_p4 : lw_okq (⟨"SegmentBench$Tokens", "readNumber", "([CII)I"⟩, 5) := ⟨⟨by decide +kernel, by decide +kernel⟩, List.mem_of_getElem? (i := 78) (by decide +kernel), List.mem_of_getElem? (i := 725) (by decide +kernel), List.mem_of_getElem? (i := 726) (by decide +kernel)⟩
theorem lw_p5 : lw_okq (⟨"SegmentBench$Parser", "type", "()I"⟩, 6) := ⟨⟨by decide +kernel, by decide +kernel⟩, List.mem_of_getElem? (i := 144) (by decide +kernel), List.mem_of_getElem? (i := 796) (by decide +kernel), List.mem_of_getElem? (i := 797) (by decide +kernel)⟩
theorem lw_p6 : lw_okq (⟨"SegmentBench$Parser", "label", "()Z"⟩, 6) := ⟨⟨by decide +kernel, by decide +kernel⟩, List.mem_of_getElem? (i := 144) (by decide +kernel), List.mem_of_getElem? (i := 800) (by decide +kernel), List.mem_of_getElem? (i := 801) (by decide +kernel)⟩
theorem lw_p7 : lw_okq (⟨"SegmentBench$Parser", "take", "(I)Z"⟩, 6) := ⟨⟨by decide +kernel, by decide +kernel⟩, List.mem_of_getElem? (i := 144) (by decide +kernel), List.mem_of_getElem? (i := 804) (by decide +kernel), List.mem_of_getElem? (i := 805) (by decide +kernel)⟩
theorem lw_p8 : lw_okq (⟨"SegmentBench$Parser", "addNamed", "(III)V"⟩, 6) := ⟨⟨by decide +kernel, by decide +kernel⟩, List.mem_of_getElem? (i := 144) (by decide +kernel), List.mem_of_getElem? (i := 808) (by decide +kernel), List.mem_of_getElem? (i := 809) (by decide +kernel)⟩
theorem lw_p9 : lw_okq (⟨"SegmentBench$Parser", "value", "()I"⟩, 6) := ⟨⟨by decide +kernel, by decide +kernel⟩, List.mem_of_getElem? (i := 144) (by decide +kernel), List.mem_of_getElem? (i := 816) (by decide +kernel), List.mem_of_getElem? (i := 817) (by decide +kernel)⟩
theorem lw_p10 : lw_okq (⟨"SegmentBench$Parser", "mayStand", "(I)Z"⟩, 6) := ⟨⟨by decide +kernel, by decide +kernel⟩, List.mem_of_getElem? (i := 144) (by decide +kernel), List.mem_of_getElem? (i := 820) (by decide +kernel), List.mem_of_getElem? (i := 821) (by decide +kernel)⟩
theorem lw_p11 : lw_okq (⟨"SegmentBench$Parser", "directive", "(I)Z"⟩, 6) := ⟨⟨by decide +kernel, by decide +kernel⟩, List.mem_of_getElem? (i := 144) (by decide +kernel), List.mem_of_getElem? (i := 826) (by decide +kernel), List.mem_of_getElem? (i := 827) (by decide +kernel)⟩
theorem lw_p12 : lw_okq (⟨"SegmentBench$Parser", "seg", "()Z"⟩, 6) := ⟨⟨by decide +kernel, by decide +kernel⟩, List.mem_of_getElem? (i := 144) (by decide +kernel), List.mem_of_getElem? (i := 830) (by decide +kernel), List.mem_of_getElem? (i := 831) (by decide +kernel)⟩
theorem lw_p13 : lw_okq (⟨"SegmentBench$Parser", "named", "(II)Z"⟩, 6) := ⟨⟨by decide +kernel, by decide +kernel⟩, List.mem_of_getElem? (i := 144) (by decide +kernel), List.mem_of_getElem? (i := 843) (by decide +kernel), List.mem_of_getElem? (i := 844) (by decide +kernel)⟩
theorem lw_p14 : lw_okq (⟨"SegmentBench$Parser", "words", "()Z"⟩, 6) := ⟨⟨by decide +kernel, by decide +kernel⟩, List.mem_of_getElem? (i := 144) (by decide +kernel), List.mem_of_getElem? (i := 847) (by decide +kernel), List.mem_of_getElem? (i := 848) (by decide +kernel)⟩
theorem lw_p15 : lw_okq (⟨"SegmentBench$Parser", "operand", "(LSegmentBench$Operand;I)Z"⟩, 6) := ⟨⟨by decide +kernel, by decide +kernel⟩, List.mem_of_getElem? (i := 144) (by decide +kernel), List.mem_of_getElem? (i := 851) (by decide +kernel), List.mem_of_getElem? (i := 852) (by decide +kernel)⟩
def lw_privs_1 : List (MethodName × Nat) := [(⟨"SegmentBench$Operand", "clear", "(I)V"⟩, 8), (⟨"java/lang/Throwable", "fillInStackTrace", "(I)Ljava/lang/Throwable;"⟩, 6), (⟨"SegmentBench$Tokens", "readWord", "([CII)I"⟩, 5), (⟨"SegmentBench$Tokens", "put", "(III)V"⟩, 5), (⟨"SegmentBench$Tokens", "readNumber", "([CII)I"⟩, 5), (⟨"SegmentBench$Parser", "type", "()I"⟩, 6), (⟨"SegmentBench$Parser", "label", "()Z"⟩, 6), (⟨"SegmentBench$Parser", "take", "(I)Z"⟩, 6), (⟨"SegmentBench$Parser", "addNamed", "(III)V"⟩, 6), (⟨"SegmentBench$Parser", "value", "()I"⟩, 6), (⟨"SegmentBench$Parser", "mayStand", "(I)Z"⟩, 6), (⟨"SegmentBench$Parser", "directive", "(I)Z"⟩, 6), (⟨"SegmentBench$Parser", "seg", "()Z"⟩, 6), (⟨"SegmentBench$Parser", "named", "(II)Z"⟩, 6), (⟨"SegmentBench$Parser", "words", "()Z"⟩, 6), (⟨"SegmentBench$Parser", "operand", "(LSegmentBench$Operand;I)Z"⟩, 6)]
theorem lw_r1 : ∀ q ∈ lw_privs_1, lw_okq q := List.forall_mem_cons.mpr ⟨lw_p0, List.forall_mem_cons.mpr ⟨lw_p1, List.forall_mem_cons.mpr ⟨lw_p2, List.forall_mem_cons.mpr ⟨lw_p3, List.forall_mem_cons.mpr ⟨lw_p4, List.forall_mem_cons.mpr ⟨lw_p5, List.forall_mem_cons.mpr ⟨lw_p6, List.forall_mem_cons.mpr ⟨lw_p7, List.forall_mem_cons.mpr ⟨lw_p8, List.forall_mem_cons.mpr ⟨lw_p9, List.forall_mem_cons.mpr ⟨lw_p10, List.forall_mem_cons.mpr ⟨lw_p11, List.forall_mem_cons.mpr ⟨lw_p12, List.forall_mem_cons.mpr ⟨lw_p13, List.forall_mem_cons.mpr ⟨lw_p14, List.forall_mem_cons.mpr ⟨lw_p15, fun _ h => absurd h List.not_mem_nil⟩⟩⟩⟩⟩⟩⟩⟩⟩⟩⟩⟩⟩⟩⟩⟩
theorem lw_p16 : lw_okq (⟨"SegmentBench$Parser", "coded", "(LSegmentBench$Operand;I)Z"⟩, 6) := ⟨⟨by decide +kernel, by decide +kernel⟩, List.mem_of_getElem? (i := 144) (by decide +kernel), List.mem_of_getElem? (i := 855) (by decide +kernel), List.mem_of_getElem? (i := 856) (by decide +kernel)⟩
theorem lw_p17 : lw_okq (⟨"SegmentBench$Parser", "brackets", "(LSegmentBench$Operand;)Z"⟩, 6) := ⟨⟨by decide +kernel, by decide +kernel⟩, List.mem_of_getElem? (i := 144) (by decide +kernel), List.mem_of_getElem? (i := 860) (by decide +kernel), List.mem_of_getElem? (i := 861) (by decide +kernel)⟩
theorem lw_p18 : lw_okq (⟨"SegmentBench$Parser", "part", "(LSegmentBench$Operand;)Z"⟩, 6) := ⟨⟨by decide +kernel, by decide +kernel⟩, List.mem_of_getElem? (i := 144) (by decide +kernel), List.mem_of_getElem? (i := 864) (by decide +kernel), List.mem_of_getElem? (i := 865) (by decide +kernel)⟩
theorem lw_p19 : lw_okq (⟨"SegmentBench$Parser", "plainValue", "(LSegmentBench$Operand;)Z"⟩, 6) := ⟨⟨by decide +kernel, by decide +kernel⟩, List.mem_of_getElem? (i := 144) (by decide +kernel), List.mem_of_getElem? (i := 869) (by decide +kernel), List.mem_of_getElem? (i := 870) (by decide +kernel)⟩
theorem lw_p20 : lw_okq (⟨"SegmentBench$Parser", "bytes", "()Z"⟩, 6) := ⟨⟨by decide +kernel, by decide +kernel⟩, List.mem_of_getElem? (i := 144) (by decide +kernel), List.mem_of_getElem? (i := 878) (by decide +kernel), List.mem_of_getElem? (i := 879) (by decide +kernel)⟩
theorem lw_p21 : lw_okq (⟨"SegmentBench$Parser", "numbered", "(II)Z"⟩, 6) := ⟨⟨by decide +kernel, by decide +kernel⟩, List.mem_of_getElem? (i := 144) (by decide +kernel), List.mem_of_getElem? (i := 882) (by decide +kernel), List.mem_of_getElem? (i := 883) (by decide +kernel)⟩
theorem lw_p22 : lw_okq (⟨"SegmentBench$Parser", "instruction", "(II)Z"⟩, 6) := ⟨⟨by decide +kernel, by decide +kernel⟩, List.mem_of_getElem? (i := 144) (by decide +kernel), List.mem_of_getElem? (i := 888) (by decide +kernel), List.mem_of_getElem? (i := 889) (by decide +kernel)⟩
theorem lw_p23 : lw_okq (⟨"SegmentBench$Parser", "mov", "()Z"⟩, 6) := ⟨⟨by decide +kernel, by decide +kernel⟩, List.mem_of_getElem? (i := 144) (by decide +kernel), List.mem_of_getElem? (i := 892) (by decide +kernel), List.mem_of_getElem? (i := 893) (by decide +kernel)⟩
theorem lw_p24 : lw_okq (⟨"SegmentBench$Parser", "arithmetic", "(I)Z"⟩, 6) := ⟨⟨by decide +kernel, by decide +kernel⟩, List.mem_of_getElem? (i := 144) (by decide +kernel), List.mem_of_getElem? (i := 927) (by decide +kernel), List.mem_of_getElem? (i := 928) (by decide +kernel)⟩
theorem lw_p25 : lw_okq (⟨"SegmentBench$Parser", "onRegister", "(III)Z"⟩, 6) := ⟨⟨by decide +kernel, by decide +kernel⟩, List.mem_of_getElem? (i := 144) (by decide +kernel), List.mem_of_getElem? (i := 931) (by decide +kernel), List.mem_of_getElem? (i := 932) (by decide +kernel)⟩
theorem lw_p26 : lw_okq (⟨"SegmentBench$Parser", "single", "(II)Z"⟩, 6) := ⟨⟨by decide +kernel, by decide +kernel⟩, List.mem_of_getElem? (i := 144) (by decide +kernel), List.mem_of_getElem? (i := 935) (by decide +kernel), List.mem_of_getElem? (i := 936) (by decide +kernel)⟩
theorem lw_p27 : lw_okq (⟨"SegmentBench", "tell", "(II)V"⟩, 12) := ⟨⟨by decide +kernel, by decide +kernel⟩, List.mem_of_getElem? (i := 33) (by decide +kernel), List.mem_of_getElem? (i := 939) (by decide +kernel), List.mem_of_getElem? (i := 940) (by decide +kernel)⟩
theorem lw_p28 : lw_okq (⟨"SegmentBench$Layout", "declareAll", "()V"⟩, 6) := ⟨⟨by decide +kernel, by decide +kernel⟩, List.mem_of_getElem? (i := 218) (by decide +kernel), List.mem_of_getElem? (i := 963) (by decide +kernel), List.mem_of_getElem? (i := 964) (by decide +kernel)⟩
theorem lw_p29 : lw_okq (⟨"SegmentBench$Layout", "openSegment", "(II)I"⟩, 6) := ⟨⟨by decide +kernel, by decide +kernel⟩, List.mem_of_getElem? (i := 218) (by decide +kernel), List.mem_of_getElem? (i := 967) (by decide +kernel), List.mem_of_getElem? (i := 968) (by decide +kernel)⟩
theorem lw_p30 : lw_okq (⟨"SegmentBench$Layout", "mayDeclare", "(I)Z"⟩, 6) := ⟨⟨by decide +kernel, by decide +kernel⟩, List.mem_of_getElem? (i := 218) (by decide +kernel), List.mem_of_getElem? (i := 971) (by decide +kernel), List.mem_of_getElem? (i := 972) (by decide +kernel)⟩
theorem lw_p31 : lw_okq (⟨"SegmentBench$Layout", "blame", "(I)V"⟩, 6) := ⟨⟨by decide +kernel, by decide +kernel⟩, List.mem_of_getElem? (i := 218) (by decide +kernel), List.mem_of_getElem? (i := 975) (by decide +kernel), List.mem_of_getElem? (i := 976) (by decide +kernel)⟩
def lw_privs_2 : List (MethodName × Nat) := [(⟨"SegmentBench$Parser", "coded", "(LSegmentBench$Operand;I)Z"⟩, 6), (⟨"SegmentBench$Parser", "brackets", "(LSegmentBench$Operand;)Z"⟩, 6), (⟨"SegmentBench$Parser", "part", "(LSegmentBench$Operand;)Z"⟩, 6), (⟨"SegmentBench$Parser", "plainValue", "(LSegmentBench$Operand;)Z"⟩, 6), (⟨"SegmentBench$Parser", "bytes", "()Z"⟩, 6), (⟨"SegmentBench$Parser", "numbered", "(II)Z"⟩, 6), (⟨"SegmentBench$Parser", "instruction", "(II)Z"⟩, 6), (⟨"SegmentBench$Parser", "mov", "()Z"⟩, 6), (⟨"SegmentBench$Parser", "arithmetic", "(I)Z"⟩, 6), (⟨"SegmentBench$Parser", "onRegister", "(III)Z"⟩, 6), (⟨"SegmentBench$Parser", "single", "(II)Z"⟩, 6), (⟨"SegmentBench", "tell", "(II)V"⟩, 12), (⟨"SegmentBench$Layout", "declareAll", "()V"⟩, 6), (⟨"SegmentBench$Layout", "openSegment", "(II)I"⟩, 6), (⟨"SegmentBench$Layout", "mayDeclare", "(I)Z"⟩, 6), (⟨"SegmentBench$Layout", "blame", "(I)V"⟩, 6)]
theorem lw_r2 : ∀ q ∈ lw_privs_2, lw_okq q := List.forall_mem_cons.mpr ⟨lw_p16, List.forall_mem_cons.mpr ⟨lw_p17, List.forall_mem_cons.mpr ⟨lw_p18, List.forall_mem_cons.mpr ⟨lw_p19, List.forall_mem_cons.mpr ⟨lw_p20, List.forall_mem_cons.mpr ⟨lw_p21, List.forall_mem_cons.mpr ⟨lw_p22, List.forall_mem_cons.mpr ⟨lw_p23, List.forall_mem_cons.mpr ⟨lw_p24, List.forall_mem_cons.mpr ⟨lw_p25, List.forall_mem_cons.mpr ⟨lw_p26, List.forall_mem_cons.mpr ⟨lw_p27, List.forall_mem_cons.mpr ⟨lw_p28, List.forall_mem_cons.mpr ⟨lw_p29, List.forall_mem_cons.mpr ⟨lw_p30, List.forall_mem_cons.mpr ⟨lw_p31, fun _ h => absurd h List.not_mem_nil⟩⟩⟩⟩⟩⟩⟩⟩⟩⟩⟩⟩⟩⟩⟩⟩
theorem lw_p32 : lw_okq (⟨"SegmentBench$Layout", "declare", "(III)V"⟩, 6) := ⟨⟨by decide +kernel, by decide +kernel⟩, List.mem_of_getElem? (i := 218) (by decide +kernel), List.mem_of_getElem? (i := 983) (by decide +kernel), List.mem_of_getElem? (i := 984) (by decide +kernel)⟩
theorem lw_p33 : lw_okq (⟨"SegmentBench$Layout", "isUseRight", "(I)Z"⟩, 6) := ⟨⟨by decide +kernel, by decide +kernel⟩, List.mem_of_getElem? (i := 218) (by decide +kernel), List.mem_of_getElem? (i := 987) (by decide +kernel), List.mem_of_getElem? (i := 988) (by decide +kernel)⟩
theorem lw_p34 : lw_okq (⟨"SegmentBench$Layout", "measure", "()V"⟩, 6) := ⟨⟨by decide +kernel, by decide +kernel⟩, List.mem_of_getElem? (i := 218) (by decide +kernel), List.mem_of_getElem? (i := 1011) (by decide +kernel), List.mem_of_getElem? (i := 1012) (by decide +kernel)⟩
theorem lw_p35 : lw_okq (⟨"SegmentBench$Layout", "growJumps", "()Z"⟩, 6) := ⟨⟨by decide +kernel, by decide +kernel⟩, List.mem_of_getElem? (i := 218) (by decide +kernel), List.mem_of_getElem? (i := 1022) (by decide +kernel), List.mem_of_getElem? (i := 1023) (by decide +kernel)⟩
theorem lw_p36 : lw_okq (⟨"SegmentBench$Layout", "isExtern", "(I)Z"⟩, 6) := ⟨⟨by decide +kernel, by decide +kernel⟩, List.mem_of_getElem? (i := 218) (by decide +kernel), List.mem_of_getElem? (i := 1026) (by decide +kernel), List.mem_of_getElem? (i := 1027) (by decide +kernel)⟩
theorem lw_p37 : lw_okq (⟨"SegmentBench$Layout", "distance", "(I)I"⟩, 6) := ⟨⟨by decide +kernel, by decide +kernel⟩, List.mem_of_getElem? (i := 218) (by decide +kernel), List.mem_of_getElem? (i := 1030) (by decide +kernel), List.mem_of_getElem? (i := 1031) (by decide +kernel)⟩
theorem lw_p38 : lw_okq (⟨"SegmentBench$Layout", "writeItem", "(LSegmentBench$ObjectModule;I)V"⟩, 6) := ⟨⟨by decide +kernel, by decide +kernel⟩, List.mem_of_getElem? (i := 218) (by decide +kernel), List.mem_of_getElem? (i := 1064) (by decide +kernel), List.mem_of_getElem? (i := 1065) (by decide +kernel)⟩
theorem lw_p39 : lw_okq (⟨"SegmentBench$Layout", "writeOffset", "(LSegmentBench$ObjectModule;II)V"⟩, 6) := ⟨⟨by decide +kernel, by decide +kernel⟩, List.mem_of_getElem? (i := 218) (by decide +kernel), List.mem_of_getElem? (i := 1077) (by decide +kernel), List.mem_of_getElem? (i := 1078) (by decide +kernel)⟩
theorem lw_p40 : lw_okq (⟨"SegmentBench$Layout", "writeFixup", "(LSegmentBench$ObjectModule;III)V"⟩, 6) := ⟨⟨by decide +kernel, by decide +kernel⟩, List.mem_of_getElem? (i := 218) (by decide +kernel), List.mem_of_getElem? (i := 1081) (by decide +kernel), List.mem_of_getElem? (i := 1082) (by decide +kernel)⟩
theorem lw_p41 : lw_okq (⟨"SegmentBench$Layout", "writeJump", "(LSegmentBench$ObjectModule;I)V"⟩, 6) := ⟨⟨by decide +kernel, by decide +kernel⟩, List.mem_of_getElem? (i := 218) (by decide +kernel), List.mem_of_getElem? (i := 1089) (by decide +kernel), List.mem_of_getElem? (i := 1090) (by decide +kernel)⟩
theorem lw_p42 : lw_okq (⟨"SegmentBench$Layout", "writeNear", "(LSegmentBench$ObjectModule;I)V"⟩, 6) := ⟨⟨by decide +kernel, by decide +kernel⟩, List.mem_of_getElem? (i := 218) (by decide +kernel), List.mem_of_getElem? (i := 1093) (by decide +kernel), List.mem_of_getElem? (i := 1094) (by decide +kernel)⟩
theorem lw_p43 : lw_okq (⟨"SegmentBench$Linker", "publicModule", "(JI)I"⟩, 7) := ⟨⟨by decide +kernel, by decide +kernel⟩, List.mem_of_getElem? (i := 330) (by decide +kernel), List.mem_of_getElem? (i := 1137) (by decide +kernel), List.mem_of_getElem? (i := 1138) (by decide +kernel)⟩
theorem lw_p44 : lw_okq (⟨"SegmentBench$Linker", "addPart", "(II)V"⟩, 7) := ⟨⟨by decide +kernel, by decide +kernel⟩, List.mem_of_getElem? (i := 330) (by decide +kernel), List.mem_of_getElem? (i := 1158) (by decide +kernel), List.mem_of_getElem? (i := 1159) (by decide +kernel)⟩
theorem lw_p45 : lw_okq (⟨"SegmentBench$Linker", "combinedNumber", "(J)I"⟩, 7) := ⟨⟨by decide +kernel, by decide +kernel⟩, List.mem_of_getElem? (i := 330) (by decide +kernel), List.mem_of_getElem? (i := 1162) (by decide +kernel), List.mem_of_getElem? (i := 1163) (by decide +kernel)⟩
theorem lw_p46 : lw_okq (⟨"SegmentBench$Linker", "publicPart", "(J)I"⟩, 7) := ⟨⟨by decide +kernel, by decide +kernel⟩, List.mem_of_getElem? (i := 330) (by decide +kernel), List.mem_of_getElem? (i := 1177) (by decide +kernel), List.mem_of_getElem? (i := 1178) (by decide +kernel)⟩
theorem lw_p47 : lw_okq (⟨"SegmentBench$Linker", "placeOf", "(I)I"⟩, 7) := ⟨⟨by decide +kernel, by decide +kernel⟩, List.mem_of_getElem? (i := 330) (by decide +kernel), List.mem_of_getElem? (i := 1191) (by decide +kernel), List.mem_of_getElem? (i := 1192) (by decide +kernel)⟩
def lw_privs_3 : List (MethodName × Nat) := [(⟨"SegmentBench$Layout", "declare", "(III)V"⟩, 6), (⟨"SegmentBench$Layout", "isUseRight", "(I)Z"⟩, 6), (⟨"SegmentBench$Layout", "measure", "()V"⟩, 6), (⟨"SegmentBench$Layout", "growJumps", "()Z"⟩, 6), (⟨"SegmentBench$Layout", "isExtern", "(I)Z"⟩, 6), (⟨"SegmentBench$Layout", "distance", "(I)I"⟩, 6), (⟨"SegmentBench$Layout", "writeItem", "(LSegmentBench$ObjectModule;I)V"⟩, 6), (⟨"SegmentBench$Layout", "writeOffset", "(LSegmentBench$ObjectModule;II)V"⟩, 6), (⟨"SegmentBench$Layout", "writeFixup", "(LSegmentBench$ObjectModule;III)V"⟩, 6), (⟨"SegmentBench$Layout", "writeJump", "(LSegmentBench$ObjectModule;I)V"⟩, 6), (⟨"SegmentBench$Layout", "writeNear", "(LSegmentBench$ObjectModule;I)V"⟩, 6), (⟨"SegmentBench$Linker", "publicModule", "(JI)I"⟩, 7), (⟨"SegmentBench$Linker", "addPart", "(II)V"⟩, 7), (⟨"SegmentBench$Linker", "combinedNumber", "(J)I"⟩, 7), (⟨"SegmentBench$Linker", "publicPart", "(J)I"⟩, 7), (⟨"SegmentBench$Linker", "placeOf", "(I)I"⟩, 7)]
theorem lw_r3 : ∀ q ∈ lw_privs_3, lw_okq q := List.forall_mem_cons.mpr ⟨lw_p32, List.forall_mem_cons.mpr ⟨lw_p33, List.forall_mem_cons.mpr ⟨lw_p34, List.forall_mem_cons.mpr ⟨lw_p35, List.forall_mem_cons.mpr ⟨lw_p36, List.forall_mem_cons.mpr ⟨lw_p37, List.forall_mem_cons.mpr ⟨lw_p38, List.forall_mem_cons.mpr ⟨lw_p39, List.forall_mem_cons.mpr ⟨lw_p40, List.forall_mem_cons.mpr ⟨lw_p41, List.forall_mem_cons.mpr ⟨lw_p42, List.forall_mem_cons.mpr ⟨lw_p43, List.forall_mem_cons.mpr ⟨lw_p44, List.forall_mem_cons.mpr ⟨lw_p45, List.forall_mem_cons.mpr ⟨lw_p46, List.forall_mem_cons.mpr ⟨lw_p47, fun _ h => absurd h List.not_mem_nil⟩⟩⟩⟩⟩⟩⟩⟩⟩⟩⟩⟩⟩⟩⟩⟩
theorem lw_p48 : lw_okq (⟨"SegmentBench$Linker", "solve", "(LSegmentBench$Image;II)V"⟩, 7) := ⟨⟨by decide +kernel, by decide +kernel⟩, List.mem_of_getElem? (i := 330) (by decide +kernel), List.mem_of_getElem? (i := 1198) (by decide +kernel), List.mem_of_getElem? (i := 1199) (by decide +kernel)⟩
theorem lw_p49 : lw_okq (⟨"SegmentBench$Linker", "publicOffset", "(J)I"⟩, 7) := ⟨⟨by decide +kernel, by decide +kernel⟩, List.mem_of_getElem? (i := 330) (by decide +kernel), List.mem_of_getElem? (i := 1210) (by decide +kernel), List.mem_of_getElem? (i := 1211) (by decide +kernel)⟩
theorem lw_p50 : lw_okq (⟨"SegmentBench$Machine", "word", "(I)I"⟩, 14) := ⟨⟨by decide +kernel, by decide +kernel⟩, List.mem_of_getElem? (i := 399) (by decide +kernel), List.mem_of_getElem? (i := 1228) (by decide +kernel), List.mem_of_getElem? (i := 1229) (by decide +kernel)⟩
theorem lw_p51 : lw_okq (⟨"SegmentBench$Machine", "putWord", "(II)V"⟩, 14) := ⟨⟨by decide +kernel, by decide +kernel⟩, List.mem_of_getElem? (i := 399) (by decide +kernel), List.mem_of_getElem? (i := 1232) (by decide +kernel), List.mem_of_getElem? (i := 1233) (by decide +kernel)⟩
theorem lw_p52 : lw_okq (⟨"SegmentBench$Machine", "fetch", "()I"⟩, 14) := ⟨⟨by decide +kernel, by decide +kernel⟩, List.mem_of_getElem? (i := 399) (by decide +kernel), List.mem_of_getElem? (i := 1249) (by decide +kernel), List.mem_of_getElem? (i := 1250) (by decide +kernel)⟩
theorem lw_p53 : lw_okq (⟨"SegmentBench$Machine", "execute", "(I)I"⟩, 14) := ⟨⟨by decide +kernel, by decide +kernel⟩, List.mem_of_getElem? (i := 399) (by decide +kernel), List.mem_of_getElem? (i := 1254) (by decide +kernel), List.mem_of_getElem? (i := 1255) (by decide +kernel)⟩
theorem lw_p54 : lw_okq (⟨"SegmentBench$Machine", "executeLow", "(II)I"⟩, 14) := ⟨⟨by decide +kernel, by decide +kernel⟩, List.mem_of_getElem? (i := 399) (by decide +kernel), List.mem_of_getElem? (i := 1258) (by decide +kernel), List.mem_of_getElem? (i := 1259) (by decide +kernel)⟩
theorem lw_p55 : lw_okq (⟨"SegmentBench$Machine", "push", "(I)V"⟩, 14) := ⟨⟨by decide +kernel, by decide +kernel⟩, List.mem_of_getElem? (i := 399) (by decide +kernel), List.mem_of_getElem? (i := 1262) (by decide +kernel), List.mem_of_getElem? (i := 1263) (by decide +kernel)⟩
theorem lw_p56 : lw_okq (⟨"SegmentBench$Machine", "pop", "()I"⟩, 14) := ⟨⟨by decide +kernel, by decide +kernel⟩, List.mem_of_getElem? (i := 399) (by decide +kernel), List.mem_of_getElem? (i := 1266) (by decide +kernel), List.mem_of_getElem? (i := 1267) (by decide +kernel)⟩
theorem lw_p57 : lw_okq (⟨"SegmentBench$Machine", "fetchM", "()V"⟩, 14) := ⟨⟨by decide +kernel, by decide +kernel⟩, List.mem_of_getElem? (i := 399) (by decide +kernel), List.mem_of_getElem? (i := 1273) (by decide +kernel), List.mem_of_getElem? (i := 1274) (by decide +kernel)⟩
theorem lw_p58 : lw_okq (⟨"SegmentBench$Machine", "registerSum", "(I)I"⟩, 14) := ⟨⟨by decide +kernel, by decide +kernel⟩, List.mem_of_getElem? (i := 399) (by decide +kernel), List.mem_of_getElem? (i := 1277) (by decide +kernel), List.mem_of_getElem? (i := 1278) (by decide +kernel)⟩
theorem lw_p59 : lw_okq (⟨"SegmentBench$Machine", "fetchWord", "()I"⟩, 14) := ⟨⟨by decide +kernel, by decide +kernel⟩, List.mem_of_getElem? (i := 399) (by decide +kernel), List.mem_of_getElem? (i := 1281) (by decide +kernel), List.mem_of_getElem? (i := 1282) (by decide +kernel)⟩
theorem lw_p60 : lw_okq (⟨"SegmentBench$Machine", "fetchSigned", "()I"⟩, 14) := ⟨⟨by decide +kernel, by decide +kernel⟩, List.mem_of_getElem? (i := 399) (by decide +kernel), List.mem_of_getElem? (i := 1285) (by decide +kernel), List.mem_of_getElem? (i := 1286) (by decide +kernel)⟩
theorem lw_p61 : lw_okq (⟨"SegmentBench$Machine", "arithmeticOnM", "(II)V"⟩, 14) := ⟨⟨by decide +kernel, by decide +kernel⟩, List.mem_of_getElem? (i := 399) (by decide +kernel), List.mem_of_getElem? (i := 1289) (by decide +kernel), List.mem_of_getElem? (i := 1290) (by decide +kernel)⟩
theorem lw_p62 : lw_okq (⟨"SegmentBench$Machine", "readM", "()I"⟩, 14) := ⟨⟨by decide +kernel, by decide +kernel⟩, List.mem_of_getElem? (i := 399) (by decide +kernel), List.mem_of_getElem? (i := 1293) (by decide +kernel), List.mem_of_getElem? (i := 1294) (by decide +kernel)⟩
theorem lw_p63 : lw_okq (⟨"SegmentBench$Machine", "arithmetic", "(III)I"⟩, 14) := ⟨⟨by decide +kernel, by decide +kernel⟩, List.mem_of_getElem? (i := 399) (by decide +kernel), List.mem_of_getElem? (i := 1297) (by decide +kernel), List.mem_of_getElem? (i := 1298) (by decide +kernel)⟩
def lw_privs_4 : List (MethodName × Nat) := [(⟨"SegmentBench$Linker", "solve", "(LSegmentBench$Image;II)V"⟩, 7), (⟨"SegmentBench$Linker", "publicOffset", "(J)I"⟩, 7), (⟨"SegmentBench$Machine", "word", "(I)I"⟩, 14), (⟨"SegmentBench$Machine", "putWord", "(II)V"⟩, 14), (⟨"SegmentBench$Machine", "fetch", "()I"⟩, 14), (⟨"SegmentBench$Machine", "execute", "(I)I"⟩, 14), (⟨"SegmentBench$Machine", "executeLow", "(II)I"⟩, 14), (⟨"SegmentBench$Machine", "push", "(I)V"⟩, 14), (⟨"SegmentBench$Machine", "pop", "()I"⟩, 14), (⟨"SegmentBench$Machine", "fetchM", "()V"⟩, 14), (⟨"SegmentBench$Machine", "registerSum", "(I)I"⟩, 14), (⟨"SegmentBench$Machine", "fetchWord", "()I"⟩, 14), (⟨"SegmentBench$Machine", "fetchSigned", "()I"⟩, 14), (⟨"SegmentBench$Machine", "arithmeticOnM", "(II)V"⟩, 14), (⟨"SegmentBench$Machine", "readM", "()I"⟩, 14), (⟨"SegmentBench$Machine", "arithmetic", "(III)I"⟩, 14)]
theorem lw_r4 : ∀ q ∈ lw_privs_4, lw_okq q := List.forall_mem_cons.mpr ⟨lw_p48, List.forall_mem_cons.mpr ⟨lw_p49, List.forall_mem_cons.mpr ⟨lw_p50, List.forall_mem_cons.mpr ⟨lw_p51, List.forall_mem_cons.mpr ⟨lw_p52, List.forall_mem_cons.mpr ⟨lw_p53, List.forall_mem_cons.mpr ⟨lw_p54, List.forall_mem_cons.mpr ⟨lw_p55, List.forall_mem_cons.mpr ⟨lw_p56, List.forall_mem_cons.mpr ⟨lw_p57, List.forall_mem_cons.mpr ⟨lw_p58, List.forall_mem_cons.mpr ⟨lw_p59, List.forall_mem_cons.mpr ⟨lw_p60, List.forall_mem_cons.mpr ⟨lw_p61, List.forall_mem_cons.mpr ⟨lw_p62, List.forall_mem_cons.mpr ⟨lw_p63, fun _ h => absurd h List.not_mem_nil⟩⟩⟩⟩⟩⟩⟩⟩⟩⟩⟩⟩⟩⟩⟩⟩
theorem lw_p64 : lw_okq (⟨"SegmentBench$Machine", "judge", "(I)V"⟩, 14) := ⟨⟨by decide +kernel, by decide +kernel⟩, List.mem_of_getElem? (i := 399) (by decide +kernel), List.mem_of_getElem? (i := 1301) (by decide +kernel), List.mem_of_getElem? (i := 1302) (by decide +kernel)⟩
theorem lw_p65 : lw_okq (⟨"SegmentBench$Machine", "writeM", "(I)V"⟩, 14) := ⟨⟨by decide +kernel, by decide +kernel⟩, List.mem_of_getElem? (i := 399) (by decide +kernel), List.mem_of_getElem? (i := 1305) (by decide +kernel), List.mem_of_getElem? (i := 1306) (by decide +kernel)⟩
theorem lw_p66 : lw_okq (⟨"SegmentBench$Machine", "executeRegister", "(II)I"⟩, 14) := ⟨⟨by decide +kernel, by decide +kernel⟩, List.mem_of_getElem? (i := 399) (by decide +kernel), List.mem_of_getElem? (i := 1309) (by decide +kernel), List.mem_of_getElem? (i := 1310) (by decide +kernel)⟩
theorem lw_p67 : lw_okq (⟨"SegmentBench$Machine", "branch", "(I)I"⟩, 14) := ⟨⟨by decide +kernel, by decide +kernel⟩, List.mem_of_getElem? (i := 399) (by decide +kernel), List.mem_of_getElem? (i := 1313) (by decide +kernel), List.mem_of_getElem? (i := 1314) (by decide +kernel)⟩
theorem lw_p68 : lw_okq (⟨"SegmentBench$Machine", "jump", "(I)V"⟩, 14) := ⟨⟨by decide +kernel, by decide +kernel⟩, List.mem_of_getElem? (i := 399) (by decide +kernel), List.mem_of_getElem? (i := 1317) (by decide +kernel), List.mem_of_getElem? (i := 1318) (by decide +kernel)⟩
theorem lw_p69 : lw_okq (⟨"SegmentBench$Machine", "executeM", "(I)I"⟩, 14) := ⟨⟨by decide +kernel, by decide +kernel⟩, List.mem_of_getElem? (i := 399) (by decide +kernel), List.mem_of_getElem? (i := 1321) (by decide +kernel), List.mem_of_getElem? (i := 1322) (by decide +kernel)⟩
theorem lw_p70 : lw_okq (⟨"SegmentBench$Machine", "shift", "()I"⟩, 14) := ⟨⟨by decide +kernel, by decide +kernel⟩, List.mem_of_getElem? (i := 399) (by decide +kernel), List.mem_of_getElem? (i := 1325) (by decide +kernel), List.mem_of_getElem? (i := 1326) (by decide +kernel)⟩
theorem lw_p71 : lw_okq (⟨"SegmentBench$Machine", "single", "()I"⟩, 14) := ⟨⟨by decide +kernel, by decide +kernel⟩, List.mem_of_getElem? (i := 399) (by decide +kernel), List.mem_of_getElem? (i := 1329) (by decide +kernel), List.mem_of_getElem? (i := 1330) (by decide +kernel)⟩
theorem lw_p72 : lw_okq (⟨"SegmentBench$Machine", "divide", "(I)I"⟩, 14) := ⟨⟨by decide +kernel, by decide +kernel⟩, List.mem_of_getElem? (i := 399) (by decide +kernel), List.mem_of_getElem? (i := 1333) (by decide +kernel), List.mem_of_getElem? (i := 1334) (by decide +kernel)⟩
theorem lw_p73 : lw_okq (⟨"SegmentBench$Machine", "executeFlow", "(I)I"⟩, 14) := ⟨⟨by decide +kernel, by decide +kernel⟩, List.mem_of_getElem? (i := 399) (by decide +kernel), List.mem_of_getElem? (i := 1339) (by decide +kernel), List.mem_of_getElem? (i := 1340) (by decide +kernel)⟩
theorem lw_p74 : lw_okq (⟨"SegmentBench$Machine", "loop", "(I)I"⟩, 14) := ⟨⟨by decide +kernel, by decide +kernel⟩, List.mem_of_getElem? (i := 399) (by decide +kernel), List.mem_of_getElem? (i := 1343) (by decide +kernel), List.mem_of_getElem? (i := 1344) (by decide +kernel)⟩
theorem lw_p75 : lw_okq (⟨"SegmentBench$Machine", "callFar", "(II)I"⟩, 14) := ⟨⟨by decide +kernel, by decide +kernel⟩, List.mem_of_getElem? (i := 399) (by decide +kernel), List.mem_of_getElem? (i := 1347) (by decide +kernel), List.mem_of_getElem? (i := 1348) (by decide +kernel)⟩
theorem lw_p76 : lw_okq (⟨"SegmentBench$Machine", "tellInt", "(I)V"⟩, 14) := ⟨⟨by decide +kernel, by decide +kernel⟩, List.mem_of_getElem? (i := 399) (by decide +kernel), List.mem_of_getElem? (i := 1351) (by decide +kernel), List.mem_of_getElem? (i := 1352) (by decide +kernel)⟩
theorem lw_p77 : lw_okq (⟨"SegmentBenchModel", "raise", "(I)I"⟩, 85) := ⟨⟨by decide +kernel, by decide +kernel⟩, List.mem_of_getElem? (i := 1414) (by decide +kernel), List.mem_of_getElem? (i := 1733) (by decide +kernel), List.mem_of_getElem? (i := 1734) (by decide +kernel)⟩
theorem lw_p78 : lw_okq (⟨"SegmentBenchModel", "parse", "()Z"⟩, 85) := ⟨⟨by decide +kernel, by decide +kernel⟩, List.mem_of_getElem? (i := 1414) (by decide +kernel), List.mem_of_getElem? (i := 1741) (by decide +kernel), List.mem_of_getElem? (i := 1742) (by decide +kernel)⟩
theorem lw_p79 : lw_okq (⟨"SegmentBenchModel", "next", "()V"⟩, 85) := ⟨⟨by decide +kernel, by decide +kernel⟩, List.mem_of_getElem? (i := 1414) (by decide +kernel), List.mem_of_getElem? (i := 1745) (by decide +kernel), List.mem_of_getElem? (i := 1746) (by decide +kernel)⟩
def lw_privs_5 : List (MethodName × Nat) := [(⟨"SegmentBench$Machine", "judge", "(I)V"⟩, 14), (⟨"SegmentBench$Machine", "writeM", "(I)V"⟩, 14), (⟨"SegmentBench$Machine", "executeRegister", "(II)I"⟩, 14), (⟨"SegmentBench$Machine", "branch", "(I)I"⟩, 14), (⟨"SegmentBench$Machine", "jump", "(I)V"⟩, 14), (⟨"SegmentBench$Machine", "executeM", "(I)I"⟩, 14), (⟨"SegmentBench$Machine", "shift", "()I"⟩, 14), (⟨"SegmentBench$Machine", "single", "()I"⟩, 14), (⟨"SegmentBench$Machine", "divide", "(I)I"⟩, 14), (⟨"SegmentBench$Machine", "executeFlow", "(I)I"⟩, 14), (⟨"SegmentBench$Machine", "loop", "(I)I"⟩, 14), (⟨"SegmentBench$Machine", "callFar", "(II)I"⟩, 14), (⟨"SegmentBench$Machine", "tellInt", "(I)V"⟩, 14), (⟨"SegmentBenchModel", "raise", "(I)I"⟩, 85), (⟨"SegmentBenchModel", "parse", "()Z"⟩, 85), (⟨"SegmentBenchModel", "next", "()V"⟩, 85)]
theorem lw_r5 : ∀ q ∈ lw_privs_5, lw_okq q := List.forall_mem_cons.mpr ⟨lw_p64, List.forall_mem_cons.mpr ⟨lw_p65, List.forall_mem_cons.mpr ⟨lw_p66, List.forall_mem_cons.mpr ⟨lw_p67, List.forall_mem_cons.mpr ⟨lw_p68, List.forall_mem_cons.mpr ⟨lw_p69, List.forall_mem_cons.mpr ⟨lw_p70, List.forall_mem_cons.mpr ⟨lw_p71, List.forall_mem_cons.mpr ⟨lw_p72, List.forall_mem_cons.mpr ⟨lw_p73, List.forall_mem_cons.mpr ⟨lw_p74, List.forall_mem_cons.mpr ⟨lw_p75, List.forall_mem_cons.mpr ⟨lw_p76, List.forall_mem_cons.mpr ⟨lw_p77, List.forall_mem_cons.mpr ⟨lw_p78, List.forall_mem_cons.mpr ⟨lw_p79, fun _ h => absurd h List.not_mem_nil⟩⟩⟩⟩⟩⟩⟩⟩⟩⟩⟩⟩⟩⟩⟩⟩
theorem lw_p80 : lw_okq (⟨"SegmentBenchModel", "charAt", "(I)I"⟩, 85) := ⟨⟨by decide +kernel, by decide +kernel⟩, List.mem_of_getElem? (i := 1414) (by decide +kernel), List.mem_of_getElem? (i := 1749) (by decide +kernel), List.mem_of_getElem? (i := 1750) (by decide +kernel)⟩
theorem lw_p81 : lw_okq (⟨"SegmentBenchModel", "item", "()Z"⟩, 85) := ⟨⟨by decide +kernel, by decide +kernel⟩, List.mem_of_getElem? (i := 1414) (by decide +kernel), List.mem_of_getElem? (i := 1761) (by decide +kernel), List.mem_of_getElem? (i := 1762) (by decide +kernel)⟩
theorem lw_p82 : lw_okq (⟨"SegmentBenchModel", "isName", "()Z"⟩, 85) := ⟨⟨by decide +kernel, by decide +kernel⟩, List.mem_of_getElem? (i := 1414) (by decide +kernel), List.mem_of_getElem? (i := 1765) (by decide +kernel), List.mem_of_getElem? (i := 1766) (by decide +kernel)⟩
theorem lw_p83 : lw_okq (⟨"SegmentBenchModel", "fault", "()Z"⟩, 85) := ⟨⟨by decide +kernel, by decide +kernel⟩, List.mem_of_getElem? (i := 1414) (by decide +kernel), List.mem_of_getElem? (i := 1769) (by decide +kernel), List.mem_of_getElem? (i := 1770) (by decide +kernel)⟩
theorem lw_p84 : lw_okq (⟨"SegmentBenchModel", "name", "()I"⟩, 85) := ⟨⟨by decide +kernel, by decide +kernel⟩, List.mem_of_getElem? (i := 1414) (by decide +kernel), List.mem_of_getElem? (i := 1773) (by decide +kernel), List.mem_of_getElem? (i := 1774) (by decide +kernel)⟩
theorem lw_p85 : lw_okq (⟨"SegmentBenchModel", "wrongAt", "(I)V"⟩, 85) := ⟨⟨by decide +kernel, by decide +kernel⟩, List.mem_of_getElem? (i := 1414) (by decide +kernel), List.mem_of_getElem? (i := 1777) (by decide +kernel), List.mem_of_getElem? (i := 1778) (by decide +kernel)⟩
theorem lw_p86 : lw_okq (⟨"SegmentBenchModel", "take", "(I)Z"⟩, 85) := ⟨⟨by decide +kernel, by decide +kernel⟩, List.mem_of_getElem? (i := 1414) (by decide +kernel), List.mem_of_getElem? (i := 1781) (by decide +kernel), List.mem_of_getElem? (i := 1782) (by decide +kernel)⟩
theorem lw_p87 : lw_okq (⟨"SegmentBenchModel", "label", "(II)V"⟩, 85) := ⟨⟨by decide +kernel, by decide +kernel⟩, List.mem_of_getElem? (i := 1414) (by decide +kernel), List.mem_of_getElem? (i := 1785) (by decide +kernel), List.mem_of_getElem? (i := 1786) (by decide +kernel)⟩
theorem lw_p88 : lw_okq (⟨"SegmentBenchModel", "piece", "(IIII)V"⟩, 85) := ⟨⟨by decide +kernel, by decide +kernel⟩, List.mem_of_getElem? (i := 1414) (by decide +kernel), List.mem_of_getElem? (i := 1789) (by decide +kernel), List.mem_of_getElem? (i := 1790) (by decide +kernel)⟩
theorem lw_p89 : lw_okq (⟨"SegmentBenchModel", "directive", "()Z"⟩, 85) := ⟨⟨by decide +kernel, by decide +kernel⟩, List.mem_of_getElem? (i := 1414) (by decide +kernel), List.mem_of_getElem? (i := 1793) (by decide +kernel), List.mem_of_getElem? (i := 1794) (by decide +kernel)⟩
theorem lw_p90 : lw_okq (⟨"SegmentBenchModel", "data", "(I)Z"⟩, 85) := ⟨⟨by decide +kernel, by decide +kernel⟩, List.mem_of_getElem? (i := 1414) (by decide +kernel), List.mem_of_getElem? (i := 1797) (by decide +kernel), List.mem_of_getElem? (i := 1798) (by decide +kernel)⟩
theorem lw_p91 : lw_okq (⟨"SegmentBenchModel", "octet", "(I)V"⟩, 85) := ⟨⟨by decide +kernel, by decide +kernel⟩, List.mem_of_getElem? (i := 1414) (by decide +kernel), List.mem_of_getElem? (i := 1801) (by decide +kernel), List.mem_of_getElem? (i := 1802) (by decide +kernel)⟩
theorem lw_p92 : lw_okq (⟨"SegmentBenchModel", "value", "()Z"⟩, 85) := ⟨⟨by decide +kernel, by decide +kernel⟩, List.mem_of_getElem? (i := 1414) (by decide +kernel), List.mem_of_getElem? (i := 1805) (by decide +kernel), List.mem_of_getElem? (i := 1806) (by decide +kernel)⟩
theorem lw_p93 : lw_okq (⟨"SegmentBenchModel", "use", "(III)V"⟩, 85) := ⟨⟨by decide +kernel, by decide +kernel⟩, List.mem_of_getElem? (i := 1414) (by decide +kernel), List.mem_of_getElem? (i := 1809) (by decide +kernel), List.mem_of_getElem? (i := 1810) (by decide +kernel)⟩
theorem lw_p94 : lw_okq (⟨"SegmentBenchModel", "emitValue", "()V"⟩, 85) := ⟨⟨by decide +kernel, by decide +kernel⟩, List.mem_of_getElem? (i := 1414) (by decide +kernel), List.mem_of_getElem? (i := 1813) (by decide +kernel), List.mem_of_getElem? (i := 1814) (by decide +kernel)⟩
theorem lw_p95 : lw_okq (⟨"SegmentBenchModel", "open", "(III)V"⟩, 85) := ⟨⟨by decide +kernel, by decide +kernel⟩, List.mem_of_getElem? (i := 1414) (by decide +kernel), List.mem_of_getElem? (i := 1817) (by decide +kernel), List.mem_of_getElem? (i := 1818) (by decide +kernel)⟩
def lw_privs_6 : List (MethodName × Nat) := [(⟨"SegmentBenchModel", "charAt", "(I)I"⟩, 85), (⟨"SegmentBenchModel", "item", "()Z"⟩, 85), (⟨"SegmentBenchModel", "isName", "()Z"⟩, 85), (⟨"SegmentBenchModel", "fault", "()Z"⟩, 85), (⟨"SegmentBenchModel", "name", "()I"⟩, 85), (⟨"SegmentBenchModel", "wrongAt", "(I)V"⟩, 85), (⟨"SegmentBenchModel", "take", "(I)Z"⟩, 85), (⟨"SegmentBenchModel", "label", "(II)V"⟩, 85), (⟨"SegmentBenchModel", "piece", "(IIII)V"⟩, 85), (⟨"SegmentBenchModel", "directive", "()Z"⟩, 85), (⟨"SegmentBenchModel", "data", "(I)Z"⟩, 85), (⟨"SegmentBenchModel", "octet", "(I)V"⟩, 85), (⟨"SegmentBenchModel", "value", "()Z"⟩, 85), (⟨"SegmentBenchModel", "use", "(III)V"⟩, 85), (⟨"SegmentBenchModel", "emitValue", "()V"⟩, 85), (⟨"SegmentBenchModel", "open", "(III)V"⟩, 85)]
theorem lw_r6 : ∀ q ∈ lw_privs_6, lw_okq q := List.forall_mem_cons.mpr ⟨lw_p80, List.forall_mem_cons.mpr ⟨lw_p81, List.forall_mem_cons.mpr ⟨lw_p82, List.forall_mem_cons.mpr ⟨lw_p83, List.forall_mem_cons.mpr ⟨lw_p84, List.forall_mem_cons.mpr ⟨lw_p85, List.forall_mem_cons.mpr ⟨lw_p86, List.forall_mem_cons.mpr ⟨lw_p87, List.forall_mem_cons.mpr ⟨lw_p88, List.forall_mem_cons.mpr ⟨lw_p89, List.forall_mem_cons.mpr ⟨lw_p90, List.forall_mem_cons.mpr ⟨lw_p91, List.forall_mem_cons.mpr ⟨lw_p92, List.forall_mem_cons.mpr ⟨lw_p93, List.forall_mem_cons.mpr ⟨lw_p94, List.forall_mem_cons.mpr ⟨lw_p95, fun _ h => absurd h List.not_mem_nil⟩⟩⟩⟩⟩⟩⟩⟩⟩⟩⟩⟩⟩⟩⟩⟩
theorem lw_p96 : lw_okq (⟨"SegmentBenchModel", "instruction", "()Z"⟩, 85) := ⟨⟨by decide +kernel, by decide +kernel⟩, List.mem_of_getElem? (i := 1414) (by decide +kernel), List.mem_of_getElem? (i := 1821) (by decide +kernel), List.mem_of_getElem? (i := 1822) (by decide +kernel)⟩
theorem lw_p97 : lw_okq (⟨"SegmentBenchModel", "mov", "()Z"⟩, 85) := ⟨⟨by decide +kernel, by decide +kernel⟩, List.mem_of_getElem? (i := 1414) (by decide +kernel), List.mem_of_getElem? (i := 1825) (by decide +kernel), List.mem_of_getElem? (i := 1826) (by decide +kernel)⟩
theorem lw_p98 : lw_okq (⟨"SegmentBenchModel", "operand", "(I)Z"⟩, 85) := ⟨⟨by decide +kernel, by decide +kernel⟩, List.mem_of_getElem? (i := 1414) (by decide +kernel), List.mem_of_getElem? (i := 1829) (by decide +kernel), List.mem_of_getElem? (i := 1830) (by decide +kernel)⟩
theorem lw_p99 : lw_okq (⟨"SegmentBenchModel", "isWord", "(II)Z"⟩, 85) := ⟨⟨by decide +kernel, by decide +kernel⟩, List.mem_of_getElem? (i := 1414) (by decide +kernel), List.mem_of_getElem? (i := 1833) (by decide +kernel), List.mem_of_getElem? (i := 1834) (by decide +kernel)⟩
theorem lw_p100 : lw_okq (⟨"SegmentBenchModel", "memoryOperand", "()Z"⟩, 85) := ⟨⟨by decide +kernel, by decide +kernel⟩, List.mem_of_getElem? (i := 1414) (by decide +kernel), List.mem_of_getElem? (i := 1837) (by decide +kernel), List.mem_of_getElem? (i := 1838) (by decide +kernel)⟩
theorem lw_p101 : lw_okq (⟨"SegmentBenchModel", "part", "()Z"⟩, 85) := ⟨⟨by decide +kernel, by decide +kernel⟩, List.mem_of_getElem? (i := 1414) (by decide +kernel), List.mem_of_getElem? (i := 1841) (by decide +kernel), List.mem_of_getElem? (i := 1842) (by decide +kernel)⟩
theorem lw_p102 : lw_okq (⟨"SegmentBenchModel", "movTo", "(II)Z"⟩, 85) := ⟨⟨by decide +kernel, by decide +kernel⟩, List.mem_of_getElem? (i := 1414) (by decide +kernel), List.mem_of_getElem? (i := 1845) (by decide +kernel), List.mem_of_getElem? (i := 1846) (by decide +kernel)⟩
theorem lw_p103 : lw_okq (⟨"SegmentBenchModel", "emitForm", "(I)V"⟩, 85) := ⟨⟨by decide +kernel, by decide +kernel⟩, List.mem_of_getElem? (i := 1414) (by decide +kernel), List.mem_of_getElem? (i := 1849) (by decide +kernel), List.mem_of_getElem? (i := 1850) (by decide +kernel)⟩
theorem lw_p104 : lw_okq (⟨"SegmentBenchModel", "bits", "()I"⟩, 85) := ⟨⟨by decide +kernel, by decide +kernel⟩, List.mem_of_getElem? (i := 1414) (by decide +kernel), List.mem_of_getElem? (i := 1853) (by decide +kernel), List.mem_of_getElem? (i := 1854) (by decide +kernel)⟩
theorem lw_p105 : lw_okq (⟨"SegmentBenchModel", "reckon", "(I)Z"⟩, 85) := ⟨⟨by decide +kernel, by decide +kernel⟩, List.mem_of_getElem? (i := 1414) (by decide +kernel), List.mem_of_getElem? (i := 1857) (by decide +kernel), List.mem_of_getElem? (i := 1858) (by decide +kernel)⟩
theorem lw_p106 : lw_okq (⟨"SegmentBenchModel", "stack", "(I)Z"⟩, 85) := ⟨⟨by decide +kernel, by decide +kernel⟩, List.mem_of_getElem? (i := 1414) (by decide +kernel), List.mem_of_getElem? (i := 1861) (by decide +kernel), List.mem_of_getElem? (i := 1862) (by decide +kernel)⟩
theorem lw_p107 : lw_okq (⟨"SegmentBenchModel", "single", "(I)Z"⟩, 85) := ⟨⟨by decide +kernel, by decide +kernel⟩, List.mem_of_getElem? (i := 1414) (by decide +kernel), List.mem_of_getElem? (i := 1865) (by decide +kernel), List.mem_of_getElem? (i := 1866) (by decide +kernel)⟩
theorem lw_p108 : lw_okq (⟨"SegmentBenchModel", "jump", "(II)Z"⟩, 85) := ⟨⟨by decide +kernel, by decide +kernel⟩, List.mem_of_getElem? (i := 1414) (by decide +kernel), List.mem_of_getElem? (i := 1869) (by decide +kernel), List.mem_of_getElem? (i := 1870) (by decide +kernel)⟩
theorem lw_p109 : lw_okq (⟨"SegmentBenchModel", "judge", "()V"⟩, 85) := ⟨⟨by decide +kernel, by decide +kernel⟩, List.mem_of_getElem? (i := 1414) (by decide +kernel), List.mem_of_getElem? (i := 1876) (by decide +kernel), List.mem_of_getElem? (i := 1877) (by decide +kernel)⟩
theorem lw_p110 : lw_okq (⟨"SegmentBenchModel", "tell", "(III)I"⟩, 85) := ⟨⟨by decide +kernel, by decide +kernel⟩, List.mem_of_getElem? (i := 1414) (by decide +kernel), List.mem_of_getElem? (i := 1880) (by decide +kernel), List.mem_of_getElem? (i := 1881) (by decide +kernel)⟩
theorem lw_p111 : lw_okq (⟨"SegmentBenchModel", "settle", "()V"⟩, 85) := ⟨⟨by decide +kernel, by decide +kernel⟩, List.mem_of_getElem? (i := 1414) (by decide +kernel), List.mem_of_getElem? (i := 1884) (by decide +kernel), List.mem_of_getElem? (i := 1885) (by decide +kernel)⟩
def lw_privs_7 : List (MethodName × Nat) := [(⟨"SegmentBenchModel", "instruction", "()Z"⟩, 85), (⟨"SegmentBenchModel", "mov", "()Z"⟩, 85), (⟨"SegmentBenchModel", "operand", "(I)Z"⟩, 85), (⟨"SegmentBenchModel", "isWord", "(II)Z"⟩, 85), (⟨"SegmentBenchModel", "memoryOperand", "()Z"⟩, 85), (⟨"SegmentBenchModel", "part", "()Z"⟩, 85), (⟨"SegmentBenchModel", "movTo", "(II)Z"⟩, 85), (⟨"SegmentBenchModel", "emitForm", "(I)V"⟩, 85), (⟨"SegmentBenchModel", "bits", "()I"⟩, 85), (⟨"SegmentBenchModel", "reckon", "(I)Z"⟩, 85), (⟨"SegmentBenchModel", "stack", "(I)Z"⟩, 85), (⟨"SegmentBenchModel", "single", "(I)Z"⟩, 85), (⟨"SegmentBenchModel", "jump", "(II)Z"⟩, 85), (⟨"SegmentBenchModel", "judge", "()V"⟩, 85), (⟨"SegmentBenchModel", "tell", "(III)I"⟩, 85), (⟨"SegmentBenchModel", "settle", "()V"⟩, 85)]
theorem lw_r7 : ∀ q ∈ lw_privs_7, lw_okq q := List.forall_mem_cons.mpr ⟨lw_p96, List.forall_mem_cons.mpr ⟨lw_p97, List.forall_mem_cons.mpr ⟨lw_p98, List.forall_mem_cons.mpr ⟨lw_p99, List.forall_mem_cons.mpr ⟨lw_p100, List.forall_mem_cons.mpr ⟨lw_p101, List.forall_mem_cons.mpr ⟨lw_p102, List.forall_mem_cons.mpr ⟨lw_p103, List.forall_mem_cons.mpr ⟨lw_p104, List.forall_mem_cons.mpr ⟨lw_p105, List.forall_mem_cons.mpr ⟨lw_p106, List.forall_mem_cons.mpr ⟨lw_p107, List.forall_mem_cons.mpr ⟨lw_p108, List.forall_mem_cons.mpr ⟨lw_p109, List.forall_mem_cons.mpr ⟨lw_p110, List.forall_mem_cons.mpr ⟨lw_p111, fun _ h => absurd h List.not_mem_nil⟩⟩⟩⟩⟩⟩⟩⟩⟩⟩⟩⟩⟩⟩⟩⟩
theorem lw_p112 : lw_okq (⟨"SegmentBenchModel", "lay", "()V"⟩, 85) := ⟨⟨by decide +kernel, by decide +kernel⟩, List.mem_of_getElem? (i := 1414) (by decide +kernel), List.mem_of_getElem? (i := 1888) (by decide +kernel), List.mem_of_getElem? (i := 1889) (by decide +kernel)⟩
theorem lw_p113 : lw_okq (⟨"SegmentBenchModel", "sizeOf", "(I)I"⟩, 85) := ⟨⟨by decide +kernel, by decide +kernel⟩, List.mem_of_getElem? (i := 1414) (by decide +kernel), List.mem_of_getElem? (i := 1892) (by decide +kernel), List.mem_of_getElem? (i := 1893) (by decide +kernel)⟩
theorem lw_p114 : lw_okq (⟨"SegmentBenchModel", "distance", "(I)I"⟩, 85) := ⟨⟨by decide +kernel, by decide +kernel⟩, List.mem_of_getElem? (i := 1414) (by decide +kernel), List.mem_of_getElem? (i := 1896) (by decide +kernel), List.mem_of_getElem? (i := 1897) (by decide +kernel)⟩
theorem lw_p115 : lw_okq (⟨"SegmentBenchModel", "write", "(I)V"⟩, 85) := ⟨⟨by decide +kernel, by decide +kernel⟩, List.mem_of_getElem? (i := 1414) (by decide +kernel), List.mem_of_getElem? (i := 1903) (by decide +kernel), List.mem_of_getElem? (i := 1904) (by decide +kernel)⟩
theorem lw_p116 : lw_okq (⟨"SegmentBenchModel", "put", "(II)V"⟩, 85) := ⟨⟨by decide +kernel, by decide +kernel⟩, List.mem_of_getElem? (i := 1414) (by decide +kernel), List.mem_of_getElem? (i := 1907) (by decide +kernel), List.mem_of_getElem? (i := 1908) (by decide +kernel)⟩
theorem lw_p117 : lw_okq (⟨"SegmentBenchModel", "set", "(IIII)V"⟩, 85) := ⟨⟨by decide +kernel, by decide +kernel⟩, List.mem_of_getElem? (i := 1414) (by decide +kernel), List.mem_of_getElem? (i := 1911) (by decide +kernel), List.mem_of_getElem? (i := 1912) (by decide +kernel)⟩
theorem lw_p118 : lw_okq (⟨"SegmentBenchModel", "fix", "(IIIII)V"⟩, 85) := ⟨⟨by decide +kernel, by decide +kernel⟩, List.mem_of_getElem? (i := 1414) (by decide +kernel), List.mem_of_getElem? (i := 1915) (by decide +kernel), List.mem_of_getElem? (i := 1916) (by decide +kernel)⟩
theorem lw_p119 : lw_okq (⟨"SegmentBenchModel", "twice", "()I"⟩, 85) := ⟨⟨by decide +kernel, by decide +kernel⟩, List.mem_of_getElem? (i := 1414) (by decide +kernel), List.mem_of_getElem? (i := 1927) (by decide +kernel), List.mem_of_getElem? (i := 1928) (by decide +kernel)⟩
theorem lw_p120 : lw_okq (⟨"SegmentBenchModel", "publicIn", "(IJ)I"⟩, 85) := ⟨⟨by decide +kernel, by decide +kernel⟩, List.mem_of_getElem? (i := 1414) (by decide +kernel), List.mem_of_getElem? (i := 1931) (by decide +kernel), List.mem_of_getElem? (i := 1932) (by decide +kernel)⟩
theorem lw_p121 : lw_okq (⟨"SegmentBenchModel", "missing", "()I"⟩, 85) := ⟨⟨by decide +kernel, by decide +kernel⟩, List.mem_of_getElem? (i := 1414) (by decide +kernel), List.mem_of_getElem? (i := 1935) (by decide +kernel), List.mem_of_getElem? (i := 1936) (by decide +kernel)⟩
theorem lw_p122 : lw_okq (⟨"SegmentBenchModel", "publicOf", "(J)I"⟩, 85) := ⟨⟨by decide +kernel, by decide +kernel⟩, List.mem_of_getElem? (i := 1414) (by decide +kernel), List.mem_of_getElem? (i := 1939) (by decide +kernel), List.mem_of_getElem? (i := 1940) (by decide +kernel)⟩
theorem lw_p123 : lw_okq (⟨"SegmentBenchModel", "combine", "()V"⟩, 85) := ⟨⟨by decide +kernel, by decide +kernel⟩, List.mem_of_getElem? (i := 1414) (by decide +kernel), List.mem_of_getElem? (i := 1944) (by decide +kernel), List.mem_of_getElem? (i := 1945) (by decide +kernel)⟩
theorem lw_p124 : lw_okq (⟨"SegmentBenchModel", "far", "()I"⟩, 85) := ⟨⟨by decide +kernel, by decide +kernel⟩, List.mem_of_getElem? (i := 1414) (by decide +kernel), List.mem_of_getElem? (i := 1948) (by decide +kernel), List.mem_of_getElem? (i := 1949) (by decide +kernel)⟩
theorem lw_p125 : lw_okq (⟨"SegmentBenchModel", "aboutSegment", "(II)I"⟩, 85) := ⟨⟨by decide +kernel, by decide +kernel⟩, List.mem_of_getElem? (i := 1414) (by decide +kernel), List.mem_of_getElem? (i := 1952) (by decide +kernel), List.mem_of_getElem? (i := 1953) (by decide +kernel)⟩
theorem lw_p126 : lw_okq (⟨"SegmentBenchModel", "solve", "(II)V"⟩, 85) := ⟨⟨by decide +kernel, by decide +kernel⟩, List.mem_of_getElem? (i := 1414) (by decide +kernel), List.mem_of_getElem? (i := 1956) (by decide +kernel), List.mem_of_getElem? (i := 1957) (by decide +kernel)⟩
theorem lw_p127 : lw_okq (⟨"SegmentBenchModel", "aboutOffset", "(II)I"⟩, 85) := ⟨⟨by decide +kernel, by decide +kernel⟩, List.mem_of_getElem? (i := 1414) (by decide +kernel), List.mem_of_getElem? (i := 1960) (by decide +kernel), List.mem_of_getElem? (i := 1961) (by decide +kernel)⟩
def lw_privs_8 : List (MethodName × Nat) := [(⟨"SegmentBenchModel", "lay", "()V"⟩, 85), (⟨"SegmentBenchModel", "sizeOf", "(I)I"⟩, 85), (⟨"SegmentBenchModel", "distance", "(I)I"⟩, 85), (⟨"SegmentBenchModel", "write", "(I)V"⟩, 85), (⟨"SegmentBenchModel", "put", "(II)V"⟩, 85), (⟨"SegmentBenchModel", "set", "(IIII)V"⟩, 85), (⟨"SegmentBenchModel", "fix", "(IIIII)V"⟩, 85), (⟨"SegmentBenchModel", "twice", "()I"⟩, 85), (⟨"SegmentBenchModel", "publicIn", "(IJ)I"⟩, 85), (⟨"SegmentBenchModel", "missing", "()I"⟩, 85), (⟨"SegmentBenchModel", "publicOf", "(J)I"⟩, 85), (⟨"SegmentBenchModel", "combine", "()V"⟩, 85), (⟨"SegmentBenchModel", "far", "()I"⟩, 85), (⟨"SegmentBenchModel", "aboutSegment", "(II)I"⟩, 85), (⟨"SegmentBenchModel", "solve", "(II)V"⟩, 85), (⟨"SegmentBenchModel", "aboutOffset", "(II)I"⟩, 85)]
theorem lw_r8 : ∀ q ∈ lw_privs_8, lw_okq q := List.forall_mem_cons.mpr ⟨lw_p112, List.forall_mem_cons.mpr ⟨lw_p113, List.forall_mem_cons.mpr ⟨lw_p114, List.forall_mem_cons.mpr ⟨lw_p115, List.forall_mem_cons.mpr ⟨lw_p116, List.forall_mem_cons.mpr ⟨lw_p117, List.forall_mem_cons.mpr ⟨lw_p118, List.forall_mem_cons.mpr ⟨lw_p119, List.forall_mem_cons.mpr ⟨lw_p120, List.forall_mem_cons.mpr ⟨lw_p121, List.forall_mem_cons.mpr ⟨lw_p122, List.forall_mem_cons.mpr ⟨lw_p123, List.forall_mem_cons.mpr ⟨lw_p124, List.forall_mem_cons.mpr ⟨lw_p125, List.forall_mem_cons.mpr ⟨lw_p126, List.forall_mem_cons.mpr ⟨lw_p127, fun _ h => absurd h List.not_mem_nil⟩⟩⟩⟩⟩⟩⟩⟩⟩⟩⟩⟩⟩⟩⟩⟩
theorem lw_p128 : lw_okq (⟨"SegmentBenchModel", "step", "()I"⟩, 85) := ⟨⟨by decide +kernel, by decide +kernel⟩, List.mem_of_getElem? (i := 1414) (by decide +kernel), List.mem_of_getElem? (i := 1972) (by decide +kernel), List.mem_of_getElem? (i := 1973) (by decide +kernel)⟩
theorem lw_p129 : lw_okq (⟨"SegmentBenchModel", "fetch", "()I"⟩, 85) := ⟨⟨by decide +kernel, by decide +kernel⟩, List.mem_of_getElem? (i := 1414) (by decide +kernel), List.mem_of_getElem? (i := 1976) (by decide +kernel), List.mem_of_getElem? (i := 1977) (by decide +kernel)⟩
theorem lw_p130 : lw_okq (⟨"SegmentBenchModel", "where", "(II)I"⟩, 85) := ⟨⟨by decide +kernel, by decide +kernel⟩, List.mem_of_getElem? (i := 1414) (by decide +kernel), List.mem_of_getElem? (i := 1980) (by decide +kernel), List.mem_of_getElem? (i := 1981) (by decide +kernel)⟩
theorem lw_p131 : lw_okq (⟨"SegmentBenchModel", "formed", "(I)I"⟩, 85) := ⟨⟨by decide +kernel, by decide +kernel⟩, List.mem_of_getElem? (i := 1414) (by decide +kernel), List.mem_of_getElem? (i := 1990) (by decide +kernel), List.mem_of_getElem? (i := 1991) (by decide +kernel)⟩
theorem lw_p132 : lw_okq (⟨"SegmentBenchModel", "readForm", "()V"⟩, 85) := ⟨⟨by decide +kernel, by decide +kernel⟩, List.mem_of_getElem? (i := 1414) (by decide +kernel), List.mem_of_getElem? (i := 1994) (by decide +kernel), List.mem_of_getElem? (i := 1995) (by decide +kernel)⟩
theorem lw_p133 : lw_okq (⟨"SegmentBenchModel", "fetchTwo", "()I"⟩, 85) := ⟨⟨by decide +kernel, by decide +kernel⟩, List.mem_of_getElem? (i := 1414) (by decide +kernel), List.mem_of_getElem? (i := 1998) (by decide +kernel), List.mem_of_getElem? (i := 1999) (by decide +kernel)⟩
theorem lw_p134 : lw_okq (⟨"SegmentBenchModel", "fetchSigned", "()I"⟩, 85) := ⟨⟨by decide +kernel, by decide +kernel⟩, List.mem_of_getElem? (i := 1414) (by decide +kernel), List.mem_of_getElem? (i := 2002) (by decide +kernel), List.mem_of_getElem? (i := 2003) (by decide +kernel)⟩
theorem lw_p135 : lw_okq (⟨"SegmentBenchModel", "formGet", "()I"⟩, 85) := ⟨⟨by decide +kernel, by decide +kernel⟩, List.mem_of_getElem? (i := 1414) (by decide +kernel), List.mem_of_getElem? (i := 2006) (by decide +kernel), List.mem_of_getElem? (i := 2007) (by decide +kernel)⟩
theorem lw_p136 : lw_okq (⟨"SegmentBenchModel", "get", "(II)I"⟩, 85) := ⟨⟨by decide +kernel, by decide +kernel⟩, List.mem_of_getElem? (i := 1414) (by decide +kernel), List.mem_of_getElem? (i := 2010) (by decide +kernel), List.mem_of_getElem? (i := 2011) (by decide +kernel)⟩
theorem lw_p137 : lw_okq (⟨"SegmentBenchModel", "reckoned", "(III)I"⟩, 85) := ⟨⟨by decide +kernel, by decide +kernel⟩, List.mem_of_getElem? (i := 1414) (by decide +kernel), List.mem_of_getElem? (i := 2014) (by decide +kernel), List.mem_of_getElem? (i := 2015) (by decide +kernel)⟩
theorem lw_p138 : lw_okq (⟨"SegmentBenchModel", "flags", "(I)V"⟩, 85) := ⟨⟨by decide +kernel, by decide +kernel⟩, List.mem_of_getElem? (i := 1414) (by decide +kernel), List.mem_of_getElem? (i := 2018) (by decide +kernel), List.mem_of_getElem? (i := 2019) (by decide +kernel)⟩
theorem lw_p139 : lw_okq (⟨"SegmentBenchModel", "formSet", "(I)V"⟩, 85) := ⟨⟨by decide +kernel, by decide +kernel⟩, List.mem_of_getElem? (i := 1414) (by decide +kernel), List.mem_of_getElem? (i := 2022) (by decide +kernel), List.mem_of_getElem? (i := 2023) (by decide +kernel)⟩
theorem lw_p140 : lw_okq (⟨"SegmentBenchModel", "store", "(III)V"⟩, 85) := ⟨⟨by decide +kernel, by decide +kernel⟩, List.mem_of_getElem? (i := 1414) (by decide +kernel), List.mem_of_getElem? (i := 2026) (by decide +kernel), List.mem_of_getElem? (i := 2027) (by decide +kernel)⟩
theorem lw_p141 : lw_okq (⟨"SegmentBenchModel", "shift", "()I"⟩, 85) := ⟨⟨by decide +kernel, by decide +kernel⟩, List.mem_of_getElem? (i := 1414) (by decide +kernel), List.mem_of_getElem? (i := 2030) (by decide +kernel), List.mem_of_getElem? (i := 2031) (by decide +kernel)⟩
theorem lw_p142 : lw_okq (⟨"SegmentBenchModel", "group", "()I"⟩, 85) := ⟨⟨by decide +kernel, by decide +kernel⟩, List.mem_of_getElem? (i := 1414) (by decide +kernel), List.mem_of_getElem? (i := 2034) (by decide +kernel), List.mem_of_getElem? (i := 2035) (by decide +kernel)⟩
theorem lw_p143 : lw_okq (⟨"SegmentBenchModel", "plain", "(I)I"⟩, 85) := ⟨⟨by decide +kernel, by decide +kernel⟩, List.mem_of_getElem? (i := 1414) (by decide +kernel), List.mem_of_getElem? (i := 2039) (by decide +kernel), List.mem_of_getElem? (i := 2040) (by decide +kernel)⟩
def lw_privs_9 : List (MethodName × Nat) := [(⟨"SegmentBenchModel", "step", "()I"⟩, 85), (⟨"SegmentBenchModel", "fetch", "()I"⟩, 85), (⟨"SegmentBenchModel", "where", "(II)I"⟩, 85), (⟨"SegmentBenchModel", "formed", "(I)I"⟩, 85), (⟨"SegmentBenchModel", "readForm", "()V"⟩, 85), (⟨"SegmentBenchModel", "fetchTwo", "()I"⟩, 85), (⟨"SegmentBenchModel", "fetchSigned", "()I"⟩, 85), (⟨"SegmentBenchModel", "formGet", "()I"⟩, 85), (⟨"SegmentBenchModel", "get", "(II)I"⟩, 85), (⟨"SegmentBenchModel", "reckoned", "(III)I"⟩, 85), (⟨"SegmentBenchModel", "flags", "(I)V"⟩, 85), (⟨"SegmentBenchModel", "formSet", "(I)V"⟩, 85), (⟨"SegmentBenchModel", "store", "(III)V"⟩, 85), (⟨"SegmentBenchModel", "shift", "()I"⟩, 85), (⟨"SegmentBenchModel", "group", "()I"⟩, 85), (⟨"SegmentBenchModel", "plain", "(I)I"⟩, 85)]
theorem lw_r9 : ∀ q ∈ lw_privs_9, lw_okq q := List.forall_mem_cons.mpr ⟨lw_p128, List.forall_mem_cons.mpr ⟨lw_p129, List.forall_mem_cons.mpr ⟨lw_p130, List.forall_mem_cons.mpr ⟨lw_p131, List.forall_mem_cons.mpr ⟨lw_p132, List.forall_mem_cons.mpr ⟨lw_p133, List.forall_mem_cons.mpr ⟨lw_p134, List.forall_mem_cons.mpr ⟨lw_p135, List.forall_mem_cons.mpr ⟨lw_p136, List.forall_mem_cons.mpr ⟨lw_p137, List.forall_mem_cons.mpr ⟨lw_p138, List.forall_mem_cons.mpr ⟨lw_p139, List.forall_mem_cons.mpr ⟨lw_p140, List.forall_mem_cons.mpr ⟨lw_p141, List.forall_mem_cons.mpr ⟨lw_p142, List.forall_mem_cons.mpr ⟨lw_p143, fun _ h => absurd h List.not_mem_nil⟩⟩⟩⟩⟩⟩⟩⟩⟩⟩⟩⟩⟩⟩⟩⟩
theorem lw_p144 : lw_okq (⟨"SegmentBenchModel", "push", "(I)V"⟩, 85) := ⟨⟨by decide +kernel, by decide +kernel⟩, List.mem_of_getElem? (i := 1414) (by decide +kernel), List.mem_of_getElem? (i := 2043) (by decide +kernel), List.mem_of_getElem? (i := 2044) (by decide +kernel)⟩
theorem lw_p145 : lw_okq (⟨"SegmentBenchModel", "pop", "()I"⟩, 85) := ⟨⟨by decide +kernel, by decide +kernel⟩, List.mem_of_getElem? (i := 1414) (by decide +kernel), List.mem_of_getElem? (i := 2047) (by decide +kernel), List.mem_of_getElem? (i := 2048) (by decide +kernel)⟩
theorem lw_p146 : lw_okq (⟨"SegmentBenchModel", "control", "(I)I"⟩, 85) := ⟨⟨by decide +kernel, by decide +kernel⟩, List.mem_of_getElem? (i := 1414) (by decide +kernel), List.mem_of_getElem? (i := 2051) (by decide +kernel), List.mem_of_getElem? (i := 2052) (by decide +kernel)⟩
theorem lw_p147 : lw_okq (⟨"SegmentBenchModel", "condition", "(I)Z"⟩, 85) := ⟨⟨by decide +kernel, by decide +kernel⟩, List.mem_of_getElem? (i := 1414) (by decide +kernel), List.mem_of_getElem? (i := 2055) (by decide +kernel), List.mem_of_getElem? (i := 2056) (by decide +kernel)⟩
def lw_privs_10 : List (MethodName × Nat) := [(⟨"SegmentBenchModel", "push", "(I)V"⟩, 85), (⟨"SegmentBenchModel", "pop", "()I"⟩, 85), (⟨"SegmentBenchModel", "control", "(I)I"⟩, 85), (⟨"SegmentBenchModel", "condition", "(I)Z"⟩, 85)]
theorem lw_r10 : ∀ q ∈ lw_privs_10, lw_okq q := List.forall_mem_cons.mpr ⟨lw_p144, List.forall_mem_cons.mpr ⟨lw_p145, List.forall_mem_cons.mpr ⟨lw_p146, List.forall_mem_cons.mpr ⟨lw_p147, fun _ h => absurd h List.not_mem_nil⟩⟩⟩⟩
def lw_privs : List (MethodName × Nat) := lw_privs_1 ++ (lw_privs_2 ++ (lw_privs_3 ++ (lw_privs_4 ++ (lw_privs_5 ++ (lw_privs_6 ++ (lw_privs_7 ++ (lw_privs_8 ++ (lw_privs_9 ++ (lw_privs_10)))))))))
def lw_tbl : List Cond := k2_sels lw_privs ++ tables_1
theorem lw_privs_ok : ∀ q ∈ lw_privs, lw_okq q := by
  show ∀ q ∈ lw_privs_1 ++ (lw_privs_2 ++ (lw_privs_3 ++ (lw_privs_4 ++ (lw_privs_5 ++ (lw_privs_6 ++ (lw_privs_7 ++ (lw_privs_8 ++ (lw_privs_9 ++ (lw_privs_10))))))))), lw_okq q
  exact List.forall_mem_append.mpr ⟨lw_r1, List.forall_mem_append.mpr ⟨lw_r2, List.forall_mem_append.mpr ⟨lw_r3, List.forall_mem_append.mpr ⟨lw_r4, List.forall_mem_append.mpr ⟨lw_r5, List.forall_mem_append.mpr ⟨lw_r6, List.forall_mem_append.mpr ⟨lw_r7, List.forall_mem_append.mpr ⟨lw_r8, List.forall_mem_append.mpr ⟨lw_r9, lw_r10⟩⟩⟩⟩⟩⟩⟩⟩⟩
end
section
/-! ===== BEGIN words of one list among another's, by their places ===== -/
theorem goodIn_r {big : List Cond} (ws : List Cond) (ps : List Nat) (hp : ws = ps.filterMap (fun i => big[i]?)) (h : ws.all goodWord = true) : GoodIn big ws := by
  intro w hw
  have h1 := List.all_eq_true.mp h w hw
  rw [hp] at hw
  obtain ⟨i, -, hi⟩ := List.mem_filterMap.mp hw
  have hm : w ∈ big := by first | exact List.mem_of_getElem? hi | exact List.getElem?_mem hi
  exact ⟨hm, good_of_word h1⟩
theorem goodIn_app {big a b : List Cond} (ha : GoodIn big a) (hb : GoodIn big b) : GoodIn big (a ++ b) := fun w h => (List.mem_append.mp h).elim (ha w) (hb w)
theorem goodIn_ca {big a b : List Cond} {c : Cond} (ha : GoodIn big (c :: a)) (hb : GoodIn big b) : GoodIn big (c :: (a ++ b)) := fun w h => (List.mem_cons.mp h).elim (fun e => ha w (List.mem_cons.mpr (Or.inl e))) (fun h => (List.mem_append.mp h).elim (fun h => ha w (List.mem_cons.mpr (Or.inr h))) (hb w))
theorem goodIn_sub {big ws : List Cond} (hm : ∀ w ∈ ws, w ∈ big) (h : ws.all goodWord = true) : GoodIn big ws := fun w hw => ⟨hm w hw, good_of_word (List.all_eq_true.mp h w hw)⟩
/-! ===== END ===== -/

/-! ===== BEGIN exceptions that leave a method, and their catching by the caller (launches without stack traces) ===== -/
section VXA
/-! The laws vx_back, vx_callV, vx_callS, vx_callSW, vx_throw0, vx_throwS follow proofs of the library, with one case more: JvmDerived/Free/Laws.lean (Back.of_free), Shelf42/LK1.lean (callV, callS), Shelf/KitTraced.lean (throwNew0V, throwNewS). -/
/-- where a method has thrown q: the class by its name, the cell, what was written, the world -/
def vx_T (XC : String → State → State → Prop) (st : State) (q : Addr) (t : State) (mc ms : Nat) (free : Addr → Prop) : Prop :=
  ∃ (E : String) (ce : Cell) (L : List Loc), XC E st t ∧ t.heap[q]? = some ce ∧ ce.vm = .none ∧ st.vm.findClass E = some ce.cls ∧ st.WarmedH t.vm ∧ st.sameButNew ({ t with vm := st.vm } : State) L mc ms ∧ ∀ z ∈ L, free z.base
def vx_Q (Qc : Array Value → State → Outcome → State → Prop) (XC : String → State → State → Prop) (mc ms : Nat) (free : Addr → Prop) : Array Value → State → Outcome → State → Prop := fun a st o t =>
  (Qc a st o t ∧ ∃ L, FrameEnd st o t L mc ms ∧ ∀ q ∈ L, free q.base) ∨ ∃ q, o = .threw q ∧ vx_T XC st q t mc ms free
/-- a callee that returns or throws -/
def vx_Met (l : Launch) (y : MethodName) (ws : List Cond) (rm : Room) (Pc : Array Value → State → Prop) (Qc : Array Value → State → Outcome → State → Prop) (XC : String → State → State → Prop) (mc ms : Nat) (free : Addr → Prop) : Prop :=
  MetFree l y (headSpec ws rm) Pc (fun _ _ _ _ _ => True) (vx_Q Qc XC mc ms free)
def vx_Post (XC : String → State → State → Prop) (mc ms : Nat) (free : Addr → Prop) : Pt → Array Value → Addr → Pt → Prop := fun A a q B =>
  ∃ (g : JFrame) (mk : MethodId) (t : State) (L : List Loc) (E : String) (ce : Cell), B.U.heap = t.heap ∧ B.U.vm = t.vm ∧ XC E (A.U.calling g mk a) t ∧ t.heap[q]? = some ce ∧ ce.vm = .none ∧ A.U.vm.findClass E = some ce.cls ∧ B.locs = A.locs ++ L ∧ (∀ z ∈ L, free z.base) ∧ B.cells = A.cells + mc ∧ B.slots = A.slots + ms
def vx_Back (l : Launch) (R : Room) (p : Program) (e : Env) (below : List Frame) (s : State) (sargs : Array Value) (y : MethodName) (len W9 : Nat)
    (Pre : Pt → Array Value → Prop) (Post : Pt → Array Value → Option Value → Pt → Prop) (PostX : Pt → Array Value → Addr → Pt → Prop) : Prop :=
  ∀ (m : MethodId) (meth : Method) (c : Code) (A : Pt) (g : JFrame) (ig : Instr) (mk : MethodId) (a : Array Value),
    Stand p l e R s m sargs below meth c A.U A.locs A.cells A.slots → g.method = m → g.locals.size = c.maxLocals → decode c.code g.pc = .ok (ig, len) →
    2 * g.monitorRoom + (g.stack.map fun v => v.category).sum ≤ W9 → A.U.methodNamed? y = some mk → Pre A a →
    (∃ (v : Option Value) (B : Pt), Stand p l e R s m sargs below meth c B.U B.locs B.cells B.slots ∧ Post A a v B ∧
      Steps p.tables e below (doInvoke e (A.U.setTop g) [] mk a).1 (B.U.setTop { g with pc := g.pc + len, stack := v.toList ++ g.stack })) ∨
    (∃ (q : Addr) (B : Pt), Stand p l e R s m sargs below meth c B.U B.locs B.cells B.slots ∧ PostX A a q B ∧
      Steps p.tables e below (doInvoke e (A.U.setTop g) [] mk a).1 ((B.U.setTop g).pushFrame (.throwing q)))
section Payer
variable {l : Launch} {R : Room} {p : Program} {e : Env} {below : List Frame} {s : State} {sargs : Array Value} {y : MethodName} {len W9 : Nat}
theorem vx_back {ws : List Cond} {rm : Room} {Pc : Array Value → State → Prop} {Qc : Array Value → State → Outcome → State → Prop} {XC : String → State → State → Prop} {mc ms : Nat} {free : Addr → Prop} {bytes : ByteArray} {maxL : Nat} {ret : Option FieldType}
    (hM : vx_Met l y ws rm Pc Qc XC mc ms free) (hblind : FrameBlind Pc) (hrc : rm.cells = mc) (hrs : rm.slots = ms)
    (hframes : rm.frames + 1 ≤ R.frames) (hlocals : W9 + (maxL + 11) + rm.locals ≤ R.locals)
    (hws : ∀ w ∈ ws, ∀ a' U, s.WarmedH U.vm → w.before a' U = true) (hcode : Cond.code y bytes maxL ret ∈ ws) (hinit : ∀ a' U, s.WarmedH U.vm → (Cond.initialized y.cls).before a' U = true) :
    vx_Back l R p e below s sargs y len W9 (PreOf R mc ms Pc) (PostOf Qc mc ms free) (vx_Post XC mc ms free) := by
  intro m meth c A g ig mk a X hg hsize hdg hW hn hp
  have h1 : (headSpec ws rm).pre.before a A.U = true := atoms_intro fun w hw => hws w hw _ _ X.warmed
  have h2 : (Cond.code y bytes maxL ret).before a A.U = true := hws _ hcode _ _ X.warmed
  have h3 : (Cond.initialized y.cls).before a A.U = true := hinit _ _ X.warmed
  have h4 : A.cells + (headSpec ws rm).room.cells ≤ R.cells := by rw [show (headSpec ws rm).room.cells = mc from hrc]; exact hp.1
  have h5 : A.slots + (headSpec ws rm).room.slots ≤ R.slots := by rw [show (headSpec ws rm).room.slots = ms from hrs]; exact hp.2.1
  have hPc : Pc a (A.U.calling g mk a) := hblind _ _ _ _ hp.2.2
  obtain ⟨U, Ls, c0, s0⟩ := A
  dsimp only [Pt.U, Pt.locs, Pt.cells, Pt.slots] at h1 h2 h3 h4 h5 X hn hPc ⊢
  obtain ⟨methY, cY, hmY, hcY, -, hlY, -, -, -, -⟩ := Cond.code_spec hn h2
  obtain ⟨kY, hkY, -⟩ := className_of_methodNamed hn
  have hinitY : kY.init = .initialized := Cond.initialized_spec (findClass_of_methodNamed hn) hkY h3
  have h : At U g.method c below := by rw [hg]; exact X.here
  have hlocals9 : W9 + (maxL + 11) + (headSpec ws rm).room.locals ≤ R.locals := hlocals
  have happ : (headSpec ws rm).appliesLoose y e.platform (U.calling g mk a) = true :=
    Spec.appliesLoose_calling (g := g) h hdg hn hkY hinitY
      (X.room_calling (g := g) (R' := (headSpec ws rm).room) hsize hmY hcY hframes (by rw [hlY]; omega) h4 h5) h1
  obtain ⟨mid, hmid⟩ := h.above
  have hfr : (U.setTop g).frames = (.java g :: mid) ++ below := by rw [State.frames_setTop' g h.top, hmid]; rfl
  obtain ⟨o, s₂, hsteps, -, hend, hq⟩ := Steps.callFree hM p X.admits X.cas X.clock (acts := []) hfr happ hPc trivial
  have hq' : vx_Q Qc XC mc ms free a (U.calling g mk a) o s₂ := hq
  rw [State.frames_setTop' g h.top] at hend
  obtain ⟨g₀, hg0⟩ := Option.isSome_iff_exists.mp h.top
  obtain ⟨r, hr⟩ := State.topJava?_eq_some.mp hg0
  have hr' : (({ U with heap := s₂.heap, slotsUsed := s₂.slotsUsed } : State).setVm s₂.vm).frames = .java g₀ :: r := hr
  rcases hq' with ⟨hqc, L, hfe, hL⟩ | ⟨q, rfl, E, ce, L, hx, hce, hcv, hcl, hW₂, hsm, hL⟩
  · obtain ⟨⟨v, rfl⟩, hW₂, e2, q2, q3, q4, q5, q6⟩ := id hfe
    have e3 : s₂ = ({ (U.calling g mk a).setFrames s₂.frames with heap := s₂.heap, slotsUsed := s₂.slotsUsed } : State).setVm s₂.vm := by
      have : s₂ = ({ s₂ with vm := (U.calling g mk a).vm } : State).setVm s₂.vm := rfl
      rw [e2] at this
      exact this
    obtain ⟨c₂, i₂, len₂, hc₂, hd₂, hf₂⟩ := hend
    have hW' : U.WarmedH s₂.vm := hW₂
    have hcc : c₂ = c := by
      have h1 : s₂.code? g.method = U.code? g.method := by
        rw [State.code?_eq, State.code?_eq, hW'.alike.method?]
      exact Option.some.inj (hc₂.symm.trans (h1.trans h.code))
    subst hcc
    have hlen : len₂ = len := by rw [hdg] at hd₂; cases hd₂; rfl
    subst hlen
    have hs₂ : s₂ = (({ U with heap := s₂.heap, slotsUsed := s₂.slotsUsed } : State).setVm s₂.vm).setTop { g with pc := g.pc + len₂, stack := v.toList ++ g.stack } := by
      refine e3.trans ?_
      rw [hf₂, State.calling_eq h.top, State.setFrames_setFrames, State.setTop_of_frames _ hr', hr]
      rfl
    have hsame : U.sameButNew ({ U with heap := s₂.heap, slotsUsed := s₂.slotsUsed } : State) L mc ms := by
      refine ⟨?_, q2, q3, q4, q5, q6⟩
      obtain ⟨t, ht, -⟩ := State.frames_cons hr
      show ({ U with heap := s₂.heap, slotsUsed := s₂.slotsUsed } : State) = { U.setFrames U.frames with heap := s₂.heap, slotsUsed := s₂.slotsUsed }
      rw [State.setFrames_self ht]
    subst hg
    refine Or.inl ⟨v, ⟨(({ U with heap := s₂.heap, slotsUsed := s₂.slotsUsed } : State).setVm s₂.vm), Ls ++ L, c0 + mc, s0 + ms⟩,
      ⟨X.admits, X.cas, X.clock, X.frames, X.room, X.hears, X.method, X.code, (X.here.setHeapUsed s₂.heap s₂.slotsUsed).setVm hW'.alike, X.tail, State.WarmedH.trans X.warmed hW', X.limits, X.bytes, X.same.trans (hsame.setVm s.vm)⟩,
      ⟨g, mk, s₂, L, rfl, rfl, hqc, rfl, hL, rfl, rfl⟩, ?_⟩
    show Steps p.tables e below _ ((({ U with heap := s₂.heap, slotsUsed := s₂.slotsUsed } : State).setVm s₂.vm).setTop { g with pc := g.pc + len₂, stack := v.toList ++ g.stack })
    rw [← hs₂]
    exact hsteps
  · obtain ⟨e2, q2, q3, q4, q5, q6⟩ := id hsm
    have e3 : s₂ = ({ (U.calling g mk a).setFrames s₂.frames with heap := s₂.heap, slotsUsed := s₂.slotsUsed } : State).setVm s₂.vm := by
      have : s₂ = ({ s₂ with vm := (U.calling g mk a).vm } : State).setVm s₂.vm := rfl
      rw [e2] at this
      exact this
    have hf₂ : s₂.frames = .throwing q :: .java g :: U.frames.tail := hend
    have hW' : U.WarmedH s₂.vm := hW₂
    have hs₂ : s₂ = ((({ U with heap := s₂.heap, slotsUsed := s₂.slotsUsed } : State).setVm s₂.vm).setTop g).pushFrame (.throwing q) := by
      refine e3.trans ?_
      rw [hf₂, State.calling_eq h.top, State.setFrames_setFrames, State.pushFrame, State.frames_setTop _ hr', State.setTop_of_frames _ hr', State.setFrames_setFrames, hr]
      rfl
    have hsame : U.sameButNew ({ U with heap := s₂.heap, slotsUsed := s₂.slotsUsed } : State) L mc ms := by
      refine ⟨?_, q2, q3, q4, q5, q6⟩
      obtain ⟨t, ht, -⟩ := State.frames_cons hr
      show ({ U with heap := s₂.heap, slotsUsed := s₂.slotsUsed } : State) = { U.setFrames U.frames with heap := s₂.heap, slotsUsed := s₂.slotsUsed }
      rw [State.setFrames_self ht]
    subst hg
    refine Or.inr ⟨q, ⟨(({ U with heap := s₂.heap, slotsUsed := s₂.slotsUsed } : State).setVm s₂.vm), Ls ++ L, c0 + mc, s0 + ms⟩,
      ⟨X.admits, X.cas, X.clock, X.frames, X.room, X.hears, X.method, X.code, (X.here.setHeapUsed s₂.heap s₂.slotsUsed).setVm hW'.alike, X.tail, State.WarmedH.trans X.warmed hW', X.limits, X.bytes, X.same.trans (hsame.setVm s.vm)⟩,
      ⟨g, mk, s₂, L, E, ce, rfl, rfl, hx, hce, hcv, hcl, rfl, hL, rfl, rfl⟩, ?_⟩
    show Steps p.tables e below _ (((({ U with heap := s₂.heap, slotsUsed := s₂.slotsUsed } : State).setVm s₂.vm).setTop g).pushFrame (.throwing q))
    rw [← hs₂]
    exact hsteps
end Payer
section Calls
variable {p : Program} {l : Launch} {e : Env} {R : Room} {s : State} {m : MethodId} {args : Array Value} {below : List Frame} {meth : Method} {c : Code} {T : State} {locs : List Loc} {cells slots : Nat}
theorem vx_callV (X : Stand p l e R s m args below meth c T locs cells slots) (hexec : p.tables.exec = Jvm.exec) {own C : String} {index : Nat} {y : MethodName} {bytes : ByteArray} {maxL : Nat} {ret : Option FieldType}
    (hown : s.vm.findClass own = some m.cls) (hlink : (Cond.methodLink own index y).before args s = true) (hinst : (Cond.instanceMethod y).before args s = true) (hsel : (Cond.selects C y y).before args s = true)
    (hcode : (Cond.code y bytes maxL ret).before args s = true) (hy : y.cls ≠ "java/lang/invoke/MethodHandle" ∧ y.cls ≠ "java/lang/invoke/VarHandle")
    {W9 : Nat} {Pre : Pt → Array Value → Prop} {Post : Pt → Array Value → Option Value → Pt → Prop} {PostX : Pt → Array Value → Addr → Pt → Prop} (hK : vx_Back l R p e below s args y 3 W9 Pre Post PostX)
    {b : Addr} {cellB : Cell} (hcell : T.heap[b]? = some cellB) (hobj : cellB.vm.isStatics = false) (hcls : s.vm.findClass C = some cellB.cls)
    {g : JFrame} (hg : g.method = m) (hsize : g.locals.size = c.maxLocals) {argsL rest : List Value} (hlen : ∀ sig, parseMethodDescriptor y.desc = some sig → argsL.length = sig.parameters.length)
    (hstack : g.stack = argsL.reverse ++ .ref b :: rest) (hW : 2 * g.monitorRoom + (rest.map fun v => v.category).sum ≤ W9) (hdg : decode c.code g.pc = .ok (.invokevirtual index, 3))
    (hpre : ∀ vm₁, s.WarmedH vm₁ → Pre ⟨T.setVm vm₁, locs, cells, slots⟩ (Value.ref b :: argsL).toArray) :
    (∃ (v : Option Value) (vm₁ : Vm) (B : Pt), s.WarmedH vm₁ ∧ Stand p l e R s m args below meth c B.U B.locs B.cells B.slots ∧ Post ⟨T.setVm vm₁, locs, cells, slots⟩ (Value.ref b :: argsL).toArray v B ∧
      ∀ target, Steps p.tables e below (B.U.setTop { g with pc := g.pc + 3, stack := v.toList ++ rest }) target → Steps p.tables e below (T.setTop g) target) ∨
    (∃ (q : Addr) (vm₁ : Vm) (B : Pt), s.WarmedH vm₁ ∧ Stand p l e R s m args below meth c B.U B.locs B.cells B.slots ∧ PostX ⟨T.setVm vm₁, locs, cells, slots⟩ (Value.ref b :: argsL).toArray q B ∧
      Steps p.tables e below (T.setTop g) ((B.U.setTop { g with stack := rest }).pushFrame (.throwing q))) := by
  obtain ⟨mk, methM, hnamed, hmethM, hstM, habM⟩ := Cond.instanceMethod_spec hinst
  obtain ⟨methM', cM, hmethM', -, -, -, -, -, -, hsigM⟩ := Cond.code_spec hnamed hcode
  cases hmethM.symm.trans hmethM'
  obtain ⟨c2, r2, m2, q1, q2, q3, q4, kP, hkP, hkPi⟩ := Cond.selects_spec hsel
  cases hcls.symm.trans q1
  cases (State.methodFound?_of_named hnamed hy).symm.trans q2
  cases hnamed.symm.trans q3
  have hselP : selectMethod e.platform s.vm cellB.cls mk = .method mk := by rw [Launch.admits_selectMethod X.admits]; exact q4
  obtain ⟨vm₁, X₁, hstep₁⟩ := X.invokevirtual hexec hown hlink hnamed hmethM hstM hkP hkPi hy (a := b) (cell := cellB) hcell
    (fun z h => by rw [h] at hobj; cases hobj) hselP hmethM habM hkP hkPi (g := g) hg (argsL := argsL) (rest := rest) (hlen _ hsigM) hstack hdg
  rcases hK m meth c ⟨T.setVm vm₁, locs, cells, slots⟩ { g with stack := rest } (.invokevirtual index) mk (Value.ref b :: argsL).toArray X₁ hg hsize hdg hW (X₁.named hnamed) (hpre vm₁ X₁.warmed) with ⟨v, B, X', hpost, hsteps⟩ | ⟨q, B, X', hpost, hsteps⟩
  · exact Or.inl ⟨v, vm₁, B, X₁.warmed, X', hpost, fun target h => hstep₁ _ fun acts => by rw [doInvoke_state]; exact hsteps.trans h⟩
  · exact Or.inr ⟨q, vm₁, B, X₁.warmed, X', hpost, hstep₁ _ fun acts => by rw [doInvoke_state]; exact hsteps⟩
theorem vx_callS (X : Stand p l e R s m args below meth c T locs cells slots) (hexec : p.tables.exec = Jvm.exec) {own : String} {index : Nat} {y : MethodName} {bytes : ByteArray} {maxL : Nat} {ret : Option FieldType}
    (hown : s.vm.findClass own = some m.cls) (hlink : (Cond.methodLink own index y).before args s = true) (hstat : (Cond.static y).before args s = true) (hinit : (Cond.initialized y.cls).before args s = true)
    (hcode : (Cond.code y bytes maxL ret).before args s = true) (hy : y.cls ≠ "java/lang/invoke/MethodHandle" ∧ y.cls ≠ "java/lang/invoke/VarHandle")
    {W9 : Nat} {Pre : Pt → Array Value → Prop} {Post : Pt → Array Value → Option Value → Pt → Prop} {PostX : Pt → Array Value → Addr → Pt → Prop} (hK : vx_Back l R p e below s args y 3 W9 Pre Post PostX)
    {g : JFrame} (hg : g.method = m) (hsize : g.locals.size = c.maxLocals) {argsL rest : List Value} (hlen : ∀ sig, parseMethodDescriptor y.desc = some sig → argsL.length = sig.parameters.length)
    (hstack : g.stack = argsL.reverse ++ rest) (hW : 2 * g.monitorRoom + (rest.map fun v => v.category).sum ≤ W9) (hdg : decode c.code g.pc = .ok (.invokestatic index, 3))
    (hpre : ∀ vm₁, s.WarmedH vm₁ → Pre ⟨T.setVm vm₁, locs, cells, slots⟩ argsL.toArray) :
    (∃ (v : Option Value) (vm₁ : Vm) (B : Pt), s.WarmedH vm₁ ∧ Stand p l e R s m args below meth c B.U B.locs B.cells B.slots ∧ Post ⟨T.setVm vm₁, locs, cells, slots⟩ argsL.toArray v B ∧
      ∀ target, Steps p.tables e below (B.U.setTop { g with pc := g.pc + 3, stack := v.toList ++ rest }) target → Steps p.tables e below (T.setTop g) target) ∨
    (∃ (q : Addr) (vm₁ : Vm) (B : Pt), s.WarmedH vm₁ ∧ Stand p l e R s m args below meth c B.U B.locs B.cells B.slots ∧ PostX ⟨T.setVm vm₁, locs, cells, slots⟩ argsL.toArray q B ∧
      Steps p.tables e below (T.setTop g) ((B.U.setTop { g with stack := rest }).pushFrame (.throwing q))) := by
  obtain ⟨mk, hnamed⟩ := Cond.code_named hcode
  obtain ⟨methM, cM, hmethM, -, -, -, -, -, -, hsigM⟩ := Cond.code_spec hnamed hcode
  have hstatic : methM.isStatic = true := Cond.static_spec hnamed hmethM hstat
  obtain ⟨kP, hkP, -⟩ := className_of_methodNamed hnamed
  have hinitP : kP.init = .initialized := Cond.initialized_spec (findClass_of_methodNamed hnamed) hkP hinit
  obtain ⟨vm₁, X₁, hstep₁⟩ := X.invokestatic hexec hown hlink hnamed hmethM hstatic hkP hinitP hy (g := g) hg (argsL := argsL) (rest := rest) (hlen _ hsigM) hstack hdg
  rcases hK m meth c ⟨T.setVm vm₁, locs, cells, slots⟩ { g with stack := rest } (.invokestatic index) mk argsL.toArray X₁ hg hsize hdg hW (X₁.named hnamed) (hpre vm₁ X₁.warmed) with ⟨v, B, X', hpost, hsteps⟩ | ⟨q, B, X', hpost, hsteps⟩
  · exact Or.inl ⟨v, vm₁, B, X₁.warmed, X', hpost, fun target h => hstep₁ _ fun acts => by rw [doInvoke_state]; exact hsteps.trans h⟩
  · exact Or.inr ⟨q, vm₁, B, X₁.warmed, X', hpost, hstep₁ _ fun acts => by rw [doInvoke_state]; exact hsteps⟩
end Calls
theorem vx_cls {s : State} {T : State} {vm₁ : Vm} {E : String} {k : ClassId} (hW : s.WarmedH vm₁) (h : (T.setVm vm₁).vm.findClass E = some k) : s.vm.findClass E = some k := by
  have h1 : vm₁.findClass E = some k := h
  rw [hW.alike.findClass] at h1
  exact h1
/-- the method's frame g, with q thrown over it -/
def vx_W (p : Program) (l : Launch) (e : Env) (R : Room) (s : State) (m : MethodId) (args : Array Value) (below : List Frame) (meth : Method) (c : Code) (H : Heap) (locs : List Loc) (cells slots : Nat) (Q : State → Prop) (g : JFrame) (q : Addr) : Prop :=
  ∀ T : State, T.heap = H → Stand p l e R s m args below meth c T locs cells slots → ∃ t, Steps p.tables e below ((T.setTop g).pushFrame (.throwing q)) t ∧ Q t
def vx_Run (p : Program) (l : Launch) (e : Env) (R : Room) (s : State) (m : MethodId) (args : Array Value) (below : List Frame) (meth : Method) (c : Code) (H : Heap) (locs : List Loc) (cells slots mc ms : Nat) (g : JFrame) (rest : List Value) (Qa : State → Outcome → State → Prop) (XC : String → State → State → Prop) (free : Addr → Prop) : Prop :=
  ∀ T : State, T.heap = H → Stand p l e R s m args below meth c T locs cells slots →
    (∃ (v : Option Value) (st₀ t T' : State) (L : List Loc), st₀.heap = H ∧ Stand p l e R s m args below meth c T' (locs ++ L) (cells + mc) (slots + ms) ∧ (∀ q ∈ L, free q.base) ∧ T'.heap = t.heap ∧ T'.vm = t.vm ∧ Qa st₀ (.returned v) t ∧
      Goes p e below T g T' { g with pc := g.pc + 3, stack := v.toList ++ rest }) ∨
    (∃ (q : Addr) (st₀ t T' : State) (L : List Loc) (E : String) (ce : Cell), st₀.heap = H ∧ Stand p l e R s m args below meth c T' (locs ++ L) (cells + mc) (slots + ms) ∧ (∀ z ∈ L, free z.base) ∧ T'.heap = t.heap ∧ T'.vm = t.vm ∧ XC E st₀ t ∧ t.heap[q]? = some ce ∧ ce.vm = .none ∧ s.vm.findClass E = some ce.cls ∧
      Steps p.tables e below (T.setTop g) ((T'.setTop { g with stack := rest }).pushFrame (.throwing q)))
def vx_X {S : Type} (px : S → Prop) (B : String → S → State → Prop) (A : Nat → Prop) : String → State → State → Prop := fun E st t => ∃ u : S, px u ∧ B E u t ∧ va_F A st t
section Runs
variable {p : Program} {l : Launch} {e : Env} {R : Room} {s : State} {m : MethodId} {args : Array Value} {below : List Frame} {meth : Method} {c : Code} {H : Heap} {locs : List Loc} {cells slots : Nat}
variable {y : MethodName} {bytes cc : ByteArray} {maxL nL mc ms n index : Nat} {ret : Option FieldType} {ws : List Cond} {rm : Room} {Pc : Array Value → State → Prop} {Qc : Array Value → State → Outcome → State → Prop} {XC : String → State → State → Prop} {free : Addr → Prop} {Ts : List Cond} {own C : String} {b : Addr} {As rest : List Value} {g : JFrame}
theorem vx_callBack (cb : CallB R s args own index y bytes maxL ret ws rm mc ms n) (hM : vx_Met l y ws rm Pc Qc XC mc ms free) (hbl : FrameBlind Pc) : vx_Back l R p e below s args y 3 8 (PreOf R mc ms Pc) (PostOf Qc mc ms free) (vx_Post XC mc ms free) := by
  obtain ⟨hrc, hrs, hfr, hlo, hws, hcw, -, hini, -⟩ := cb
  exact vx_back (bytes := bytes) (maxL := maxL) (ret := ret) hM hbl hrc hrs hfr hlo hws hcw (fun a' U hW => word_at hW (Or.inl (by first | rfl | simp [Cond.onTables, Cond.keeps, Cond.steady])) hini)
theorem vx_runV (S : CallFix p m c cc nL s args Ts own) (hM : vx_Met l y ws rm Pc Qc XC mc ms free) (cw : CallW R s args own C index y bytes maxL ret ws rm mc ms n) (hp : PreV s H C b Pc As)
    (hg : g.method = m) (hn : As.length = n) (hsize : g.locals.size = nL) (hstack : g.stack = As.reverse ++ .ref b :: rest) (hW : 2 * g.monitorRoom + (rest.map fun v => v.category).sum ≤ 8) (hdg : decode cc g.pc = .ok (.invokevirtual index, 3)) (hf : cells + mc ≤ R.cells ∧ slots + ms ≤ R.slots) :
    vx_Run p l e R s m args below meth c H locs cells slots mc ms g rest (Qc (Value.ref b :: As).toArray) XC free := by
  have hK : vx_Back l R p e below s args y 3 8 (PreOf R mc ms Pc) (PostOf Qc mc ms free) (vx_Post XC mc ms free) := vx_callBack cw.1 hM hp.1
  obtain ⟨⟨-, -, -, -, -, -, hcode, -, hy, hlen, hl⟩, hin, hse⟩ := cw
  obtain ⟨hx, hb, hml, ho, -⟩ := S
  obtain ⟨-, ⟨cellB, hcB, hoB, hclB⟩, hPc⟩ := hp
  intro T hT X
  rcases vx_callV X hx (C := C) (bytes := bytes) (maxL := maxL) (ret := ret) ho hl hin hse hcode hy hK (by rw [hT]; exact hcB) hoB hclB hg (hsize.trans hml.symm) (argsL := As) (rest := rest) (fun sig h => hn.trans (hlen sig h)) hstack hW (by rw [hb]; exact hdg)
    (fun vm₁ hW₁ => ⟨hf.1, hf.2, hPc (T.setVm vm₁) hT hW₁⟩) with ⟨v, vm₁, ⟨U', l2, c2, s2⟩, hW₁, X', ⟨g', mk, t, L, e1, e2, hq, h1, hL, h2, h3⟩, st⟩ | ⟨q, vm₁, ⟨U', l2, c2, s2⟩, hW₁, X', ⟨g', mk, t, L, E, ce, e1, e2, hq, hce, hcv, hcl, h1, hL, h2, h3⟩, st⟩
  · dsimp only [Pt.U, Pt.locs, Pt.cells, Pt.slots] at X' e1 e2 h1 h2 h3 st
    subst h1; subst h2; subst h3
    exact Or.inl ⟨v, (T.setVm vm₁).calling g' mk (Value.ref b :: As).toArray, t, U', L, hT, X', hL, e1, e2, hq, st⟩
  · dsimp only [Pt.U, Pt.locs, Pt.cells, Pt.slots] at X' e1 e2 h1 h2 h3 st hcl
    subst h1; subst h2; subst h3
    exact Or.inr ⟨q, (T.setVm vm₁).calling g' mk (Value.ref b :: As).toArray, t, U', L, E, ce, hT, X', hL, e1, e2, hq, hce, hcv, vx_cls hW₁ hcl, st⟩
theorem vx_runS (S : CallFix p m c cc nL s args Ts own) (hM : vx_Met l y ws rm Pc Qc XC mc ms free) (cw : CallB R s args own index y bytes maxL ret ws rm mc ms n ∧ (Cond.static y).before args s = true) (hp : PreS s H Pc As)
    (hg : g.method = m) (hn : As.length = n) (hsize : g.locals.size = nL) (hstack : g.stack = As.reverse ++ rest) (hW : 2 * g.monitorRoom + (rest.map fun v => v.category).sum ≤ 8) (hdg : decode cc g.pc = .ok (.invokestatic index, 3)) (hf : cells + mc ≤ R.cells ∧ slots + ms ≤ R.slots) :
    vx_Run p l e R s m args below meth c H locs cells slots mc ms g rest (Qc As.toArray) XC free := by
  have hK : vx_Back l R p e below s args y 3 8 (PreOf R mc ms Pc) (PostOf Qc mc ms free) (vx_Post XC mc ms free) := vx_callBack cw.1 hM hp.1
  obtain ⟨⟨-, -, -, -, -, -, hcode, hini, hy, hlen, hl⟩, hstt⟩ := cw
  obtain ⟨hx, hb, hml, ho, -⟩ := S
  intro T hT X
  rcases vx_callS X hx (bytes := bytes) (maxL := maxL) (ret := ret) ho hl hstt hini hcode hy hK hg (hsize.trans hml.symm) (argsL := As) (rest := rest) (fun sig h => hn.trans (hlen sig h)) hstack hW (by rw [hb]; exact hdg)
    (fun vm₁ hW₁ => ⟨hf.1, hf.2, hp.2 (T.setVm vm₁) hT hW₁⟩) with ⟨v, vm₁, ⟨U', l2, c2, s2⟩, hW₁, X', ⟨g', mk, t, L, e1, e2, hq, h1, hL, h2, h3⟩, st⟩ | ⟨q, vm₁, ⟨U', l2, c2, s2⟩, hW₁, X', ⟨g', mk, t, L, E, ce, e1, e2, hq, hce, hcv, hcl, h1, hL, h2, h3⟩, st⟩
  · dsimp only [Pt.U, Pt.locs, Pt.cells, Pt.slots] at X' e1 e2 h1 h2 h3 st
    subst h1; subst h2; subst h3
    exact Or.inl ⟨v, (T.setVm vm₁).calling g' mk As.toArray, t, U', L, hT, X', hL, e1, e2, hq, st⟩
  · dsimp only [Pt.U, Pt.locs, Pt.cells, Pt.slots] at X' e1 e2 h1 h2 h3 st hcl
    subst h1; subst h2; subst h3
    exact Or.inr ⟨q, (T.setVm vm₁).calling g' mk As.toArray, t, U', L, E, ce, hT, X', hL, e1, e2, hq, hce, hcv, vx_cls hW₁ hcl, st⟩
end Runs
section Rows
variable {p : Program} {l : Launch} {e : Env} {R : Room} {s : State} {m : MethodId} {args : Array Value} {below : List Frame} {meth : Method} {c : Code} {H : Heap} {locs : List Loc} {cells slots : Nat} {Q : State → Prop}
variable {mc ms : Nat} {free : Addr → Prop} {A0 A1 : Nat → Prop} {H0 : Heap} {a : Array Value} {pc : Nat} {ls : Array Slot} {st0 rest : List Value}
theorem vx_keep {st₀ t T' : State} {L : List Loc} (h0 : st₀.heap = H) (e1 : T'.heap = t.heap) (hS : va_S A0 H0 H locs) (hA : ∀ q, q < H.size → A1 q → A0 q) (hf : ∀ q, free q → A0 q) (hL : ∀ q ∈ L, free q.base) (hF : va_F A1 st₀ t) :
    H.size ≤ T'.heap.size ∧ (∀ q : Nat, q < H.size → ¬ A1 q → T'.heap[q]? = H[q]?) ∧ va_S A0 H0 T'.heap (locs ++ L) := by
  obtain ⟨hz, hk⟩ := hF
  rw [h0] at hz hk
  exact ⟨by rw [e1]; exact hz, fun q h1 h2 => by rw [e1]; exact hk q h1 h2,
    ⟨Nat.le_trans hS.1 (by rw [e1]; exact hz), fun q h1 h2 => by rw [e1, hk q (Nat.lt_of_lt_of_le h1 hS.1) (fun z => h2 (hA q (Nat.lt_of_lt_of_le h1 hS.1) z))]; exact hS.2.1 q h1 h2, fun q hq => by
      rcases List.mem_append.mp hq with h | h
      · exact hS.2.2 q h
      · exact hf _ (hL q h)⟩⟩
theorem vx_calli {S SX : Type} {post : Int32 → S → Prop} {px : SX → Prop} {B : S → State → Prop} {BX : String → SX → State → Prop} {AX : Nat → Prop} (hr : vx_Run p l e R s m args below meth c H locs cells slots mc ms (F0 m pc ls st0) rest (va_Qi post B A1 a) (vx_X px BX AX) free) (hS : va_S A0 H0 H locs) (hA : ∀ q, q < H.size → A1 q → A0 q) (hf : ∀ q, free q → A0 q) (hAX : ∀ q, q < H.size → AX q → A0 q)
    (kx : ∀ (E : String) (ce : Cell) (q9 : Addr) (u : SX) (t : State) (H1 : Heap) (locs1 : List Loc), t.heap = H1 → s.vm.Alike t.vm → px u → BX E u t → H.size ≤ H1.size → (∀ q : Nat, q < H.size → ¬ AX q → H1[q]? = H[q]?) → va_S A0 H0 H1 locs1 → H1[q9]? = some ce → ce.vm = .none → s.vm.findClass E = some ce.cls → vx_W p l e R s m args below meth c H1 locs1 (cells + mc) (slots + ms) Q (F0 m pc ls rest) q9)
    (kk : ∀ (r : Int32) (u : S) (t : State) (H1 : Heap) (locs1 : List Loc), t.heap = H1 → s.vm.Alike t.vm → post r u → B u t → H.size ≤ H1.size → (∀ q : Nat, q < H.size → ¬ A1 q → H1[q]? = H[q]?) → va_S A0 H0 H1 locs1 → W p l e R s m args below meth c H1 locs1 (cells + mc) (slots + ms) Q (F0 m (pc + 3) ls (.int r :: rest))) : W p l e R s m args below meth c H locs cells slots Q (F0 m pc ls st0) := by
  intro T hT X
  rcases hr T hT X with ⟨v, st₀, t, T', L, h0, X', hL, e1, e2, ⟨⟨r, u, hv, hp, hb⟩, hF⟩, st⟩ | ⟨q, st₀, t, T', L, E, ce, h0, X', hL, e1, e2, ⟨u, hp, hb, hF⟩, hce, hcv, hcl, st⟩
  · cases hv
    obtain ⟨k1, k2, k3⟩ := vx_keep h0 e1 hS hA hf hL hF
    obtain ⟨t2, a1, b1⟩ := kk r u t T'.heap (locs ++ L) e1.symm (by rw [← e2]; exact X'.warmed.alike) hp hb k1 k2 k3 T' rfl X'
    exact ⟨t2, st t2 a1, b1⟩
  · obtain ⟨k1, k2, k3⟩ := vx_keep h0 e1 hS hAX hf hL hF
    obtain ⟨t2, a1, b1⟩ := kx E ce q u t T'.heap (locs ++ L) e1.symm (by rw [← e2]; exact X'.warmed.alike) hp hb k1 k2 k3 (by rw [e1]; exact hce) hcv hcl T' rfl X'
    exact ⟨t2, st.trans a1, b1⟩
theorem vx_calll {S SX : Type} {post : Int64 → S → Prop} {px : SX → Prop} {B : S → State → Prop} {BX : String → SX → State → Prop} {AX : Nat → Prop} (hr : vx_Run p l e R s m args below meth c H locs cells slots mc ms (F0 m pc ls st0) rest (va_Ql post B A1 a) (vx_X px BX AX) free) (hS : va_S A0 H0 H locs) (hA : ∀ q, q < H.size → A1 q → A0 q) (hf : ∀ q, free q → A0 q) (hAX : ∀ q, q < H.size → AX q → A0 q)
    (kx : ∀ (E : String) (ce : Cell) (q9 : Addr) (u : SX) (t : State) (H1 : Heap) (locs1 : List Loc), t.heap = H1 → s.vm.Alike t.vm → px u → BX E u t → H.size ≤ H1.size → (∀ q : Nat, q < H.size → ¬ AX q → H1[q]? = H[q]?) → va_S A0 H0 H1 locs1 → H1[q9]? = some ce → ce.vm = .none → s.vm.findClass E = some ce.cls → vx_W p l e R s m args below meth c H1 locs1 (cells + mc) (slots + ms) Q (F0 m pc ls rest) q9)
    (kk : ∀ (r : Int64) (u : S) (t : State) (H1 : Heap) (locs1 : List Loc), t.heap = H1 → s.vm.Alike t.vm → post r u → B u t → H.size ≤ H1.size → (∀ q : Nat, q < H.size → ¬ A1 q → H1[q]? = H[q]?) → va_S A0 H0 H1 locs1 → W p l e R s m args below meth c H1 locs1 (cells + mc) (slots + ms) Q (F0 m (pc + 3) ls (.long r :: rest))) : W p l e R s m args below meth c H locs cells slots Q (F0 m pc ls st0) := by
  intro T hT X
  rcases hr T hT X with ⟨v, st₀, t, T', L, h0, X', hL, e1, e2, ⟨⟨r, u, hv, hp, hb⟩, hF⟩, st⟩ | ⟨q, st₀, t, T', L, E, ce, h0, X', hL, e1, e2, ⟨u, hp, hb, hF⟩, hce, hcv, hcl, st⟩
  · cases hv
    obtain ⟨k1, k2, k3⟩ := vx_keep h0 e1 hS hA hf hL hF
    obtain ⟨t2, a1, b1⟩ := kk r u t T'.heap (locs ++ L) e1.symm (by rw [← e2]; exact X'.warmed.alike) hp hb k1 k2 k3 T' rfl X'
    exact ⟨t2, st t2 a1, b1⟩
  · obtain ⟨k1, k2, k3⟩ := vx_keep h0 e1 hS hAX hf hL hF
    obtain ⟨t2, a1, b1⟩ := kx E ce q u t T'.heap (locs ++ L) e1.symm (by rw [← e2]; exact X'.warmed.alike) hp hb k1 k2 k3 (by rw [e1]; exact hce) hcv hcl T' rfl X'
    exact ⟨t2, st.trans a1, b1⟩
theorem vx_callf {S SX : Type} {post : UInt32 → S → Prop} {px : SX → Prop} {B : S → State → Prop} {BX : String → SX → State → Prop} {AX : Nat → Prop} (hr : vx_Run p l e R s m args below meth c H locs cells slots mc ms (F0 m pc ls st0) rest (va_Qf post B A1 a) (vx_X px BX AX) free) (hS : va_S A0 H0 H locs) (hA : ∀ q, q < H.size → A1 q → A0 q) (hf : ∀ q, free q → A0 q) (hAX : ∀ q, q < H.size → AX q → A0 q)
    (kx : ∀ (E : String) (ce : Cell) (q9 : Addr) (u : SX) (t : State) (H1 : Heap) (locs1 : List Loc), t.heap = H1 → s.vm.Alike t.vm → px u → BX E u t → H.size ≤ H1.size → (∀ q : Nat, q < H.size → ¬ AX q → H1[q]? = H[q]?) → va_S A0 H0 H1 locs1 → H1[q9]? = some ce → ce.vm = .none → s.vm.findClass E = some ce.cls → vx_W p l e R s m args below meth c H1 locs1 (cells + mc) (slots + ms) Q (F0 m pc ls rest) q9)
    (kk : ∀ (r : UInt32) (u : S) (t : State) (H1 : Heap) (locs1 : List Loc), t.heap = H1 → s.vm.Alike t.vm → post r u → B u t → H.size ≤ H1.size → (∀ q : Nat, q < H.size → ¬ A1 q → H1[q]? = H[q]?) → va_S A0 H0 H1 locs1 → W p l e R s m args below meth c H1 locs1 (cells + mc) (slots + ms) Q (F0 m (pc + 3) ls (.float r :: rest))) : W p l e R s m args below meth c H locs cells slots Q (F0 m pc ls st0) := by
  intro T hT X
  rcases hr T hT X with ⟨v, st₀, t, T', L, h0, X', hL, e1, e2, ⟨⟨r, u, hv, hp, hb⟩, hF⟩, st⟩ | ⟨q, st₀, t, T', L, E, ce, h0, X', hL, e1, e2, ⟨u, hp, hb, hF⟩, hce, hcv, hcl, st⟩
  · cases hv
    obtain ⟨k1, k2, k3⟩ := vx_keep h0 e1 hS hA hf hL hF
    obtain ⟨t2, a1, b1⟩ := kk r u t T'.heap (locs ++ L) e1.symm (by rw [← e2]; exact X'.warmed.alike) hp hb k1 k2 k3 T' rfl X'
    exact ⟨t2, st t2 a1, b1⟩
  · obtain ⟨k1, k2, k3⟩ := vx_keep h0 e1 hS hAX hf hL hF
    obtain ⟨t2, a1, b1⟩ := kx E ce q u t T'.heap (locs ++ L) e1.symm (by rw [← e2]; exact X'.warmed.alike) hp hb k1 k2 k3 (by rw [e1]; exact hce) hcv hcl T' rfl X'
    exact ⟨t2, st.trans a1, b1⟩
theorem vx_calld {S SX : Type} {post : UInt64 → S → Prop} {px : SX → Prop} {B : S → State → Prop} {BX : String → SX → State → Prop} {AX : Nat → Prop} (hr : vx_Run p l e R s m args below meth c H locs cells slots mc ms (F0 m pc ls st0) rest (va_Qd post B A1 a) (vx_X px BX AX) free) (hS : va_S A0 H0 H locs) (hA : ∀ q, q < H.size → A1 q → A0 q) (hf : ∀ q, free q → A0 q) (hAX : ∀ q, q < H.size → AX q → A0 q)
    (kx : ∀ (E : String) (ce : Cell) (q9 : Addr) (u : SX) (t : State) (H1 : Heap) (locs1 : List Loc), t.heap = H1 → s.vm.Alike t.vm → px u → BX E u t → H.size ≤ H1.size → (∀ q : Nat, q < H.size → ¬ AX q → H1[q]? = H[q]?) → va_S A0 H0 H1 locs1 → H1[q9]? = some ce → ce.vm = .none → s.vm.findClass E = some ce.cls → vx_W p l e R s m args below meth c H1 locs1 (cells + mc) (slots + ms) Q (F0 m pc ls rest) q9)
    (kk : ∀ (r : UInt64) (u : S) (t : State) (H1 : Heap) (locs1 : List Loc), t.heap = H1 → s.vm.Alike t.vm → post r u → B u t → H.size ≤ H1.size → (∀ q : Nat, q < H.size → ¬ A1 q → H1[q]? = H[q]?) → va_S A0 H0 H1 locs1 → W p l e R s m args below meth c H1 locs1 (cells + mc) (slots + ms) Q (F0 m (pc + 3) ls (.double r :: rest))) : W p l e R s m args below meth c H locs cells slots Q (F0 m pc ls st0) := by
  intro T hT X
  rcases hr T hT X with ⟨v, st₀, t, T', L, h0, X', hL, e1, e2, ⟨⟨r, u, hv, hp, hb⟩, hF⟩, st⟩ | ⟨q, st₀, t, T', L, E, ce, h0, X', hL, e1, e2, ⟨u, hp, hb, hF⟩, hce, hcv, hcl, st⟩
  · cases hv
    obtain ⟨k1, k2, k3⟩ := vx_keep h0 e1 hS hA hf hL hF
    obtain ⟨t2, a1, b1⟩ := kk r u t T'.heap (locs ++ L) e1.symm (by rw [← e2]; exact X'.warmed.alike) hp hb k1 k2 k3 T' rfl X'
    exact ⟨t2, st t2 a1, b1⟩
  · obtain ⟨k1, k2, k3⟩ := vx_keep h0 e1 hS hAX hf hL hF
    obtain ⟨t2, a1, b1⟩ := kx E ce q u t T'.heap (locs ++ L) e1.symm (by rw [← e2]; exact X'.warmed.alike) hp hb k1 k2 k3 (by rw [e1]; exact hce) hcv hcl T' rfl X'
    exact ⟨t2, st.trans a1, b1⟩
theorem vx_callv {S SX : Type} {post : S → Prop} {px : SX → Prop} {B : S → State → Prop} {BX : String → SX → State → Prop} {AX : Nat → Prop} (hr : vx_Run p l e R s m args below meth c H locs cells slots mc ms (F0 m pc ls st0) rest (va_Qv post B A1 a) (vx_X px BX AX) free) (hS : va_S A0 H0 H locs) (hA : ∀ q, q < H.size → A1 q → A0 q) (hf : ∀ q, free q → A0 q) (hAX : ∀ q, q < H.size → AX q → A0 q)
    (kx : ∀ (E : String) (ce : Cell) (q9 : Addr) (u : SX) (t : State) (H1 : Heap) (locs1 : List Loc), t.heap = H1 → s.vm.Alike t.vm → px u → BX E u t → H.size ≤ H1.size → (∀ q : Nat, q < H.size → ¬ AX q → H1[q]? = H[q]?) → va_S A0 H0 H1 locs1 → H1[q9]? = some ce → ce.vm = .none → s.vm.findClass E = some ce.cls → vx_W p l e R s m args below meth c H1 locs1 (cells + mc) (slots + ms) Q (F0 m pc ls rest) q9)
    (kk : ∀ (u : S) (t : State) (H1 : Heap) (locs1 : List Loc), t.heap = H1 → s.vm.Alike t.vm → post u → B u t → H.size ≤ H1.size → (∀ q : Nat, q < H.size → ¬ A1 q → H1[q]? = H[q]?) → va_S A0 H0 H1 locs1 → W p l e R s m args below meth c H1 locs1 (cells + mc) (slots + ms) Q (F0 m (pc + 3) ls (rest))) : W p l e R s m args below meth c H locs cells slots Q (F0 m pc ls st0) := by
  intro T hT X
  rcases hr T hT X with ⟨v, st₀, t, T', L, h0, X', hL, e1, e2, ⟨⟨u, hv, hp, hb⟩, hF⟩, st⟩ | ⟨q, st₀, t, T', L, E, ce, h0, X', hL, e1, e2, ⟨u, hp, hb, hF⟩, hce, hcv, hcl, st⟩
  · cases hv
    obtain ⟨k1, k2, k3⟩ := vx_keep h0 e1 hS hA hf hL hF
    obtain ⟨t2, a1, b1⟩ := kk u t T'.heap (locs ++ L) e1.symm (by rw [← e2]; exact X'.warmed.alike) hp hb k1 k2 k3 T' rfl X'
    exact ⟨t2, st t2 a1, b1⟩
  · obtain ⟨k1, k2, k3⟩ := vx_keep h0 e1 hS hAX hf hL hF
    obtain ⟨t2, a1, b1⟩ := kx E ce q u t T'.heap (locs ++ L) e1.symm (by rw [← e2]; exact X'.warmed.alike) hp hb k1 k2 k3 (by rw [e1]; exact hce) hcv hcl T' rfl X'
    exact ⟨t2, st.trans a1, b1⟩
/-- caught by the row x of this method's table; the rows ahead don't take it -/
theorem vx_catch {own name : String} {E : String} {ce : Cell} {q : Addr} (hown : s.vm.findClass own = some m.cls) (pre : List ExceptionTableEntry) (x : ExceptionTableEntry) (suf : List ExceptionTableEntry) (hsplit : c.exceptionTable.toList = pre ++ x :: suf)
    (hpass : ∀ z ∈ pre, covers z pc = false ∨ (z.catchType ≠ 0 ∧ ∃ nm : String, (Cond.classLink own z.catchType nm).before args s = true ∧ va_Nc E nm s)) (hx : covers x pc = true) (h0 : x.catchType ≠ 0)
    (hlink : (Cond.classLink own x.catchType name).before args s = true) (hcast : (Cond.castable E name).before args s = true) (hcell : H[q]? = some ce) (hv : ce.vm = .none) (hcl : s.vm.findClass E = some ce.cls)
    (kk : W p l e R s m args below meth c H locs cells slots Q (F0 m x.handlerPc ls [.ref q])) : vx_W p l e R s m args below meth c H locs cells slots Q (F0 m pc ls rest) q := by
  intro T hT X
  have hpl : e.platform.magicAccessors = ({} : Platform).magicAccessors := by rw [X.admits.platform]
  obtain ⟨c3, c4, hc3, hc4, hasg⟩ := Cond.castable_spec hcast
  cases Option.some.inj (hc3.symm.trans hcl)
  obtain ⟨c5, hc5, hcl5⟩ := Cond.classLink_spec hown hlink e.platform hpl
  cases Option.some.inj (hc4.symm.trans hc5)
  obtain ⟨vm', X', st⟩ := Stand.thenCaughtThrough X q (g := F0 m pc ls rest) rfl (Steps.refl _) (by rw [hT]; exact hcell) (by rw [hv]; rfl) (by obtain ⟨k9, h9, -⟩ := Vm.findClass_spec hcl; exact ⟨k9, h9⟩) pre x suf hsplit
    (fun z hz => by
      rcases hpass z hz with h | ⟨hz0, nm, hl1, hn1⟩
      · exact Or.inl h
      · obtain ⟨c6, hc6, hcl6⟩ := Cond.classLink_spec hown hl1 e.platform hpl
        obtain ⟨a8, b8, h1, h2, h3⟩ := hn1
        cases Option.some.inj (h1.symm.trans hcl)
        cases Option.some.inj (h2.symm.trans hc6)
        exact Or.inr ⟨hz0, _, hcl6, h3⟩) hx (Or.inr ⟨h0, c4, hcl5, hasg⟩)
  obtain ⟨t, a1, b1⟩ := kk (T.setVm vm') hT X'
  exact ⟨t, st.trans a1, b1⟩
end Rows
section Ends
variable {p : Program} {l : Launch} {e : Env} {R : Room} {s : State} {m : MethodId} {args : Array Value} {below : List Frame} {meth : Method} {c : Code} {H : Heap} {locs : List Loc} {cells slots : Nat} {Q : State → Prop}
variable {mc ms : Nat} {free : Addr → Prop} {A0 A1 : Nat → Prop} {H0 : Heap} {a : Array Value} {ls : Array Slot} {st0 rest : List Value}
variable {Qc : Array Value → State → Outcome → State → Prop} {XC : String → State → State → Prop}
/-- what a body that may throw owes at its end -/
def vx_MQ (below : List Frame) (Qc : Array Value → State → Outcome → State → Prop) (XC : String → State → State → Prop) (a : Array Value) (s : State) (mc ms : Nat) (free : Addr → Prop) : State → Prop := fun t =>
  ∃ o, t.status = .running ∧ Ended t below o ∧ vx_Q Qc XC mc ms free a s o t
theorem vx_ret {g : JFrame} {mc ms : Nat} (k : W p l e R s m args below meth c H locs cells slots (MQ below Qc args s mc ms free) g) : W p l e R s m args below meth c H locs cells slots (vx_MQ below Qc XC args s mc ms free) g := by
  intro T hT X
  obtain ⟨t, a1, o, b1, b2, b3, b4⟩ := k T hT X
  exact ⟨t, a1, o, b1, b2, Or.inl ⟨b3, b4⟩⟩
/-- not caught here: it goes on to the caller -/
theorem vx_widen {g : JFrame} {q : Addr} {k n : Nat} (h1 : cells ≤ k) (h2 : slots ≤ n) (kk : vx_W p l e R s m args below meth c H locs k n Q g q) : vx_W p l e R s m args below meth c H locs cells slots Q g q := fun T hT X => kk T hT (stand_widen X h1 h2)
theorem vx_out {pc : Nat} {E : String} {ce : Cell} {q : Addr} {mc ms : Nat} (hout : ∀ x ∈ c.exceptionTable.toList, covers x pc = false) (hlocks : meth.locks = false) (hcell : H[q]? = some ce) (hv : ce.vm = .none) (hcl : s.vm.findClass E = some ce.cls)
    (hx : ∀ t : State, t.heap = H → s.vm.Alike t.vm → XC E s t) (hf : ∀ z ∈ locs, free z.base) (hc : cells ≤ mc) (hs : slots ≤ ms) :
    vx_W p l e R s m args below meth c H locs cells slots (vx_MQ below Qc XC args s mc ms free) (F0 m pc ls rest) q := by
  intro T hT X
  obtain ⟨st1, hrun, hend, hW, hsm⟩ := X.leaveThrown q (g := F0 m pc ls rest) rfl rfl rfl hout hlocks
  have hcell9 : (T.setFrames (.throwing q :: below)).heap[q]? = some ce := by
    show T.heap[q]? = some ce
    rw [hT]; exact hcell
  exact ⟨_, st1, .threw q, hrun, hend, Or.inr ⟨q, rfl, E, ce, locs, hx _ hT hW.alike, hcell9, hv, hcl, hW, hsm.mono hc hs, hf⟩⟩
theorem vx_frame {U : State} {k n : Nat} (h : s.sameButNew ({ U with vm := s.vm } : State) locs k n) : s.heap.size ≤ U.heap.size ∧ ∀ q : Nat, q < s.heap.size → (∀ z ∈ locs, z.base ≠ q) → U.heap[q]? = s.heap[q]? := by
  obtain ⟨-, h2, -, -, -, h6⟩ := h
  refine ⟨h2, fun q hq hz => ?_⟩
  obtain ⟨c9, e1, e2, e3, e4⟩ := h6 q _ (Array.getElem?_eq_getElem hq)
  have hs : c9.slots = (s.heap[q]).slots := Array.ext_getElem? fun i => e4 i fun hm => hz _ hm rfl
  have h9 : c9 = s.heap[q] := by
    rw [hs] at e2
    exact e2
  have e5 : U.heap[q]? = some c9 := e1
  rw [e5, h9, Array.getElem?_eq_getElem hq]
/-- the words of a throw but the four that speak of the heap -/
def vx_no (w : Cond) : Bool := decide (w ≠ .isRef (.static Bundle.tN "UNASSIGNED_STACK" Bundle.steD)) && decide (w ≠ .isRef (.static Bundle.tN "SUPPRESSED_SENTINEL" Bundle.listD)) && decide (w ≠ .laysStatic Bundle.tN "UNASSIGNED_STACK" Bundle.steD) && decide (w ≠ .laysStatic Bundle.tN "SUPPRESSED_SENTINEL" Bundle.listD)
def vx_at0 (own : String) (ic : Nat) (X : String) (names : List String) : List Cond := (Bundle.ownAtoms0 own ic X names).filter vx_no
def vx_atS (own : String) (ic : Nat) (X : String) (names : List String) : List Cond := (Bundle.ownAtoms own ic X names).filter vx_no
/-- a word that the tables alone decide, or a good one -/
def vx_ot (w : Cond) : Bool := w.onTables || goodWord w
theorem vx_ot_at {args a' : Array Value} {s U : State} {w : Cond} (hW : s.WarmedH U.vm) (hvm : s.vm = U.vm) (hg : vx_ot w = true) (h : w.before args s = true) : w.before a' U = true := by
  simp only [vx_ot, Bool.or_eq_true] at hg
  rcases hg with hg | hg
  · exact va_tabs hg hvm h
  · exact word_at hW (good_of_word hg) h
/-- a list's words: the good ones out of the method's own list, the others by premises of their own -/
theorem vx_hat {args : Array Value} {s : State} {L B : List Cond} (h1 : ∀ w ∈ L.filter goodWord, w.before args s = true) (h2 : ∀ w ∈ L.filter (fun w => !goodWord w), w ∈ B) (h3 : ∀ w ∈ B, w.before args s = true) : ∀ w ∈ L, w.before args s = true := by
  intro w hw
  by_cases g : goodWord w = true
  · exact h1 w (List.mem_filter.mpr ⟨hw, g⟩)
  · refine h3 w (h2 w (List.mem_filter.mpr ⟨hw, ?_⟩))
    show (!goodWord w) = true
    cases hgw : goodWord w
    · rfl
    · exact absurd hgw g
theorem vx_c {args : Array Value} {s : State} {w : Cond} {B : List Cond} (h : w.before args s = true) (t : ∀ w ∈ B, w.before args s = true) : ∀ w' ∈ w :: B, w'.before args s = true := fun w' h' => (List.mem_cons.mp h').elim (fun e => by rw [e]; exact h) (t w')
theorem vx_n {args : Array Value} {s : State} : ∀ w ∈ ([] : List Cond), w.before args s = true := fun _ h => nomatch h
theorem vx_own {args : Array Value} {s : State} {L : List Cond} (h1 : ∀ w ∈ L.filter vx_no, w.before args s = true)
    (hU : (Cond.isRef (.static Bundle.tN "UNASSIGNED_STACK" Bundle.steD)).before args s = true) (hN : (Cond.isRef (.static Bundle.tN "SUPPRESSED_SENTINEL" Bundle.listD)).before args s = true)
    (lU : (Cond.laysStatic Bundle.tN "UNASSIGNED_STACK" Bundle.steD).before args s = true) (lN : (Cond.laysStatic Bundle.tN "SUPPRESSED_SENTINEL" Bundle.listD).before args s = true) : ∀ w ∈ L, w.before args s = true := by
  intro w hw
  by_cases e1 : w = .isRef (.static Bundle.tN "UNASSIGNED_STACK" Bundle.steD)
  · rw [e1]; exact hU
  · by_cases e2 : w = .isRef (.static Bundle.tN "SUPPRESSED_SENTINEL" Bundle.listD)
    · rw [e2]; exact hN
    · by_cases e3 : w = .laysStatic Bundle.tN "UNASSIGNED_STACK" Bundle.steD
      · rw [e3]; exact lU
      · by_cases e4 : w = .laysStatic Bundle.tN "SUPPRESSED_SENTINEL" Bundle.listD
        · rw [e4]; exact lN
        · exact h1 w (List.mem_filter.mpr ⟨hw, by unfold vx_no; rw [decide_eq_true e1, decide_eq_true e2, decide_eq_true e3, decide_eq_true e4]; rfl⟩)
/-- where a static field lies, its class's statics cell in H -/
def vx_L (C n d : String) (A : Nat → Prop) (U : State) (H : Heap) : Prop := ∃ (c : ClassId) (k : Class) (i : Nat) (f : Field) (a : Nat) (cell : Cell), U.vm.findClass C = some c ∧ U.fieldFound? C n d = some (c, k, i, f) ∧ f.isStatic = true ∧ k.statics = some a ∧ H[a]? = some cell ∧ cell.vm.isStatics = true ∧ cell.cls = c ∧ f.slot < cell.slots.size ∧ k.staticTypes[f.slot]? = some f.type ∧ ¬ A a
theorem vx_L.moved {C n d : String} {A : Nat → Prop} {u U : State} {H : Heap} (hvm : u.vm.Alike U.vm) (h : vx_L C n d A u H) : vx_L C n d A U H := by
  obtain ⟨c, k, i, f, a, cell, h1, h2, h3, h4, h5, h6, h7, h8, h9, h10⟩ := h
  obtain ⟨k', hi', he⟩ := State.fieldFound?_setVm hvm h2
  exact ⟨c, k', i, f, a, cell, by rw [hvm.findClass]; exact h1, hi', h3, by rw [he]; exact h4, h5, h6, h7, h8, by rw [he]; exact h9, h10⟩
theorem vx_L.kept {C n d : String} {A : Nat → Prop} {U : State} {H H1 : Heap} (h : vx_L C n d A U H) (hq : ∀ a : Nat, a < H.size → ¬ A a → H1[a]? = H[a]?) : vx_L C n d A U H1 := by
  obtain ⟨c, k, i, f, a, cell, h1, h2, h3, h4, h5, h6, h7, h8, h9, h10⟩ := h
  exact ⟨c, k, i, f, a, cell, h1, h2, h3, h4, by rw [hq a (Array.getElem?_eq_some_iff.mp h5).1 h10]; exact h5, h6, h7, h8, h9, h10⟩
theorem vx_L.narrow {C n d : String} {A B : Nat → Prop} {U : State} {H : Heap} (h : vx_L C n d A U H) (hAB : ∀ q, B q → A q) : vx_L C n d B U H := by
  obtain ⟨c, k, i, f, a, cell, h1, h2, h3, h4, h5, h6, h7, h8, h9, h10⟩ := h
  exact ⟨c, k, i, f, a, cell, h1, h2, h3, h4, h5, h6, h7, h8, h9, fun z => h10 (hAB _ z)⟩
theorem vx_L.word {C n d : String} {A : Nat → Prop} {s : State} {args : Array Value} (h : vx_L C n d A s s.heap) : (Cond.laysStatic C n d).before args s = true := by
  obtain ⟨c, k, i, f, a, cell, h1, h2, h3, h4, h5, h6, h7, h8, h9, -⟩ := h
  show (Cond.laysStatic C n d).holds args s none s [] = true
  exact Cond.laysStatic_of h1 h2 h3 h4 h5 h6 h7 h8 h9
/-- .. and what it holds: null or some reference -/
def vx_Zq (C n d : String) (A : Nat → Prop) (U : State) (H : Heap) : Prop := va_Zq C n d A U H ∧ vx_L C n d A U H
theorem vx_Zq.moved {C n d : String} {A : Nat → Prop} {u U : State} {H : Heap} (hvm : u.vm.Alike U.vm) (h : vx_Zq C n d A u H) : vx_Zq C n d A U H := ⟨va_Zq.moved hvm h.1, vx_L.moved hvm h.2⟩
theorem vx_Zq.kept {C n d : String} {A : Nat → Prop} {U : State} {H H1 : Heap} (h : vx_Zq C n d A U H) (hq : ∀ a : Nat, a < H.size → ¬ A a → H1[a]? = H[a]?) : vx_Zq C n d A U H1 := ⟨va_Zq.kept h.1 hq, vx_L.kept h.2 hq⟩
theorem vx_Zq.narrow {C n d : String} {A B : Nat → Prop} {U : State} {H : Heap} (h : vx_Zq C n d A U H) (hAB : ∀ q, B q → A q) : vx_Zq C n d B U H := ⟨va_Zq.narrow h.1 hAB, vx_L.narrow h.2 hAB⟩
theorem vx_Zqof {args : Array Value} {s : State} {C n d : String} {A : Nat → Prop} (hl : (Cond.laysStatic C n d).before args s = true) (hini : (Cond.initialized C).before args s = true) (h : (Cond.isRef (.static C n d)).before args s = true) (hA : ∀ a : Nat, a < s.heap.size → ¬ A a) : vx_Zq C n d A s s.heap := by
  refine ⟨va_Zqof hl hini h hA, ?_⟩
  obtain ⟨c, k, i, f, a, cell, h1, h2, h3, h4, h5, h6, h7, h8, h9⟩ := Cond.laysStatic_spec hl
  exact ⟨c, k, i, f, a, cell, h1, h2, h3, h4, h5, h6, h7, h8, h9, hA a (Array.getElem?_eq_some_iff.mp h5).1⟩
theorem vx_isRef {C n d : String} {v : Value} {A : Nat → Prop} {s : State} {args : Array Value} (h : va_Z C n d v A s s.heap) (hv : v.isRef = true) : (Cond.isRef (.static C n d)).before args s = true := by
  obtain ⟨cf, kf, fi, f, a, cell, h1, h2, h3, h4, h5, h6, h7, -⟩ := h
  have he : (Term.static C n d).eval args s none [] s = some v := by
    simp [Term.eval, State.fieldNamed?, h1, h2, h4, h5, h6, h7]
  simp only [Cond.before, Cond.holds, Cond.value, he]
  cases v <;> simp_all [Value.isRef]
theorem vx_isRefq {C n d : String} {A : Nat → Prop} {s : State} {args : Array Value} (h : va_Zq C n d A s s.heap) : (Cond.isRef (.static C n d)).before args s = true := by
  rcases h with h | ⟨t, h⟩
  · exact vx_isRef h rfl
  · exact vx_isRef h rfl
/-- the same frame, seen from here: as if the method were called anew in this heap -/
theorem vx_rebase {T : State} (X : Stand p l e R s m args below meth c T locs cells slots) {R' : Room} (hf : R'.frames ≤ R.frames) (hl : R'.locals ≤ R.locals) (hc : cells + R'.cells ≤ R.cells) (hs : slots + R'.slots ≤ R.slots) :
    Stand p l e R' ((T.setVm s.vm).setFrames (.invoking m args :: below)) m args below meth c T [] 0 0 := by
  have htop : (T.setVm s.vm).topJava?.isSome := X.here.top
  have hF : ((T.setVm s.vm).setFrames (.invoking m args :: below)).frames = .invoking m args :: below := State.frames_setFrames _ (State.cur_lt_of_top htop)
  obtain ⟨g₀, hg0⟩ := Option.isSome_iff_exists.mp htop
  obtain ⟨r, hr⟩ := State.topJava?_eq_some.mp hg0
  have hl9 : e.platform.stackLimits (T.setVm s.vm).me = e.platform.stackLimits s.me := X.limits
  have hb9 : (T.setVm s.vm).me.stackBytes = s.me.stackBytes := X.bytes
  refine ⟨X.admits, X.cas, X.clock, hF, ?_, X.hears, X.method, X.code, X.here, X.tail, X.warmed, ?_, ?_, ?_⟩
  · have h := X.room
    have hU : ((T.setVm s.vm).setFrames (.invoking m args :: below)).localsInUse = s.localsInUse := by
      rw [State.localsInUse_invoking hF (meth := meth) (c := c) X.method X.code, State.localsInUse_invoking X.frames X.method X.code]
    simp only [State.hasRoom, Bool.and_eq_true, decide_eq_true_eq] at h ⊢
    obtain ⟨⟨⟨⟨h1, h2, h3, h4, h5, h6⟩, h7⟩, h8⟩, h9⟩ := h
    rw [X.frames, List.length_cons] at h2 h3
    have q1 := X.heapSize
    have q2 := X.used
    simp only [hF, hU, List.length_cons, State.stackLimits_setFrames, State.stackBytes_setFrames, hl9, hb9]
    refine ⟨⟨⟨⟨by omega, by omega, by omega, by omega, by omega, h6⟩, ?_⟩, ?_⟩, X.book⟩
    · show T.heap.size + R'.cells ≤ e.platform.maxCells
      omega
    · show T.slotsUsed + R'.slots ≤ e.platform.maxSlots
      omega
  · rw [State.stackLimits_setFrames]; rfl
  · rw [State.stackBytes_setFrames]; rfl
  · refine ⟨?_, Nat.le_refl _, Nat.le_refl _, ?_, ?_, fun a c9 h9 => ⟨c9, h9, rfl, rfl, fun _ _ => rfl⟩⟩
    · obtain ⟨t, ht, -⟩ := State.frames_cons hr
      show T.setVm s.vm = { ((T.setVm s.vm).setFrames (.invoking m args :: below)).setFrames (T.setVm s.vm).frames with heap := T.heap, slotsUsed := T.slotsUsed }
      rw [State.setFrames_setFrames, State.setFrames_self ht]
      rfl
    · show T.slotsUsed = T.slotsUsed + ((T.heap.toList.drop T.heap.size).map (·.slots.size)).sum
      rw [List.drop_eq_nil_of_le (Nat.le_of_eq Array.length_toList)]
      rfl
    · show ((T.heap.toList.drop T.heap.size).map (·.slots.size)).sum ≤ 0
      rw [List.drop_eq_nil_of_le (Nat.le_of_eq Array.length_toList)]
      exact Nat.le_refl _
/-- 'throw new E()': new; dup; invokespecial; athrow -/
theorem vx_throw0 {cc : ByteArray} {pc : Nat} (hexec : p.tables.exec = Jvm.exec) (hb : c.code = cc) (hl : l.stackTraces = false) {own cls : String} {names : List String} {ik ic mc ms : Nat} {A : Nat → Prop}
    (hown : s.vm.findClass own = some m.cls) (hcls : Bundle.fit cls = true) (hnames : ∀ n ∈ names, Bundle.fit n = true)
    (hk : (Cond.classLink own ik cls).before args s = true) (hini : (Cond.initialized cls).before args s = true) (hat : ∀ w ∈ vx_at0 own ic cls names, w.before args s = true)
    (hgood : ∀ w ∈ Cond.classLink own ik cls :: Cond.initialized cls :: vx_at0 own ic cls names, vx_ot w = true)
    (hU : vx_Zq Bundle.tN "UNASSIGNED_STACK" Bundle.steD A s s.heap) (hN : vx_Zq Bundle.tN "SUPPRESSED_SENTINEL" Bundle.listD A s s.heap) (hS : va_S A s.heap H locs) (hsize : ls.size = c.maxLocals)
    (d0 : decode cc pc = .ok (.new ik, 3)) (d3 : decode cc (pc + 3) = .ok (.dup, 1)) (d4 : decode cc (pc + 4) = .ok (.invokespecial ic, 3)) (d7 : decode cc (pc + 7) = .ok (.athrow, 1))
    (hout : ∀ x ∈ c.exceptionTable.toList, covers x (pc + 7) = false)
    (hRframes : names.length + 3 < R.frames) (hRlocals : (rest.map fun v => v.category).sum + (13 * (names.length + 1) + 42) ≤ R.locals) (hRcells : cells + 1 ≤ R.cells) (hRslots : slots + 6 ≤ R.slots) (hlocks : meth.locks = false)
    (hx : ∀ t : State, s.vm.Alike t.vm → H.size ≤ t.heap.size → (∀ q : Nat, q < H.size → t.heap[q]? = H[q]?) → XC cls s t)
    (hf : ∀ z ∈ locs, free z.base) (hc : cells + 1 ≤ mc) (hs : slots + 6 ≤ ms) :
    W p l e R s m args below meth c H locs cells slots (vx_MQ below Qc XC args s mc ms free) (F0 m pc ls rest) := by
  intro T hT X
  have htr : e.platform.stackTraces = false := (show e.platform.stackTraces = l.stackTraces by rw [X.admits.platform]).trans hl
  have Y := vx_rebase X (R' := { frames := R.frames, locals := R.locals, cells := 1, slots := 6 }) (Nat.le_refl _) (Nat.le_refl _) hRcells hRslots
  obtain ⟨s', hA⟩ : ∃ z, z = (T.setVm s.vm).setFrames (.invoking m args :: below) := ⟨_, rfl⟩
  rw [← hA] at Y
  have hvm : s'.vm = s.vm := by rw [hA]; rfl
  have hhp : s'.heap = H := by rw [hA]; exact hT
  have hW0 : s.WarmedH s'.vm := by rw [hvm]; exact State.WarmedH.refl s
  have hat' : ∀ w ∈ vx_at0 own ic cls names, w.before args s' = true := fun w hw => vx_ot_at hW0 hvm.symm (hgood w (List.mem_cons_of_mem _ (List.mem_cons_of_mem _ hw))) (hat w hw)
  have hk' : (Cond.classLink own ik cls).before args s' = true := vx_ot_at hW0 hvm.symm (hgood _ List.mem_cons_self) hk
  have hini' : (Cond.initialized cls).before args s' = true := vx_ot_at hW0 hvm.symm (hgood _ (List.mem_cons_of_mem _ List.mem_cons_self)) hini
  have hU' : vx_Zq Bundle.tN "UNASSIGNED_STACK" Bundle.steD A s' s'.heap := by rw [hhp]; exact vx_Zq.moved hW0.alike (hU.kept hS.2.1)
  have hN' : vx_Zq Bundle.tN "SUPPRESSED_SENTINEL" Bundle.listD A s' s'.heap := by rw [hhp]; exact vx_Zq.moved hW0.alike (hN.kept hS.2.1)
  have h : ∀ w ∈ Bundle.ownAtoms0 own ic cls names, w.before args s' = true := vx_own hat' (vx_isRefq hU'.1) (vx_isRefq hN'.1) hU'.2.word hN'.2.word
  have hown' : s'.vm.findClass own = some m.cls := by rw [hvm]; exact hown
  have hins : (Cond.instantiable cls 6).before args s' = true := h _ (by simp [Bundle.ownAtoms0])
  obtain ⟨vm₁, cX, kX, hfX, hkX, -, -, X₁, st1⟩ := Y.newCold hexec (own := own) (C := cls) (index := ik) (n := 6) hown' hk' hins hini'
    (g := F0 m pc ls rest) rfl (by rw [hb]; exact d0) (Nat.le_refl _) (Nat.le_refl _)
  generalize hT1 : (T.setVm vm₁).pushCell { cls := cX, slots := kX.instanceTypes.map defaultValue, vm := .none } = T1 at X₁ st1
  have hcat : (Value.ref T.heap.size).category = 1 := rfl
  have hcellA : T1.heap[T.heap.size]? = some (freshCell cX kX) := by rw [← hT1]; exact State.heap_pushCell_size _ _
  have d3' : decode c.code (pc + 3) = .ok (.dup, 1) := by rw [hb]; exact d3
  obtain ⟨U, hsteps, hrun, hend, hW, hsame, ce, hce, hO⟩ := X₁.ctorThrow0 hexec htr (own := own) (cls := cls) (names := names) (ic := ic) hown' hcls hnames h (fun x hx => nomatch hx) hfX hkX hcellA (by rw [hhp, hT]; exact Nat.le_refl _)
    (g := { method := m, pc := pc + 4, locals := ls, stack := .ref T.heap.size :: .ref T.heap.size :: rest, locked := none }) rfl hsize rfl rfl (rest := rest) rfl
    (by rw [hb]; exact d4) (by rw [hb]; exact d7) hout hRframes (by simp only [List.map_cons, List.sum_cons, hcat]; omega) hlocks
  obtain ⟨f1, f2⟩ := vx_frame hsame
  rw [hhp] at f1 f2
  have hWs : s.WarmedH U.vm := State.WarmedH.trans hW0 hW
  have hcl : s.vm.findClass cls = some ce.cls := by
    have h9 := hO.cls
    rw [hvm] at h9
    exact h9
  have hall : s.sameButNew ({ U with vm := s.vm } : State) locs mc ms := by
    subst hA
    obtain ⟨e1, e2⟩ := hsame
    rw [State.setFrames_setFrames] at e1
    have h2 : (T.setVm s.vm).sameButNew ({ U with vm := s.vm } : State) [] (0 + 1) (0 + 6) := ⟨e1, e2⟩
    have h3 := X.same.trans h2
    rw [List.append_nil] at h3
    exact h3.mono hc hs
  refine ⟨U, ?_, .threw T.heap.size, hrun, hend, Or.inr ⟨T.heap.size, rfl, cls, ce, locs, hx U hWs.alike f1 (fun q hq => f2 q hq (fun z hz => nomatch hz)), hce, hO.vm, hcl, hWs, hall, hf⟩⟩
  refine st1 _ ?_
  show Steps p.tables e below (T1.setTop { method := m, pc := pc + 3, locals := ls, stack := .ref T.heap.size :: rest, locked := none }) _
  jvm_step X₁.here [X₁.here.top, hexec, d3', Value.category]
  exact hsteps
/-- 'throw new E("text")': new; dup; ldc; invokespecial; athrow -/
theorem vx_throwS {cc : ByteArray} {pc : Nat} (hexec : p.tables.exec = Jvm.exec) (hb : c.code = cc) (hl : l.stackTraces = false) {own cls text : String} {names : List String} {ik is ic mc ms sa : Nat} {A : Nat → Prop}
    (hown : s.vm.findClass own = some m.cls) (hcls : Bundle.fit cls = true) (hnames : ∀ n ∈ names, Bundle.fit n = true)
    (hk : (Cond.classLink own ik cls).before args s = true) (hini : (Cond.initialized cls).before args s = true) (hstr : vk_R own is text sa s) (hat : ∀ w ∈ vx_atS own ic cls names, w.before args s = true)
    (hgood : ∀ w ∈ Cond.classLink own ik cls :: Cond.initialized cls :: vx_atS own ic cls names, vx_ot w = true)
    (hU : vx_Zq Bundle.tN "UNASSIGNED_STACK" Bundle.steD A s s.heap) (hN : vx_Zq Bundle.tN "SUPPRESSED_SENTINEL" Bundle.listD A s s.heap) (hS : va_S A s.heap H locs) (hsize : ls.size = c.maxLocals)
    (d0 : decode cc pc = .ok (.new ik, 3)) (d3 : decode cc (pc + 3) = .ok (.dup, 1)) (d4 : decode cc (pc + 4) = .ok (.ldc is, 2)) (d6 : decode cc (pc + 6) = .ok (.invokespecial ic, 3)) (d9 : decode cc (pc + 9) = .ok (.athrow, 1))
    (hout : ∀ x ∈ c.exceptionTable.toList, covers x (pc + 9) = false)
    (hRframes : names.length + 3 < R.frames) (hRlocals : (rest.map fun v => v.category).sum + (13 * (names.length + 1) + 43) ≤ R.locals) (hRcells : cells + 1 ≤ R.cells) (hRslots : slots + 6 ≤ R.slots) (hlocks : meth.locks = false)
    (hx : ∀ t : State, s.vm.Alike t.vm → H.size ≤ t.heap.size → (∀ q : Nat, q < H.size → t.heap[q]? = H[q]?) → XC cls s t)
    (hf : ∀ z ∈ locs, free z.base) (hc : cells + 1 ≤ mc) (hs : slots + 6 ≤ ms) :
    W p l e R s m args below meth c H locs cells slots (vx_MQ below Qc XC args s mc ms free) (F0 m pc ls rest) := by
  intro T hT X
  have htr : e.platform.stackTraces = false := (show e.platform.stackTraces = l.stackTraces by rw [X.admits.platform]).trans hl
  have Y := vx_rebase X (R' := { frames := R.frames, locals := R.locals, cells := 1, slots := 6 }) (Nat.le_refl _) (Nat.le_refl _) hRcells hRslots
  obtain ⟨s', hA⟩ : ∃ z, z = (T.setVm s.vm).setFrames (.invoking m args :: below) := ⟨_, rfl⟩
  rw [← hA] at Y
  have hvm : s'.vm = s.vm := by rw [hA]; rfl
  have hhp : s'.heap = H := by rw [hA]; exact hT
  have hW0 : s.WarmedH s'.vm := by rw [hvm]; exact State.WarmedH.refl s
  have hat' : ∀ w ∈ vx_atS own ic cls names, w.before args s' = true := fun w hw => vx_ot_at hW0 hvm.symm (hgood w (List.mem_cons_of_mem _ (List.mem_cons_of_mem _ hw))) (hat w hw)
  have hk' : (Cond.classLink own ik cls).before args s' = true := vx_ot_at hW0 hvm.symm (hgood _ List.mem_cons_self) hk
  have hini' : (Cond.initialized cls).before args s' = true := vx_ot_at hW0 hvm.symm (hgood _ (List.mem_cons_of_mem _ List.mem_cons_self)) hini
  have hU' : vx_Zq Bundle.tN "UNASSIGNED_STACK" Bundle.steD A s' s'.heap := by rw [hhp]; exact vx_Zq.moved hW0.alike (hU.kept hS.2.1)
  have hN' : vx_Zq Bundle.tN "SUPPRESSED_SENTINEL" Bundle.listD A s' s'.heap := by rw [hhp]; exact vx_Zq.moved hW0.alike (hN.kept hS.2.1)
  have h : ∀ w ∈ Bundle.ownAtoms own ic cls names, w.before args s' = true := vx_own hat' (vx_isRefq hU'.1) (vx_isRefq hN'.1) hU'.2.word hN'.2.word
  have hown' : s'.vm.findClass own = some m.cls := by rw [hvm]; exact hown
  have hins : (Cond.instantiable cls 6).before args s' = true := h _ (by simp [Bundle.ownAtoms])
  obtain ⟨vm₁, cX, kX, hfX, hkX, -, -, X₁, st1⟩ := Y.newCold hexec (own := own) (C := cls) (index := ik) (n := 6) hown' hk' hins hini'
    (g := F0 m pc ls rest) rfl (by rw [hb]; exact d0) (Nat.le_refl _) (Nat.le_refl _)
  generalize hT1 : (T.setVm vm₁).pushCell { cls := cX, slots := kX.instanceTypes.map defaultValue, vm := .none } = T1 at X₁ st1
  have hcat : (Value.ref T.heap.size).category = 1 := rfl
  have hcellA : T1.heap[T.heap.size]? = some (freshCell cX kX) := by rw [← hT1]; exact State.heap_pushCell_size _ _
  have d3' : decode c.code (pc + 3) = .ok (.dup, 1) := by rw [hb]; exact d3
  have d4' : decode c.code (pc + 4) = .ok (.ldc is, 2) := by rw [hb]; exact d4
  have hstr' : vk_R own is text sa s' := vk_R.warm hW0 hstr
  obtain ⟨U, hsteps, hrun, hend, hW, hsame, ce, hce, hO⟩ := X₁.ctorThrowS hexec htr (own := own) (cls := cls) (names := names) (ic := ic) hown' hcls hnames h (fun x hx => nomatch hx) hfX hkX hcellA (by rw [hhp, hT]; exact Nat.le_refl _) (msg := .ref sa) rfl
    (g := { method := m, pc := pc + 6, locals := ls, stack := .ref sa :: .ref T.heap.size :: .ref T.heap.size :: rest, locked := none }) rfl hsize rfl rfl (rest := rest) rfl
    (by rw [hb]; exact d6) (by rw [hb]; exact d9) hout hRframes (by simp only [List.map_cons, List.sum_cons, hcat]; omega) hlocks
  obtain ⟨f1, f2⟩ := vx_frame hsame
  rw [hhp] at f1 f2
  have hWs : s.WarmedH U.vm := State.WarmedH.trans hW0 hW
  have hcl : s.vm.findClass cls = some ce.cls := by
    have h9 := hO.cls
    rw [hvm] at h9
    exact h9
  have hall : s.sameButNew ({ U with vm := s.vm } : State) locs mc ms := by
    subst hA
    obtain ⟨e1, e2⟩ := hsame
    rw [State.setFrames_setFrames] at e1
    have h2 : (T.setVm s.vm).sameButNew ({ U with vm := s.vm } : State) [] (0 + 1) (0 + 6) := ⟨e1, e2⟩
    have h3 := X.same.trans h2
    rw [List.append_nil] at h3
    exact h3.mono hc hs
  refine ⟨U, ?_, .threw T.heap.size, hrun, hend, Or.inr ⟨T.heap.size, rfl, cls, ce, locs, hx U hWs.alike f1 (fun q hq => f2 q hq (fun z hz => nomatch hz)), hce, hO.vm, hcl, hWs, hall, hf⟩⟩
  refine st1 _ ?_
  show Steps p.tables e below (T1.setTop { method := m, pc := pc + 3, locals := ls, stack := .ref T.heap.size :: rest, locked := none }) _
  jvm_step X₁.here [X₁.here.top, hexec, d3', Value.category]
  exact X₁.ldcString hexec (own := own) (text := text) (index := is) (a := sa) hown' hstr'.1 hstr'.2
    (g := { method := m, pc := pc + 4, locals := ls, stack := .ref T.heap.size :: .ref T.heap.size :: rest, locked := none }) rfl d4' _ hsteps
/-- 'throw new E("text")', the text by a wide index -/
theorem vx_throwSW {cc : ByteArray} {pc : Nat} (hexec : p.tables.exec = Jvm.exec) (hb : c.code = cc) (hl : l.stackTraces = false) {own cls text : String} {names : List String} {ik is ic mc ms sa : Nat} {A : Nat → Prop}
    (hown : s.vm.findClass own = some m.cls) (hcls : Bundle.fit cls = true) (hnames : ∀ n ∈ names, Bundle.fit n = true)
    (hk : (Cond.classLink own ik cls).before args s = true) (hini : (Cond.initialized cls).before args s = true) (hstr : vk_R own is text sa s) (hat : ∀ w ∈ vx_atS own ic cls names, w.before args s = true)
    (hgood : ∀ w ∈ Cond.classLink own ik cls :: Cond.initialized cls :: vx_atS own ic cls names, vx_ot w = true)
    (hU : vx_Zq Bundle.tN "UNASSIGNED_STACK" Bundle.steD A s s.heap) (hN : vx_Zq Bundle.tN "SUPPRESSED_SENTINEL" Bundle.listD A s s.heap) (hS : va_S A s.heap H locs) (hsize : ls.size = c.maxLocals)
    (d0 : decode cc pc = .ok (.new ik, 3)) (d3 : decode cc (pc + 3) = .ok (.dup, 1)) (d4 : decode cc (pc + 4) = .ok (.ldc_w is, 3)) (d7 : decode cc (pc + 7) = .ok (.invokespecial ic, 3)) (d10 : decode cc (pc + 10) = .ok (.athrow, 1))
    (hout : ∀ x ∈ c.exceptionTable.toList, covers x (pc + 10) = false)
    (hRframes : names.length + 3 < R.frames) (hRlocals : (rest.map fun v => v.category).sum + (13 * (names.length + 1) + 43) ≤ R.locals) (hRcells : cells + 1 ≤ R.cells) (hRslots : slots + 6 ≤ R.slots) (hlocks : meth.locks = false)
    (hx : ∀ t : State, s.vm.Alike t.vm → H.size ≤ t.heap.size → (∀ q : Nat, q < H.size → t.heap[q]? = H[q]?) → XC cls s t)
    (hf : ∀ z ∈ locs, free z.base) (hc : cells + 1 ≤ mc) (hs : slots + 6 ≤ ms) :
    W p l e R s m args below meth c H locs cells slots (vx_MQ below Qc XC args s mc ms free) (F0 m pc ls rest) := by
  intro T hT X
  have htr : e.platform.stackTraces = false := (show e.platform.stackTraces = l.stackTraces by rw [X.admits.platform]).trans hl
  have Y := vx_rebase X (R' := { frames := R.frames, locals := R.locals, cells := 1, slots := 6 }) (Nat.le_refl _) (Nat.le_refl _) hRcells hRslots
  obtain ⟨s', hA⟩ : ∃ z, z = (T.setVm s.vm).setFrames (.invoking m args :: below) := ⟨_, rfl⟩
  rw [← hA] at Y
  have hvm : s'.vm = s.vm := by rw [hA]; rfl
  have hhp : s'.heap = H := by rw [hA]; exact hT
  have hW0 : s.WarmedH s'.vm := by rw [hvm]; exact State.WarmedH.refl s
  have hat' : ∀ w ∈ vx_atS own ic cls names, w.before args s' = true := fun w hw => vx_ot_at hW0 hvm.symm (hgood w (List.mem_cons_of_mem _ (List.mem_cons_of_mem _ hw))) (hat w hw)
  have hk' : (Cond.classLink own ik cls).before args s' = true := vx_ot_at hW0 hvm.symm (hgood _ List.mem_cons_self) hk
  have hini' : (Cond.initialized cls).before args s' = true := vx_ot_at hW0 hvm.symm (hgood _ (List.mem_cons_of_mem _ List.mem_cons_self)) hini
  have hU' : vx_Zq Bundle.tN "UNASSIGNED_STACK" Bundle.steD A s' s'.heap := by rw [hhp]; exact vx_Zq.moved hW0.alike (hU.kept hS.2.1)
  have hN' : vx_Zq Bundle.tN "SUPPRESSED_SENTINEL" Bundle.listD A s' s'.heap := by rw [hhp]; exact vx_Zq.moved hW0.alike (hN.kept hS.2.1)
  have h : ∀ w ∈ Bundle.ownAtoms own ic cls names, w.before args s' = true := vx_own hat' (vx_isRefq hU'.1) (vx_isRefq hN'.1) hU'.2.word hN'.2.word
  have hown' : s'.vm.findClass own = some m.cls := by rw [hvm]; exact hown
  have hins : (Cond.instantiable cls 6).before args s' = true := h _ (by simp [Bundle.ownAtoms])
  obtain ⟨vm₁, cX, kX, hfX, hkX, -, -, X₁, st1⟩ := Y.newCold hexec (own := own) (C := cls) (index := ik) (n := 6) hown' hk' hins hini'
    (g := F0 m pc ls rest) rfl (by rw [hb]; exact d0) (Nat.le_refl _) (Nat.le_refl _)
  generalize hT1 : (T.setVm vm₁).pushCell { cls := cX, slots := kX.instanceTypes.map defaultValue, vm := .none } = T1 at X₁ st1
  have hcat : (Value.ref T.heap.size).category = 1 := rfl
  have hcellA : T1.heap[T.heap.size]? = some (freshCell cX kX) := by rw [← hT1]; exact State.heap_pushCell_size _ _
  have d3' : decode c.code (pc + 3) = .ok (.dup, 1) := by rw [hb]; exact d3
  have d4' : decode c.code (pc + 4) = .ok (.ldc_w is, 3) := by rw [hb]; exact d4
  have hstr' : vk_R own is text sa s' := vk_R.warm hW0 hstr
  obtain ⟨U, hsteps, hrun, hend, hW, hsame, ce, hce, hO⟩ := X₁.ctorThrowS hexec htr (own := own) (cls := cls) (names := names) (ic := ic) hown' hcls hnames h (fun x hx => nomatch hx) hfX hkX hcellA (by rw [hhp, hT]; exact Nat.le_refl _) (msg := .ref sa) rfl
    (g := { method := m, pc := pc + 7, locals := ls, stack := .ref sa :: .ref T.heap.size :: .ref T.heap.size :: rest, locked := none }) rfl hsize rfl rfl (rest := rest) rfl
    (by rw [hb]; exact d7) (by rw [hb]; exact d10) hout hRframes (by simp only [List.map_cons, List.sum_cons, hcat]; omega) hlocks
  obtain ⟨f1, f2⟩ := vx_frame hsame
  rw [hhp] at f1 f2
  have hWs : s.WarmedH U.vm := State.WarmedH.trans hW0 hW
  have hcl : s.vm.findClass cls = some ce.cls := by
    have h9 := hO.cls
    rw [hvm] at h9
    exact h9
  have hall : s.sameButNew ({ U with vm := s.vm } : State) locs mc ms := by
    subst hA
    obtain ⟨e1, e2⟩ := hsame
    rw [State.setFrames_setFrames] at e1
    have h2 : (T.setVm s.vm).sameButNew ({ U with vm := s.vm } : State) [] (0 + 1) (0 + 6) := ⟨e1, e2⟩
    have h3 := X.same.trans h2
    rw [List.append_nil] at h3
    exact h3.mono hc hs
  refine ⟨U, ?_, .threw T.heap.size, hrun, hend, Or.inr ⟨T.heap.size, rfl, cls, ce, locs, hx U hWs.alike f1 (fun q hq => f2 q hq (fun z hz => nomatch hz)), hce, hO.vm, hcl, hWs, hall, hf⟩⟩
  refine st1 _ ?_
  show Steps p.tables e below (T1.setTop { method := m, pc := pc + 3, locals := ls, stack := .ref T.heap.size :: rest, locked := none }) _
  jvm_step X₁.here [X₁.here.top, hexec, d3', Value.category]
  exact X₁.ldcStringW hexec (own := own) (text := text) (index := is) (a := sa) hown' hstr'.1 hstr'.2
    (g := { method := m, pc := pc + 4, locals := ls, stack := .ref T.heap.size :: .ref T.heap.size :: rest, locked := none }) rfl d4' _ hsteps
end Ends
section Bodies
variable {l : Launch}
theorem vx_ofW {y : MethodName} {ws ws' : List Cond} {rm : Room} {Pc : Array Value → State → Prop} {Qc : Array Value → State → Outcome → State → Prop} {XC : String → State → State → Prop} {mc ms : Nat} {free : Addr → Prop} {cc : ByteArray} {maxL : Nat} {ret : Option FieldType}
    (hy : plainName y.cls = true) (hw : ws = Cond.code y cc maxL ret :: ws')
    (body : ∀ p e s m args below meth c s₁, BodyLoose p l y (headSpec ws rm) cc maxL ret e s m args below meth c s₁ → c.maxLocals = maxL → (∀ x ∈ c.exceptionTable.toList, False) → Pc args s →
      W p l e (headSpec ws rm).room s m args below meth c s.heap [] 0 0 (vx_MQ below Qc XC args s mc ms free) (entryFrame m args maxL)) : vx_Met l y ws rm Pc Qc XC mc ms free := by
  refine MetFree.of_bodyS (code := cc) (maxLocals := maxL) (ret := ret) hy ?_ ?_
  · intro args s m h hn
    obtain ⟨meth, c, h1, h2, h3, h4, h5, h6, -, -⟩ := Cond.code_spec hn (atoms_spec (ws := ws) h _ (by rw [hw]; exact List.mem_cons_self))
    exact ⟨meth, c, h1, h2, h3, h4, h5, h6⟩
  · intro p e s m args below meth c s₁ B hml hP _
    have hh0 : s₁.heap = s.heap := by rw [B.state]; rfl
    have ht : ∀ x ∈ c.exceptionTable.toList, False := by
      obtain ⟨meth9, c9, h1, h2, -, -, -, -, h7, -⟩ := Cond.code_spec B.named (atoms_spec (ws := ws) B.pre _ (by rw [hw]; exact List.mem_cons_self))
      cases Option.some.inj (h1.symm.trans B.method)
      cases Option.some.inj (h2.symm.trans (Stand.of_body B).code)
      intro x hx
      rw [Array.isEmpty_iff.mp h7] at hx
      cases hx
    obtain ⟨t, a1, o, b1, b2, b3⟩ := body p e s m args below meth c s₁ B hml ht hP s₁ hh0 (Stand.of_body B)
    exact ⟨t, o, a1, b1, b2, b3⟩
/-- the table of a body with handlers -/
theorem vx_table {p : Program} {x y : MethodName} {S : Spec} {cc bytes : ByteArray} {maxL maxL' : Nat} {ret ret' : Option FieldType} {e : Env} {s s₁ : State} {m : MethodId} {args : Array Value} {below : List Frame} {meth : Method} {c : Code} {hh : List (Nat × Nat × Nat × Nat)}
    (B : BodyLoose p l y S cc maxL ret e s m args below meth c s₁) (h : (Cond.codeWith y bytes maxL' ret' hh).before args s = true) : c.exceptionTable.toList = tableOf hh := by
  obtain ⟨m9, meth9, c9, hn9, h1, h2, -, -, h6, -⟩ := Cond.codeWith_spec h
  cases Option.some.inj (hn9.symm.trans B.named)
  cases Option.some.inj (h1.symm.trans B.method)
  cases Option.some.inj (h2.symm.trans (Stand.of_body B).code)
  rw [← h6, table_eq]
end Bodies
end VXA
/-! ===== END ===== -/
/-! ===== BEGIN a static call of a method with an exception table ===== -/
section VXS
variable {p : Program} {l : Launch} {e : Env} {R : Room} {s : State} {m : MethodId} {args : Array Value} {below : List Frame} {meth : Method} {c : Code} {T : State} {H : Heap} {locs : List Loc} {cells slots : Nat}
abbrev vx_CSW (R : Room) (s : State) (args : Array Value) (own : String) (index : Nat) (y : MethodName) (bytes : ByteArray) (maxL : Nat) (ret : Option FieldType) (hh : List (Nat × Nat × Nat × Nat)) (ws : List Cond) (rm : Room) (mc ms n : Nat) : Prop :=
  (rm.cells = mc ∧ rm.slots = ms ∧ rm.frames + 1 ≤ R.frames ∧ 8 + (maxL + 11) + rm.locals ≤ R.locals ∧ (∀ w ∈ ws, ∀ (a' : Array Value) (U : State), s.WarmedH U.vm → w.before a' U = true) ∧ Cond.codeWith y bytes maxL ret hh ∈ ws) ∧
  (Cond.codeWith y bytes maxL ret hh).before args s = true ∧ (Cond.initialized y.cls).before args s = true ∧ (y.cls ≠ "java/lang/invoke/MethodHandle" ∧ y.cls ≠ "java/lang/invoke/VarHandle") ∧
  (∀ sig, parseMethodDescriptor y.desc = some sig → n = sig.parameters.length) ∧ (Cond.methodLink own index y).before args s = true ∧ (Cond.static y).before args s = true
theorem vx_cwSW {own : String} {index maxL mc ms : Nat} {y : MethodName} {bytes : ByteArray} {ret : Option FieldType} {hh : List (Nat × Nat × Nat × Nat)} {Ts ws ws' : List Cond} {rm : Room} (n : Nat) (ht : ∀ w ∈ Ts, w.before args s = true) (hT : GoodIn Ts (va_wsS own index y ws)) (hw : ws = Cond.codeWith y bytes maxL ret hh :: ws') (hrc : rm.cells = mc) (hrs : rm.slots = ms)
    (hd : y.cls ≠ "java/lang/invoke/MethodHandle" ∧ y.cls ≠ "java/lang/invoke/VarHandle" ∧ (parseMethodDescriptor y.desc).map (fun d => d.parameters.length) = some n) (hR : rm.frames + 1 ≤ R.frames ∧ 8 + (maxL + 11) + rm.locals ≤ R.locals) :
    vx_CSW R s args own index y bytes maxL ret hh ws rm mc ms n := by
  have ok : ∀ w ∈ va_wsS own index y ws, w.before args s = true := fun w h => ht w (hT w h).1
  have hG : GoodIn Ts ws := fun w h => hT w (by unfold va_wsS; exact List.mem_append_right _ h)
  have hc : Cond.codeWith y bytes maxL ret hh ∈ ws := by rw [hw]; exact List.mem_cons_self
  refine ⟨⟨hrc, hrs, hR.1, hR.2, pay_in ht hG, hc⟩, ht _ (hG _ hc).1, ok _ (by simp [va_wsS]), ⟨hd.1, hd.2.1⟩, fun sig h => ?_, ok _ (by simp [va_wsS]), ok _ (by simp [va_wsS])⟩
  have h2 := hd.2.2
  rw [h] at h2
  exact (Option.some.inj h2).symm
theorem vx_callSW (X : Stand p l e R s m args below meth c T locs cells slots) (hexec : p.tables.exec = Jvm.exec) {own : String} {index : Nat} {y : MethodName} {bytes : ByteArray} {maxL : Nat} {ret : Option FieldType} {hh : List (Nat × Nat × Nat × Nat)}
    (hown : s.vm.findClass own = some m.cls) (hlink : (Cond.methodLink own index y).before args s = true) (hstat : (Cond.static y).before args s = true) (hinit : (Cond.initialized y.cls).before args s = true)
    (hcode : (Cond.codeWith y bytes maxL ret hh).before args s = true) (hy : y.cls ≠ "java/lang/invoke/MethodHandle" ∧ y.cls ≠ "java/lang/invoke/VarHandle")
    {W9 : Nat} {Pre : Pt → Array Value → Prop} {Post : Pt → Array Value → Option Value → Pt → Prop} (hK : Back l R p e below s args y 3 W9 Pre Post)
    {g : JFrame} (hg : g.method = m) (hsize : g.locals.size = c.maxLocals) {argsL rest : List Value} (hlen : ∀ sig, parseMethodDescriptor y.desc = some sig → argsL.length = sig.parameters.length)
    (hstack : g.stack = argsL.reverse ++ rest) (hW : 2 * g.monitorRoom + (rest.map fun v => v.category).sum ≤ W9) (hdg : decode c.code g.pc = .ok (.invokestatic index, 3))
    (hpre : ∀ vm₁, s.WarmedH vm₁ → Pre ⟨T.setVm vm₁, locs, cells, slots⟩ argsL.toArray) :
    ∃ (v : Option Value) (vm₁ : Vm) (B : Pt), s.WarmedH vm₁ ∧ Stand p l e R s m args below meth c B.U B.locs B.cells B.slots ∧ Post ⟨T.setVm vm₁, locs, cells, slots⟩ argsL.toArray v B ∧
      ∀ target, Steps p.tables e below (B.U.setTop { g with pc := g.pc + 3, stack := v.toList ++ rest }) target → Steps p.tables e below (T.setTop g) target := by
  obtain ⟨mk, methM, cM, hnamed, hmethM, -, -, -, -, -, -, hsigM⟩ := Cond.codeWith_spec hcode
  have hstatic : methM.isStatic = true := Cond.static_spec hnamed hmethM hstat
  obtain ⟨kP, hkP, -⟩ := className_of_methodNamed hnamed
  have hinitP : kP.init = .initialized := Cond.initialized_spec (findClass_of_methodNamed hnamed) hkP hinit
  obtain ⟨vm₁, X₁, hstep₁⟩ := X.invokestatic hexec hown hlink hnamed hmethM hstatic hkP hinitP hy (g := g) hg (argsL := argsL) (rest := rest) (hlen _ hsigM) hstack hdg
  obtain ⟨v, B, X', hpost, hsteps⟩ := hK m meth c ⟨T.setVm vm₁, locs, cells, slots⟩ { g with stack := rest } (.invokestatic index) mk argsL.toArray X₁ hg hsize hdg hW (X₁.named hnamed) (hpre vm₁ X₁.warmed)
  exact ⟨v, vm₁, B, X₁.warmed, X', hpost, fun target h => hstep₁ _ fun acts => by rw [doInvoke_state]; exact hsteps.trans h⟩
theorem vx_runSW {y : MethodName} {bytes cc : ByteArray} {maxL nL mc ms n index : Nat} {ret : Option FieldType} {hh : List (Nat × Nat × Nat × Nat)} {ws : List Cond} {rm : Room} {Pc : Array Value → State → Prop} {Qc : Array Value → State → Outcome → State → Prop} {free : Addr → Prop} {Ts : List Cond} {own : String} {As rest : List Value} {g : JFrame}
    (S : CallFix p m c cc nL s args Ts own) (hM : Met l y ws rm Pc Qc mc ms free) (cw : vx_CSW R s args own index y bytes maxL ret hh ws rm mc ms n) (hp : PreS s H Pc As)
    (hg : g.method = m) (hn : As.length = n) (hsize : g.locals.size = nL) (hstack : g.stack = As.reverse ++ rest) (hW : 2 * g.monitorRoom + (rest.map fun v => v.category).sum ≤ 8) (hdg : decode cc g.pc = .ok (.invokestatic index, 3)) (hf : cells + mc ≤ R.cells ∧ slots + ms ≤ R.slots) :
    va_Run p l e R s m args below meth c H locs cells slots mc ms g rest (Qc As.toArray) (free) := by
  obtain ⟨⟨hrc, hrs, hfr, hlo, hws, hcw⟩, hcode, hini, hy, hlen, hl, hstt⟩ := cw
  have hK : Back l R p e below s args y 3 8 (PreOf R mc ms Pc) (PostOf Qc mc ms free) := va_backW (hh := hh) (bytes := bytes) (maxL := maxL) (ret := ret) hM hp.1 hrc hrs hfr hlo hws hcw (fun a' U hW => word_at hW (Or.inl (by first | rfl | simp [Cond.onTables, Cond.keeps, Cond.steady])) hini)
  obtain ⟨hx, hb, hml, ho, -⟩ := S
  intro T hT X
  obtain ⟨v, vm₁, ⟨U', l2, c2, s2⟩, hW₁, X', ⟨g', mk, t, L, e1, e2, hq, h1, hL, h2, h3⟩, st⟩ := vx_callSW X hx (hh := hh) (bytes := bytes) (maxL := maxL) (ret := ret) ho hl hstt hini hcode hy hK hg (hsize.trans hml.symm) (argsL := As) (rest := rest) (fun sig h => hn.trans (hlen sig h)) hstack hW (by rw [hb]; exact hdg)
    (fun vm₁ hW₁ => ⟨hf.1, hf.2, hp.2 (T.setVm vm₁) hT hW₁⟩)
  dsimp only [Pt.U, Pt.locs, Pt.cells, Pt.slots] at X' e1 e2 h1 h2 h3 st
  subst h1; subst h2; subst h3
  exact ⟨v, (T.setVm vm₁).calling g' mk As.toArray, t, U', L, hT, X', hL, e1, e2, hq, st⟩
/-- not caught here, past rows that name other classes: it goes on to the caller -/
theorem vx_outP {p : Program} {l : Launch} {e : Env} {R : Room} {s : State} {m : MethodId} {args : Array Value} {below : List Frame} {meth : Method} {c : Code} {H : Heap} {locs : List Loc} {cells slots : Nat} {free : Addr → Prop} {ls : Array Slot} {rest : List Value} {Qc : Array Value → State → Outcome → State → Prop} {XC : String → State → State → Prop}
    {pc : Nat} {own E : String} {ce : Cell} {q : Addr} {mc ms : Nat} (hown : s.vm.findClass own = some m.cls) (hlocks : meth.locks = false)
    (hpass : ∀ z ∈ c.exceptionTable.toList, covers z pc = false ∨ (z.catchType ≠ 0 ∧ ∃ nm : String, (Cond.classLink own z.catchType nm).before args s = true ∧ va_Nc E nm s)) (hcell : H[q]? = some ce) (hv : ce.vm = .none) (hcl : s.vm.findClass E = some ce.cls)
    (hx : ∀ t : State, t.heap = H → s.vm.Alike t.vm → XC E s t) (hf : ∀ z ∈ locs, free z.base) (hc : cells ≤ mc) (hs : slots ≤ ms) :
    vx_W p l e R s m args below meth c H locs cells slots (vx_MQ below Qc XC args s mc ms free) (F0 m pc ls rest) q := by
  intro T hT X
  have hpl : e.platform.magicAccessors = ({} : Platform).magicAccessors := by rw [X.admits.platform]
  obtain ⟨vm', hW', X', st⟩ := Stand.outThrough X hlocks q (g := F0 m pc ls rest) rfl rfl rfl (cell := ce) (by rw [hT]; exact hcell) (by rw [hv]; rfl)
    (by obtain ⟨k9, h9, -⟩ := Vm.findClass_spec hcl; exact ⟨k9, h9⟩) (fun z hz => by
      rcases hpass z hz with h | ⟨hz0, nm, hl1, hn1⟩
      · exact Or.inl h
      · obtain ⟨c6, hc6, hcl6⟩ := Cond.classLink_spec hown hl1 e.platform hpl
        obtain ⟨a8, b8, h1, h2, h3⟩ := hn1
        cases Option.some.inj (h1.symm.trans hcl)
        cases Option.some.inj (h2.symm.trans hc6)
        exact Or.inr ⟨hz0, _, hcl6, h3⟩)
  obtain ⟨g₀, hfr⟩ := X'.frames_eq
  have hcell9 : ((T.setVm vm').setFrames (.throwing q :: below)).heap[q]? = some ce := by
    show T.heap[q]? = some ce
    rw [hT]; exact hcell
  have hend : Ended ((T.setVm vm').setFrames (.throwing q :: below)) below (.threw q) := State.frames_setFrames _ (State.cur_lt_of_frames hfr)
  refine ⟨(T.setVm vm').setFrames (.throwing q :: below), ?_, .threw q, X'.here.running, hend, Or.inr ⟨q, rfl, E, ce, locs, hx _ hT (X'.ends _).1.alike, hcell9, hv, hcl, (X'.ends _).1, (X'.ends _).2.mono hc hs, hf⟩⟩
  rw [X.pushThrowing_eq]
  exact st
/-- a thing of a world lies in the heap -/
theorem vx_lt {D : va_G} {cl : List vw_C} {ws : va_W} {H1 : Heap} (h : va_P D cl ws H1) {k : Nat} {q : Nat × va_E} (hk : ws[k]? = some q) : q.1 < H1.size := (h k q hk).lt
end VXS
/-! ===== END ===== -/
end
section
def RX0 : String := "SegmentBench$Draft"
def TX0 : u_T := fun k => match k with
  | 0 => ("SegmentBench$Draft", "type", "[I", true)
  | 1 => ("SegmentBench$Draft", "value", "[I", true)
  | 2 => ("SegmentBench$Draft", "name", "[I", true)
  | 3 => ("SegmentBench$Draft", "place", "[I", true)
  | 4 => ("SegmentBench$Draft", "word", "[I", true)
  | 5 => ("SegmentBench$Draft", "segment", "[I", true)
  | 6 => ("SegmentBench$Draft", "offset", "[I", true)
  | _ => ("SegmentBench$Draft", "size", "I", false)
def tyX0 : Nat → FieldType := fun k => match k with
  | 0 => .array .int
  | 1 => .array .int
  | 2 => .array .int
  | 3 => .array .int
  | 4 => .array .int
  | 5 => .array .int
  | 6 => .array .int
  | _ => .int
abbrev wsX00 : List Cond := u_ws RX0 TX0 8
theorem nmX0 : ∀ a, a < 8 → ∀ b, b < 8 → a ≠ b → (TX0 a).2.1 ≠ (TX0 b).2.1 := by decide +kernel
theorem tyX0_ok : ∀ k, k < 8 → parseFieldDescriptor (TX0 k).2.2.1 = some (tyX0 k) := by decide +kernel
abbrev cX0_init : ByteArray := prog_2_method_1_code
def yX0_init : MethodName := ⟨RX0, "<init>", "()V"⟩
abbrev cX0_add : ByteArray := prog_2_method_2_code
def yX0_add : MethodName := ⟨RX0, "add", "(IIIII)V"⟩
abbrev cX0_addByte : ByteArray := prog_2_method_3_code
def yX0_addByte : MethodName := ⟨RX0, "addByte", "(I)V"⟩
abbrev cX0_addValue : ByteArray := prog_2_method_4_code
def yX0_addValue : MethodName := ⟨RX0, "addValue", "(LSegmentBench$Operand;)V"⟩
abbrev cX0_addWithM : ByteArray := prog_2_method_5_code
def yX0_addWithM : MethodName := ⟨RX0, "addWithM", "(ILSegmentBench$Operand;I)V"⟩
abbrev cX0_bytesOf : ByteArray := prog_2_method_6_code
def yX0_bytesOf : MethodName := ⟨RX0, "bytesOf", "(I)I"⟩
def RX1 : String := "SegmentBench$Image"
def TX1 : u_T := fun k => match k with
  | 0 => ("SegmentBench$Image", "there", "Z", false)
  | 1 => ("SegmentBench$Image", "size", "I", false)
  | 2 => ("SegmentBench$Image", "bytes", "[I", true)
  | 3 => ("SegmentBench$Image", "relocations", "I", false)
  | 4 => ("SegmentBench$Image", "relocation", "[I", true)
  | 5 => ("SegmentBench$Image", "mainParagraph", "I", false)
  | _ => ("SegmentBench$Image", "mainOffset", "I", false)
def tyX1 : Nat → FieldType := fun k => match k with
  | 0 => .boolean
  | 1 => .int
  | 2 => .array .int
  | 3 => .int
  | 4 => .array .int
  | 5 => .int
  | _ => .int
abbrev wsX10 : List Cond := u_ws RX1 TX1 7
theorem nmX1 : ∀ a, a < 7 → ∀ b, b < 7 → a ≠ b → (TX1 a).2.1 ≠ (TX1 b).2.1 := by decide +kernel
theorem tyX1_ok : ∀ k, k < 7 → parseFieldDescriptor (TX1 k).2.2.1 = some (tyX1 k) := by decide +kernel
abbrev cX1_init : ByteArray := prog_3_method_1_code
def yX1_init : MethodName := ⟨RX1, "<init>", "()V"⟩
abbrev cX1_begin : ByteArray := prog_3_method_2_code
def yX1_begin : MethodName := ⟨RX1, "begin", "(I)V"⟩
abbrev cX1_addRelocation : ByteArray := prog_3_method_3_code
def yX1_addRelocation : MethodName := ⟨RX1, "addRelocation", "(I)V"⟩
abbrev cX1_addWord : ByteArray := prog_3_method_4_code
def yX1_addWord : MethodName := ⟨RX1, "addWord", "(II)V"⟩
def RX2 : String := "SegmentBench$Layout"
def TX2 : u_T := fun k => match k with
  | 0 => ("SegmentBench$Layout", "draft", "LSegmentBench$Draft;", true)
  | 1 => ("SegmentBench$Layout", "names", "LSegmentBench$Names;", true)
  | 2 => ("SegmentBench$Layout", "segmentName", "[I", true)
  | 3 => ("SegmentBench$Layout", "segmentSize", "[I", true)
  | 4 => ("SegmentBench$Layout", "segments", "I", false)
  | _ => ("SegmentBench$Layout", "wrong", "I", false)
def tyX2 : Nat → FieldType := fun k => match k with
  | 0 => .object "SegmentBench$Draft"
  | 1 => .object "SegmentBench$Names"
  | 2 => .array .int
  | 3 => .array .int
  | 4 => .int
  | _ => .int
abbrev wsX20 : List Cond := u_ws RX2 TX2 6
theorem nmX2 : ∀ a, a < 6 → ∀ b, b < 6 → a ≠ b → (TX2 a).2.1 ≠ (TX2 b).2.1 := by decide +kernel
theorem tyX2_ok : ∀ k, k < 6 → parseFieldDescriptor (TX2 k).2.2.1 = some (tyX2 k) := by decide +kernel
abbrev cX2_init : ByteArray := prog_4_method_1_code
def yX2_init : MethodName := ⟨RX2, "<init>", "(LSegmentBench$Draft;LSegmentBench$Names;)V"⟩
abbrev cX2_isShort : ByteArray := prog_4_method_2_code
def yX2_isShort : MethodName := ⟨RX2, "isShort", "(I)Z"⟩
abbrev cX2_firstWrong : ByteArray := prog_4_method_3_code
def yX2_firstWrong : MethodName := ⟨RX2, "firstWrong", "()I"⟩
abbrev cX2_blame : ByteArray := prog_4_method_4_code
def yX2_blame : MethodName := ⟨RX2, "blame", "(I)V"⟩
abbrev cX2_declareAll : ByteArray := prog_4_method_5_code
def yX2_declareAll : MethodName := ⟨RX2, "declareAll", "()V"⟩
abbrev cX2_mayDeclare : ByteArray := prog_4_method_6_code
def yX2_mayDeclare : MethodName := ⟨RX2, "mayDeclare", "(I)Z"⟩
abbrev cX2_declare : ByteArray := prog_4_method_7_code
def yX2_declare : MethodName := ⟨RX2, "declare", "(III)V"⟩
abbrev cX2_openSegment : ByteArray := prog_4_method_8_code
def yX2_openSegment : MethodName := ⟨RX2, "openSegment", "(II)I"⟩
abbrev cX2_isUseRight : ByteArray := prog_4_method_9_code
def yX2_isUseRight : MethodName := ⟨RX2, "isUseRight", "(I)Z"⟩
abbrev cX2_sizeJumps : ByteArray := prog_4_method_10_code
def yX2_sizeJumps : MethodName := ⟨RX2, "sizeJumps", "()I"⟩
abbrev cX2_measure : ByteArray := prog_4_method_11_code
def yX2_measure : MethodName := ⟨RX2, "measure", "()V"⟩
abbrev cX2_growJumps : ByteArray := prog_4_method_12_code
def yX2_growJumps : MethodName := ⟨RX2, "growJumps", "()Z"⟩
abbrev cX2_isExtern : ByteArray := prog_4_method_13_code
def yX2_isExtern : MethodName := ⟨RX2, "isExtern", "(I)Z"⟩
abbrev cX2_distance : ByteArray := prog_4_method_14_code
def yX2_distance : MethodName := ⟨RX2, "distance", "(I)I"⟩
abbrev cX2_firstTooFar : ByteArray := prog_4_method_15_code
def yX2_firstTooFar : MethodName := ⟨RX2, "firstTooFa\x72", "()I"⟩
abbrev cX2_write : ByteArray := prog_4_method_16_code
def yX2_write : MethodName := ⟨RX2, "write", "(LSegmentBench$ObjectModule;)V"⟩
abbrev cX2_writeItem : ByteArray := prog_4_method_17_code
def yX2_writeItem : MethodName := ⟨RX2, "writeItem", "(LSegmentBench$ObjectModule;I)V"⟩
abbrev cX2_writeOffset : ByteArray := prog_4_method_18_code
def yX2_writeOffset : MethodName := ⟨RX2, "writeOffset", "(LSegmentBench$ObjectModule;II)V"⟩
abbrev cX2_writeFixup : ByteArray := prog_4_method_19_code
def yX2_writeFixup : MethodName := ⟨RX2, "writeFixup", "(LSegmentBench$ObjectModule;III)V"⟩
abbrev cX2_writeJump : ByteArray := prog_4_method_20_code
def yX2_writeJump : MethodName := ⟨RX2, "writeJump", "(LSegmentBench$ObjectModule;I)V"⟩
abbrev cX2_writeNear : ByteArray := prog_4_method_21_code
def yX2_writeNear : MethodName := ⟨RX2, "writeNea\x72", "(LSegmentBench$ObjectModule;I)V"⟩
def RX3 : String := "SegmentBench$Linke\x72"
def TX3 : u_T := fun k => match k with
  | 0 => ("SegmentBench$Linke\x72", "modules", "[LSegmentBench$ObjectModule;", true)
  | 1 => ("SegmentBench$Linke\x72", "name", "[J", true)
  | 2 => ("SegmentBench$Linke\x72", "size", "[I", true)
  | 3 => ("SegmentBench$Linke\x72", "place", "[I", true)
  | 4 => ("SegmentBench$Linke\x72", "combined", "I", false)
  | 5 => ("SegmentBench$Linke\x72", "whole", "[I", true)
  | _ => ("SegmentBench$Linke\x72", "begin", "[I", true)
def tyX3 : Nat → FieldType := fun k => match k with
  | 0 => .array (.object "SegmentBench$ObjectModule")
  | 1 => .array .long
  | 2 => .array .int
  | 3 => .array .int
  | 4 => .int
  | 5 => .array .int
  | _ => .array .int
abbrev wsX30 : List Cond := u_ws RX3 TX3 7
theorem nmX3 : ∀ a, a < 7 → ∀ b, b < 7 → a ≠ b → (TX3 a).2.1 ≠ (TX3 b).2.1 := by decide +kernel
theorem tyX3_ok : ∀ k, k < 7 → parseFieldDescriptor (TX3 k).2.2.1 = some (tyX3 k) := by decide +kernel
abbrev cX3_init : ByteArray := prog_5_method_1_code
def yX3_init : MethodName := ⟨RX3, "<init>", "([LSegmentBench$ObjectModule;)V"⟩
abbrev cX3_part : ByteArray := prog_5_method_2_code
def yX3_part : MethodName := ⟨RX3, "part", "(II)I"⟩
abbrev cX3_hasModules : ByteArray := prog_5_method_3_code
def yX3_hasModules : MethodName := ⟨RX3, "hasModules", "()Z"⟩
abbrev cX3_publicModule : ByteArray := prog_5_method_4_code
def yX3_publicModule : MethodName := ⟨RX3, "publicModule", "(JI)I"⟩
abbrev cX3_hasMain : ByteArray := prog_5_method_5_code
def yX3_hasMain : MethodName := ⟨RX3, "hasMain", "()Z"⟩
abbrev cX3_firstPublicTwice : ByteArray := prog_5_method_6_code
def yX3_firstPublicTwice : MethodName := ⟨RX3, "firstPublicTwice", "()I"⟩
abbrev cX3_firstUnsolved : ByteArray := prog_5_method_7_code
def yX3_firstUnsolved : MethodName := ⟨RX3, "firstUnsolved", "()I"⟩
abbrev cX3_combine : ByteArray := prog_5_method_8_code
def yX3_combine : MethodName := ⟨RX3, "combine", "()I"⟩
abbrev cX3_addPart : ByteArray := prog_5_method_9_code
def yX3_addPart : MethodName := ⟨RX3, "addPart", "(II)V"⟩
abbrev cX3_combinedNumber : ByteArray := prog_5_method_10_code
def yX3_combinedNumber : MethodName := ⟨RX3, "combinedNumbe\x72", "(J)I"⟩
abbrev cX3_publicPart : ByteArray := prog_5_method_11_code
def yX3_publicPart : MethodName := ⟨RX3, "publicPart", "(J)I"⟩
abbrev cX3_publicOffset : ByteArray := prog_5_method_12_code
def yX3_publicOffset : MethodName := ⟨RX3, "publicOffset", "(J)I"⟩
abbrev cX3_firstApart : ByteArray := prog_5_method_13_code
def yX3_firstApart : MethodName := ⟨RX3, "firstApart", "()I"⟩
abbrev cX3_write : ByteArray := prog_5_method_14_code
def yX3_write : MethodName := ⟨RX3, "write", "(LSegmentBench$Image;I)V"⟩
abbrev cX3_placeOf : ByteArray := prog_5_method_15_code
def yX3_placeOf : MethodName := ⟨RX3, "placeOf", "(I)I"⟩
abbrev cX3_solve : ByteArray := prog_5_method_16_code
def yX3_solve : MethodName := ⟨RX3, "solve", "(LSegmentBench$Image;II)V"⟩
def RX4 : String := "SegmentBench$Machine"
def TX4 : u_T := fun k => match k with
  | 0 => ("SegmentBench$Machine", "cells", "[I", true)
  | 1 => ("SegmentBench$Machine", "general", "[I", true)
  | 2 => ("SegmentBench$Machine", "segment", "[I", true)
  | 3 => ("SegmentBench$Machine", "ip", "I", false)
  | 4 => ("SegmentBench$Machine", "carry", "I", false)
  | 5 => ("SegmentBench$Machine", "zero", "I", false)
  | 6 => ("SegmentBench$Machine", "sign", "I", false)
  | 7 => ("SegmentBench$Machine", "halted", "Z", false)
  | 8 => ("SegmentBench$Machine", "done", "I", false)
  | 9 => ("SegmentBench$Machine", "ints", "I", false)
  | 10 => ("SegmentBench$Machine", "told", "[I", true)
  | 11 => ("SegmentBench$Machine", "k", "I", false)
  | 12 => ("SegmentBench$Machine", "slot", "I", false)
  | _ => ("SegmentBench$Machine", "address", "I", false)
def tyX4 : Nat → FieldType := fun k => match k with
  | 0 => .array .int
  | 1 => .array .int
  | 2 => .array .int
  | 3 => .int
  | 4 => .int
  | 5 => .int
  | 6 => .int
  | 7 => .boolean
  | 8 => .int
  | 9 => .int
  | 10 => .array .int
  | 11 => .int
  | 12 => .int
  | _ => .int
abbrev wsX40 : List Cond := u_ws RX4 TX4 14
theorem nmX4 : ∀ a, a < 14 → ∀ b, b < 14 → a ≠ b → (TX4 a).2.1 ≠ (TX4 b).2.1 := by decide +kernel
theorem tyX4_ok : ∀ k, k < 14 → parseFieldDescriptor (TX4 k).2.2.1 = some (tyX4 k) := by decide +kernel
abbrev cX4_init : ByteArray := prog_6_method_1_code
def yX4_init : MethodName := ⟨RX4, "<init>", "()V"⟩
abbrev cX4_start : ByteArray := prog_6_method_2_code
def yX4_start : MethodName := ⟨RX4, "start", "(LSegmentBench$Image;I)V"⟩
abbrev cX4_go : ByteArray := prog_6_method_3_code
def yX4_go : MethodName := ⟨RX4, "go", "(I)I"⟩
abbrev cX4_word : ByteArray := prog_6_method_4_code
def yX4_word : MethodName := ⟨RX4, "word", "(I)I"⟩
abbrev cX4_putWord : ByteArray := prog_6_method_5_code
def yX4_putWord : MethodName := ⟨RX4, "putWord", "(II)V"⟩
abbrev cX4_fetch : ByteArray := prog_6_method_6_code
def yX4_fetch : MethodName := ⟨RX4, "fetch", "()I"⟩
abbrev cX4_fetchSigned : ByteArray := prog_6_method_7_code
def yX4_fetchSigned : MethodName := ⟨RX4, "fetchSigned", "()I"⟩
abbrev cX4_fetchWord : ByteArray := prog_6_method_8_code
def yX4_fetchWord : MethodName := ⟨RX4, "fetchWord", "()I"⟩
abbrev cX4_jump : ByteArray := prog_6_method_9_code
def yX4_jump : MethodName := ⟨RX4, "jump", "(I)V"⟩
abbrev cX4_push : ByteArray := prog_6_method_10_code
def yX4_push : MethodName := ⟨RX4, "push", "(I)V"⟩
abbrev cX4_pop : ByteArray := prog_6_method_11_code
def yX4_pop : MethodName := ⟨RX4, "pop", "()I"⟩
abbrev cX4_execute : ByteArray := prog_6_method_12_code
def yX4_execute : MethodName := ⟨RX4, "execute", "(I)I"⟩
abbrev cX4_isArithmetic : ByteArray := prog_6_method_13_code
def yX4_isArithmetic : MethodName := ⟨RX4, "isArithmetic", "(I)Z"⟩
abbrev cX4_executeLow : ByteArray := prog_6_method_14_code
def yX4_executeLow : MethodName := ⟨RX4, "executeLow", "(II)I"⟩
abbrev cX4_executeRegister : ByteArray := prog_6_method_15_code
def yX4_executeRegister : MethodName := ⟨RX4, "executeRegiste\x72", "(II)I"⟩
abbrev cX4_branch : ByteArray := prog_6_method_16_code
def yX4_branch : MethodName := ⟨RX4, "branch", "(I)I"⟩
abbrev cX4_executeM : ByteArray := prog_6_method_17_code
def yX4_executeM : MethodName := ⟨RX4, "executeM", "(I)I"⟩
abbrev cX4_executeFlow : ByteArray := prog_6_method_18_code
def yX4_executeFlow : MethodName := ⟨RX4, "executeFlow", "(I)I"⟩
abbrev cX4_loop : ByteArray := prog_6_method_19_code
def yX4_loop : MethodName := ⟨RX4, "loop", "(I)I"⟩
abbrev cX4_callFar : ByteArray := prog_6_method_20_code
def yX4_callFar : MethodName := ⟨RX4, "callFa\x72", "(II)I"⟩
abbrev cX4_tellInt : ByteArray := prog_6_method_21_code
def yX4_tellInt : MethodName := ⟨RX4, "tellInt", "(I)V"⟩
abbrev cX4_fetchM : ByteArray := prog_6_method_22_code
def yX4_fetchM : MethodName := ⟨RX4, "fetchM", "()V"⟩
abbrev cX4_registerSum : ByteArray := prog_6_method_23_code
def yX4_registerSum : MethodName := ⟨RX4, "registerSum", "(I)I"⟩
abbrev cX4_readM : ByteArray := prog_6_method_24_code
def yX4_readM : MethodName := ⟨RX4, "readM", "()I"⟩
abbrev cX4_writeM : ByteArray := prog_6_method_25_code
def yX4_writeM : MethodName := ⟨RX4, "writeM", "(I)V"⟩
abbrev cX4_judge : ByteArray := prog_6_method_26_code
def yX4_judge : MethodName := ⟨RX4, "judge", "(I)V"⟩
abbrev cX4_arithmeticOnM : ByteArray := prog_6_method_27_code
def yX4_arithmeticOnM : MethodName := ⟨RX4, "arithmeticOnM", "(II)V"⟩
abbrev cX4_arithmetic : ByteArray := prog_6_method_28_code
def yX4_arithmetic : MethodName := ⟨RX4, "arithmetic", "(III)I"⟩
abbrev cX4_shift : ByteArray := prog_6_method_29_code
def yX4_shift : MethodName := ⟨RX4, "shift", "()I"⟩
abbrev cX4_single : ByteArray := prog_6_method_30_code
def yX4_single : MethodName := ⟨RX4, "single", "()I"⟩
abbrev cX4_divide : ByteArray := prog_6_method_31_code
def yX4_divide : MethodName := ⟨RX4, "divide", "(I)I"⟩
def RX5 : String := "SegmentBench$Names"
def TX5 : u_T := fun k => match k with
  | 0 => ("SegmentBench$Names", "word", "[J", true)
  | 1 => ("SegmentBench$Names", "role", "[I", true)
  | 2 => ("SegmentBench$Names", "segment", "[I", true)
  | 3 => ("SegmentBench$Names", "align", "[I", true)
  | 4 => ("SegmentBench$Names", "offset", "[I", true)
  | 5 => ("SegmentBench$Names", "size", "I", false)
  | _ => ("SegmentBench$Names", "crowdedAt", "I", false)
def tyX5 : Nat → FieldType := fun k => match k with
  | 0 => .array .long
  | 1 => .array .int
  | 2 => .array .int
  | 3 => .array .int
  | 4 => .array .int
  | 5 => .int
  | _ => .int
abbrev wsX50 : List Cond := u_ws RX5 TX5 7
theorem nmX5 : ∀ a, a < 7 → ∀ b, b < 7 → a ≠ b → (TX5 a).2.1 ≠ (TX5 b).2.1 := by decide +kernel
theorem tyX5_ok : ∀ k, k < 7 → parseFieldDescriptor (TX5 k).2.2.1 = some (tyX5 k) := by decide +kernel
abbrev cX5_init : ByteArray := prog_7_method_1_code
def yX5_init : MethodName := ⟨RX5, "<init>", "()V"⟩
abbrev cX5_clear : ByteArray := prog_7_method_2_code
def yX5_clear : MethodName := ⟨RX5, "clea\x72", "()V"⟩
abbrev cX5_numberOf : ByteArray := prog_7_method_3_code
def yX5_numberOf : MethodName := ⟨RX5, "numberOf", "(JI)I"⟩
abbrev cX5_make : ByteArray := prog_7_method_4_code
def yX5_make : MethodName := ⟨RX5, "make", "(III)V"⟩
def RX6 : String := "SegmentBench$ObjectModule"
def TX6 : u_T := fun k => match k with
  | 0 => ("SegmentBench$ObjectModule", "there", "Z", false)
  | 1 => ("SegmentBench$ObjectModule", "segments", "I", false)
  | 2 => ("SegmentBench$ObjectModule", "segmentName", "[J", true)
  | 3 => ("SegmentBench$ObjectModule", "segmentAlign", "[I", true)
  | 4 => ("SegmentBench$ObjectModule", "segmentSize", "[I", true)
  | 5 => ("SegmentBench$ObjectModule", "segmentStart", "[I", true)
  | 6 => ("SegmentBench$ObjectModule", "bytes", "[I", true)
  | 7 => ("SegmentBench$ObjectModule", "fixups", "I", false)
  | 8 => ("SegmentBench$ObjectModule", "fixupKind", "[I", true)
  | 9 => ("SegmentBench$ObjectModule", "fixupSegment", "[I", true)
  | 10 => ("SegmentBench$ObjectModule", "fixupPlace", "[I", true)
  | 11 => ("SegmentBench$ObjectModule", "fixupAbout", "[I", true)
  | 12 => ("SegmentBench$ObjectModule", "fixupName", "[J", true)
  | 13 => ("SegmentBench$ObjectModule", "publics", "I", false)
  | 14 => ("SegmentBench$ObjectModule", "publicName", "[J", true)
  | 15 => ("SegmentBench$ObjectModule", "publicSegment", "[I", true)
  | _ => ("SegmentBench$ObjectModule", "publicOffset", "[I", true)
def tyX6 : Nat → FieldType := fun k => match k with
  | 0 => .boolean
  | 1 => .int
  | 2 => .array .long
  | 3 => .array .int
  | 4 => .array .int
  | 5 => .array .int
  | 6 => .array .int
  | 7 => .int
  | 8 => .array .int
  | 9 => .array .int
  | 10 => .array .int
  | 11 => .array .int
  | 12 => .array .long
  | 13 => .int
  | 14 => .array .long
  | 15 => .array .int
  | _ => .array .int
abbrev wsX60 : List Cond := u_ws RX6 TX6 17
theorem nmX6 : ∀ a, a < 17 → ∀ b, b < 17 → a ≠ b → (TX6 a).2.1 ≠ (TX6 b).2.1 := by decide +kernel
theorem tyX6_ok : ∀ k, k < 17 → parseFieldDescriptor (TX6 k).2.2.1 = some (tyX6 k) := by decide +kernel
abbrev cX6_init : ByteArray := prog_8_method_1_code
def yX6_init : MethodName := ⟨RX6, "<init>", "()V"⟩
abbrev cX6_clear : ByteArray := prog_8_method_2_code
def yX6_clear : MethodName := ⟨RX6, "clea\x72", "()V"⟩
abbrev cX6_addSegment : ByteArray := prog_8_method_3_code
def yX6_addSegment : MethodName := ⟨RX6, "addSegment", "(JII)V"⟩
abbrev cX6_addPublic : ByteArray := prog_8_method_4_code
def yX6_addPublic : MethodName := ⟨RX6, "addPublic", "(JII)V"⟩
abbrev cX6_publicNumber : ByteArray := prog_8_method_5_code
def yX6_publicNumber : MethodName := ⟨RX6, "publicNumbe\x72", "(J)I"⟩
abbrev cX6_addFixup : ByteArray := prog_8_method_6_code
def yX6_addFixup : MethodName := ⟨RX6, "addFixup", "(IIIIJ)V"⟩
abbrev cX6_putByte : ByteArray := prog_8_method_7_code
def yX6_putByte : MethodName := ⟨RX6, "putByte", "(III)V"⟩
abbrev cX6_putWord : ByteArray := prog_8_method_8_code
def yX6_putWord : MethodName := ⟨RX6, "putWord", "(III)V"⟩
def RX7 : String := "SegmentBench$Operand"
def TX7 : u_T := fun k => match k with
  | 0 => ("SegmentBench$Operand", "kind", "I", false)
  | 1 => ("SegmentBench$Operand", "code", "I", false)
  | 2 => ("SegmentBench$Operand", "numbe\x72", "I", false)
  | 3 => ("SegmentBench$Operand", "name", "I", false)
  | 4 => ("SegmentBench$Operand", "namePlace", "I", false)
  | 5 => ("SegmentBench$Operand", "paragraph", "Z", false)
  | 6 => ("SegmentBench$Operand", "base", "I", false)
  | _ => ("SegmentBench$Operand", "index", "I", false)
def tyX7 : Nat → FieldType := fun k => match k with
  | 0 => .int
  | 1 => .int
  | 2 => .int
  | 3 => .int
  | 4 => .int
  | 5 => .boolean
  | 6 => .int
  | _ => .int
abbrev wsX70 : List Cond := u_ws RX7 TX7 8
theorem nmX7 : ∀ a, a < 8 → ∀ b, b < 8 → a ≠ b → (TX7 a).2.1 ≠ (TX7 b).2.1 := by decide +kernel
theorem tyX7_ok : ∀ k, k < 8 → parseFieldDescriptor (TX7 k).2.2.1 = some (tyX7 k) := by decide +kernel
abbrev cX7_init : ByteArray := prog_9_method_1_code
def yX7_init : MethodName := ⟨RX7, "<init>", "()V"⟩
abbrev cX7_clear : ByteArray := prog_9_method_2_code
def yX7_clear : MethodName := ⟨RX7, "clea\x72", "(I)V"⟩
abbrev cX7_isBare : ByteArray := prog_9_method_3_code
def yX7_isBare : MethodName := ⟨RX7, "isBare", "()Z"⟩
abbrev cX7_mode : ByteArray := prog_9_method_4_code
def yX7_mode : MethodName := ⟨RX7, "mode", "()I"⟩
abbrev cX7_signedNumber : ByteArray := prog_9_method_5_code
def yX7_signedNumber : MethodName := ⟨RX7, "signedNumbe\x72", "()I"⟩
abbrev cX7_displacementSize : ByteArray := prog_9_method_6_code
def yX7_displacementSize : MethodName := ⟨RX7, "displacementSize", "()I"⟩
def RX8 : String := "SegmentBench$Parse\x72"
def TX8 : u_T := fun k => match k with
  | 0 => ("SegmentBench$Parse\x72", "tokens", "LSegmentBench$Tokens;", true)
  | 1 => ("SegmentBench$Parse\x72", "draft", "LSegmentBench$Draft;", true)
  | 2 => ("SegmentBench$Parse\x72", "left", "LSegmentBench$Operand;", true)
  | 3 => ("SegmentBench$Parse\x72", "right", "LSegmentBench$Operand;", true)
  | 4 => ("SegmentBench$Parse\x72", "at", "I", false)
  | _ => ("SegmentBench$Parse\x72", "opened", "Z", false)
def tyX8 : Nat → FieldType := fun k => match k with
  | 0 => .object "SegmentBench$Tokens"
  | 1 => .object "SegmentBench$Draft"
  | 2 => .object "SegmentBench$Operand"
  | 3 => .object "SegmentBench$Operand"
  | 4 => .int
  | _ => .boolean
abbrev wsX80 : List Cond := u_ws RX8 TX8 6
theorem nmX8 : ∀ a, a < 6 → ∀ b, b < 6 → a ≠ b → (TX8 a).2.1 ≠ (TX8 b).2.1 := by decide +kernel
theorem tyX8_ok : ∀ k, k < 6 → parseFieldDescriptor (TX8 k).2.2.1 = some (tyX8 k) := by decide +kernel
abbrev cX8_init : ByteArray := prog_10_method_1_code
def yX8_init : MethodName := ⟨RX8, "<init>", "(LSegmentBench$Tokens;LSegmentBench$Draft;)V"⟩
abbrev cX8_parse : ByteArray := prog_10_method_2_code
def yX8_parse : MethodName := ⟨RX8, "parse", "()I"⟩
abbrev cX8_type : ByteArray := prog_10_method_3_code
def yX8_type : MethodName := ⟨RX8, "type", "()I"⟩
abbrev cX8_value : ByteArray := prog_10_method_4_code
def yX8_value : MethodName := ⟨RX8, "value", "()I"⟩
abbrev cX8_take : ByteArray := prog_10_method_5_code
def yX8_take : MethodName := ⟨RX8, "take", "(I)Z"⟩
abbrev cX8_label : ByteArray := prog_10_method_6_code
def yX8_label : MethodName := ⟨RX8, "label", "()Z"⟩
abbrev cX8_addNamed : ByteArray := prog_10_method_7_code
def yX8_addNamed : MethodName := ⟨RX8, "addNamed", "(III)V"⟩
abbrev cX8_mayStand : ByteArray := prog_10_method_8_code
def yX8_mayStand : MethodName := ⟨RX8, "mayStand", "(I)Z"⟩
abbrev cX8_directive : ByteArray := prog_10_method_9_code
def yX8_directive : MethodName := ⟨RX8, "directive", "(I)Z"⟩
abbrev cX8_instruction : ByteArray := prog_10_method_10_code
def yX8_instruction : MethodName := ⟨RX8, "instruction", "(II)Z"⟩
abbrev cX8_seg : ByteArray := prog_10_method_11_code
def yX8_seg : MethodName := ⟨RX8, "seg", "()Z"⟩
abbrev cX8_isAlign : ByteArray := prog_10_method_12_code
def yX8_isAlign : MethodName := ⟨RX8, "isAlign", "(I)Z"⟩
abbrev cX8_named : ByteArray := prog_10_method_13_code
def yX8_named : MethodName := ⟨RX8, "named", "(II)Z"⟩
abbrev cX8_numbered : ByteArray := prog_10_method_14_code
def yX8_numbered : MethodName := ⟨RX8, "numbered", "(II)Z"⟩
abbrev cX8_words : ByteArray := prog_10_method_15_code
def yX8_words : MethodName := ⟨RX8, "words", "()Z"⟩
abbrev cX8_bytes : ByteArray := prog_10_method_16_code
def yX8_bytes : MethodName := ⟨RX8, "bytes", "()Z"⟩
abbrev cX8_mov : ByteArray := prog_10_method_17_code
def yX8_mov : MethodName := ⟨RX8, "mov", "()Z"⟩
abbrev cX8_arithmetic : ByteArray := prog_10_method_18_code
def yX8_arithmetic : MethodName := ⟨RX8, "arithmetic", "(I)Z"⟩
abbrev cX8_onRegister : ByteArray := prog_10_method_19_code
def yX8_onRegister : MethodName := ⟨RX8, "onRegiste\x72", "(III)Z"⟩
abbrev cX8_single : ByteArray := prog_10_method_20_code
def yX8_single : MethodName := ⟨RX8, "single", "(II)Z"⟩
abbrev cX8_operand : ByteArray := prog_10_method_21_code
def yX8_operand : MethodName := ⟨RX8, "operand", "(LSegmentBench$Operand;I)Z"⟩
abbrev cX8_coded : ByteArray := prog_10_method_22_code
def yX8_coded : MethodName := ⟨RX8, "coded", "(LSegmentBench$Operand;I)Z"⟩
abbrev cX8_plainValue : ByteArray := prog_10_method_23_code
def yX8_plainValue : MethodName := ⟨RX8, "plainValue", "(LSegmentBench$Operand;)Z"⟩
abbrev cX8_brackets : ByteArray := prog_10_method_24_code
def yX8_brackets : MethodName := ⟨RX8, "brackets", "(LSegmentBench$Operand;)Z"⟩
abbrev cX8_part : ByteArray := prog_10_method_25_code
def yX8_part : MethodName := ⟨RX8, "part", "(LSegmentBench$Operand;)Z"⟩
def RX9 : String := "SegmentBench$Tokens"
def TX9 : u_T := fun k => match k with
  | 0 => ("SegmentBench$Tokens", "type", "[I", true)
  | 1 => ("SegmentBench$Tokens", "value", "[I", true)
  | 2 => ("SegmentBench$Tokens", "place", "[I", true)
  | 3 => ("SegmentBench$Tokens", "size", "I", false)
  | _ => ("SegmentBench$Tokens", "names", "LSegmentBench$Names;", true)
def tyX9 : Nat → FieldType := fun k => match k with
  | 0 => .array .int
  | 1 => .array .int
  | 2 => .array .int
  | 3 => .int
  | _ => .object "SegmentBench$Names"
abbrev wsX90 : List Cond := u_ws RX9 TX9 5
theorem nmX9 : ∀ a, a < 5 → ∀ b, b < 5 → a ≠ b → (TX9 a).2.1 ≠ (TX9 b).2.1 := by decide +kernel
theorem tyX9_ok : ∀ k, k < 5 → parseFieldDescriptor (TX9 k).2.2.1 = some (tyX9 k) := by decide +kernel
abbrev cX9_init : ByteArray := prog_11_method_1_code
def yX9_init : MethodName := ⟨RX9, "<init>", "(LSegmentBench$Names;)V"⟩
abbrev cX9_read : ByteArray := prog_11_method_2_code
def yX9_read : MethodName := ⟨RX9, "read", "([CI)V"⟩
abbrev cX9_put : ByteArray := prog_11_method_3_code
def yX9_put : MethodName := ⟨RX9, "put", "(III)V"⟩
abbrev cX9_readNumber : ByteArray := prog_11_method_4_code
def yX9_readNumber : MethodName := ⟨RX9, "readNumbe\x72", "([CII)I"⟩
abbrev cX9_readWord : ByteArray := prog_11_method_5_code
def yX9_readWord : MethodName := ⟨RX9, "readWord", "([CII)I"⟩
abbrev cX9_ordinal : ByteArray := prog_11_method_6_code
def yX9_ordinal : MethodName := ⟨RX9, "ordinal", "(Ljava/lang/String;[CII)I"⟩
abbrev cX9_isLetter : ByteArray := prog_11_method_7_code
def yX9_isLetter : MethodName := ⟨RX9, "isLette\x72", "(C)Z"⟩
abbrev cX9_isDigit : ByteArray := prog_11_method_8_code
def yX9_isDigit : MethodName := ⟨RX9, "isDigit", "(C)Z"⟩
def RX10 : String := "SegmentBench"
def TX10 : u_T := fun k => match k with
  | 0 => ("SegmentBench", "text", "[C", true)
  | 1 => ("SegmentBench", "length", "I", false)
  | 2 => ("SegmentBench", "kind", "I", false)
  | 3 => ("SegmentBench", "place", "I", false)
  | 4 => ("SegmentBench", "names", "LSegmentBench$Names;", true)
  | 5 => ("SegmentBench", "tokens", "LSegmentBench$Tokens;", true)
  | 6 => ("SegmentBench", "parse\x72", "LSegmentBench$Parser;", true)
  | 7 => ("SegmentBench", "layout", "LSegmentBench$Layout;", true)
  | 8 => ("SegmentBench", "modules", "[LSegmentBench$ObjectModule;", true)
  | 9 => ("SegmentBench", "linke\x72", "LSegmentBench$Linker;", true)
  | 10 => ("SegmentBench", "image", "LSegmentBench$Image;", true)
  | _ => ("SegmentBench", "machine", "LSegmentBench$Machine;", true)
def tyX10 : Nat → FieldType := fun k => match k with
  | 0 => .array .char
  | 1 => .int
  | 2 => .int
  | 3 => .int
  | 4 => .object "SegmentBench$Names"
  | 5 => .object "SegmentBench$Tokens"
  | 6 => .object "SegmentBench$Parse\x72"
  | 7 => .object "SegmentBench$Layout"
  | 8 => .array (.object "SegmentBench$ObjectModule")
  | 9 => .object "SegmentBench$Linke\x72"
  | 10 => .object "SegmentBench$Image"
  | _ => .object "SegmentBench$Machine"
abbrev wsX100 : List Cond := u_ws RX10 TX10 12
theorem nmX10 : ∀ a, a < 12 → ∀ b, b < 12 → a ≠ b → (TX10 a).2.1 ≠ (TX10 b).2.1 := by decide +kernel
theorem tyX10_ok : ∀ k, k < 12 → parseFieldDescriptor (TX10 k).2.2.1 = some (tyX10 k) := by decide +kernel
abbrev cX10_init : ByteArray := prog_1_method_1_code
def yX10_init : MethodName := ⟨RX10, "<init>", "()V"⟩
abbrev cX10_append : ByteArray := prog_1_method_2_code
def yX10_append : MethodName := ⟨RX10, "append", "(JI)I"⟩
abbrev cX10_assemble : ByteArray := prog_1_method_3_code
def yX10_assemble : MethodName := ⟨RX10, "assemble", "(I)I"⟩
abbrev cX10_drop : ByteArray := prog_1_method_4_code
def yX10_drop : MethodName := ⟨RX10, "drop", "(I)Z"⟩
abbrev cX10_link : ByteArray := prog_1_method_5_code
def yX10_link : MethodName := ⟨RX10, "link", "()I"⟩
abbrev cX10_load : ByteArray := prog_1_method_6_code
def yX10_load : MethodName := ⟨RX10, "load", "(I)I"⟩
abbrev cX10_run : ByteArray := prog_1_method_7_code
def yX10_run : MethodName := ⟨RX10, "run", "(I)I"⟩
abbrev cX10_code : ByteArray := prog_1_method_8_code
def yX10_code : MethodName := ⟨RX10, "code", "(III)I"⟩
abbrev cX10_fixup : ByteArray := prog_1_method_9_code
def yX10_fixup : MethodName := ⟨RX10, "fixup", "(III)I"⟩
abbrev cX10_image : ByteArray := prog_1_method_10_code
def yX10_image : MethodName := ⟨RX10, "image", "(I)I"⟩
abbrev cX10_memory : ByteArray := prog_1_method_11_code
def yX10_memory : MethodName := ⟨RX10, "memory", "(I)I"⟩
abbrev cX10_register : ByteArray := prog_1_method_12_code
def yX10_register : MethodName := ⟨RX10, "registe\x72", "(I)I"⟩
abbrev cX10_trace : ByteArray := prog_1_method_13_code
def yX10_trace : MethodName := ⟨RX10, "trace", "(I)I"⟩
abbrev cX10_count : ByteArray := prog_1_method_14_code
def yX10_count : MethodName := ⟨RX10, "count", "(I)I"⟩
abbrev cX10_tell : ByteArray := prog_1_method_15_code
def yX10_tell : MethodName := ⟨RX10, "tell", "(II)V"⟩
abbrev cX10_isModule : ByteArray := prog_1_method_16_code
def yX10_isModule : MethodName := ⟨RX10, "isModule", "(I)Z"⟩
abbrev cX10_byteOf : ByteArray := prog_1_method_17_code
def yX10_byteOf : MethodName := ⟨RX10, "byteOf", "(JI)I"⟩
abbrev cX10_roundUp : ByteArray := prog_1_method_18_code
def yX10_roundUp : MethodName := ⟨RX10, "roundUp", "(II)I"⟩
def RX11 : String := "SegmentBenchModel"
def TX11 : u_T := fun k => match k with
  | 0 => ("SegmentBenchModel", "thrown", "I", false)
  | 1 => ("SegmentBenchModel", "text", "[I", true)
  | 2 => ("SegmentBenchModel", "length", "I", false)
  | 3 => ("SegmentBenchModel", "kind", "I", false)
  | 4 => ("SegmentBenchModel", "placeOf", "I", false)
  | 5 => ("SegmentBenchModel", "at", "I", false)
  | 6 => ("SegmentBenchModel", "start", "I", false)
  | 7 => ("SegmentBenchModel", "token", "I", false)
  | 8 => ("SegmentBenchModel", "word", "J", false)
  | 9 => ("SegmentBenchModel", "code", "I", false)
  | 10 => ("SegmentBenchModel", "numbe\x72", "I", false)
  | 11 => ("SegmentBenchModel", "words", "[J", true)
  | 12 => ("SegmentBenchModel", "names", "[J", true)
  | 13 => ("SegmentBenchModel", "sort", "[I", true)
  | 14 => ("SegmentBenchModel", "segmentOf", "[I", true)
  | 15 => ("SegmentBenchModel", "alignOf", "[I", true)
  | 16 => ("SegmentBenchModel", "offsetOf", "[I", true)
  | 17 => ("SegmentBenchModel", "nameCount", "I", false)
  | 18 => ("SegmentBenchModel", "wrong", "I", false)
  | 19 => ("SegmentBenchModel", "useKind", "[I", true)
  | 20 => ("SegmentBenchModel", "useName", "[I", true)
  | 21 => ("SegmentBenchModel", "usePlace", "[I", true)
  | 22 => ("SegmentBenchModel", "useSegment", "[I", true)
  | 23 => ("SegmentBenchModel", "uses", "I", false)
  | 24 => ("SegmentBenchModel", "pieceKind", "[I", true)
  | 25 => ("SegmentBenchModel", "pieceA", "[I", true)
  | 26 => ("SegmentBenchModel", "pieceB", "[I", true)
  | 27 => ("SegmentBenchModel", "piecePlace", "[I", true)
  | 28 => ("SegmentBenchModel", "pieceSegment", "[I", true)
  | 29 => ("SegmentBenchModel", "pieceAt", "[I", true)
  | 30 => ("SegmentBenchModel", "nea\x72", "[Z", true)
  | 31 => ("SegmentBenchModel", "pieces", "I", false)
  | 32 => ("SegmentBenchModel", "segment", "I", false)
  | 33 => ("SegmentBenchModel", "segSeen", "Z", false)
  | 34 => ("SegmentBenchModel", "segments", "I", false)
  | 35 => ("SegmentBenchModel", "segName", "[I", true)
  | 36 => ("SegmentBenchModel", "segSize", "[I", true)
  | 37 => ("SegmentBenchModel", "operand", "I", false)
  | 38 => ("SegmentBenchModel", "opCode", "I", false)
  | 39 => ("SegmentBenchModel", "opName", "I", false)
  | 40 => ("SegmentBenchModel", "opPlace", "I", false)
  | 41 => ("SegmentBenchModel", "opBase", "I", false)
  | 42 => ("SegmentBenchModel", "opIndex", "I", false)
  | 43 => ("SegmentBenchModel", "there", "[Z", true)
  | 44 => ("SegmentBenchModel", "mSegments", "[I", true)
  | 45 => ("SegmentBenchModel", "mName", "[J", true)
  | 46 => ("SegmentBenchModel", "mAlign", "[I", true)
  | 47 => ("SegmentBenchModel", "mStart", "[I", true)
  | 48 => ("SegmentBenchModel", "mSize", "[I", true)
  | 49 => ("SegmentBenchModel", "mBytes", "[I", true)
  | 50 => ("SegmentBenchModel", "mFixups", "[I", true)
  | 51 => ("SegmentBenchModel", "fKind", "[I", true)
  | 52 => ("SegmentBenchModel", "fSegment", "[I", true)
  | 53 => ("SegmentBenchModel", "fPlace", "[I", true)
  | 54 => ("SegmentBenchModel", "fAbout", "[I", true)
  | 55 => ("SegmentBenchModel", "fName", "[J", true)
  | 56 => ("SegmentBenchModel", "mPublics", "[I", true)
  | 57 => ("SegmentBenchModel", "pName", "[J", true)
  | 58 => ("SegmentBenchModel", "pSegment", "[I", true)
  | 59 => ("SegmentBenchModel", "pOffset", "[I", true)
  | 60 => ("SegmentBenchModel", "hasImage", "Z", false)
  | 61 => ("SegmentBenchModel", "image", "[I", true)
  | 62 => ("SegmentBenchModel", "imageLength", "I", false)
  | 63 => ("SegmentBenchModel", "relocation", "[I", true)
  | 64 => ("SegmentBenchModel", "relocations", "I", false)
  | 65 => ("SegmentBenchModel", "mainParagraph", "I", false)
  | 66 => ("SegmentBenchModel", "mainOffset", "I", false)
  | 67 => ("SegmentBenchModel", "draft", "[I", true)
  | 68 => ("SegmentBenchModel", "cName", "[J", true)
  | 69 => ("SegmentBenchModel", "cSize", "[I", true)
  | 70 => ("SegmentBenchModel", "cStart", "[I", true)
  | 71 => ("SegmentBenchModel", "partOf", "[I", true)
  | 72 => ("SegmentBenchModel", "partAt", "[I", true)
  | 73 => ("SegmentBenchModel", "combined", "I", false)
  | 74 => ("SegmentBenchModel", "memory", "[I", true)
  | 75 => ("SegmentBenchModel", "\x72", "[I", true)
  | 76 => ("SegmentBenchModel", "halted", "Z", false)
  | 77 => ("SegmentBenchModel", "done", "I", false)
  | 78 => ("SegmentBenchModel", "ints", "I", false)
  | 79 => ("SegmentBenchModel", "trace", "[I", true)
  | 80 => ("SegmentBenchModel", "ip", "I", false)
  | 81 => ("SegmentBenchModel", "form", "I", false)
  | 82 => ("SegmentBenchModel", "formK", "I", false)
  | 83 => ("SegmentBenchModel", "formS", "I", false)
  | _ => ("SegmentBenchModel", "formX", "I", false)
def tyX11 : Nat → FieldType := fun k => match k with
  | 0 => .int
  | 1 => .array .int
  | 2 => .int
  | 3 => .int
  | 4 => .int
  | 5 => .int
  | 6 => .int
  | 7 => .int
  | 8 => .long
  | 9 => .int
  | 10 => .int
  | 11 => .array .long
  | 12 => .array .long
  | 13 => .array .int
  | 14 => .array .int
  | 15 => .array .int
  | 16 => .array .int
  | 17 => .int
  | 18 => .int
  | 19 => .array .int
  | 20 => .array .int
  | 21 => .array .int
  | 22 => .array .int
  | 23 => .int
  | 24 => .array .int
  | 25 => .array .int
  | 26 => .array .int
  | 27 => .array .int
  | 28 => .array .int
  | 29 => .array .int
  | 30 => .array .boolean
  | 31 => .int
  | 32 => .int
  | 33 => .boolean
  | 34 => .int
  | 35 => .array .int
  | 36 => .array .int
  | 37 => .int
  | 38 => .int
  | 39 => .int
  | 40 => .int
  | 41 => .int
  | 42 => .int
  | 43 => .array .boolean
  | 44 => .array .int
  | 45 => .array .long
  | 46 => .array .int
  | 47 => .array .int
  | 48 => .array .int
  | 49 => .array .int
  | 50 => .array .int
  | 51 => .array .int
  | 52 => .array .int
  | 53 => .array .int
  | 54 => .array .int
  | 55 => .array .long
  | 56 => .array .int
  | 57 => .array .long
  | 58 => .array .int
  | 59 => .array .int
  | 60 => .boolean
  | 61 => .array .int
  | 62 => .int
  | 63 => .array .int
  | 64 => .int
  | 65 => .int
  | 66 => .int
  | 67 => .array .int
  | 68 => .array .long
  | 69 => .array .int
  | 70 => .array .int
  | 71 => .array .int
  | 72 => .array .int
  | 73 => .int
  | 74 => .array .int
  | 75 => .array .int
  | 76 => .boolean
  | 77 => .int
  | 78 => .int
  | 79 => .array .int
  | 80 => .int
  | 81 => .int
  | 82 => .int
  | 83 => .int
  | _ => .int
abbrev wsX110 : List Cond := u_ws RX11 TX11 85
theorem nmX11 : ∀ a, a < 85 → ∀ b, b < 85 → a ≠ b → (TX11 a).2.1 ≠ (TX11 b).2.1 := by decide +kernel
theorem tyX11_ok : ∀ k, k < 85 → parseFieldDescriptor (TX11 k).2.2.1 = some (tyX11 k) := by decide +kernel
abbrev cX11_init : ByteArray := prog_13_method_1_code
def yX11_init : MethodName := ⟨RX11, "<init>", "()V"⟩
abbrev cX11_thrown : ByteArray := prog_13_method_2_code
def yX11_thrown : MethodName := ⟨RX11, "thrown", "()I"⟩
abbrev cX11_raise : ByteArray := prog_13_method_3_code
def yX11_raise : MethodName := ⟨RX11, "raise", "(I)I"⟩
abbrev cX11_letter : ByteArray := prog_13_method_4_code
def yX11_letter : MethodName := ⟨RX11, "lette\x72", "(I)Z"⟩
abbrev cX11_digit : ByteArray := prog_13_method_5_code
def yX11_digit : MethodName := ⟨RX11, "digit", "(I)Z"⟩
abbrev cX11_charAt : ByteArray := prog_13_method_6_code
def yX11_charAt : MethodName := ⟨RX11, "charAt", "(I)I"⟩
abbrev cX11_next : ByteArray := prog_13_method_7_code
def yX11_next : MethodName := ⟨RX11, "next", "()V"⟩
abbrev cX11_fault : ByteArray := prog_13_method_8_code
def yX11_fault : MethodName := ⟨RX11, "fault", "()Z"⟩
abbrev cX11_take : ByteArray := prog_13_method_9_code
def yX11_take : MethodName := ⟨RX11, "take", "(I)Z"⟩
abbrev cX11_isName : ByteArray := prog_13_method_10_code
def yX11_isName : MethodName := ⟨RX11, "isName", "()Z"⟩
abbrev cX11_isWord : ByteArray := prog_13_method_11_code
def yX11_isWord : MethodName := ⟨RX11, "isWord", "(II)Z"⟩
abbrev cX11_wrongAt : ByteArray := prog_13_method_12_code
def yX11_wrongAt : MethodName := ⟨RX11, "wrongAt", "(I)V"⟩
abbrev cX11_name : ByteArray := prog_13_method_13_code
def yX11_name : MethodName := ⟨RX11, "name", "()I"⟩
abbrev cX11_use : ByteArray := prog_13_method_14_code
def yX11_use : MethodName := ⟨RX11, "use", "(III)V"⟩
abbrev cX11_piece : ByteArray := prog_13_method_15_code
def yX11_piece : MethodName := ⟨RX11, "piece", "(IIII)V"⟩
abbrev cX11_octet : ByteArray := prog_13_method_16_code
def yX11_octet : MethodName := ⟨RX11, "octet", "(I)V"⟩
abbrev cX11_label : ByteArray := prog_13_method_17_code
def yX11_label : MethodName := ⟨RX11, "label", "(II)V"⟩
abbrev cX11_open : ByteArray := prog_13_method_18_code
def yX11_open : MethodName := ⟨RX11, "open", "(III)V"⟩
abbrev cX11_directive : ByteArray := prog_13_method_19_code
def yX11_directive : MethodName := ⟨RX11, "directive", "()Z"⟩
abbrev cX11_data : ByteArray := prog_13_method_20_code
def yX11_data : MethodName := ⟨RX11, "data", "(I)Z"⟩
abbrev cX11_value : ByteArray := prog_13_method_21_code
def yX11_value : MethodName := ⟨RX11, "value", "()Z"⟩
abbrev cX11_emitValue : ByteArray := prog_13_method_22_code
def yX11_emitValue : MethodName := ⟨RX11, "emitValue", "()V"⟩
abbrev cX11_memoryOperand : ByteArray := prog_13_method_23_code
def yX11_memoryOperand : MethodName := ⟨RX11, "memoryOperand", "()Z"⟩
abbrev cX11_part : ByteArray := prog_13_method_24_code
def yX11_part : MethodName := ⟨RX11, "part", "()Z"⟩
abbrev cX11_operand : ByteArray := prog_13_method_25_code
def yX11_operand : MethodName := ⟨RX11, "operand", "(I)Z"⟩
abbrev cX11_bits : ByteArray := prog_13_method_26_code
def yX11_bits : MethodName := ⟨RX11, "bits", "()I"⟩
abbrev cX11_emitForm : ByteArray := prog_13_method_27_code
def yX11_emitForm : MethodName := ⟨RX11, "emitForm", "(I)V"⟩
abbrev cX11_mov : ByteArray := prog_13_method_28_code
def yX11_mov : MethodName := ⟨RX11, "mov", "()Z"⟩
abbrev cX11_movTo : ByteArray := prog_13_method_29_code
def yX11_movTo : MethodName := ⟨RX11, "movTo", "(II)Z"⟩
abbrev cX11_reckon : ByteArray := prog_13_method_30_code
def yX11_reckon : MethodName := ⟨RX11, "reckon", "(I)Z"⟩
abbrev cX11_stack : ByteArray := prog_13_method_31_code
def yX11_stack : MethodName := ⟨RX11, "stack", "(I)Z"⟩
abbrev cX11_single : ByteArray := prog_13_method_32_code
def yX11_single : MethodName := ⟨RX11, "single", "(I)Z"⟩
abbrev cX11_jumpCode : ByteArray := prog_13_method_33_code
def yX11_jumpCode : MethodName := ⟨RX11, "jumpCode", "(I)I"⟩
abbrev cX11_jump : ByteArray := prog_13_method_34_code
def yX11_jump : MethodName := ⟨RX11, "jump", "(II)Z"⟩
abbrev cX11_instruction : ByteArray := prog_13_method_35_code
def yX11_instruction : MethodName := ⟨RX11, "instruction", "()Z"⟩
abbrev cX11_item : ByteArray := prog_13_method_36_code
def yX11_item : MethodName := ⟨RX11, "item", "()Z"⟩
abbrev cX11_parse : ByteArray := prog_13_method_37_code
def yX11_parse : MethodName := ⟨RX11, "parse", "()Z"⟩
abbrev cX11_judge : ByteArray := prog_13_method_38_code
def yX11_judge : MethodName := ⟨RX11, "judge", "()V"⟩
abbrev cX11_sizeOf : ByteArray := prog_13_method_39_code
def yX11_sizeOf : MethodName := ⟨RX11, "sizeOf", "(I)I"⟩
abbrev cX11_lay : ByteArray := prog_13_method_40_code
def yX11_lay : MethodName := ⟨RX11, "lay", "()V"⟩
abbrev cX11_distance : ByteArray := prog_13_method_41_code
def yX11_distance : MethodName := ⟨RX11, "distance", "(I)I"⟩
abbrev cX11_isShort : ByteArray := prog_13_method_42_code
def yX11_isShort : MethodName := ⟨RX11, "isShort", "(I)Z"⟩
abbrev cX11_settle : ByteArray := prog_13_method_43_code
def yX11_settle : MethodName := ⟨RX11, "settle", "()V"⟩
abbrev cX11_tell : ByteArray := prog_13_method_44_code
def yX11_tell : MethodName := ⟨RX11, "tell", "(III)I"⟩
abbrev cX11_append : ByteArray := prog_13_method_45_code
def yX11_append : MethodName := ⟨RX11, "append", "(JI)I"⟩
abbrev cX11_assemble : ByteArray := prog_13_method_46_code
def yX11_assemble : MethodName := ⟨RX11, "assemble", "(I)I"⟩
abbrev cX11_write : ByteArray := prog_13_method_47_code
def yX11_write : MethodName := ⟨RX11, "write", "(I)V"⟩
abbrev cX11_set : ByteArray := prog_13_method_48_code
def yX11_set : MethodName := ⟨RX11, "set", "(IIII)V"⟩
abbrev cX11_fix : ByteArray := prog_13_method_49_code
def yX11_fix : MethodName := ⟨RX11, "fix", "(IIIII)V"⟩
abbrev cX11_put : ByteArray := prog_13_method_50_code
def yX11_put : MethodName := ⟨RX11, "put", "(II)V"⟩
abbrev cX11_drop : ByteArray := prog_13_method_51_code
def yX11_drop : MethodName := ⟨RX11, "drop", "(I)Z"⟩
abbrev cX11_publicIn : ByteArray := prog_13_method_52_code
def yX11_publicIn : MethodName := ⟨RX11, "publicIn", "(IJ)I"⟩
abbrev cX11_publicOf : ByteArray := prog_13_method_53_code
def yX11_publicOf : MethodName := ⟨RX11, "publicOf", "(J)I"⟩
abbrev cX11_twice : ByteArray := prog_13_method_54_code
def yX11_twice : MethodName := ⟨RX11, "twice", "()I"⟩
abbrev cX11_missing : ByteArray := prog_13_method_55_code
def yX11_missing : MethodName := ⟨RX11, "missing", "()I"⟩
abbrev cX11_combine : ByteArray := prog_13_method_56_code
def yX11_combine : MethodName := ⟨RX11, "combine", "()V"⟩
abbrev cX11_aboutSegment : ByteArray := prog_13_method_57_code
def yX11_aboutSegment : MethodName := ⟨RX11, "aboutSegment", "(II)I"⟩
abbrev cX11_aboutOffset : ByteArray := prog_13_method_58_code
def yX11_aboutOffset : MethodName := ⟨RX11, "aboutOffset", "(II)I"⟩
abbrev cX11_far : ByteArray := prog_13_method_59_code
def yX11_far : MethodName := ⟨RX11, "fa\x72", "()I"⟩
abbrev cX11_solve : ByteArray := prog_13_method_60_code
def yX11_solve : MethodName := ⟨RX11, "solve", "(II)V"⟩
abbrev cX11_link : ByteArray := prog_13_method_61_code
def yX11_link : MethodName := ⟨RX11, "link", "()I"⟩
abbrev cX11_load : ByteArray := prog_13_method_62_code
def yX11_load : MethodName := ⟨RX11, "load", "(I)I"⟩
abbrev cX11_where : ByteArray := prog_13_method_63_code
def yX11_where : MethodName := ⟨RX11, "where", "(II)I"⟩
abbrev cX11_get : ByteArray := prog_13_method_64_code
def yX11_get : MethodName := ⟨RX11, "get", "(II)I"⟩
abbrev cX11_store : ByteArray := prog_13_method_65_code
def yX11_store : MethodName := ⟨RX11, "store", "(III)V"⟩
abbrev cX11_fetch : ByteArray := prog_13_method_66_code
def yX11_fetch : MethodName := ⟨RX11, "fetch", "()I"⟩
abbrev cX11_fetchTwo : ByteArray := prog_13_method_67_code
def yX11_fetchTwo : MethodName := ⟨RX11, "fetchTwo", "()I"⟩
abbrev cX11_fetchSigned : ByteArray := prog_13_method_68_code
def yX11_fetchSigned : MethodName := ⟨RX11, "fetchSigned", "()I"⟩
abbrev cX11_readForm : ByteArray := prog_13_method_69_code
def yX11_readForm : MethodName := ⟨RX11, "readForm", "()V"⟩
abbrev cX11_formGet : ByteArray := prog_13_method_70_code
def yX11_formGet : MethodName := ⟨RX11, "formGet", "()I"⟩
abbrev cX11_formSet : ByteArray := prog_13_method_71_code
def yX11_formSet : MethodName := ⟨RX11, "formSet", "(I)V"⟩
abbrev cX11_flags : ByteArray := prog_13_method_72_code
def yX11_flags : MethodName := ⟨RX11, "flags", "(I)V"⟩
abbrev cX11_reckoned : ByteArray := prog_13_method_73_code
def yX11_reckoned : MethodName := ⟨RX11, "reckoned", "(III)I"⟩
abbrev cX11_operation : ByteArray := prog_13_method_74_code
def yX11_operation : MethodName := ⟨RX11, "operation", "(I)Z"⟩
abbrev cX11_push : ByteArray := prog_13_method_75_code
def yX11_push : MethodName := ⟨RX11, "push", "(I)V"⟩
abbrev cX11_pop : ByteArray := prog_13_method_76_code
def yX11_pop : MethodName := ⟨RX11, "pop", "()I"⟩
abbrev cX11_formed : ByteArray := prog_13_method_77_code
def yX11_formed : MethodName := ⟨RX11, "formed", "(I)I"⟩
abbrev cX11_shift : ByteArray := prog_13_method_78_code
def yX11_shift : MethodName := ⟨RX11, "shift", "()I"⟩
abbrev cX11_group : ByteArray := prog_13_method_79_code
def yX11_group : MethodName := ⟨RX11, "group", "()I"⟩
abbrev cX11_condition : ByteArray := prog_13_method_80_code
def yX11_condition : MethodName := ⟨RX11, "condition", "(I)Z"⟩
abbrev cX11_control : ByteArray := prog_13_method_81_code
def yX11_control : MethodName := ⟨RX11, "control", "(I)I"⟩
abbrev cX11_plain : ByteArray := prog_13_method_82_code
def yX11_plain : MethodName := ⟨RX11, "plain", "(I)I"⟩
abbrev cX11_hasForm : ByteArray := prog_13_method_83_code
def yX11_hasForm : MethodName := ⟨RX11, "hasForm", "(I)Z"⟩
abbrev cX11_step : ByteArray := prog_13_method_84_code
def yX11_step : MethodName := ⟨RX11, "step", "()I"⟩
abbrev cX11_run : ByteArray := prog_13_method_85_code
def yX11_run : MethodName := ⟨RX11, "run", "(I)I"⟩
abbrev cX11_code : ByteArray := prog_13_method_86_code
def yX11_code : MethodName := ⟨RX11, "code", "(III)I"⟩
abbrev cX11_fixup : ByteArray := prog_13_method_87_code
def yX11_fixup : MethodName := ⟨RX11, "fixup", "(III)I"⟩
abbrev cX11_image : ByteArray := prog_13_method_88_code
def yX11_image : MethodName := ⟨RX11, "image", "(I)I"⟩
abbrev cX11_memory : ByteArray := prog_13_method_89_code
def yX11_memory : MethodName := ⟨RX11, "memory", "(I)I"⟩
abbrev cX11_register : ByteArray := prog_13_method_90_code
def yX11_register : MethodName := ⟨RX11, "registe\x72", "(I)I"⟩
abbrev cX11_trace : ByteArray := prog_13_method_91_code
def yX11_trace : MethodName := ⟨RX11, "trace", "(I)I"⟩
abbrev cX11_count : ByteArray := prog_13_method_92_code
def yX11_count : MethodName := ⟨RX11, "count", "(I)I"⟩
def RJ7 : String := "java/util/Arrays"
abbrev cJ7_fill_53178 : ByteArray := prog_35_method_103_code
def yJ7_fill_53178 : MethodName := ⟨RJ7, "fill", "([II)V"⟩
def RL : String := "SegmentBenchLaw"
abbrev cL_append : ByteArray := method_3_code
def yL_append : MethodName := ⟨RL, "append", "(LSegmentBench;JI[J)I"⟩
abbrev cL_assemble : ByteArray := method_4_code
def yL_assemble : MethodName := ⟨RL, "assemble", "(LSegmentBench;I[J)I"⟩
abbrev cL_drop : ByteArray := method_5_code
def yL_drop : MethodName := ⟨RL, "drop", "(LSegmentBench;I[J)I"⟩
abbrev cL_link : ByteArray := method_6_code
def yL_link : MethodName := ⟨RL, "link", "(LSegmentBench;[J)I"⟩
abbrev cL_load : ByteArray := method_7_code
def yL_load : MethodName := ⟨RL, "load", "(LSegmentBench;I[J)I"⟩
abbrev cL_run : ByteArray := method_8_code
def yL_run : MethodName := ⟨RL, "run", "(LSegmentBench;I[J)I"⟩
abbrev cL_code : ByteArray := method_9_code
def yL_code : MethodName := ⟨RL, "code", "(LSegmentBench;III[J)I"⟩
abbrev cL_fixup : ByteArray := method_10_code
def yL_fixup : MethodName := ⟨RL, "fixup", "(LSegmentBench;III[J)I"⟩
abbrev cL_image : ByteArray := method_11_code
def yL_image : MethodName := ⟨RL, "image", "(LSegmentBench;I[J)I"⟩
abbrev cL_memory : ByteArray := method_12_code
def yL_memory : MethodName := ⟨RL, "memory", "(LSegmentBench;I[J)I"⟩
abbrev cL_register : ByteArray := method_13_code
def yL_register : MethodName := ⟨RL, "registe\x72", "(LSegmentBench;I[J)I"⟩
abbrev cL_trace : ByteArray := method_14_code
def yL_trace : MethodName := ⟨RL, "trace", "(LSegmentBench;I[J)I"⟩
abbrev cL_count : ByteArray := method_15_code
def yL_count : MethodName := ⟨RL, "count", "(LSegmentBench;I[J)I"⟩
abbrev cL_law : ByteArray := code
def yL_law : MethodName := ⟨RL, "law", "([I)Z"⟩
abbrev vwC : List vw_C := [(RX0, TX0, 8), (RX1, TX1, 7), (RX2, TX2, 6), (RX3, TX3, 7), (RX4, TX4, 14), (RX5, TX5, 7), (RX6, TX6, 17), (RX7, TX7, 8), (RX8, TX8, 6), (RX9, TX9, 5), (RX10, TX10, 12), (RX11, TX11, 85)]
end
section
/-! BASE: one word list for all methods, and rows over it -/
/-- the words that stay as the machine warms -/
def gOK : Cond → Bool
  | .declares _ => true
  | .castable _ _ => true
  | .arrayOver (.object _) => true
  | w => goodWord w
def gw : List Cond := lw_tbl.filter gOK
theorem gw_in {w : Cond} {i : Nat} (h : lw_tbl[i]? = some w) (hk : gOK w = true) : w ∈ gw := List.mem_filter.mpr ⟨List.mem_of_getElem? h, hk⟩
theorem gOK_pay {args a' : Array Value} {s U : State} {w : Cond} (hW : s.WarmedH U.vm) (hk : gOK w = true) (h : w.before args s = true) : w.before a' U = true := by
  cases w with
  | declares x => exact va_Nw.use rfl (va_Nw.warmD hW (va_Nw.of rfl h))
  | castable C T => exact va_Nw.use rfl (va_Nw.warmC hW (va_Nw.of rfl h))
  | arrayOver ty =>
    cases ty with
    | object C => exact va_AO.use (va_AO.moved hW.alike (va_AO.of h))
    | _ => exact word_at hW (good_of_word hk) h
  | _ => exact word_at hW (good_of_word hk) h
abbrev gws (y : MethodName) (b : ByteArray) (n : Nat) (r : Option FieldType) : List Cond := .code y b n r :: gw
abbrev gR (lv mc ms : Nat) : Room := { frames := lv, cells := mc, slots := ms, locals := 100 * lv }
abbrev gT (dA : Nat → ClassId) : List (ClassId × FieldType) := [(dA 0, .int), (dA 1, .long), (dA 2, .char), (dA 3, .boolean), (dA 4, .object RX6)]
abbrev gK (D : va_G) (dA : Nat → ClassId) (U : State) : Prop := va_K D vwC (gT dA) U
abbrev gPre (D : va_G) (dA : Nat → ClassId) (av : List Value) (w0 : va_W) (sz : Nat) : Array Value → State → Prop := va_Pc av (fun U => U.heap.size = sz ∧ va_P D vwC w0 U.heap ∧ gK D dA U ∧ va_D (fun _ => True) w0)
abbrev gAt {S : Type} (D : va_G) (dA : Nat → ClassId) (A : Nat → Prop) (w1 : S → va_W) : S → State → Prop := fun u t => va_P D vwC (w1 u) t.heap ∧ gK D dA t ∧ va_D A (w1 u)
theorem g_blind {D : va_G} {dA : Nat → ClassId} {av : List Value} {w0 : va_W} {sz : Nat} : FrameBlind (gPre D dA av w0 sz) := fun a U g mk q => by
  obtain ⟨q0, q1, qP, qK, qD⟩ := q
  exact ⟨q0, q1, qP, va_K.moved (u := U) (U := U.calling g mk a) (Vm.Alike.refl U.vm) qK, qD⟩
theorem g_raInj {U : State} {c1 c2 : ClassId} {ty : FieldType} (h1 : va_RA U c1 ty) (h2 : va_RA U c2 ty) : c1 = c2 := by
  cases ty with
  | object C =>
    obtain ⟨-, -, -, -, -, h1⟩ := h1
    obtain ⟨-, -, -, -, -, h2⟩ := h2
    exact Option.some.inj (h1.symm.trans h2)
  | _ => exact Option.some.inj (Eq.trans (Eq.symm h1) h2)
section GB
variable {p : Program} {l : Launch} {e : Env} {R : Room} {s : State} {m : MethodId} {args : Array Value} {below : List Frame} {meth : Method} {c : Code} {H : Heap} {locs : List Loc} {cells slots : Nat} {Q : State → Prop}
variable {cc : ByteArray} {pc : Nat} {ls : Array Slot} {rest st0 : List Value} {D : va_G} {dA : Nat → ClassId} {A : Nat → Prop} {a : Nat} {ws : va_W} {H0 : Heap}
theorem g_nrm {x y : Int32} (h : x = y) (k : W p l e R s m args below meth c H locs cells slots Q (F0 m pc ls (.int y :: rest))) : W p l e R s m args below meth c H locs cells slots Q (F0 m pc ls (.int x :: rest)) := h ▸ k
theorem g_nrmL {x y : Int64} (h : x = y) (k : W p l e R s m args below meth c H locs cells slots Q (F0 m pc ls (.long y :: rest))) : W p l e R s m args below meth c H locs cells slots Q (F0 m pc ls (.long x :: rest)) := h ▸ k
theorem g_get (hx : p.tables.exec = Jvm.exec) (hb : c.code = cc) (hg : ∀ w ∈ gw, w.before args s = true) {own C : String} {T : u_T} {N ci index : Nat} (hown : s.vm.findClass own = some m.cls) (hK : gK D dA s) (hP : va_P D vwC ws H) (q0 : Nat) {fs : List Value} (he : ws[q0]? = some (a, .inr (ci, fs))) (hc : vwC[ci]? = some (C, T, N)) (hin : ∀ w ∈ u_ws C T N, w ∈ gw) (k : Nat) (hk : k < N) (hl : Cond.fieldLink own index (T k).1 (T k).2.1 (T k).2.2.1 ∈ gw) {v : Value} (hv : fs[k]? = some v) (hdg : decode cc pc = .ok (.getfield index, 3))
    (kk : W p l e R s m args below meth c H locs cells slots Q (F0 m (pc + 3) ls (v :: rest))) : W p l e R s m args below meth c H locs cells slots Q (F0 m pc ls (.ref a :: rest)) :=
  va_get hx hb hg hin hown hK hP q0 he hc k hk (hg _ hl) (fun _ h => h) hv hdg kk
theorem g_put (hx : p.tables.exec = Jvm.exec) (hb : c.code = cc) (hg : ∀ w ∈ gw, w.before args s = true) {own C : String} {T : u_T} {N ci index : Nat} (hown : s.vm.findClass own = some m.cls) (hK : gK D dA s) (hP : va_P D vwC ws H) (hD : va_D A ws) (hS : va_S A H0 H locs) (q0 : Nat) {fs : List Value} (he : ws[q0]? = some (a, .inr (ci, fs))) (hc : vwC[ci]? = some (C, T, N)) (hin : ∀ w ∈ u_ws C T N, w ∈ gw) {ty0 : Nat → FieldType} (hty : ∀ k, k < N → parseFieldDescriptor (T k).2.2.1 = some (ty0 k)) (hnm : ∀ a, a < N → ∀ b, b < N → a ≠ b → (T a).2.1 ≠ (T b).2.1)
    (k : Nat) (hk : k < N) (hl : Cond.fieldLink own index (T k).1 (T k).2.1 (T k).2.2.1 ∈ gw) (hfin : (T k).2.2.2 = false) {v : Value} (hn : narrow (ty0 k) v = v) (hfit : fits (ty0 k) v = true) (hl2 : k < fs.length) {w' : va_W} (hw : ws.set q0 (a, .inr (ci, fs.set k v)) = w') (hdg : decode cc pc = .ok (.putfield index, 3))
    (kk : ∀ (H1 : Heap) (locs1 : List Loc), va_P D vwC w' H1 → va_D A w' → va_S A H0 H1 locs1 → W p l e R s m args below meth c H1 locs1 cells slots Q (F0 m (pc + 3) ls rest)) : W p l e R s m args below meth c H locs cells slots Q (F0 m pc ls (v :: .ref a :: rest)) := by
  subst hw
  exact va_put hx hb hg hin ty0 hty hnm hown hK hP hD hS q0 he hc k hk (hg _ hl) (fun _ h => h) hfin (hty k hk) hn hfit hl2 hdg kk
theorem g_putF (hx : p.tables.exec = Jvm.exec) (hb : c.code = cc) (hg : ∀ w ∈ gw, w.before args s = true) {own C : String} {T : u_T} {N ci index : Nat} (hown : s.vm.findClass own = some m.cls) (hK : gK D dA s) (hP : va_P D vwC ws H) (hD : va_D A ws) (hS : va_S A H0 H locs) (q0 : Nat) {fs : List Value} (he : ws[q0]? = some (a, .inr (ci, fs))) (hc : vwC[ci]? = some (C, T, N)) (hin : ∀ w ∈ u_ws C T N, w ∈ gw) {ty0 : Nat → FieldType} (hty : ∀ k, k < N → parseFieldDescriptor (T k).2.2.1 = some (ty0 k)) (hnm : ∀ a, a < N → ∀ b, b < N → a ≠ b → (T a).2.1 ≠ (T b).2.1)
    (k : Nat) (hk : k < N) (hl : Cond.fieldLink own index (T k).1 (T k).2.1 (T k).2.2.1 ∈ gw) (hfin : (T k).2.2.2 = true) (hin2 : meth.name = "<init>") (hdecl : (T k).1 = own) {v : Value} (hn : narrow (ty0 k) v = v) (hfit : fits (ty0 k) v = true) (hl2 : k < fs.length) {w' : va_W} (hw : ws.set q0 (a, .inr (ci, fs.set k v)) = w') (hdg : decode cc pc = .ok (.putfield index, 3))
    (kk : ∀ (H1 : Heap) (locs1 : List Loc), va_P D vwC w' H1 → va_D A w' → va_S A H0 H1 locs1 → W p l e R s m args below meth c H1 locs1 cells slots Q (F0 m (pc + 3) ls rest)) : W p l e R s m args below meth c H locs cells slots Q (F0 m pc ls (v :: .ref a :: rest)) := by
  subst hw
  exact va_putF hx hb hg hin ty0 hty hnm hown hK hP hD hS q0 he hc k hk (hg _ hl) (fun _ h => h) hfin hin2 hdecl (hty k hk) hn hfit hl2 hdg kk
theorem g_newa (hx : p.tables.exec = Jvm.exec) (hb : c.code = cc) (hg : ∀ w ∈ gw, w.before args s = true) {atype : ArrayType} {ty : FieldType} (hty : newarray.typeOf atype = ty) (harr : Cond.arrayClass ty ∈ gw) (hK : gK D dA s) (hP : va_P D vwC ws H) (hD : va_D A ws) (hS : va_S A H0 H locs) (hA : ∀ q, H0.size ≤ q → A q) (t0 : Nat) {cA : ClassId} (ht : (gT dA)[t0]? = some (cA, ty))
    {n : Int32} {N' : Nat} {a0 : vp_A} (ha : ∀ cA : ClassId, vp_cell cA a0 = arrV cA N' (fun _ => defaultValue ty)) (hn : ¬ n < 0) (hN : n.toNatClampNeg = N') (hbytes : N' * componentBytes ty ≤ 536870912) (hcells : cells + 1 ≤ R.cells) (hslots : slots + N' ≤ R.slots) (hdg : decode cc pc = .ok (.newarray atype, 2))
    (kk : ∀ (q : Nat) (H1 : Heap), va_P D vwC (ws ++ [(q, .inl (cA, a0))]) H1 → va_D A (ws ++ [(q, .inl (cA, a0))]) → va_S A H0 H1 locs →
      W p l e R s m args below meth c H1 locs (cells + 1) (slots + N') Q (F0 m (pc + 2) ls (.ref q :: rest))) : W p l e R s m args below meth c H locs cells slots Q (F0 m pc ls (.int n :: rest)) := by
  refine va_newa hx hb (by rw [hty]; exact hg _ harr) hty hK hP hD hS hA ha hn hN hbytes hcells hslots hdg fun q cA' H1 hK' hP' hD' hS' => ?_
  have e1 : cA' = cA := g_raInj (hK'.2 5 (cA', ty) rfl).2 (hK.2 t0 _ ht).2
  subst e1
  exact kk q H1 hP' hD' hS'
theorem g_newq (hx : p.tables.exec = Jvm.exec) (hb : c.code = cc) (hg : ∀ w ∈ gw, w.before args s = true) {own C : String} {index : Nat} (hown : s.vm.findClass own = some m.cls) (hcl : Cond.classLink own index C ∈ gw) (hov : Cond.arrayOver (.object C) ∈ gw) (hK : gK D dA s) (hP : va_P D vwC ws H) (hD : va_D A ws) (hS : va_S A H0 H locs) (hA : ∀ q, H0.size ≤ q → A q) (t0 : Nat) {cA : ClassId} (ht : (gT dA)[t0]? = some (cA, .object C))
    {n : Int32} {N' : Nat} (hn : ¬ n < 0) (hN : n.toNatClampNeg = N') (hbytes : N' * 4 ≤ 536870912) (hcells : cells + 1 ≤ R.cells) (hslots : slots + N' ≤ R.slots) (hdg : decode cc pc = .ok (.anewarray index, 3))
    (kk : ∀ (q : Nat) (H1 : Heap), va_P D vwC (ws ++ [(q, .inl (cA, N', .inr (.inr (.inr (.inr (fun _ => none))))))]) H1 → va_D A (ws ++ [(q, .inl (cA, N', .inr (.inr (.inr (.inr (fun _ => none))))))]) → va_S A H0 H1 locs →
      W p l e R s m args below meth c H1 locs (cells + 1) (slots + N') Q (F0 m (pc + 3) ls (.ref q :: rest))) : W p l e R s m args below meth c H locs cells slots Q (F0 m pc ls (.int n :: rest)) := by
  refine va_newq hx hb hown (hg _ hcl) (va_AO.of (hg _ hov)) hK hP hD hS hA hn hN hbytes hcells hslots hdg fun q cA' H1 hK' hP' hD' hS' => ?_
  have e1 : cA' = cA := g_raInj (hK'.2 5 (cA', .object C) rfl).2 (hK.2 t0 _ ht).2
  subst e1
  exact kk q H1 hP' hD' hS'
theorem g_new (hx : p.tables.exec = Jvm.exec) (hb : c.code = cc) (hg : ∀ w ∈ gw, w.before args s = true) {own C : String} {T : u_T} {N index : Nat} (ci : Nat) {fs : List Value} (hc : vwC[ci]? = some (C, T, N)) (hin : ∀ w ∈ u_ws C T N, w ∈ gw) {ty0 : Nat → FieldType} (hty : ∀ k, k < N → parseFieldDescriptor (T k).2.2.1 = some (ty0 k)) (hown : s.vm.findClass own = some m.cls) (hcl : Cond.classLink own index C ∈ gw) (hinst : Cond.instantiable C N ∈ gw) (hini : Cond.initialized C ∈ gw)
    (hK : gK D dA s) (hP : va_P D vwC ws H) (hD : va_D A ws) (hS : va_S A H0 H locs) (hA : ∀ q, H0.size ≤ q → A q) (hfs : ∀ j, j < N → defaultValue (ty0 j) = vp_V fs j) (hcells : cells + 1 ≤ R.cells) (hslots : slots + N ≤ R.slots) (hdg : decode cc pc = .ok (.new index, 3))
    (kk : ∀ (q : Nat) (H1 : Heap), va_P D vwC (ws ++ [(q, .inr (ci, fs))]) H1 → va_D A (ws ++ [(q, .inr (ci, fs))]) → va_S A H0 H1 locs →
      W p l e R s m args below meth c H1 locs (cells + 1) (slots + N) Q (F0 m (pc + 3) ls (.ref q :: rest))) : W p l e R s m args below meth c H locs cells slots Q (F0 m pc ls rest) :=
  va_new hx hb hg hin ty0 hty hown (hg _ hcl) (hg _ hinst) (hg _ hini) hK hP hD hS hA hc hfs hcells hslots hdg kk
theorem g_obj (hx : p.tables.exec = Jvm.exec) (hb : c.code = cc) (hg : ∀ w ∈ gw, w.before args s = true) {own : String} (hown : s.vm.findClass own = some m.cls) {idx nL : Nat} (hl : Cond.methodLink own idx objectInit ∈ gw) (hi : Cond.instanceMethod objectInit ∈ gw) (hc : Cond.code objectInit ⟨#[0xb1]⟩ 1 none ∈ gw) (hml : c.maxLocals = nL) (hsz : ls.size = nL) (hdg : decode cc pc = .ok (.invokespecial idx, 3)) (hf : 1 ≤ R.frames) (hr : (rest.map fun v => v.category).sum + 12 ≤ R.locals)
    (kk : W p l e R s m args below meth c H locs cells slots Q (F0 m (pc + 3) ls rest)) : W p l e R s m args below meth c H locs cells slots Q (F0 m pc ls (.ref a :: rest)) :=
  W.objInit hx hb hown (hg _ hl) (hg _ hi) (hg _ hc) rfl (hsz.trans hml.symm) rfl hdg hf (by
    have h0 : (F0 m pc ls (.ref a :: rest)).monitorRoom = 0 := rfl
    rw [h0]; omega) kk
/-- cells no longer looked at -/
theorem g_cut {is : List Nat} {w' : va_W} (hP : va_P D vwC ws H) (hD : va_D A ws) (hn : va_nd is = true) (h1 : is.filterMap (fun i => ws[i]?) = w') (h2 : is.map (fun i => ws[i]?) = w'.map some) : va_P D vwC w' H ∧ va_D A w' := ⟨hP.sub is h1, hD.sub is hn h2⟩
theorem g_CB {own : String} {index maxL lv mc ms n : Nat} {y : MethodName} {bytes : ByteArray} {ret : Option FieldType} (hg : ∀ w ∈ gw, w.before args s = true) (hc : Cond.code y bytes maxL ret ∈ gw) (hi : Cond.initialized y.cls ∈ gw) (hl : Cond.methodLink own index y ∈ gw) (hd : y.cls ≠ "java/lang/invoke/MethodHandle" ∧ y.cls ≠ "java/lang/invoke/VarHandle" ∧ (parseMethodDescriptor y.desc).map (fun d => d.parameters.length) = some n) (hR : lv + 1 ≤ R.frames ∧ 8 + (maxL + 11) + 100 * lv ≤ R.locals) :
    CallB R s args own index y bytes maxL ret (gws y bytes maxL ret) (gR lv mc ms) mc ms n := by
  refine ⟨rfl, rfl, hR.1, hR.2, fun w hw a' U hW => ?_, List.mem_cons_self, hg _ hc, hg _ hi, ⟨hd.1, hd.2.1⟩, fun sig h => ?_, hg _ hl⟩
  · rcases List.mem_cons.mp hw with e1 | h1
    · rw [e1]; exact gOK_pay hW (List.mem_filter.mp hc).2 (hg _ hc)
    · exact gOK_pay hW (List.mem_filter.mp h1).2 (hg _ h1)
  · have h2 := hd.2.2
    rw [h] at h2
    exact (Option.some.inj h2).symm
/-- behind a call -/
theorem g_back {S : Type} {wc wr : va_W} {w1 : S → va_W} {u : S} {t : State} {H1 : Heap} {isC isR : List Nat} (hP : va_P D vwC ws H) (hD : va_D A ws) (hC : isC.map (fun i => ws[i]?) = wc.map some) (hR : isR.map (fun i => ws[i]?) = wr.map some) (hn : va_nd isR = true) (hdis : ∀ i ∈ isR, i ∉ isC) (ht : t.heap = H1) (hk : ∀ q : Nat, q < H.size → ¬ va_A wc H.size q → H1[q]? = H[q]?) (hF : ∀ q, va_A wc H.size q → A q) (hB : gAt D dA (va_A wc H.size) w1 u t) : va_P D vwC (wr ++ w1 u) H1 ∧ va_D A (wr ++ w1 u) := by
  obtain ⟨hP1, -, hD1⟩ := hB
  rw [ht] at hP1
  exact va_join hP hD isC isR hC hR hn hdis hk hF hP1 hD1
theorem g_part {wc : va_W} {isC : List Nat} (hP : va_P D vwC ws H) (hD : va_D A ws) (hC : isC.map (fun i => ws[i]?) = wc.map some) (hnC : va_nd isC = true) : va_P D vwC wc H ∧ va_D A wc := by
  refine ⟨hP.sub isC ?_, hD.sub isC hnC hC⟩
  have h1 : (isC.map (fun i => ws[i]?)).filterMap id = (wc.map some).filterMap id := by rw [hC]
  simpa [List.filterMap_map] using h1
theorem g_Vv {S : Type} {own : String} {T : u_T} {N ci index maxL nL lv mc ms n b : Nat} {y : MethodName} {bytes : ByteArray} {As : List Value} {wc wr : va_W} {w1 : S → va_W} {post : S → Prop} {fs : List Value} (hx : p.tables.exec = Jvm.exec) (hb : c.code = cc) (hml : c.maxLocals = nL) (hg : ∀ w ∈ gw, w.before args s = true) (hown : s.vm.findClass own = some m.cls) (hK : gK D dA s) (hP : va_P D vwC ws H) (hD : va_D A ws) (hS : va_S A H0 H locs) (hA : ∀ q, H0.size ≤ q → A q)
    (hM : Met l y (gws y bytes maxL none) (gR lv mc ms) (gPre D dA (.ref b :: As) wc H.size) (va_Qv post (gAt D dA (va_A wc H.size) w1) (va_A wc H.size)) mc ms (va_A wc H.size)) (isC isR : List Nat) (hC : isC.map (fun i => ws[i]?) = wc.map some) (hnC : va_nd isC = true) (hR : isR.map (fun i => ws[i]?) = wr.map some) (hnR : va_nd isR = true) (hdis : ∀ i ∈ isR, i ∉ isC) (q0 : Nat) (he : wc[q0]? = some (b, .inr (ci, fs))) (hcl : vwC[ci]? = some (y.cls, T, N))
    (hc : Cond.code y bytes maxL none ∈ gw) (hi : Cond.initialized y.cls ∈ gw) (hl : Cond.methodLink own index y ∈ gw) (hin : Cond.instanceMethod y ∈ gw) (hse : Cond.selects y.cls y y ∈ gw) (hd : y.cls ≠ "java/lang/invoke/MethodHandle" ∧ y.cls ≠ "java/lang/invoke/VarHandle" ∧ (parseMethodDescriptor y.desc).map (fun d => d.parameters.length) = some n) (hRm : lv + 1 ≤ R.frames ∧ 8 + (maxL + 11) + 100 * lv ≤ R.locals) (hnn : As.length = n) (hsz : ls.size = nL) (hst : st0 = As.reverse ++ .ref b :: rest) (hrm : (rest.map fun v => v.category).sum ≤ 8) (hdg : decode cc pc = .ok (.invokevirtual index, 3)) (hf : cells + mc ≤ R.cells ∧ slots + ms ≤ R.slots)
    (kk : ∀ (u : S) (H1 : Heap) (locs1 : List Loc), post u → va_P D vwC (wr ++ w1 u) H1 → va_D A (wr ++ w1 u) → va_S A H0 H1 locs1 → W p l e R s m args below meth c H1 locs1 (cells + mc) (slots + ms) Q (F0 m (pc + 3) ls rest)) : W p l e R s m args below meth c H locs cells slots Q (F0 m pc ls st0) := by
  obtain ⟨hPc, hDc⟩ := g_part hP hD hC hnC
  have hF := va_free (wc := wc) hD hS hA isC hC
  exact va_callv (va_runV (As := As) (rest := rest) ⟨hx, hb, hml, hown, hg⟩ hM ⟨g_CB hg hc hi hl hd hRm, hg _ hin, hg _ hse⟩ ⟨g_blind, va_recv hK hPc hcl he, fun U hU hW => ⟨rfl, by rw [hU], by rw [hU]; exact hPc, va_K.moved hW.alike hK, hDc.weaken (fun _ _ _ _ => trivial)⟩⟩ rfl hnn hsz hst (lv_room hrm) hdg hf) hS (fun q _ h => hF q h) hF (fun u t H1 locs1 ht hvm hw hB hz1 hk1 hS1 => by
    obtain ⟨hP2, hD2⟩ := g_back hP hD hC hR hnR hdis ht hk1 hF hB
    exact kk u H1 locs1 hw hP2 hD2 hS1)
theorem g_Vi {S : Type} {own : String} {T : u_T} {N ci index maxL nL lv mc ms n b : Nat} {y : MethodName} {bytes : ByteArray} {rt : FieldType} {As : List Value} {wc wr : va_W} {w1 : S → va_W} {post : Int32 → S → Prop} {fs : List Value} (hx : p.tables.exec = Jvm.exec) (hb : c.code = cc) (hml : c.maxLocals = nL) (hg : ∀ w ∈ gw, w.before args s = true) (hown : s.vm.findClass own = some m.cls) (hK : gK D dA s) (hP : va_P D vwC ws H) (hD : va_D A ws) (hS : va_S A H0 H locs) (hA : ∀ q, H0.size ≤ q → A q)
    (hM : Met l y (gws y bytes maxL (some rt)) (gR lv mc ms) (gPre D dA (.ref b :: As) wc H.size) (va_Qi post (gAt D dA (va_A wc H.size) w1) (va_A wc H.size)) mc ms (va_A wc H.size)) (isC isR : List Nat) (hC : isC.map (fun i => ws[i]?) = wc.map some) (hnC : va_nd isC = true) (hR : isR.map (fun i => ws[i]?) = wr.map some) (hnR : va_nd isR = true) (hdis : ∀ i ∈ isR, i ∉ isC) (q0 : Nat) (he : wc[q0]? = some (b, .inr (ci, fs))) (hcl : vwC[ci]? = some (y.cls, T, N))
    (hc : Cond.code y bytes maxL (some rt) ∈ gw) (hi : Cond.initialized y.cls ∈ gw) (hl : Cond.methodLink own index y ∈ gw) (hin : Cond.instanceMethod y ∈ gw) (hse : Cond.selects y.cls y y ∈ gw) (hd : y.cls ≠ "java/lang/invoke/MethodHandle" ∧ y.cls ≠ "java/lang/invoke/VarHandle" ∧ (parseMethodDescriptor y.desc).map (fun d => d.parameters.length) = some n) (hRm : lv + 1 ≤ R.frames ∧ 8 + (maxL + 11) + 100 * lv ≤ R.locals) (hnn : As.length = n) (hsz : ls.size = nL) (hst : st0 = As.reverse ++ .ref b :: rest) (hrm : (rest.map fun v => v.category).sum ≤ 8) (hdg : decode cc pc = .ok (.invokevirtual index, 3)) (hf : cells + mc ≤ R.cells ∧ slots + ms ≤ R.slots)
    (kk : ∀ (r : Int32) (u : S) (H1 : Heap) (locs1 : List Loc), post r u → va_P D vwC (wr ++ w1 u) H1 → va_D A (wr ++ w1 u) → va_S A H0 H1 locs1 → W p l e R s m args below meth c H1 locs1 (cells + mc) (slots + ms) Q (F0 m (pc + 3) ls (.int r :: rest))) : W p l e R s m args below meth c H locs cells slots Q (F0 m pc ls st0) := by
  obtain ⟨hPc, hDc⟩ := g_part hP hD hC hnC
  have hF := va_free (wc := wc) hD hS hA isC hC
  exact va_calli (va_runV (As := As) (rest := rest) ⟨hx, hb, hml, hown, hg⟩ hM ⟨g_CB hg hc hi hl hd hRm, hg _ hin, hg _ hse⟩ ⟨g_blind, va_recv hK hPc hcl he, fun U hU hW => ⟨rfl, by rw [hU], by rw [hU]; exact hPc, va_K.moved hW.alike hK, hDc.weaken (fun _ _ _ _ => trivial)⟩⟩ rfl hnn hsz hst (lv_room hrm) hdg hf) hS (fun q _ h => hF q h) hF (fun r u t H1 locs1 ht hvm hw hB hz1 hk1 hS1 => by
    obtain ⟨hP2, hD2⟩ := g_back hP hD hC hR hnR hdis ht hk1 hF hB
    exact kk r u H1 locs1 hw hP2 hD2 hS1)
theorem g_Iv {S : Type} {own : String} {index maxL nL lv mc ms n b : Nat} {y : MethodName} {bytes : ByteArray} {As : List Value} {wc wr : va_W} {w1 : S → va_W} {post : S → Prop} (hx : p.tables.exec = Jvm.exec) (hb : c.code = cc) (hml : c.maxLocals = nL) (hg : ∀ w ∈ gw, w.before args s = true) (hown : s.vm.findClass own = some m.cls) (hK : gK D dA s) (hP : va_P D vwC ws H) (hD : va_D A ws) (hS : va_S A H0 H locs) (hA : ∀ q, H0.size ≤ q → A q)
    (hM : Met l y (gws y bytes maxL none) (gR lv mc ms) (gPre D dA (.ref b :: As) wc H.size) (va_Qv post (gAt D dA (va_A wc H.size) w1) (va_A wc H.size)) mc ms (va_A wc H.size)) (isC isR : List Nat) (hC : isC.map (fun i => ws[i]?) = wc.map some) (hnC : va_nd isC = true) (hR : isR.map (fun i => ws[i]?) = wr.map some) (hnR : va_nd isR = true) (hdis : ∀ i ∈ isR, i ∉ isC)
    (hc : Cond.code y bytes maxL none ∈ gw) (hi : Cond.initialized y.cls ∈ gw) (hl : Cond.methodLink own index y ∈ gw) (hin : Cond.instanceMethod y ∈ gw) (hy1 : y.name = "<init>") (hd : y.cls ≠ "java/lang/invoke/MethodHandle" ∧ y.cls ≠ "java/lang/invoke/VarHandle" ∧ (parseMethodDescriptor y.desc).map (fun d => d.parameters.length) = some n) (hRm : lv + 1 ≤ R.frames ∧ 8 + (maxL + 11) + 100 * lv ≤ R.locals) (hnn : As.length = n) (hsz : ls.size = nL) (hst : st0 = As.reverse ++ .ref b :: rest) (hrm : (rest.map fun v => v.category).sum ≤ 8) (hdg : decode cc pc = .ok (.invokespecial index, 3)) (hf : cells + mc ≤ R.cells ∧ slots + ms ≤ R.slots)
    (kk : ∀ (u : S) (H1 : Heap) (locs1 : List Loc), post u → va_P D vwC (wr ++ w1 u) H1 → va_D A (wr ++ w1 u) → va_S A H0 H1 locs1 → W p l e R s m args below meth c H1 locs1 (cells + mc) (slots + ms) Q (F0 m (pc + 3) ls rest)) : W p l e R s m args below meth c H locs cells slots Q (F0 m pc ls st0) := by
  obtain ⟨hPc, hDc⟩ := g_part hP hD hC hnC
  have hF := va_free (wc := wc) hD hS hA isC hC
  exact va_callv (va_runI (As := As) (rest := rest) ⟨hx, hb, hml, hown, hg⟩ hM ⟨g_CB hg hc hi hl hd hRm, hy1, hg _ hin⟩ ⟨g_blind, fun U hU hW => ⟨rfl, by rw [hU], by rw [hU]; exact hPc, va_K.moved hW.alike hK, hDc.weaken (fun _ _ _ _ => trivial)⟩⟩ rfl hnn hsz hst (lv_room hrm) hdg hf) hS (fun q _ h => hF q h) hF (fun u t H1 locs1 ht hvm hw hB hz1 hk1 hS1 => by
    obtain ⟨hP2, hD2⟩ := g_back hP hD hC hR hnR hdis ht hk1 hF hB
    exact kk u H1 locs1 hw hP2 hD2 hS1)
theorem g_Sv {S : Type} {own : String} {index maxL nL lv mc ms n : Nat} {y : MethodName} {bytes : ByteArray} {As : List Value} {wc wr : va_W} {w1 : S → va_W} {post : S → Prop} (hx : p.tables.exec = Jvm.exec) (hb : c.code = cc) (hml : c.maxLocals = nL) (hg : ∀ w ∈ gw, w.before args s = true) (hown : s.vm.findClass own = some m.cls) (hK : gK D dA s) (hP : va_P D vwC ws H) (hD : va_D A ws) (hS : va_S A H0 H locs) (hA : ∀ q, H0.size ≤ q → A q)
    (hM : Met l y (gws y bytes maxL none) (gR lv mc ms) (gPre D dA As wc H.size) (va_Qv post (gAt D dA (va_A wc H.size) w1) (va_A wc H.size)) mc ms (va_A wc H.size)) (isC isR : List Nat) (hC : isC.map (fun i => ws[i]?) = wc.map some) (hnC : va_nd isC = true) (hR : isR.map (fun i => ws[i]?) = wr.map some) (hnR : va_nd isR = true) (hdis : ∀ i ∈ isR, i ∉ isC)
    (hc : Cond.code y bytes maxL none ∈ gw) (hi : Cond.initialized y.cls ∈ gw) (hl : Cond.methodLink own index y ∈ gw) (hsta : Cond.static y ∈ gw) (hd : y.cls ≠ "java/lang/invoke/MethodHandle" ∧ y.cls ≠ "java/lang/invoke/VarHandle" ∧ (parseMethodDescriptor y.desc).map (fun d => d.parameters.length) = some n) (hRm : lv + 1 ≤ R.frames ∧ 8 + (maxL + 11) + 100 * lv ≤ R.locals) (hnn : As.length = n) (hsz : ls.size = nL) (hst : st0 = As.reverse ++ rest) (hrm : (rest.map fun v => v.category).sum ≤ 8) (hdg : decode cc pc = .ok (.invokestatic index, 3)) (hf : cells + mc ≤ R.cells ∧ slots + ms ≤ R.slots)
    (kk : ∀ (u : S) (H1 : Heap) (locs1 : List Loc), post u → va_P D vwC (wr ++ w1 u) H1 → va_D A (wr ++ w1 u) → va_S A H0 H1 locs1 → W p l e R s m args below meth c H1 locs1 (cells + mc) (slots + ms) Q (F0 m (pc + 3) ls rest)) : W p l e R s m args below meth c H locs cells slots Q (F0 m pc ls st0) := by
  obtain ⟨hPc, hDc⟩ := g_part hP hD hC hnC
  have hF := va_free (wc := wc) hD hS hA isC hC
  exact va_callv (va_runS (As := As) (rest := rest) ⟨hx, hb, hml, hown, hg⟩ hM ⟨g_CB hg hc hi hl hd hRm, hg _ hsta⟩ ⟨g_blind, fun U hU hW => ⟨rfl, by rw [hU], by rw [hU]; exact hPc, va_K.moved hW.alike hK, hDc.weaken (fun _ _ _ _ => trivial)⟩⟩ rfl hnn hsz hst (lv_room hrm) hdg hf) hS (fun q _ h => hF q h) hF (fun u t H1 locs1 ht hvm hw hB hz1 hk1 hS1 => by
    obtain ⟨hP2, hD2⟩ := g_back hP hD hC hR hnR hdis ht hk1 hF hB
    exact kk u H1 locs1 hw hP2 hD2 hS1)
theorem g_Si {S : Type} {own : String} {index maxL nL lv mc ms n : Nat} {y : MethodName} {bytes : ByteArray} {rt : FieldType} {As : List Value} {wc wr : va_W} {w1 : S → va_W} {post : Int32 → S → Prop} (hx : p.tables.exec = Jvm.exec) (hb : c.code = cc) (hml : c.maxLocals = nL) (hg : ∀ w ∈ gw, w.before args s = true) (hown : s.vm.findClass own = some m.cls) (hK : gK D dA s) (hP : va_P D vwC ws H) (hD : va_D A ws) (hS : va_S A H0 H locs) (hA : ∀ q, H0.size ≤ q → A q)
    (hM : Met l y (gws y bytes maxL (some rt)) (gR lv mc ms) (gPre D dA As wc H.size) (va_Qi post (gAt D dA (va_A wc H.size) w1) (va_A wc H.size)) mc ms (va_A wc H.size)) (isC isR : List Nat) (hC : isC.map (fun i => ws[i]?) = wc.map some) (hnC : va_nd isC = true) (hR : isR.map (fun i => ws[i]?) = wr.map some) (hnR : va_nd isR = true) (hdis : ∀ i ∈ isR, i ∉ isC)
    (hc : Cond.code y bytes maxL (some rt) ∈ gw) (hi : Cond.initialized y.cls ∈ gw) (hl : Cond.methodLink own index y ∈ gw) (hsta : Cond.static y ∈ gw) (hd : y.cls ≠ "java/lang/invoke/MethodHandle" ∧ y.cls ≠ "java/lang/invoke/VarHandle" ∧ (parseMethodDescriptor y.desc).map (fun d => d.parameters.length) = some n) (hRm : lv + 1 ≤ R.frames ∧ 8 + (maxL + 11) + 100 * lv ≤ R.locals) (hnn : As.length = n) (hsz : ls.size = nL) (hst : st0 = As.reverse ++ rest) (hrm : (rest.map fun v => v.category).sum ≤ 8) (hdg : decode cc pc = .ok (.invokestatic index, 3)) (hf : cells + mc ≤ R.cells ∧ slots + ms ≤ R.slots)
    (kk : ∀ (r : Int32) (u : S) (H1 : Heap) (locs1 : List Loc), post r u → va_P D vwC (wr ++ w1 u) H1 → va_D A (wr ++ w1 u) → va_S A H0 H1 locs1 → W p l e R s m args below meth c H1 locs1 (cells + mc) (slots + ms) Q (F0 m (pc + 3) ls (.int r :: rest))) : W p l e R s m args below meth c H locs cells slots Q (F0 m pc ls st0) := by
  obtain ⟨hPc, hDc⟩ := g_part hP hD hC hnC
  have hF := va_free (wc := wc) hD hS hA isC hC
  exact va_calli (va_runS (As := As) (rest := rest) ⟨hx, hb, hml, hown, hg⟩ hM ⟨g_CB hg hc hi hl hd hRm, hg _ hsta⟩ ⟨g_blind, fun U hU hW => ⟨rfl, by rw [hU], by rw [hU]; exact hPc, va_K.moved hW.alike hK, hDc.weaken (fun _ _ _ _ => trivial)⟩⟩ rfl hnn hsz hst (lv_room hrm) hdg hf) hS (fun q _ h => hF q h) hF (fun r u t H1 locs1 ht hvm hw hB hz1 hk1 hS1 => by
    obtain ⟨hP2, hD2⟩ := g_back hP hD hC hR hnR hdis ht hk1 hF hB
    exact kk r u H1 locs1 hw hP2 hD2 hS1)
theorem g_vret {S : Type} {w1 : S → va_W} {post : S → Prop} {mc ms : Nat} (hx : p.tables.exec = Jvm.exec) (hb : c.code = cc) (hr : meth.sig.returnType = none) (hlocks : meth.locks = false) (hK : gK D dA s) (u : S) (hP : va_P D vwC (w1 u) H) (hD : va_D A (w1 u)) (hS : va_S A s.heap H locs) (hp : post u) (h1 : cells ≤ mc) (h2 : slots ≤ ms) (hdg : decode cc pc = .ok (.return_, 1)) : W p l e R s m args below meth c H locs cells slots (MQ below (va_Qv post (gAt D dA A w1) A) args s mc ms A) (F0 m pc ls []) :=
  W.widen h1 h2 (W.vret hx hb hr (fun t ht hW => ⟨⟨u, rfl, hp, by rw [ht]; exact hP, va_K.moved hW.alike hK, hD⟩, hS.F ht⟩) hS.2.2 hdg hlocks)
theorem g_iret {S : Type} {w1 : S → va_W} {post : Int32 → S → Prop} {mc ms : Nat} {v : Int32} {ty : FieldType} (hx : p.tables.exec = Jvm.exec) (hb : c.code = cc) (hr : meth.sig.returnType = some ty) (hn : narrow ty (.int v) = .int v) (hlocks : meth.locks = false) (hK : gK D dA s) (u : S) (hP : va_P D vwC (w1 u) H) (hD : va_D A (w1 u)) (hS : va_S A s.heap H locs) (hp : post v u) (h1 : cells ≤ mc) (h2 : slots ≤ ms) (hdg : decode cc pc = .ok (.ireturn, 1)) : W p l e R s m args below meth c H locs cells slots (MQ below (va_Qi post (gAt D dA A w1) A) args s mc ms A) (F0 m pc ls [.int v]) :=
  W.widen h1 h2 (W.zret hx hb hr hn (fun t ht hW => ⟨⟨v, u, rfl, hp, by rw [ht]; exact hP, va_K.moved hW.alike hK, hD⟩, hS.F ht⟩) hS.2.2 hdg hlocks)
end GB
end
section
theorem gw_all {ws : List Cond} (ps : List Nat) (hp : ws = ps.filterMap (fun i => lw_tbl[i]?)) (h : ws.all gOK = true) : ∀ w ∈ ws, w ∈ gw := by
  intro w hw
  have h1 := List.all_eq_true.mp h w hw
  rw [hp] at hw
  obtain ⟨i, -, hi⟩ := List.mem_filterMap.mp hw
  exact gw_in hi h1
set_option maxRecDepth 20000 in
theorem inX0 : ∀ w ∈ u_ws RX0 TX0 8, w ∈ gw := gw_all [274, 276, 278, 280, 282, 284, 286, 288] (by decide +kernel) (by decide +kernel)
abbrev f0X0 : List Value := [.null, .null, .null, .null, .null, .null, .null, .int 0]
theorem dfX0 : ∀ j, j < 8 → defaultValue (tyX0 j) = vp_V f0X0 j := by decide +kernel
set_option maxRecDepth 20000 in
theorem inX1 : ∀ w ∈ u_ws RX1 TX1 7, w ∈ gw := gw_all [531, 533, 535, 537, 539, 541, 543] (by decide +kernel) (by decide +kernel)
abbrev f0X1 : List Value := [.int 0, .int 0, .null, .int 0, .null, .int 0, .int 0]
theorem dfX1 : ∀ j, j < 7 → defaultValue (tyX1 j) = vp_V f0X1 j := by decide +kernel
set_option maxRecDepth 20000 in
theorem inX2 : ∀ w ∈ u_ws RX2 TX2 6, w ∈ gw := gw_all [377, 379, 381, 383, 385, 387] (by decide +kernel) (by decide +kernel)
abbrev f0X2 : List Value := [.null, .null, .null, .null, .int 0, .int 0]
theorem dfX2 : ∀ j, j < 6 → defaultValue (tyX2 j) = vp_V f0X2 j := by decide +kernel
set_option maxRecDepth 20000 in
theorem inX3 : ∀ w ∈ u_ws RX3 TX3 7, w ∈ gw := gw_all [490, 492, 494, 496, 498, 500, 502] (by decide +kernel) (by decide +kernel)
abbrev f0X3 : List Value := [.null, .null, .null, .null, .int 0, .null, .null]
theorem dfX3 : ∀ j, j < 7 → defaultValue (tyX3 j) = vp_V f0X3 j := by decide +kernel
set_option maxRecDepth 20000 in
theorem inX4 : ∀ w ∈ u_ws RX4 TX4 14, w ∈ gw := gw_all [577, 579, 581, 583, 585, 587, 589, 591, 593, 595, 597, 599, 601, 603] (by decide +kernel) (by decide +kernel)
abbrev f0X4 : List Value := [.null, .null, .null, .int 0, .int 0, .int 0, .int 0, .int 0, .int 0, .int 0, .null, .int 0, .int 0, .int 0]
theorem dfX4 : ∀ j, j < 14 → defaultValue (tyX4 j) = vp_V f0X4 j := by decide +kernel
set_option maxRecDepth 20000 in
theorem inX5 : ∀ w ∈ u_ws RX5 TX5 7, w ∈ gw := gw_all [207, 209, 211, 213, 215, 217, 219] (by decide +kernel) (by decide +kernel)
abbrev f0X5 : List Value := [.null, .null, .null, .null, .null, .int 0, .int 0]
theorem dfX5 : ∀ j, j < 7 → defaultValue (tyX5 j) = vp_V f0X5 j := by decide +kernel
set_option maxRecDepth 20000 in
theorem inX6 : ∀ w ∈ u_ws RX6 TX6 17, w ∈ gw := gw_all [442, 444, 446, 448, 450, 452, 454, 456, 458, 460, 462, 464, 466, 468, 470, 472, 474] (by decide +kernel) (by decide +kernel)
abbrev f0X6 : List Value := [.int 0, .int 0, .null, .null, .null, .null, .null, .int 0, .null, .null, .null, .null, .null, .int 0, .null, .null, .null]
theorem dfX6 : ∀ j, j < 17 → defaultValue (tyX6 j) = vp_V f0X6 j := by decide +kernel
set_option maxRecDepth 20000 in
theorem inX7 : ∀ w ∈ u_ws RX7 TX7 8, w ∈ gw := gw_all [329, 331, 333, 335, 337, 339, 341, 343] (by decide +kernel) (by decide +kernel)
abbrev f0X7 : List Value := [.int 0, .int 0, .int 0, .int 0, .int 0, .int 0, .int 0, .int 0]
theorem dfX7 : ∀ j, j < 8 → defaultValue (tyX7 j) = vp_V f0X7 j := by decide +kernel
set_option maxRecDepth 20000 in
theorem inX8 : ∀ w ∈ u_ws RX8 TX8 6, w ∈ gw := gw_all [352, 354, 356, 358, 360, 362] (by decide +kernel) (by decide +kernel)
abbrev f0X8 : List Value := [.null, .null, .null, .null, .int 0, .int 0]
theorem dfX8 : ∀ j, j < 6 → defaultValue (tyX8 j) = vp_V f0X8 j := by decide +kernel
set_option maxRecDepth 20000 in
theorem inX9 : ∀ w ∈ u_ws RX9 TX9 5, w ∈ gw := gw_all [240, 242, 244, 246, 248] (by decide +kernel) (by decide +kernel)
abbrev f0X9 : List Value := [.null, .null, .null, .int 0, .null]
theorem dfX9 : ∀ j, j < 5 → defaultValue (tyX9 j) = vp_V f0X9 j := by decide +kernel
set_option maxRecDepth 20000 in
theorem inX10 : ∀ w ∈ u_ws RX10 TX10 12, w ∈ gw := gw_all [618, 620, 622, 624, 626, 628, 630, 632, 634, 636, 638, 640] (by decide +kernel) (by decide +kernel)
abbrev f0X10 : List Value := [.null, .int 0, .int 0, .int 0, .null, .null, .null, .null, .null, .null, .null, .null]
theorem dfX10 : ∀ j, j < 12 → defaultValue (tyX10 j) = vp_V f0X10 j := by decide +kernel
set_option maxRecDepth 20000 in
theorem inX11 : ∀ w ∈ u_ws RX11 TX11 85, w ∈ gw := gw_all [1700, 1702, 1704, 1706, 1708, 1710, 1712, 1714, 1716, 1718, 1720, 1722, 1724, 1726, 1728, 1730, 1732, 1734, 1736, 1738, 1740, 1742, 1744, 1746, 1748, 1750, 1752, 1754, 1756, 1758, 1760, 1762, 1764, 1766, 1768, 1770, 1772, 1774, 1776, 1778, 1780, 1782, 1784, 1786, 1788, 1790, 1792, 1794, 1796, 1798, 1800, 1802, 1804, 1806, 1808, 1810, 1812, 1814, 1816, 1818, 1820, 1822, 1824, 1826, 1828, 1830, 1832, 1834, 1836, 1838, 1840, 1842, 1844, 1846, 1848, 1850, 1852, 1854, 1856, 1858, 1860, 1862, 1864, 1866, 1868] (by decide +kernel) (by decide +kernel)
abbrev f0X11 : List Value := [.int 0, .null, .int 0, .int 0, .int 0, .int 0, .int 0, .int 0, .long 0, .int 0, .int 0, .null, .null, .null, .null, .null, .null, .int 0, .int 0, .null, .null, .null, .null, .int 0, .null, .null, .null, .null, .null, .null, .null, .int 0, .int 0, .int 0, .int 0, .null, .null, .int 0, .int 0, .int 0, .int 0, .int 0, .int 0, .null, .null, .null, .null, .null, .null, .null, .null, .null, .null, .null, .null, .null, .null, .null, .null, .null, .int 0, .null, .int 0, .null, .int 0, .int 0, .int 0, .null, .null, .null, .null, .null, .null, .int 0, .null, .null, .int 0, .int 0, .int 0, .null, .int 0, .int 0, .int 0, .int 0, .int 0]
theorem dfX11 : ∀ j, j < 85 → defaultValue (tyX11 j) = vp_V f0X11 j := by decide +kernel
end
section
theorem q0 : Cond.selects RX7 yX7_clear yX7_clear ∈ gw := gw_in (i := 0) (by decide +kernel) rfl
theorem q154 : Cond.initialized RX7 ∈ gw := gw_in (i := 154) (by decide +kernel) rfl
theorem q186 : Cond.instanceMethod objectInit ∈ gw := gw_in (i := 186) (by decide +kernel) rfl
theorem q187 : Cond.code objectInit ⟨#[0xb1]⟩ 1 none ∈ gw := gw_in (i := 187) (by decide +kernel) rfl
theorem q193 : Cond.methodLink RX5 3 objectInit ∈ gw := gw_in (i := 193) (by decide +kernel) rfl
theorem q194 : Cond.fieldLink RX5 11 "SegmentBench$Names" "word" "[J" ∈ gw := gw_in (i := 194) (by decide +kernel) rfl
theorem q196 : Cond.fieldLink RX5 15 "SegmentBench$Names" "role" "[I" ∈ gw := gw_in (i := 196) (by decide +kernel) rfl
theorem q198 : Cond.fieldLink RX5 19 "SegmentBench$Names" "segment" "[I" ∈ gw := gw_in (i := 198) (by decide +kernel) rfl
theorem q200 : Cond.fieldLink RX5 22 "SegmentBench$Names" "align" "[I" ∈ gw := gw_in (i := 200) (by decide +kernel) rfl
theorem q202 : Cond.fieldLink RX5 25 "SegmentBench$Names" "offset" "[I" ∈ gw := gw_in (i := 202) (by decide +kernel) rfl
theorem q204 : Cond.fieldLink RX5 28 "SegmentBench$Names" "size" "I" ∈ gw := gw_in (i := 204) (by decide +kernel) rfl
theorem q205 : Cond.fieldLink RX5 32 "SegmentBench$Names" "crowdedAt" "I" ∈ gw := gw_in (i := 205) (by decide +kernel) rfl
theorem q223 : Cond.arrayClass .long ∈ gw := gw_in (i := 223) (by decide +kernel) rfl
theorem q224 : Cond.arrayClass .int ∈ gw := gw_in (i := 224) (by decide +kernel) rfl
theorem q230 : Cond.methodLink RX9 3 objectInit ∈ gw := gw_in (i := 230) (by decide +kernel) rfl
theorem q231 : Cond.fieldLink RX9 9 "SegmentBench$Tokens" "type" "[I" ∈ gw := gw_in (i := 231) (by decide +kernel) rfl
theorem q233 : Cond.fieldLink RX9 15 "SegmentBench$Tokens" "value" "[I" ∈ gw := gw_in (i := 233) (by decide +kernel) rfl
theorem q235 : Cond.fieldLink RX9 18 "SegmentBench$Tokens" "place" "[I" ∈ gw := gw_in (i := 235) (by decide +kernel) rfl
theorem q237 : Cond.fieldLink RX9 21 "SegmentBench$Tokens" "size" "I" ∈ gw := gw_in (i := 237) (by decide +kernel) rfl
theorem q239 : Cond.fieldLink RX9 25 "SegmentBench$Tokens" "names" "LSegmentBench$Names;" ∈ gw := gw_in (i := 239) (by decide +kernel) rfl
theorem q256 : Cond.methodLink RX0 3 objectInit ∈ gw := gw_in (i := 256) (by decide +kernel) rfl
theorem q257 : Cond.fieldLink RX0 11 "SegmentBench$Draft" "type" "[I" ∈ gw := gw_in (i := 257) (by decide +kernel) rfl
theorem q259 : Cond.fieldLink RX0 15 "SegmentBench$Draft" "value" "[I" ∈ gw := gw_in (i := 259) (by decide +kernel) rfl
theorem q261 : Cond.fieldLink RX0 18 "SegmentBench$Draft" "name" "[I" ∈ gw := gw_in (i := 261) (by decide +kernel) rfl
theorem q263 : Cond.fieldLink RX0 21 "SegmentBench$Draft" "place" "[I" ∈ gw := gw_in (i := 263) (by decide +kernel) rfl
theorem q265 : Cond.fieldLink RX0 24 "SegmentBench$Draft" "word" "[I" ∈ gw := gw_in (i := 265) (by decide +kernel) rfl
theorem q267 : Cond.fieldLink RX0 27 "SegmentBench$Draft" "segment" "[I" ∈ gw := gw_in (i := 267) (by decide +kernel) rfl
theorem q269 : Cond.fieldLink RX0 30 "SegmentBench$Draft" "offset" "[I" ∈ gw := gw_in (i := 269) (by decide +kernel) rfl
theorem q271 : Cond.fieldLink RX0 33 "SegmentBench$Draft" "size" "I" ∈ gw := gw_in (i := 271) (by decide +kernel) rfl
theorem q296 : Cond.methodLink RX8 1 objectInit ∈ gw := gw_in (i := 296) (by decide +kernel) rfl
theorem q297 : Cond.classLink RX8 17 RX7 ∈ gw := gw_in (i := 297) (by decide +kernel) rfl
theorem q298 : Cond.instantiable RX7 8 ∈ gw := gw_in (i := 298) (by decide +kernel) rfl
theorem q299 : Cond.methodLink RX8 19 yX7_init ∈ gw := gw_in (i := 299) (by decide +kernel) rfl
theorem q300 : Cond.instanceMethod yX7_init ∈ gw := gw_in (i := 300) (by decide +kernel) rfl
theorem q301 : Cond.code yX7_init cX7_init 1 none ∈ gw := gw_in (i := 301) (by decide +kernel) rfl
theorem q302 : Cond.methodLink RX7 1 objectInit ∈ gw := gw_in (i := 302) (by decide +kernel) rfl
theorem q303 : Cond.methodLink RX7 7 yX7_clear ∈ gw := gw_in (i := 303) (by decide +kernel) rfl
theorem q305 : Cond.instanceMethod yX7_clear ∈ gw := gw_in (i := 305) (by decide +kernel) rfl
theorem q306 : Cond.code yX7_clear cX7_clear 2 none ∈ gw := gw_in (i := 306) (by decide +kernel) rfl
theorem q307 : Cond.fieldLink RX7 13 "SegmentBench$Operand" "kind" "I" ∈ gw := gw_in (i := 307) (by decide +kernel) rfl
theorem q310 : Cond.fieldLink RX7 17 "SegmentBench$Operand" "code" "I" ∈ gw := gw_in (i := 310) (by decide +kernel) rfl
theorem q313 : Cond.fieldLink RX7 20 "SegmentBench$Operand" "numbe\x72" "I" ∈ gw := gw_in (i := 313) (by decide +kernel) rfl
theorem q316 : Cond.fieldLink RX7 23 "SegmentBench$Operand" "name" "I" ∈ gw := gw_in (i := 316) (by decide +kernel) rfl
theorem q319 : Cond.fieldLink RX7 26 "SegmentBench$Operand" "namePlace" "I" ∈ gw := gw_in (i := 319) (by decide +kernel) rfl
theorem q322 : Cond.fieldLink RX7 29 "SegmentBench$Operand" "paragraph" "Z" ∈ gw := gw_in (i := 322) (by decide +kernel) rfl
theorem q325 : Cond.fieldLink RX7 33 "SegmentBench$Operand" "base" "I" ∈ gw := gw_in (i := 325) (by decide +kernel) rfl
theorem q327 : Cond.fieldLink RX7 36 "SegmentBench$Operand" "index" "I" ∈ gw := gw_in (i := 327) (by decide +kernel) rfl
theorem q346 : Cond.fieldLink RX8 7 "SegmentBench$Parse\x72" "tokens" "LSegmentBench$Tokens;" ∈ gw := gw_in (i := 346) (by decide +kernel) rfl
theorem q347 : Cond.fieldLink RX8 13 "SegmentBench$Parse\x72" "draft" "LSegmentBench$Draft;" ∈ gw := gw_in (i := 347) (by decide +kernel) rfl
theorem q348 : Cond.fieldLink RX8 20 "SegmentBench$Parse\x72" "left" "LSegmentBench$Operand;" ∈ gw := gw_in (i := 348) (by decide +kernel) rfl
theorem q349 : Cond.fieldLink RX8 24 "SegmentBench$Parse\x72" "right" "LSegmentBench$Operand;" ∈ gw := gw_in (i := 349) (by decide +kernel) rfl
theorem q350 : Cond.fieldLink RX8 27 "SegmentBench$Parse\x72" "at" "I" ∈ gw := gw_in (i := 350) (by decide +kernel) rfl
theorem q351 : Cond.fieldLink RX8 31 "SegmentBench$Parse\x72" "opened" "Z" ∈ gw := gw_in (i := 351) (by decide +kernel) rfl
theorem q370 : Cond.methodLink RX2 3 objectInit ∈ gw := gw_in (i := 370) (by decide +kernel) rfl
theorem q371 : Cond.fieldLink RX2 9 "SegmentBench$Layout" "draft" "LSegmentBench$Draft;" ∈ gw := gw_in (i := 371) (by decide +kernel) rfl
theorem q372 : Cond.fieldLink RX2 15 "SegmentBench$Layout" "names" "LSegmentBench$Names;" ∈ gw := gw_in (i := 372) (by decide +kernel) rfl
theorem q373 : Cond.fieldLink RX2 19 "SegmentBench$Layout" "segmentName" "[I" ∈ gw := gw_in (i := 373) (by decide +kernel) rfl
theorem q374 : Cond.fieldLink RX2 23 "SegmentBench$Layout" "segmentSize" "[I" ∈ gw := gw_in (i := 374) (by decide +kernel) rfl
theorem q375 : Cond.fieldLink RX2 26 "SegmentBench$Layout" "segments" "I" ∈ gw := gw_in (i := 375) (by decide +kernel) rfl
theorem q376 : Cond.fieldLink RX2 30 "SegmentBench$Layout" "wrong" "I" ∈ gw := gw_in (i := 376) (by decide +kernel) rfl
theorem q396 : Cond.methodLink RX6 3 objectInit ∈ gw := gw_in (i := 396) (by decide +kernel) rfl
theorem q397 : Cond.fieldLink RX6 9 "SegmentBench$ObjectModule" "there" "Z" ∈ gw := gw_in (i := 397) (by decide +kernel) rfl
theorem q401 : Cond.fieldLink RX6 15 "SegmentBench$ObjectModule" "segments" "I" ∈ gw := gw_in (i := 401) (by decide +kernel) rfl
theorem q404 : Cond.fieldLink RX6 19 "SegmentBench$ObjectModule" "segmentName" "[J" ∈ gw := gw_in (i := 404) (by decide +kernel) rfl
theorem q406 : Cond.fieldLink RX6 23 "SegmentBench$ObjectModule" "segmentAlign" "[I" ∈ gw := gw_in (i := 406) (by decide +kernel) rfl
theorem q408 : Cond.fieldLink RX6 27 "SegmentBench$ObjectModule" "segmentSize" "[I" ∈ gw := gw_in (i := 408) (by decide +kernel) rfl
theorem q411 : Cond.fieldLink RX6 30 "SegmentBench$ObjectModule" "segmentStart" "[I" ∈ gw := gw_in (i := 411) (by decide +kernel) rfl
theorem q414 : Cond.fieldLink RX6 33 "SegmentBench$ObjectModule" "bytes" "[I" ∈ gw := gw_in (i := 414) (by decide +kernel) rfl
theorem q417 : Cond.fieldLink RX6 36 "SegmentBench$ObjectModule" "fixups" "I" ∈ gw := gw_in (i := 417) (by decide +kernel) rfl
theorem q420 : Cond.fieldLink RX6 39 "SegmentBench$ObjectModule" "fixupKind" "[I" ∈ gw := gw_in (i := 420) (by decide +kernel) rfl
theorem q423 : Cond.fieldLink RX6 42 "SegmentBench$ObjectModule" "fixupSegment" "[I" ∈ gw := gw_in (i := 423) (by decide +kernel) rfl
theorem q426 : Cond.fieldLink RX6 45 "SegmentBench$ObjectModule" "fixupPlace" "[I" ∈ gw := gw_in (i := 426) (by decide +kernel) rfl
theorem q429 : Cond.fieldLink RX6 48 "SegmentBench$ObjectModule" "fixupAbout" "[I" ∈ gw := gw_in (i := 429) (by decide +kernel) rfl
theorem q432 : Cond.fieldLink RX6 51 "SegmentBench$ObjectModule" "fixupName" "[J" ∈ gw := gw_in (i := 432) (by decide +kernel) rfl
theorem q434 : Cond.fieldLink RX6 54 "SegmentBench$ObjectModule" "publics" "I" ∈ gw := gw_in (i := 434) (by decide +kernel) rfl
theorem q436 : Cond.fieldLink RX6 57 "SegmentBench$ObjectModule" "publicName" "[J" ∈ gw := gw_in (i := 436) (by decide +kernel) rfl
theorem q438 : Cond.fieldLink RX6 60 "SegmentBench$ObjectModule" "publicSegment" "[I" ∈ gw := gw_in (i := 438) (by decide +kernel) rfl
theorem q440 : Cond.fieldLink RX6 63 "SegmentBench$ObjectModule" "publicOffset" "[I" ∈ gw := gw_in (i := 440) (by decide +kernel) rfl
theorem q482 : Cond.methodLink RX3 3 objectInit ∈ gw := gw_in (i := 482) (by decide +kernel) rfl
theorem q483 : Cond.fieldLink RX3 9 "SegmentBench$Linke\x72" "modules" "[LSegmentBench$ObjectModule;" ∈ gw := gw_in (i := 483) (by decide +kernel) rfl
theorem q484 : Cond.fieldLink RX3 15 "SegmentBench$Linke\x72" "name" "[J" ∈ gw := gw_in (i := 484) (by decide +kernel) rfl
theorem q485 : Cond.fieldLink RX3 19 "SegmentBench$Linke\x72" "size" "[I" ∈ gw := gw_in (i := 485) (by decide +kernel) rfl
theorem q486 : Cond.fieldLink RX3 23 "SegmentBench$Linke\x72" "place" "[I" ∈ gw := gw_in (i := 486) (by decide +kernel) rfl
theorem q487 : Cond.fieldLink RX3 26 "SegmentBench$Linke\x72" "combined" "I" ∈ gw := gw_in (i := 487) (by decide +kernel) rfl
theorem q488 : Cond.fieldLink RX3 30 "SegmentBench$Linke\x72" "whole" "[I" ∈ gw := gw_in (i := 488) (by decide +kernel) rfl
theorem q489 : Cond.fieldLink RX3 33 "SegmentBench$Linke\x72" "begin" "[I" ∈ gw := gw_in (i := 489) (by decide +kernel) rfl
theorem q510 : Cond.methodLink RX1 5 objectInit ∈ gw := gw_in (i := 510) (by decide +kernel) rfl
theorem q511 : Cond.fieldLink RX1 11 "SegmentBench$Image" "there" "Z" ∈ gw := gw_in (i := 511) (by decide +kernel) rfl
theorem q513 : Cond.fieldLink RX1 17 "SegmentBench$Image" "size" "I" ∈ gw := gw_in (i := 513) (by decide +kernel) rfl
theorem q516 : Cond.fieldLink RX1 21 "SegmentBench$Image" "bytes" "[I" ∈ gw := gw_in (i := 516) (by decide +kernel) rfl
theorem q520 : Cond.fieldLink RX1 25 "SegmentBench$Image" "relocations" "I" ∈ gw := gw_in (i := 520) (by decide +kernel) rfl
theorem q523 : Cond.fieldLink RX1 28 "SegmentBench$Image" "relocation" "[I" ∈ gw := gw_in (i := 523) (by decide +kernel) rfl
theorem q525 : Cond.fieldLink RX1 31 "SegmentBench$Image" "mainParagraph" "I" ∈ gw := gw_in (i := 525) (by decide +kernel) rfl
theorem q528 : Cond.fieldLink RX1 34 "SegmentBench$Image" "mainOffset" "I" ∈ gw := gw_in (i := 528) (by decide +kernel) rfl
theorem q551 : Cond.methodLink RX4 3 objectInit ∈ gw := gw_in (i := 551) (by decide +kernel) rfl
theorem q552 : Cond.fieldLink RX4 9 "SegmentBench$Machine" "cells" "[I" ∈ gw := gw_in (i := 552) (by decide +kernel) rfl
theorem q554 : Cond.fieldLink RX4 13 "SegmentBench$Machine" "general" "[I" ∈ gw := gw_in (i := 554) (by decide +kernel) rfl
theorem q556 : Cond.fieldLink RX4 16 "SegmentBench$Machine" "segment" "[I" ∈ gw := gw_in (i := 556) (by decide +kernel) rfl
theorem q558 : Cond.fieldLink RX4 26 "SegmentBench$Machine" "ip" "I" ∈ gw := gw_in (i := 558) (by decide +kernel) rfl
theorem q560 : Cond.fieldLink RX4 30 "SegmentBench$Machine" "carry" "I" ∈ gw := gw_in (i := 560) (by decide +kernel) rfl
theorem q562 : Cond.fieldLink RX4 33 "SegmentBench$Machine" "zero" "I" ∈ gw := gw_in (i := 562) (by decide +kernel) rfl
theorem q564 : Cond.fieldLink RX4 36 "SegmentBench$Machine" "sign" "I" ∈ gw := gw_in (i := 564) (by decide +kernel) rfl
theorem q566 : Cond.fieldLink RX4 22 "SegmentBench$Machine" "halted" "Z" ∈ gw := gw_in (i := 566) (by decide +kernel) rfl
theorem q568 : Cond.fieldLink RX4 39 "SegmentBench$Machine" "done" "I" ∈ gw := gw_in (i := 568) (by decide +kernel) rfl
theorem q570 : Cond.fieldLink RX4 42 "SegmentBench$Machine" "ints" "I" ∈ gw := gw_in (i := 570) (by decide +kernel) rfl
theorem q572 : Cond.fieldLink RX4 19 "SegmentBench$Machine" "told" "[I" ∈ gw := gw_in (i := 572) (by decide +kernel) rfl
theorem q574 : Cond.fieldLink RX4 45 "SegmentBench$Machine" "k" "I" ∈ gw := gw_in (i := 574) (by decide +kernel) rfl
theorem q575 : Cond.fieldLink RX4 48 "SegmentBench$Machine" "slot" "I" ∈ gw := gw_in (i := 575) (by decide +kernel) rfl
theorem q576 : Cond.fieldLink RX4 51 "SegmentBench$Machine" "address" "I" ∈ gw := gw_in (i := 576) (by decide +kernel) rfl
theorem dX5_init_0 : decode cX5_init 0 = .ok (.aload_n 0, 1) := by decide +kernel
theorem dX5_init_1 : decode cX5_init 1 = .ok (.invokespecial 3, 3) := by decide +kernel
theorem dX5_init_4 : decode cX5_init 4 = .ok (.aload_n 0, 1) := by decide +kernel
theorem dX5_init_5 : decode cX5_init 5 = .ok (.sipush 240, 3) := by decide +kernel
theorem dX5_init_8 : decode cX5_init 8 = .ok (.newarray .long, 2) := by decide +kernel
theorem dX5_init_10 : decode cX5_init 10 = .ok (.putfield 11, 3) := by decide +kernel
theorem dX5_init_13 : decode cX5_init 13 = .ok (.aload_n 0, 1) := by decide +kernel
theorem dX5_init_14 : decode cX5_init 14 = .ok (.sipush 240, 3) := by decide +kernel
theorem dX5_init_17 : decode cX5_init 17 = .ok (.newarray .int, 2) := by decide +kernel
theorem dX5_init_19 : decode cX5_init 19 = .ok (.putfield 15, 3) := by decide +kernel
theorem dX5_init_22 : decode cX5_init 22 = .ok (.aload_n 0, 1) := by decide +kernel
theorem dX5_init_23 : decode cX5_init 23 = .ok (.sipush 240, 3) := by decide +kernel
theorem dX5_init_26 : decode cX5_init 26 = .ok (.newarray .int, 2) := by decide +kernel
theorem dX5_init_28 : decode cX5_init 28 = .ok (.putfield 19, 3) := by decide +kernel
theorem dX5_init_31 : decode cX5_init 31 = .ok (.aload_n 0, 1) := by decide +kernel
theorem dX5_init_32 : decode cX5_init 32 = .ok (.sipush 240, 3) := by decide +kernel
theorem dX5_init_35 : decode cX5_init 35 = .ok (.newarray .int, 2) := by decide +kernel
theorem dX5_init_37 : decode cX5_init 37 = .ok (.putfield 22, 3) := by decide +kernel
theorem dX5_init_40 : decode cX5_init 40 = .ok (.aload_n 0, 1) := by decide +kernel
theorem dX5_init_41 : decode cX5_init 41 = .ok (.sipush 240, 3) := by decide +kernel
theorem dX5_init_44 : decode cX5_init 44 = .ok (.newarray .int, 2) := by decide +kernel
theorem dX5_init_46 : decode cX5_init 46 = .ok (.putfield 25, 3) := by decide +kernel
theorem dX5_init_49 : decode cX5_init 49 = .ok (.aload_n 0, 1) := by decide +kernel
theorem dX5_init_50 : decode cX5_init 50 = .ok (.iconst 0, 1) := by decide +kernel
theorem dX5_init_51 : decode cX5_init 51 = .ok (.putfield 28, 3) := by decide +kernel
theorem dX5_init_54 : decode cX5_init 54 = .ok (.aload_n 0, 1) := by decide +kernel
theorem dX5_init_55 : decode cX5_init 55 = .ok (.iconst (-1), 1) := by decide +kernel
theorem dX5_init_56 : decode cX5_init 56 = .ok (.putfield 32, 3) := by decide +kernel
theorem dX5_init_59 : decode cX5_init 59 = .ok (.return_, 1) := by decide +kernel
theorem dX9_init_0 : decode cX9_init 0 = .ok (.aload_n 0, 1) := by decide +kernel
theorem dX9_init_1 : decode cX9_init 1 = .ok (.invokespecial 3, 3) := by decide +kernel
theorem dX9_init_4 : decode cX9_init 4 = .ok (.aload_n 0, 1) := by decide +kernel
theorem dX9_init_5 : decode cX9_init 5 = .ok (.sipush 481, 3) := by decide +kernel
theorem dX9_init_8 : decode cX9_init 8 = .ok (.newarray .int, 2) := by decide +kernel
theorem dX9_init_10 : decode cX9_init 10 = .ok (.putfield 9, 3) := by decide +kernel
theorem dX9_init_13 : decode cX9_init 13 = .ok (.aload_n 0, 1) := by decide +kernel
theorem dX9_init_14 : decode cX9_init 14 = .ok (.sipush 481, 3) := by decide +kernel
theorem dX9_init_17 : decode cX9_init 17 = .ok (.newarray .int, 2) := by decide +kernel
theorem dX9_init_19 : decode cX9_init 19 = .ok (.putfield 15, 3) := by decide +kernel
theorem dX9_init_22 : decode cX9_init 22 = .ok (.aload_n 0, 1) := by decide +kernel
theorem dX9_init_23 : decode cX9_init 23 = .ok (.sipush 481, 3) := by decide +kernel
theorem dX9_init_26 : decode cX9_init 26 = .ok (.newarray .int, 2) := by decide +kernel
theorem dX9_init_28 : decode cX9_init 28 = .ok (.putfield 18, 3) := by decide +kernel
theorem dX9_init_31 : decode cX9_init 31 = .ok (.aload_n 0, 1) := by decide +kernel
theorem dX9_init_32 : decode cX9_init 32 = .ok (.iconst 0, 1) := by decide +kernel
theorem dX9_init_33 : decode cX9_init 33 = .ok (.putfield 21, 3) := by decide +kernel
theorem dX9_init_36 : decode cX9_init 36 = .ok (.aload_n 0, 1) := by decide +kernel
theorem dX9_init_37 : decode cX9_init 37 = .ok (.aload_n 1, 1) := by decide +kernel
theorem dX9_init_38 : decode cX9_init 38 = .ok (.putfield 25, 3) := by decide +kernel
theorem dX9_init_41 : decode cX9_init 41 = .ok (.return_, 1) := by decide +kernel
theorem dX7_clear_0 : decode cX7_clear 0 = .ok (.aload_n 0, 1) := by decide +kernel
theorem dX7_clear_1 : decode cX7_clear 1 = .ok (.iload_n 1, 1) := by decide +kernel
theorem dX7_clear_2 : decode cX7_clear 2 = .ok (.putfield 13, 3) := by decide +kernel
theorem dX7_clear_5 : decode cX7_clear 5 = .ok (.aload_n 0, 1) := by decide +kernel
theorem dX7_clear_6 : decode cX7_clear 6 = .ok (.iconst 0, 1) := by decide +kernel
theorem dX7_clear_7 : decode cX7_clear 7 = .ok (.putfield 17, 3) := by decide +kernel
theorem dX7_clear_10 : decode cX7_clear 10 = .ok (.aload_n 0, 1) := by decide +kernel
theorem dX7_clear_11 : decode cX7_clear 11 = .ok (.iconst 0, 1) := by decide +kernel
theorem dX7_clear_12 : decode cX7_clear 12 = .ok (.putfield 20, 3) := by decide +kernel
theorem dX7_clear_15 : decode cX7_clear 15 = .ok (.aload_n 0, 1) := by decide +kernel
theorem dX7_clear_16 : decode cX7_clear 16 = .ok (.iconst (-1), 1) := by decide +kernel
theorem dX7_clear_17 : decode cX7_clear 17 = .ok (.putfield 23, 3) := by decide +kernel
theorem dX7_clear_20 : decode cX7_clear 20 = .ok (.aload_n 0, 1) := by decide +kernel
theorem dX7_clear_21 : decode cX7_clear 21 = .ok (.iconst (-1), 1) := by decide +kernel
theorem dX7_clear_22 : decode cX7_clear 22 = .ok (.putfield 26, 3) := by decide +kernel
theorem dX7_clear_25 : decode cX7_clear 25 = .ok (.aload_n 0, 1) := by decide +kernel
theorem dX7_clear_26 : decode cX7_clear 26 = .ok (.iconst 0, 1) := by decide +kernel
theorem dX7_clear_27 : decode cX7_clear 27 = .ok (.putfield 29, 3) := by decide +kernel
theorem dX7_clear_30 : decode cX7_clear 30 = .ok (.aload_n 0, 1) := by decide +kernel
theorem dX7_clear_31 : decode cX7_clear 31 = .ok (.iconst 0, 1) := by decide +kernel
theorem dX7_clear_32 : decode cX7_clear 32 = .ok (.putfield 33, 3) := by decide +kernel
theorem dX7_clear_35 : decode cX7_clear 35 = .ok (.aload_n 0, 1) := by decide +kernel
theorem dX7_clear_36 : decode cX7_clear 36 = .ok (.iconst 0, 1) := by decide +kernel
theorem dX7_clear_37 : decode cX7_clear 37 = .ok (.putfield 36, 3) := by decide +kernel
theorem dX7_clear_40 : decode cX7_clear 40 = .ok (.return_, 1) := by decide +kernel
theorem dX7_init_0 : decode cX7_init 0 = .ok (.aload_n 0, 1) := by decide +kernel
theorem dX7_init_1 : decode cX7_init 1 = .ok (.invokespecial 1, 3) := by decide +kernel
theorem dX7_init_4 : decode cX7_init 4 = .ok (.aload_n 0, 1) := by decide +kernel
theorem dX7_init_5 : decode cX7_init 5 = .ok (.iconst 0, 1) := by decide +kernel
theorem dX7_init_6 : decode cX7_init 6 = .ok (.invokevirtual 7, 3) := by decide +kernel
theorem dX7_init_9 : decode cX7_init 9 = .ok (.return_, 1) := by decide +kernel
theorem dX0_init_0 : decode cX0_init 0 = .ok (.aload_n 0, 1) := by decide +kernel
theorem dX0_init_1 : decode cX0_init 1 = .ok (.invokespecial 3, 3) := by decide +kernel
theorem dX0_init_4 : decode cX0_init 4 = .ok (.aload_n 0, 1) := by decide +kernel
theorem dX0_init_5 : decode cX0_init 5 = .ok (.sipush 248, 3) := by decide +kernel
theorem dX0_init_8 : decode cX0_init 8 = .ok (.newarray .int, 2) := by decide +kernel
theorem dX0_init_10 : decode cX0_init 10 = .ok (.putfield 11, 3) := by decide +kernel
theorem dX0_init_13 : decode cX0_init 13 = .ok (.aload_n 0, 1) := by decide +kernel
theorem dX0_init_14 : decode cX0_init 14 = .ok (.sipush 248, 3) := by decide +kernel
theorem dX0_init_17 : decode cX0_init 17 = .ok (.newarray .int, 2) := by decide +kernel
theorem dX0_init_19 : decode cX0_init 19 = .ok (.putfield 15, 3) := by decide +kernel
theorem dX0_init_22 : decode cX0_init 22 = .ok (.aload_n 0, 1) := by decide +kernel
theorem dX0_init_23 : decode cX0_init 23 = .ok (.sipush 248, 3) := by decide +kernel
theorem dX0_init_26 : decode cX0_init 26 = .ok (.newarray .int, 2) := by decide +kernel
theorem dX0_init_28 : decode cX0_init 28 = .ok (.putfield 18, 3) := by decide +kernel
theorem dX0_init_31 : decode cX0_init 31 = .ok (.aload_n 0, 1) := by decide +kernel
theorem dX0_init_32 : decode cX0_init 32 = .ok (.sipush 248, 3) := by decide +kernel
theorem dX0_init_35 : decode cX0_init 35 = .ok (.newarray .int, 2) := by decide +kernel
theorem dX0_init_37 : decode cX0_init 37 = .ok (.putfield 21, 3) := by decide +kernel
theorem dX0_init_40 : decode cX0_init 40 = .ok (.aload_n 0, 1) := by decide +kernel
theorem dX0_init_41 : decode cX0_init 41 = .ok (.sipush 248, 3) := by decide +kernel
theorem dX0_init_44 : decode cX0_init 44 = .ok (.newarray .int, 2) := by decide +kernel
theorem dX0_init_46 : decode cX0_init 46 = .ok (.putfield 24, 3) := by decide +kernel
theorem dX0_init_49 : decode cX0_init 49 = .ok (.aload_n 0, 1) := by decide +kernel
theorem dX0_init_50 : decode cX0_init 50 = .ok (.sipush 248, 3) := by decide +kernel
theorem dX0_init_53 : decode cX0_init 53 = .ok (.newarray .int, 2) := by decide +kernel
theorem dX0_init_55 : decode cX0_init 55 = .ok (.putfield 27, 3) := by decide +kernel
theorem dX0_init_58 : decode cX0_init 58 = .ok (.aload_n 0, 1) := by decide +kernel
theorem dX0_init_59 : decode cX0_init 59 = .ok (.sipush 248, 3) := by decide +kernel
theorem dX0_init_62 : decode cX0_init 62 = .ok (.newarray .int, 2) := by decide +kernel
theorem dX0_init_64 : decode cX0_init 64 = .ok (.putfield 30, 3) := by decide +kernel
theorem dX0_init_67 : decode cX0_init 67 = .ok (.aload_n 0, 1) := by decide +kernel
theorem dX0_init_68 : decode cX0_init 68 = .ok (.iconst 0, 1) := by decide +kernel
theorem dX0_init_69 : decode cX0_init 69 = .ok (.putfield 33, 3) := by decide +kernel
theorem dX0_init_72 : decode cX0_init 72 = .ok (.return_, 1) := by decide +kernel
theorem dX8_init_0 : decode cX8_init 0 = .ok (.aload_n 0, 1) := by decide +kernel
theorem dX8_init_1 : decode cX8_init 1 = .ok (.invokespecial 1, 3) := by decide +kernel
theorem dX8_init_4 : decode cX8_init 4 = .ok (.aload_n 0, 1) := by decide +kernel
theorem dX8_init_5 : decode cX8_init 5 = .ok (.aload_n 1, 1) := by decide +kernel
theorem dX8_init_6 : decode cX8_init 6 = .ok (.putfield 7, 3) := by decide +kernel
theorem dX8_init_9 : decode cX8_init 9 = .ok (.aload_n 0, 1) := by decide +kernel
theorem dX8_init_10 : decode cX8_init 10 = .ok (.aload_n 2, 1) := by decide +kernel
theorem dX8_init_11 : decode cX8_init 11 = .ok (.putfield 13, 3) := by decide +kernel
theorem dX8_init_14 : decode cX8_init 14 = .ok (.aload_n 0, 1) := by decide +kernel
theorem dX8_init_15 : decode cX8_init 15 = .ok (.new 17, 3) := by decide +kernel
theorem dX8_init_18 : decode cX8_init 18 = .ok (.dup, 1) := by decide +kernel
theorem dX8_init_19 : decode cX8_init 19 = .ok (.invokespecial 19, 3) := by decide +kernel
theorem dX8_init_22 : decode cX8_init 22 = .ok (.putfield 20, 3) := by decide +kernel
theorem dX8_init_25 : decode cX8_init 25 = .ok (.aload_n 0, 1) := by decide +kernel
theorem dX8_init_26 : decode cX8_init 26 = .ok (.new 17, 3) := by decide +kernel
theorem dX8_init_29 : decode cX8_init 29 = .ok (.dup, 1) := by decide +kernel
theorem dX8_init_30 : decode cX8_init 30 = .ok (.invokespecial 19, 3) := by decide +kernel
theorem dX8_init_33 : decode cX8_init 33 = .ok (.putfield 24, 3) := by decide +kernel
theorem dX8_init_36 : decode cX8_init 36 = .ok (.aload_n 0, 1) := by decide +kernel
theorem dX8_init_37 : decode cX8_init 37 = .ok (.iconst 0, 1) := by decide +kernel
theorem dX8_init_38 : decode cX8_init 38 = .ok (.putfield 27, 3) := by decide +kernel
theorem dX8_init_41 : decode cX8_init 41 = .ok (.aload_n 0, 1) := by decide +kernel
theorem dX8_init_42 : decode cX8_init 42 = .ok (.iconst 0, 1) := by decide +kernel
theorem dX8_init_43 : decode cX8_init 43 = .ok (.putfield 31, 3) := by decide +kernel
theorem dX8_init_46 : decode cX8_init 46 = .ok (.return_, 1) := by decide +kernel
theorem dX2_init_0 : decode cX2_init 0 = .ok (.aload_n 0, 1) := by decide +kernel
theorem dX2_init_1 : decode cX2_init 1 = .ok (.invokespecial 3, 3) := by decide +kernel
theorem dX2_init_4 : decode cX2_init 4 = .ok (.aload_n 0, 1) := by decide +kernel
theorem dX2_init_5 : decode cX2_init 5 = .ok (.aload_n 1, 1) := by decide +kernel
theorem dX2_init_6 : decode cX2_init 6 = .ok (.putfield 9, 3) := by decide +kernel
theorem dX2_init_9 : decode cX2_init 9 = .ok (.aload_n 0, 1) := by decide +kernel
theorem dX2_init_10 : decode cX2_init 10 = .ok (.aload_n 2, 1) := by decide +kernel
theorem dX2_init_11 : decode cX2_init 11 = .ok (.putfield 15, 3) := by decide +kernel
theorem dX2_init_14 : decode cX2_init 14 = .ok (.aload_n 0, 1) := by decide +kernel
theorem dX2_init_15 : decode cX2_init 15 = .ok (.bipush 60, 2) := by decide +kernel
theorem dX2_init_17 : decode cX2_init 17 = .ok (.newarray .int, 2) := by decide +kernel
theorem dX2_init_19 : decode cX2_init 19 = .ok (.putfield 19, 3) := by decide +kernel
theorem dX2_init_22 : decode cX2_init 22 = .ok (.aload_n 0, 1) := by decide +kernel
theorem dX2_init_23 : decode cX2_init 23 = .ok (.bipush 60, 2) := by decide +kernel
theorem dX2_init_25 : decode cX2_init 25 = .ok (.newarray .int, 2) := by decide +kernel
theorem dX2_init_27 : decode cX2_init 27 = .ok (.putfield 23, 3) := by decide +kernel
theorem dX2_init_30 : decode cX2_init 30 = .ok (.aload_n 0, 1) := by decide +kernel
theorem dX2_init_31 : decode cX2_init 31 = .ok (.iconst 0, 1) := by decide +kernel
theorem dX2_init_32 : decode cX2_init 32 = .ok (.putfield 26, 3) := by decide +kernel
theorem dX2_init_35 : decode cX2_init 35 = .ok (.aload_n 0, 1) := by decide +kernel
theorem dX2_init_36 : decode cX2_init 36 = .ok (.iconst (-1), 1) := by decide +kernel
theorem dX2_init_37 : decode cX2_init 37 = .ok (.putfield 30, 3) := by decide +kernel
theorem dX2_init_40 : decode cX2_init 40 = .ok (.return_, 1) := by decide +kernel
theorem dX6_init_0 : decode cX6_init 0 = .ok (.aload_n 0, 1) := by decide +kernel
theorem dX6_init_1 : decode cX6_init 1 = .ok (.invokespecial 3, 3) := by decide +kernel
theorem dX6_init_4 : decode cX6_init 4 = .ok (.aload_n 0, 1) := by decide +kernel
theorem dX6_init_5 : decode cX6_init 5 = .ok (.iconst 0, 1) := by decide +kernel
theorem dX6_init_6 : decode cX6_init 6 = .ok (.putfield 9, 3) := by decide +kernel
theorem dX6_init_9 : decode cX6_init 9 = .ok (.aload_n 0, 1) := by decide +kernel
theorem dX6_init_10 : decode cX6_init 10 = .ok (.iconst 0, 1) := by decide +kernel
theorem dX6_init_11 : decode cX6_init 11 = .ok (.putfield 15, 3) := by decide +kernel
theorem dX6_init_14 : decode cX6_init 14 = .ok (.aload_n 0, 1) := by decide +kernel
theorem dX6_init_15 : decode cX6_init 15 = .ok (.bipush 24, 2) := by decide +kernel
theorem dX6_init_17 : decode cX6_init 17 = .ok (.newarray .long, 2) := by decide +kernel
theorem dX6_init_19 : decode cX6_init 19 = .ok (.putfield 19, 3) := by decide +kernel
theorem dX6_init_22 : decode cX6_init 22 = .ok (.aload_n 0, 1) := by decide +kernel
theorem dX6_init_23 : decode cX6_init 23 = .ok (.bipush 24, 2) := by decide +kernel
theorem dX6_init_25 : decode cX6_init 25 = .ok (.newarray .int, 2) := by decide +kernel
theorem dX6_init_27 : decode cX6_init 27 = .ok (.putfield 23, 3) := by decide +kernel
theorem dX6_init_30 : decode cX6_init 30 = .ok (.aload_n 0, 1) := by decide +kernel
theorem dX6_init_31 : decode cX6_init 31 = .ok (.bipush 24, 2) := by decide +kernel
theorem dX6_init_33 : decode cX6_init 33 = .ok (.newarray .int, 2) := by decide +kernel
theorem dX6_init_35 : decode cX6_init 35 = .ok (.putfield 27, 3) := by decide +kernel
theorem dX6_init_38 : decode cX6_init 38 = .ok (.aload_n 0, 1) := by decide +kernel
theorem dX6_init_39 : decode cX6_init 39 = .ok (.bipush 24, 2) := by decide +kernel
theorem dX6_init_41 : decode cX6_init 41 = .ok (.newarray .int, 2) := by decide +kernel
theorem dX6_init_43 : decode cX6_init 43 = .ok (.putfield 30, 3) := by decide +kernel
theorem dX6_init_46 : decode cX6_init 46 = .ok (.aload_n 0, 1) := by decide +kernel
theorem dX6_init_47 : decode cX6_init 47 = .ok (.sipush 400, 3) := by decide +kernel
theorem dX6_init_50 : decode cX6_init 50 = .ok (.newarray .int, 2) := by decide +kernel
theorem dX6_init_52 : decode cX6_init 52 = .ok (.putfield 33, 3) := by decide +kernel
theorem dX6_init_55 : decode cX6_init 55 = .ok (.aload_n 0, 1) := by decide +kernel
theorem dX6_init_56 : decode cX6_init 56 = .ok (.iconst 0, 1) := by decide +kernel
theorem dX6_init_57 : decode cX6_init 57 = .ok (.putfield 36, 3) := by decide +kernel
theorem dX6_init_60 : decode cX6_init 60 = .ok (.aload_n 0, 1) := by decide +kernel
theorem dX6_init_61 : decode cX6_init 61 = .ok (.sipush 200, 3) := by decide +kernel
theorem dX6_init_64 : decode cX6_init 64 = .ok (.newarray .int, 2) := by decide +kernel
theorem dX6_init_66 : decode cX6_init 66 = .ok (.putfield 39, 3) := by decide +kernel
theorem dX6_init_69 : decode cX6_init 69 = .ok (.aload_n 0, 1) := by decide +kernel
theorem dX6_init_70 : decode cX6_init 70 = .ok (.sipush 200, 3) := by decide +kernel
theorem dX6_init_73 : decode cX6_init 73 = .ok (.newarray .int, 2) := by decide +kernel
theorem dX6_init_75 : decode cX6_init 75 = .ok (.putfield 42, 3) := by decide +kernel
theorem dX6_init_78 : decode cX6_init 78 = .ok (.aload_n 0, 1) := by decide +kernel
theorem dX6_init_79 : decode cX6_init 79 = .ok (.sipush 200, 3) := by decide +kernel
theorem dX6_init_82 : decode cX6_init 82 = .ok (.newarray .int, 2) := by decide +kernel
theorem dX6_init_84 : decode cX6_init 84 = .ok (.putfield 45, 3) := by decide +kernel
theorem dX6_init_87 : decode cX6_init 87 = .ok (.aload_n 0, 1) := by decide +kernel
theorem dX6_init_88 : decode cX6_init 88 = .ok (.sipush 200, 3) := by decide +kernel
theorem dX6_init_91 : decode cX6_init 91 = .ok (.newarray .int, 2) := by decide +kernel
theorem dX6_init_93 : decode cX6_init 93 = .ok (.putfield 48, 3) := by decide +kernel
theorem dX6_init_96 : decode cX6_init 96 = .ok (.aload_n 0, 1) := by decide +kernel
theorem dX6_init_97 : decode cX6_init 97 = .ok (.sipush 200, 3) := by decide +kernel
theorem dX6_init_100 : decode cX6_init 100 = .ok (.newarray .long, 2) := by decide +kernel
theorem dX6_init_102 : decode cX6_init 102 = .ok (.putfield 51, 3) := by decide +kernel
theorem dX6_init_105 : decode cX6_init 105 = .ok (.aload_n 0, 1) := by decide +kernel
theorem dX6_init_106 : decode cX6_init 106 = .ok (.iconst 0, 1) := by decide +kernel
theorem dX6_init_107 : decode cX6_init 107 = .ok (.putfield 54, 3) := by decide +kernel
theorem dX6_init_110 : decode cX6_init 110 = .ok (.aload_n 0, 1) := by decide +kernel
theorem dX6_init_111 : decode cX6_init 111 = .ok (.bipush 24, 2) := by decide +kernel
theorem dX6_init_113 : decode cX6_init 113 = .ok (.newarray .long, 2) := by decide +kernel
theorem dX6_init_115 : decode cX6_init 115 = .ok (.putfield 57, 3) := by decide +kernel
theorem dX6_init_118 : decode cX6_init 118 = .ok (.aload_n 0, 1) := by decide +kernel
theorem dX6_init_119 : decode cX6_init 119 = .ok (.bipush 24, 2) := by decide +kernel
theorem dX6_init_121 : decode cX6_init 121 = .ok (.newarray .int, 2) := by decide +kernel
theorem dX6_init_123 : decode cX6_init 123 = .ok (.putfield 60, 3) := by decide +kernel
theorem dX6_init_126 : decode cX6_init 126 = .ok (.aload_n 0, 1) := by decide +kernel
theorem dX6_init_127 : decode cX6_init 127 = .ok (.bipush 24, 2) := by decide +kernel
theorem dX6_init_129 : decode cX6_init 129 = .ok (.newarray .int, 2) := by decide +kernel
theorem dX6_init_131 : decode cX6_init 131 = .ok (.putfield 63, 3) := by decide +kernel
theorem dX6_init_134 : decode cX6_init 134 = .ok (.return_, 1) := by decide +kernel
theorem dX3_init_0 : decode cX3_init 0 = .ok (.aload_n 0, 1) := by decide +kernel
theorem dX3_init_1 : decode cX3_init 1 = .ok (.invokespecial 3, 3) := by decide +kernel
theorem dX3_init_4 : decode cX3_init 4 = .ok (.aload_n 0, 1) := by decide +kernel
theorem dX3_init_5 : decode cX3_init 5 = .ok (.aload_n 1, 1) := by decide +kernel
theorem dX3_init_6 : decode cX3_init 6 = .ok (.putfield 9, 3) := by decide +kernel
theorem dX3_init_9 : decode cX3_init 9 = .ok (.aload_n 0, 1) := by decide +kernel
theorem dX3_init_10 : decode cX3_init 10 = .ok (.bipush 72, 2) := by decide +kernel
theorem dX3_init_12 : decode cX3_init 12 = .ok (.newarray .long, 2) := by decide +kernel
theorem dX3_init_14 : decode cX3_init 14 = .ok (.putfield 15, 3) := by decide +kernel
theorem dX3_init_17 : decode cX3_init 17 = .ok (.aload_n 0, 1) := by decide +kernel
theorem dX3_init_18 : decode cX3_init 18 = .ok (.bipush 72, 2) := by decide +kernel
theorem dX3_init_20 : decode cX3_init 20 = .ok (.newarray .int, 2) := by decide +kernel
theorem dX3_init_22 : decode cX3_init 22 = .ok (.putfield 19, 3) := by decide +kernel
theorem dX3_init_25 : decode cX3_init 25 = .ok (.aload_n 0, 1) := by decide +kernel
theorem dX3_init_26 : decode cX3_init 26 = .ok (.bipush 72, 2) := by decide +kernel
theorem dX3_init_28 : decode cX3_init 28 = .ok (.newarray .int, 2) := by decide +kernel
theorem dX3_init_30 : decode cX3_init 30 = .ok (.putfield 23, 3) := by decide +kernel
theorem dX3_init_33 : decode cX3_init 33 = .ok (.aload_n 0, 1) := by decide +kernel
theorem dX3_init_34 : decode cX3_init 34 = .ok (.iconst 0, 1) := by decide +kernel
theorem dX3_init_35 : decode cX3_init 35 = .ok (.putfield 26, 3) := by decide +kernel
theorem dX3_init_38 : decode cX3_init 38 = .ok (.aload_n 0, 1) := by decide +kernel
theorem dX3_init_39 : decode cX3_init 39 = .ok (.bipush 72, 2) := by decide +kernel
theorem dX3_init_41 : decode cX3_init 41 = .ok (.newarray .int, 2) := by decide +kernel
theorem dX3_init_43 : decode cX3_init 43 = .ok (.putfield 30, 3) := by decide +kernel
theorem dX3_init_46 : decode cX3_init 46 = .ok (.aload_n 0, 1) := by decide +kernel
theorem dX3_init_47 : decode cX3_init 47 = .ok (.bipush 72, 2) := by decide +kernel
theorem dX3_init_49 : decode cX3_init 49 = .ok (.newarray .int, 2) := by decide +kernel
theorem dX3_init_51 : decode cX3_init 51 = .ok (.putfield 33, 3) := by decide +kernel
theorem dX3_init_54 : decode cX3_init 54 = .ok (.return_, 1) := by decide +kernel
theorem dX1_init_0 : decode cX1_init 0 = .ok (.aload_n 0, 1) := by decide +kernel
theorem dX1_init_1 : decode cX1_init 1 = .ok (.invokespecial 5, 3) := by decide +kernel
theorem dX1_init_4 : decode cX1_init 4 = .ok (.aload_n 0, 1) := by decide +kernel
theorem dX1_init_5 : decode cX1_init 5 = .ok (.iconst 0, 1) := by decide +kernel
theorem dX1_init_6 : decode cX1_init 6 = .ok (.putfield 11, 3) := by decide +kernel
theorem dX1_init_9 : decode cX1_init 9 = .ok (.aload_n 0, 1) := by decide +kernel
theorem dX1_init_10 : decode cX1_init 10 = .ok (.iconst 0, 1) := by decide +kernel
theorem dX1_init_11 : decode cX1_init 11 = .ok (.putfield 17, 3) := by decide +kernel
theorem dX1_init_14 : decode cX1_init 14 = .ok (.aload_n 0, 1) := by decide +kernel
theorem dX1_init_15 : decode cX1_init 15 = .ok (.sipush 1200, 3) := by decide +kernel
theorem dX1_init_18 : decode cX1_init 18 = .ok (.newarray .int, 2) := by decide +kernel
theorem dX1_init_20 : decode cX1_init 20 = .ok (.putfield 21, 3) := by decide +kernel
theorem dX1_init_23 : decode cX1_init 23 = .ok (.aload_n 0, 1) := by decide +kernel
theorem dX1_init_24 : decode cX1_init 24 = .ok (.iconst 0, 1) := by decide +kernel
theorem dX1_init_25 : decode cX1_init 25 = .ok (.putfield 25, 3) := by decide +kernel
theorem dX1_init_28 : decode cX1_init 28 = .ok (.aload_n 0, 1) := by decide +kernel
theorem dX1_init_29 : decode cX1_init 29 = .ok (.sipush 600, 3) := by decide +kernel
theorem dX1_init_32 : decode cX1_init 32 = .ok (.newarray .int, 2) := by decide +kernel
theorem dX1_init_34 : decode cX1_init 34 = .ok (.putfield 28, 3) := by decide +kernel
theorem dX1_init_37 : decode cX1_init 37 = .ok (.aload_n 0, 1) := by decide +kernel
theorem dX1_init_38 : decode cX1_init 38 = .ok (.iconst 0, 1) := by decide +kernel
theorem dX1_init_39 : decode cX1_init 39 = .ok (.putfield 31, 3) := by decide +kernel
theorem dX1_init_42 : decode cX1_init 42 = .ok (.aload_n 0, 1) := by decide +kernel
theorem dX1_init_43 : decode cX1_init 43 = .ok (.iconst 0, 1) := by decide +kernel
theorem dX1_init_44 : decode cX1_init 44 = .ok (.putfield 34, 3) := by decide +kernel
theorem dX1_init_47 : decode cX1_init 47 = .ok (.return_, 1) := by decide +kernel
theorem dX4_init_0 : decode cX4_init 0 = .ok (.aload_n 0, 1) := by decide +kernel
theorem dX4_init_1 : decode cX4_init 1 = .ok (.invokespecial 3, 3) := by decide +kernel
theorem dX4_init_4 : decode cX4_init 4 = .ok (.aload_n 0, 1) := by decide +kernel
theorem dX4_init_5 : decode cX4_init 5 = .ok (.sipush 4096, 3) := by decide +kernel
theorem dX4_init_8 : decode cX4_init 8 = .ok (.newarray .int, 2) := by decide +kernel
theorem dX4_init_10 : decode cX4_init 10 = .ok (.putfield 9, 3) := by decide +kernel
theorem dX4_init_13 : decode cX4_init 13 = .ok (.aload_n 0, 1) := by decide +kernel
theorem dX4_init_14 : decode cX4_init 14 = .ok (.bipush 8, 2) := by decide +kernel
theorem dX4_init_16 : decode cX4_init 16 = .ok (.newarray .int, 2) := by decide +kernel
theorem dX4_init_18 : decode cX4_init 18 = .ok (.putfield 13, 3) := by decide +kernel
theorem dX4_init_21 : decode cX4_init 21 = .ok (.aload_n 0, 1) := by decide +kernel
theorem dX4_init_22 : decode cX4_init 22 = .ok (.iconst 4, 1) := by decide +kernel
theorem dX4_init_23 : decode cX4_init 23 = .ok (.newarray .int, 2) := by decide +kernel
theorem dX4_init_25 : decode cX4_init 25 = .ok (.putfield 16, 3) := by decide +kernel
theorem dX4_init_28 : decode cX4_init 28 = .ok (.aload_n 0, 1) := by decide +kernel
theorem dX4_init_29 : decode cX4_init 29 = .ok (.bipush 30, 2) := by decide +kernel
theorem dX4_init_31 : decode cX4_init 31 = .ok (.newarray .int, 2) := by decide +kernel
theorem dX4_init_33 : decode cX4_init 33 = .ok (.putfield 19, 3) := by decide +kernel
theorem dX4_init_36 : decode cX4_init 36 = .ok (.aload_n 0, 1) := by decide +kernel
theorem dX4_init_37 : decode cX4_init 37 = .ok (.iconst 1, 1) := by decide +kernel
theorem dX4_init_38 : decode cX4_init 38 = .ok (.putfield 22, 3) := by decide +kernel
theorem dX4_init_41 : decode cX4_init 41 = .ok (.aload_n 0, 1) := by decide +kernel
theorem dX4_init_42 : decode cX4_init 42 = .ok (.iconst 0, 1) := by decide +kernel
theorem dX4_init_43 : decode cX4_init 43 = .ok (.putfield 26, 3) := by decide +kernel
theorem dX4_init_46 : decode cX4_init 46 = .ok (.aload_n 0, 1) := by decide +kernel
theorem dX4_init_47 : decode cX4_init 47 = .ok (.iconst 0, 1) := by decide +kernel
theorem dX4_init_48 : decode cX4_init 48 = .ok (.putfield 30, 3) := by decide +kernel
theorem dX4_init_51 : decode cX4_init 51 = .ok (.aload_n 0, 1) := by decide +kernel
theorem dX4_init_52 : decode cX4_init 52 = .ok (.iconst 0, 1) := by decide +kernel
theorem dX4_init_53 : decode cX4_init 53 = .ok (.putfield 33, 3) := by decide +kernel
theorem dX4_init_56 : decode cX4_init 56 = .ok (.aload_n 0, 1) := by decide +kernel
theorem dX4_init_57 : decode cX4_init 57 = .ok (.iconst 0, 1) := by decide +kernel
theorem dX4_init_58 : decode cX4_init 58 = .ok (.putfield 36, 3) := by decide +kernel
theorem dX4_init_61 : decode cX4_init 61 = .ok (.aload_n 0, 1) := by decide +kernel
theorem dX4_init_62 : decode cX4_init 62 = .ok (.iconst 0, 1) := by decide +kernel
theorem dX4_init_63 : decode cX4_init 63 = .ok (.putfield 39, 3) := by decide +kernel
theorem dX4_init_66 : decode cX4_init 66 = .ok (.aload_n 0, 1) := by decide +kernel
theorem dX4_init_67 : decode cX4_init 67 = .ok (.iconst 0, 1) := by decide +kernel
theorem dX4_init_68 : decode cX4_init 68 = .ok (.putfield 42, 3) := by decide +kernel
theorem dX4_init_71 : decode cX4_init 71 = .ok (.aload_n 0, 1) := by decide +kernel
theorem dX4_init_72 : decode cX4_init 72 = .ok (.iconst 0, 1) := by decide +kernel
theorem dX4_init_73 : decode cX4_init 73 = .ok (.putfield 45, 3) := by decide +kernel
theorem dX4_init_76 : decode cX4_init 76 = .ok (.aload_n 0, 1) := by decide +kernel
theorem dX4_init_77 : decode cX4_init 77 = .ok (.iconst 0, 1) := by decide +kernel
theorem dX4_init_78 : decode cX4_init 78 = .ok (.putfield 48, 3) := by decide +kernel
theorem dX4_init_81 : decode cX4_init 81 = .ok (.aload_n 0, 1) := by decide +kernel
theorem dX4_init_82 : decode cX4_init 82 = .ok (.iconst 0, 1) := by decide +kernel
theorem dX4_init_83 : decode cX4_init 83 = .ok (.putfield 51, 3) := by decide +kernel
theorem dX4_init_86 : decode cX4_init 86 = .ok (.return_, 1) := by decide +kernel
set_option maxHeartbeats 4000000 in
set_option maxRecDepth 100000 in
theorem c_X5_init (l : Launch) (D : va_G) (dA : Nat → ClassId) (h0 : Nat) (sz : Nat) : Met l yX5_init (gws yX5_init cX5_init 1 none) (gR 2 5 1200) (gPre D dA [.ref h0] [(h0, .inr (5, [.null, .null, .null, .null, .null, .int 0, .int 0]))] sz) (va_Qv (fun _ : Nat → Nat => True) (gAt D dA (va_A [(h0, .inr (5, [.null, .null, .null, .null, .null, .int 0, .int 0]))] sz) (fun ad : Nat → Nat => [(h0, .inr (5, [.ref (ad 0), .ref (ad 1), .ref (ad 2), .ref (ad 3), .ref (ad 4), .int 0, .int (-1)]))])) (va_A [(h0, .inr (5, [.null, .null, .null, .null, .null, .int 0, .int 0]))] sz)) 5 1200 (va_A [(h0, .inr (5, [.null, .null, .null, .null, .null, .int 0, .int 0]))] sz) := by
  refine Met.ofW (cc := cX5_init) (maxL := 1) (ret := none) (by decide) rfl ?_
  intro p e s m args below meth c s₁ B hml hv
  obtain ⟨rfl, hsz, hP, hK, hD0⟩ := hv
  have hx := B.exec
  have hb := B.bytes
  have hr := B.returns
  have hts := atoms_spec (ws := gws yX5_init cX5_init 1 none) B.pre
  have hg : ∀ w ∈ gw, w.before _ s = true := fun w h => hts w (List.mem_cons_of_mem _ h)
  have hown : s.vm.findClass RX5 = some m.cls := findClass_of_methodNamed B.named
  have hlocks := B.notSynchronized
  have hin : meth.name = "<init>" := (name_of_methodNamed B.named B.method).1
  subst hsz
  have hD := hD0.self (sz := s.heap.size)
  generalize hAe : va_A [(h0, .inr (5, [.null, .null, .null, .null, .null, .int 0, .int 0]))] s.heap.size = A at hD ⊢
  have hA : ∀ q : Nat, s.heap.size ≤ q → A q := fun q h => by rw [← hAe]; exact Or.inr h
  have hS : va_S A s.heap s.heap [] := va_S.rf
  have hP : va_P D vwC [(h0, .inr (5, [.null, .null, .null, .null, .null, .int 0, .int 0]))] s.heap := hP
  have hl := lv_entry ([.ref h0]) (n := 1) (Nat.le_of_ble_eq_true rfl)
  rw [lg_entry_eq]
  generalize (lg_sl ([.ref h0]) ++ List.replicate (1 - (lg_sl ([.ref h0])).length) Slot.unset).toArray = ls at hl ⊢
  have hl : lv_has ls 1 [(0, .ref h0)] := hl
  refine lv_aload_n hx hb dX5_init_0 rfl (lv_at hl 0 rfl) ?_
  refine g_obj hx hb hg hown q193 q186 q187 hml hl.1 dX5_init_1 (Nat.le_of_ble_eq_true rfl) (Nat.le_of_ble_eq_true rfl) ?_
  refine lv_aload_n hx hb dX5_init_4 rfl (lv_at hl 0 rfl) ?_
  refine lv_sipush (v := 240) hx hb dX5_init_5 (by decide) ?_
  refine g_newa (ty := .long) (N' := 240) (a0 := (240, .inr (.inl (fun _ => 0)))) hx hb hg rfl q223 hK hP hD hS hA 1 rfl (fun _ => rfl) (by decide) (by decide) (Nat.le_of_ble_eq_true rfl) (Nat.le_of_ble_eq_true rfl) (Nat.le_of_ble_eq_true rfl) dX5_init_8 (fun q1 H hP hD hS => ?_)
  refine W.widen (k := 1) (n := 240) (Nat.le_of_ble_eq_true rfl) (Nat.le_of_ble_eq_true rfl) ?_
  have hP : va_P D vwC [(h0, .inr (5, [.null, .null, .null, .null, .null, .int 0, .int 0])), (q1, .inl (dA 1, 240, .inr (.inl (fun _ => 0))))] H := hP
  have hD : va_D A [(h0, .inr (5, [.null, .null, .null, .null, .null, .int 0, .int 0])), (q1, .inl (dA 1, 240, .inr (.inl (fun _ => 0))))] := hD
  refine g_putF (w' := [(h0, .inr (5, [.ref q1, .null, .null, .null, .null, .int 0, .int 0])), (q1, .inl (dA 1, 240, .inr (.inl (fun _ => 0))))]) hx hb hg hown hK hP hD hS 0 rfl rfl inX5 tyX5_ok nmX5 0 (by decide) q194 rfl hin rfl rfl rfl (Nat.le_of_ble_eq_true rfl) rfl dX5_init_10 (fun H locs hP hD hS => ?_)
  refine lv_aload_n hx hb dX5_init_13 rfl (lv_at hl 0 rfl) ?_
  refine lv_sipush (v := 240) hx hb dX5_init_14 (by decide) ?_
  refine g_newa (ty := .int) (N' := 240) (a0 := (240, .inl (fun _ => 0))) hx hb hg rfl q224 hK hP hD hS hA 0 rfl (fun _ => rfl) (by decide) (by decide) (Nat.le_of_ble_eq_true rfl) (Nat.le_of_ble_eq_true rfl) (Nat.le_of_ble_eq_true rfl) dX5_init_17 (fun q2 H hP hD hS => ?_)
  refine W.widen (k := 2) (n := 480) (Nat.le_of_ble_eq_true rfl) (Nat.le_of_ble_eq_true rfl) ?_
  have hP : va_P D vwC [(h0, .inr (5, [.ref q1, .null, .null, .null, .null, .int 0, .int 0])), (q1, .inl (dA 1, 240, .inr (.inl (fun _ => 0)))), (q2, .inl (dA 0, 240, .inl (fun _ => 0)))] H := hP
  have hD : va_D A [(h0, .inr (5, [.ref q1, .null, .null, .null, .null, .int 0, .int 0])), (q1, .inl (dA 1, 240, .inr (.inl (fun _ => 0)))), (q2, .inl (dA 0, 240, .inl (fun _ => 0)))] := hD
  refine g_putF (w' := [(h0, .inr (5, [.ref q1, .ref q2, .null, .null, .null, .int 0, .int 0])), (q1, .inl (dA 1, 240, .inr (.inl (fun _ => 0)))), (q2, .inl (dA 0, 240, .inl (fun _ => 0)))]) hx hb hg hown hK hP hD hS 0 rfl rfl inX5 tyX5_ok nmX5 1 (by decide) q196 rfl hin rfl rfl rfl (Nat.le_of_ble_eq_true rfl) rfl dX5_init_19 (fun H locs hP hD hS => ?_)
  refine lv_aload_n hx hb dX5_init_22 rfl (lv_at hl 0 rfl) ?_
  refine lv_sipush (v := 240) hx hb dX5_init_23 (by decide) ?_
  refine g_newa (ty := .int) (N' := 240) (a0 := (240, .inl (fun _ => 0))) hx hb hg rfl q224 hK hP hD hS hA 0 rfl (fun _ => rfl) (by decide) (by decide) (Nat.le_of_ble_eq_true rfl) (Nat.le_of_ble_eq_true rfl) (Nat.le_of_ble_eq_true rfl) dX5_init_26 (fun q3 H hP hD hS => ?_)
  refine W.widen (k := 3) (n := 720) (Nat.le_of_ble_eq_true rfl) (Nat.le_of_ble_eq_true rfl) ?_
  have hP : va_P D vwC [(h0, .inr (5, [.ref q1, .ref q2, .null, .null, .null, .int 0, .int 0])), (q1, .inl (dA 1, 240, .inr (.inl (fun _ => 0)))), (q2, .inl (dA 0, 240, .inl (fun _ => 0))), (q3, .inl (dA 0, 240, .inl (fun _ => 0)))] H := hP
  have hD : va_D A [(h0, .inr (5, [.ref q1, .ref q2, .null, .null, .null, .int 0, .int 0])), (q1, .inl (dA 1, 240, .inr (.inl (fun _ => 0)))), (q2, .inl (dA 0, 240, .inl (fun _ => 0))), (q3, .inl (dA 0, 240, .inl (fun _ => 0)))] := hD
  refine g_putF (w' := [(h0, .inr (5, [.ref q1, .ref q2, .ref q3, .null, .null, .int 0, .int 0])), (q1, .inl (dA 1, 240, .inr (.inl (fun _ => 0)))), (q2, .inl (dA 0, 240, .inl (fun _ => 0))), (q3, .inl (dA 0, 240, .inl (fun _ => 0)))]) hx hb hg hown hK hP hD hS 0 rfl rfl inX5 tyX5_ok nmX5 2 (by decide) q198 rfl hin rfl rfl rfl (Nat.le_of_ble_eq_true rfl) rfl dX5_init_28 (fun H locs hP hD hS => ?_)
  refine lv_aload_n hx hb dX5_init_31 rfl (lv_at hl 0 rfl) ?_
  refine lv_sipush (v := 240) hx hb dX5_init_32 (by decide) ?_
  refine g_newa (ty := .int) (N' := 240) (a0 := (240, .inl (fun _ => 0))) hx hb hg rfl q224 hK hP hD hS hA 0 rfl (fun _ => rfl) (by decide) (by decide) (Nat.le_of_ble_eq_true rfl) (Nat.le_of_ble_eq_true rfl) (Nat.le_of_ble_eq_true rfl) dX5_init_35 (fun q4 H hP hD hS => ?_)
  refine W.widen (k := 4) (n := 960) (Nat.le_of_ble_eq_true rfl) (Nat.le_of_ble_eq_true rfl) ?_
  have hP : va_P D vwC [(h0, .inr (5, [.ref q1, .ref q2, .ref q3, .null, .null, .int 0, .int 0])), (q1, .inl (dA 1, 240, .inr (.inl (fun _ => 0)))), (q2, .inl (dA 0, 240, .inl (fun _ => 0))), (q3, .inl (dA 0, 240, .inl (fun _ => 0))), (q4, .inl (dA 0, 240, .inl (fun _ => 0)))] H := hP
  have hD : va_D A [(h0, .inr (5, [.ref q1, .ref q2, .ref q3, .null, .null, .int 0, .int 0])), (q1, .inl (dA 1, 240, .inr (.inl (fun _ => 0)))), (q2, .inl (dA 0, 240, .inl (fun _ => 0))), (q3, .inl (dA 0, 240, .inl (fun _ => 0))), (q4, .inl (dA 0, 240, .inl (fun _ => 0)))] := hD
  refine g_putF (w' := [(h0, .inr (5, [.ref q1, .ref q2, .ref q3, .ref q4, .null, .int 0, .int 0])), (q1, .inl (dA 1, 240, .inr (.inl (fun _ => 0)))), (q2, .inl (dA 0, 240, .inl (fun _ => 0))), (q3, .inl (dA 0, 240, .inl (fun _ => 0))), (q4, .inl (dA 0, 240, .inl (fun _ => 0)))]) hx hb hg hown hK hP hD hS 0 rfl rfl inX5 tyX5_ok nmX5 3 (by decide) q200 rfl hin rfl rfl rfl (Nat.le_of_ble_eq_true rfl) rfl dX5_init_37 (fun H locs hP hD hS => ?_)
  refine lv_aload_n hx hb dX5_init_40 rfl (lv_at hl 0 rfl) ?_
  refine lv_sipush (v := 240) hx hb dX5_init_41 (by decide) ?_
  refine g_newa (ty := .int) (N' := 240) (a0 := (240, .inl (fun _ => 0))) hx hb hg rfl q224 hK hP hD hS hA 0 rfl (fun _ => rfl) (by decide) (by decide) (Nat.le_of_ble_eq_true rfl) (Nat.le_of_ble_eq_true rfl) (Nat.le_of_ble_eq_true rfl) dX5_init_44 (fun q5 H hP hD hS => ?_)
  refine W.widen (k := 5) (n := 1200) (Nat.le_of_ble_eq_true rfl) (Nat.le_of_ble_eq_true rfl) ?_
  have hP : va_P D vwC [(h0, .inr (5, [.ref q1, .ref q2, .ref q3, .ref q4, .null, .int 0, .int 0])), (q1, .inl (dA 1, 240, .inr (.inl (fun _ => 0)))), (q2, .inl (dA 0, 240, .inl (fun _ => 0))), (q3, .inl (dA 0, 240, .inl (fun _ => 0))), (q4, .inl (dA 0, 240, .inl (fun _ => 0))), (q5, .inl (dA 0, 240, .inl (fun _ => 0)))] H := hP
  have hD : va_D A [(h0, .inr (5, [.ref q1, .ref q2, .ref q3, .ref q4, .null, .int 0, .int 0])), (q1, .inl (dA 1, 240, .inr (.inl (fun _ => 0)))), (q2, .inl (dA 0, 240, .inl (fun _ => 0))), (q3, .inl (dA 0, 240, .inl (fun _ => 0))), (q4, .inl (dA 0, 240, .inl (fun _ => 0))), (q5, .inl (dA 0, 240, .inl (fun _ => 0)))] := hD
  refine g_putF (w' := [(h0, .inr (5, [.ref q1, .ref q2, .ref q3, .ref q4, .ref q5, .int 0, .int 0])), (q1, .inl (dA 1, 240, .inr (.inl (fun _ => 0)))), (q2, .inl (dA 0, 240, .inl (fun _ => 0))), (q3, .inl (dA 0, 240, .inl (fun _ => 0))), (q4, .inl (dA 0, 240, .inl (fun _ => 0))), (q5, .inl (dA 0, 240, .inl (fun _ => 0)))]) hx hb hg hown hK hP hD hS 0 rfl rfl inX5 tyX5_ok nmX5 4 (by decide) q202 rfl hin rfl rfl rfl (Nat.le_of_ble_eq_true rfl) rfl dX5_init_46 (fun H locs hP hD hS => ?_)
  refine lv_aload_n hx hb dX5_init_49 rfl (lv_at hl 0 rfl) ?_
  refine lv_iconst (v := 0) hx hb dX5_init_50 (by decide) ?_
  refine g_put (w' := [(h0, .inr (5, [.ref q1, .ref q2, .ref q3, .ref q4, .ref q5, .int 0, .int 0])), (q1, .inl (dA 1, 240, .inr (.inl (fun _ => 0)))), (q2, .inl (dA 0, 240, .inl (fun _ => 0))), (q3, .inl (dA 0, 240, .inl (fun _ => 0))), (q4, .inl (dA 0, 240, .inl (fun _ => 0))), (q5, .inl (dA 0, 240, .inl (fun _ => 0)))]) hx hb hg hown hK hP hD hS 0 rfl rfl inX5 tyX5_ok nmX5 5 (by decide) q204 rfl rfl rfl (Nat.le_of_ble_eq_true rfl) rfl dX5_init_51 (fun H locs hP hD hS => ?_)
  refine lv_aload_n hx hb dX5_init_54 rfl (lv_at hl 0 rfl) ?_
  refine lv_iconst (v := (-1)) hx hb dX5_init_55 (by decide) ?_
  refine g_put (w' := [(h0, .inr (5, [.ref q1, .ref q2, .ref q3, .ref q4, .ref q5, .int 0, .int (-1)])), (q1, .inl (dA 1, 240, .inr (.inl (fun _ => 0)))), (q2, .inl (dA 0, 240, .inl (fun _ => 0))), (q3, .inl (dA 0, 240, .inl (fun _ => 0))), (q4, .inl (dA 0, 240, .inl (fun _ => 0))), (q5, .inl (dA 0, 240, .inl (fun _ => 0)))]) hx hb hg hown hK hP hD hS 0 rfl rfl inX5 tyX5_ok nmX5 6 (by decide) q205 rfl rfl rfl (Nat.le_of_ble_eq_true rfl) rfl dX5_init_56 (fun H locs hP hD hS => ?_)
  obtain ⟨hP, hD⟩ := g_cut (is := [0]) (w' := [(h0, .inr (5, [.ref q1, .ref q2, .ref q3, .ref q4, .ref q5, .int 0, .int (-1)]))]) hP hD (by decide) rfl rfl
  exact g_vret hx hb hr hlocks hK (fun k => ([q1, q2, q3, q4, q5] : List Nat).getD k 0) hP hD hS trivial (Nat.le_of_ble_eq_true rfl) (Nat.le_of_ble_eq_true rfl) dX5_init_59
set_option maxHeartbeats 4000000 in
set_option maxRecDepth 100000 in
theorem c_X9_init (l : Launch) (D : va_G) (dA : Nat → ClassId) (h0 : Nat) (n0 : Nat) (sz : Nat) : Met l yX9_init (gws yX9_init cX9_init 2 none) (gR 2 3 1443) (gPre D dA [.ref h0, .ref n0] [(h0, .inr (9, [.null, .null, .null, .int 0, .null]))] sz) (va_Qv (fun _ : Nat → Nat => True) (gAt D dA (va_A [(h0, .inr (9, [.null, .null, .null, .int 0, .null]))] sz) (fun ad : Nat → Nat => [(h0, .inr (9, [.ref (ad 0), .ref (ad 1), .ref (ad 2), .int 0, .ref n0])), (ad 0, .inl (dA 0, 481, .inl (fun _ => 0))), (ad 1, .inl (dA 0, 481, .inl (fun _ => 0))), (ad 2, .inl (dA 0, 481, .inl (fun _ => 0)))])) (va_A [(h0, .inr (9, [.null, .null, .null, .int 0, .null]))] sz)) 3 1443 (va_A [(h0, .inr (9, [.null, .null, .null, .int 0, .null]))] sz) := by
  refine Met.ofW (cc := cX9_init) (maxL := 2) (ret := none) (by decide) rfl ?_
  intro p e s m args below meth c s₁ B hml hv
  obtain ⟨rfl, hsz, hP, hK, hD0⟩ := hv
  have hx := B.exec
  have hb := B.bytes
  have hr := B.returns
  have hts := atoms_spec (ws := gws yX9_init cX9_init 2 none) B.pre
  have hg : ∀ w ∈ gw, w.before _ s = true := fun w h => hts w (List.mem_cons_of_mem _ h)
  have hown : s.vm.findClass RX9 = some m.cls := findClass_of_methodNamed B.named
  have hlocks := B.notSynchronized
  have hin : meth.name = "<init>" := (name_of_methodNamed B.named B.method).1
  subst hsz
  have hD := hD0.self (sz := s.heap.size)
  generalize hAe : va_A [(h0, .inr (9, [.null, .null, .null, .int 0, .null]))] s.heap.size = A at hD ⊢
  have hA : ∀ q : Nat, s.heap.size ≤ q → A q := fun q h => by rw [← hAe]; exact Or.inr h
  have hS : va_S A s.heap s.heap [] := va_S.rf
  have hP : va_P D vwC [(h0, .inr (9, [.null, .null, .null, .int 0, .null]))] s.heap := hP
  have hl := lv_entry ([.ref h0, .ref n0]) (n := 2) (Nat.le_of_ble_eq_true rfl)
  rw [lg_entry_eq]
  generalize (lg_sl ([.ref h0, .ref n0]) ++ List.replicate (2 - (lg_sl ([.ref h0, .ref n0])).length) Slot.unset).toArray = ls at hl ⊢
  have hl : lv_has ls 2 [(0, .ref h0), (1, .ref n0)] := hl
  refine lv_aload_n hx hb dX9_init_0 rfl (lv_at hl 0 rfl) ?_
  refine g_obj hx hb hg hown q230 q186 q187 hml hl.1 dX9_init_1 (Nat.le_of_ble_eq_true rfl) (Nat.le_of_ble_eq_true rfl) ?_
  refine lv_aload_n hx hb dX9_init_4 rfl (lv_at hl 0 rfl) ?_
  refine lv_sipush (v := 481) hx hb dX9_init_5 (by decide) ?_
  refine g_newa (ty := .int) (N' := 481) (a0 := (481, .inl (fun _ => 0))) hx hb hg rfl q224 hK hP hD hS hA 0 rfl (fun _ => rfl) (by decide) (by decide) (Nat.le_of_ble_eq_true rfl) (Nat.le_of_ble_eq_true rfl) (Nat.le_of_ble_eq_true rfl) dX9_init_8 (fun q1 H hP hD hS => ?_)
  refine W.widen (k := 1) (n := 481) (Nat.le_of_ble_eq_true rfl) (Nat.le_of_ble_eq_true rfl) ?_
  have hP : va_P D vwC [(h0, .inr (9, [.null, .null, .null, .int 0, .null])), (q1, .inl (dA 0, 481, .inl (fun _ => 0)))] H := hP
  have hD : va_D A [(h0, .inr (9, [.null, .null, .null, .int 0, .null])), (q1, .inl (dA 0, 481, .inl (fun _ => 0)))] := hD
  refine g_putF (w' := [(h0, .inr (9, [.ref q1, .null, .null, .int 0, .null])), (q1, .inl (dA 0, 481, .inl (fun _ => 0)))]) hx hb hg hown hK hP hD hS 0 rfl rfl inX9 tyX9_ok nmX9 0 (by decide) q231 rfl hin rfl rfl rfl (Nat.le_of_ble_eq_true rfl) rfl dX9_init_10 (fun H locs hP hD hS => ?_)
  refine lv_aload_n hx hb dX9_init_13 rfl (lv_at hl 0 rfl) ?_
  refine lv_sipush (v := 481) hx hb dX9_init_14 (by decide) ?_
  refine g_newa (ty := .int) (N' := 481) (a0 := (481, .inl (fun _ => 0))) hx hb hg rfl q224 hK hP hD hS hA 0 rfl (fun _ => rfl) (by decide) (by decide) (Nat.le_of_ble_eq_true rfl) (Nat.le_of_ble_eq_true rfl) (Nat.le_of_ble_eq_true rfl) dX9_init_17 (fun q2 H hP hD hS => ?_)
  refine W.widen (k := 2) (n := 962) (Nat.le_of_ble_eq_true rfl) (Nat.le_of_ble_eq_true rfl) ?_
  have hP : va_P D vwC [(h0, .inr (9, [.ref q1, .null, .null, .int 0, .null])), (q1, .inl (dA 0, 481, .inl (fun _ => 0))), (q2, .inl (dA 0, 481, .inl (fun _ => 0)))] H := hP
  have hD : va_D A [(h0, .inr (9, [.ref q1, .null, .null, .int 0, .null])), (q1, .inl (dA 0, 481, .inl (fun _ => 0))), (q2, .inl (dA 0, 481, .inl (fun _ => 0)))] := hD
  refine g_putF (w' := [(h0, .inr (9, [.ref q1, .ref q2, .null, .int 0, .null])), (q1, .inl (dA 0, 481, .inl (fun _ => 0))), (q2, .inl (dA 0, 481, .inl (fun _ => 0)))]) hx hb hg hown hK hP hD hS 0 rfl rfl inX9 tyX9_ok nmX9 1 (by decide) q233 rfl hin rfl rfl rfl (Nat.le_of_ble_eq_true rfl) rfl dX9_init_19 (fun H locs hP hD hS => ?_)
  refine lv_aload_n hx hb dX9_init_22 rfl (lv_at hl 0 rfl) ?_
  refine lv_sipush (v := 481) hx hb dX9_init_23 (by decide) ?_
  refine g_newa (ty := .int) (N' := 481) (a0 := (481, .inl (fun _ => 0))) hx hb hg rfl q224 hK hP hD hS hA 0 rfl (fun _ => rfl) (by decide) (by decide) (Nat.le_of_ble_eq_true rfl) (Nat.le_of_ble_eq_true rfl) (Nat.le_of_ble_eq_true rfl) dX9_init_26 (fun q3 H hP hD hS => ?_)
  refine W.widen (k := 3) (n := 1443) (Nat.le_of_ble_eq_true rfl) (Nat.le_of_ble_eq_true rfl) ?_
  have hP : va_P D vwC [(h0, .inr (9, [.ref q1, .ref q2, .null, .int 0, .null])), (q1, .inl (dA 0, 481, .inl (fun _ => 0))), (q2, .inl (dA 0, 481, .inl (fun _ => 0))), (q3, .inl (dA 0, 481, .inl (fun _ => 0)))] H := hP
  have hD : va_D A [(h0, .inr (9, [.ref q1, .ref q2, .null, .int 0, .null])), (q1, .inl (dA 0, 481, .inl (fun _ => 0))), (q2, .inl (dA 0, 481, .inl (fun _ => 0))), (q3, .inl (dA 0, 481, .inl (fun _ => 0)))] := hD
  refine g_putF (w' := [(h0, .inr (9, [.ref q1, .ref q2, .ref q3, .int 0, .null])), (q1, .inl (dA 0, 481, .inl (fun _ => 0))), (q2, .inl (dA 0, 481, .inl (fun _ => 0))), (q3, .inl (dA 0, 481, .inl (fun _ => 0)))]) hx hb hg hown hK hP hD hS 0 rfl rfl inX9 tyX9_ok nmX9 2 (by decide) q235 rfl hin rfl rfl rfl (Nat.le_of_ble_eq_true rfl) rfl dX9_init_28 (fun H locs hP hD hS => ?_)
  refine lv_aload_n hx hb dX9_init_31 rfl (lv_at hl 0 rfl) ?_
  refine lv_iconst (v := 0) hx hb dX9_init_32 (by decide) ?_
  refine g_put (w' := [(h0, .inr (9, [.ref q1, .ref q2, .ref q3, .int 0, .null])), (q1, .inl (dA 0, 481, .inl (fun _ => 0))), (q2, .inl (dA 0, 481, .inl (fun _ => 0))), (q3, .inl (dA 0, 481, .inl (fun _ => 0)))]) hx hb hg hown hK hP hD hS 0 rfl rfl inX9 tyX9_ok nmX9 3 (by decide) q237 rfl rfl rfl (Nat.le_of_ble_eq_true rfl) rfl dX9_init_33 (fun H locs hP hD hS => ?_)
  refine lv_aload_n hx hb dX9_init_36 rfl (lv_at hl 0 rfl) ?_
  refine lv_aload_n hx hb dX9_init_37 rfl (lv_at hl 1 rfl) ?_
  refine g_putF (w' := [(h0, .inr (9, [.ref q1, .ref q2, .ref q3, .int 0, .ref n0])), (q1, .inl (dA 0, 481, .inl (fun _ => 0))), (q2, .inl (dA 0, 481, .inl (fun _ => 0))), (q3, .inl (dA 0, 481, .inl (fun _ => 0)))]) hx hb hg hown hK hP hD hS 0 rfl rfl inX9 tyX9_ok nmX9 4 (by decide) q239 rfl hin rfl rfl rfl (Nat.le_of_ble_eq_true rfl) rfl dX9_init_38 (fun H locs hP hD hS => ?_)
  obtain ⟨hP, hD⟩ := g_cut (is := [0, 1, 2, 3]) (w' := [(h0, .inr (9, [.ref q1, .ref q2, .ref q3, .int 0, .ref n0])), (q1, .inl (dA 0, 481, .inl (fun _ => 0))), (q2, .inl (dA 0, 481, .inl (fun _ => 0))), (q3, .inl (dA 0, 481, .inl (fun _ => 0)))]) hP hD (by decide) rfl rfl
  exact g_vret hx hb hr hlocks hK (fun k => ([q1, q2, q3] : List Nat).getD k 0) hP hD hS trivial (Nat.le_of_ble_eq_true rfl) (Nat.le_of_ble_eq_true rfl) dX9_init_41
set_option maxHeartbeats 4000000 in
set_option maxRecDepth 100000 in
theorem c_X7_clear (l : Launch) (D : va_G) (dA : Nat → ClassId) (h0 : Nat) (sz : Nat) : Met l yX7_clear (gws yX7_clear cX7_clear 2 none) (gR 2 0 0) (gPre D dA [.ref h0, .int 0] [(h0, .inr (7, [.int 0, .int 0, .int 0, .int 0, .int 0, .int 0, .int 0, .int 0]))] sz) (va_Qv (fun _ : Nat → Nat => True) (gAt D dA (va_A [(h0, .inr (7, [.int 0, .int 0, .int 0, .int 0, .int 0, .int 0, .int 0, .int 0]))] sz) (fun ad : Nat → Nat => [(h0, .inr (7, [.int 0, .int 0, .int 0, .int (-1), .int (-1), .int 0, .int 0, .int 0]))])) (va_A [(h0, .inr (7, [.int 0, .int 0, .int 0, .int 0, .int 0, .int 0, .int 0, .int 0]))] sz)) 0 0 (va_A [(h0, .inr (7, [.int 0, .int 0, .int 0, .int 0, .int 0, .int 0, .int 0, .int 0]))] sz) := by
  refine Met.ofW (cc := cX7_clear) (maxL := 2) (ret := none) (by decide) rfl ?_
  intro p e s m args below meth c s₁ B hml hv
  obtain ⟨rfl, hsz, hP, hK, hD0⟩ := hv
  have hx := B.exec
  have hb := B.bytes
  have hr := B.returns
  have hts := atoms_spec (ws := gws yX7_clear cX7_clear 2 none) B.pre
  have hg : ∀ w ∈ gw, w.before _ s = true := fun w h => hts w (List.mem_cons_of_mem _ h)
  have hown : s.vm.findClass RX7 = some m.cls := findClass_of_methodNamed B.named
  have hlocks := B.notSynchronized
  subst hsz
  have hD := hD0.self (sz := s.heap.size)
  generalize hAe : va_A [(h0, .inr (7, [.int 0, .int 0, .int 0, .int 0, .int 0, .int 0, .int 0, .int 0]))] s.heap.size = A at hD ⊢
  have hA : ∀ q : Nat, s.heap.size ≤ q → A q := fun q h => by rw [← hAe]; exact Or.inr h
  have hS : va_S A s.heap s.heap [] := va_S.rf
  have hP : va_P D vwC [(h0, .inr (7, [.int 0, .int 0, .int 0, .int 0, .int 0, .int 0, .int 0, .int 0]))] s.heap := hP
  have hl := lv_entry ([.ref h0, .int 0]) (n := 2) (Nat.le_of_ble_eq_true rfl)
  rw [lg_entry_eq]
  generalize (lg_sl ([.ref h0, .int 0]) ++ List.replicate (2 - (lg_sl ([.ref h0, .int 0])).length) Slot.unset).toArray = ls at hl ⊢
  have hl : lv_has ls 2 [(0, .ref h0), (1, .int 0)] := hl
  refine lv_aload_n hx hb dX7_clear_0 rfl (lv_at hl 0 rfl) ?_
  refine lv_iload_n hx hb dX7_clear_1 rfl (lv_at hl 1 rfl) ?_
  refine g_put (w' := [(h0, .inr (7, [.int 0, .int 0, .int 0, .int 0, .int 0, .int 0, .int 0, .int 0]))]) hx hb hg hown hK hP hD hS 0 rfl rfl inX7 tyX7_ok nmX7 0 (by decide) q307 rfl rfl rfl (Nat.le_of_ble_eq_true rfl) rfl dX7_clear_2 (fun H locs hP hD hS => ?_)
  refine lv_aload_n hx hb dX7_clear_5 rfl (lv_at hl 0 rfl) ?_
  refine lv_iconst (v := 0) hx hb dX7_clear_6 (by decide) ?_
  refine g_put (w' := [(h0, .inr (7, [.int 0, .int 0, .int 0, .int 0, .int 0, .int 0, .int 0, .int 0]))]) hx hb hg hown hK hP hD hS 0 rfl rfl inX7 tyX7_ok nmX7 1 (by decide) q310 rfl rfl rfl (Nat.le_of_ble_eq_true rfl) rfl dX7_clear_7 (fun H locs hP hD hS => ?_)
  refine lv_aload_n hx hb dX7_clear_10 rfl (lv_at hl 0 rfl) ?_
  refine lv_iconst (v := 0) hx hb dX7_clear_11 (by decide) ?_
  refine g_put (w' := [(h0, .inr (7, [.int 0, .int 0, .int 0, .int 0, .int 0, .int 0, .int 0, .int 0]))]) hx hb hg hown hK hP hD hS 0 rfl rfl inX7 tyX7_ok nmX7 2 (by decide) q313 rfl rfl rfl (Nat.le_of_ble_eq_true rfl) rfl dX7_clear_12 (fun H locs hP hD hS => ?_)
  refine lv_aload_n hx hb dX7_clear_15 rfl (lv_at hl 0 rfl) ?_
  refine lv_iconst (v := (-1)) hx hb dX7_clear_16 (by decide) ?_
  refine g_put (w' := [(h0, .inr (7, [.int 0, .int 0, .int 0, .int (-1), .int 0, .int 0, .int 0, .int 0]))]) hx hb hg hown hK hP hD hS 0 rfl rfl inX7 tyX7_ok nmX7 3 (by decide) q316 rfl rfl rfl (Nat.le_of_ble_eq_true rfl) rfl dX7_clear_17 (fun H locs hP hD hS => ?_)
  refine lv_aload_n hx hb dX7_clear_20 rfl (lv_at hl 0 rfl) ?_
  refine lv_iconst (v := (-1)) hx hb dX7_clear_21 (by decide) ?_
  refine g_put (w' := [(h0, .inr (7, [.int 0, .int 0, .int 0, .int (-1), .int (-1), .int 0, .int 0, .int 0]))]) hx hb hg hown hK hP hD hS 0 rfl rfl inX7 tyX7_ok nmX7 4 (by decide) q319 rfl rfl rfl (Nat.le_of_ble_eq_true rfl) rfl dX7_clear_22 (fun H locs hP hD hS => ?_)
  refine lv_aload_n hx hb dX7_clear_25 rfl (lv_at hl 0 rfl) ?_
  refine lv_iconst (v := 0) hx hb dX7_clear_26 (by decide) ?_
  refine g_put (w' := [(h0, .inr (7, [.int 0, .int 0, .int 0, .int (-1), .int (-1), .int 0, .int 0, .int 0]))]) hx hb hg hown hK hP hD hS 0 rfl rfl inX7 tyX7_ok nmX7 5 (by decide) q322 rfl rfl rfl (Nat.le_of_ble_eq_true rfl) rfl dX7_clear_27 (fun H locs hP hD hS => ?_)
  refine lv_aload_n hx hb dX7_clear_30 rfl (lv_at hl 0 rfl) ?_
  refine lv_iconst (v := 0) hx hb dX7_clear_31 (by decide) ?_
  refine g_put (w' := [(h0, .inr (7, [.int 0, .int 0, .int 0, .int (-1), .int (-1), .int 0, .int 0, .int 0]))]) hx hb hg hown hK hP hD hS 0 rfl rfl inX7 tyX7_ok nmX7 6 (by decide) q325 rfl rfl rfl (Nat.le_of_ble_eq_true rfl) rfl dX7_clear_32 (fun H locs hP hD hS => ?_)
  refine lv_aload_n hx hb dX7_clear_35 rfl (lv_at hl 0 rfl) ?_
  refine lv_iconst (v := 0) hx hb dX7_clear_36 (by decide) ?_
  refine g_put (w' := [(h0, .inr (7, [.int 0, .int 0, .int 0, .int (-1), .int (-1), .int 0, .int 0, .int 0]))]) hx hb hg hown hK hP hD hS 0 rfl rfl inX7 tyX7_ok nmX7 7 (by decide) q327 rfl rfl rfl (Nat.le_of_ble_eq_true rfl) rfl dX7_clear_37 (fun H locs hP hD hS => ?_)
  obtain ⟨hP, hD⟩ := g_cut (is := [0]) (w' := [(h0, .inr (7, [.int 0, .int 0, .int 0, .int (-1), .int (-1), .int 0, .int 0, .int 0]))]) hP hD (by decide) rfl rfl
  exact g_vret hx hb hr hlocks hK (fun k => ([] : List Nat).getD k 0) hP hD hS trivial (Nat.le_of_ble_eq_true rfl) (Nat.le_of_ble_eq_true rfl) dX7_clear_40
set_option maxHeartbeats 4000000 in
set_option maxRecDepth 100000 in
theorem c_X7_init (l : Launch) (D : va_G) (dA : Nat → ClassId) (h0 : Nat) (sz : Nat) : Met l yX7_init (gws yX7_init cX7_init 1 none) (gR 3 0 0) (gPre D dA [.ref h0] [(h0, .inr (7, [.int 0, .int 0, .int 0, .int 0, .int 0, .int 0, .int 0, .int 0]))] sz) (va_Qv (fun _ : Nat → Nat => True) (gAt D dA (va_A [(h0, .inr (7, [.int 0, .int 0, .int 0, .int 0, .int 0, .int 0, .int 0, .int 0]))] sz) (fun ad : Nat → Nat => [(h0, .inr (7, [.int 0, .int 0, .int 0, .int (-1), .int (-1), .int 0, .int 0, .int 0]))])) (va_A [(h0, .inr (7, [.int 0, .int 0, .int 0, .int 0, .int 0, .int 0, .int 0, .int 0]))] sz)) 0 0 (va_A [(h0, .inr (7, [.int 0, .int 0, .int 0, .int 0, .int 0, .int 0, .int 0, .int 0]))] sz) := by
  refine Met.ofW (cc := cX7_init) (maxL := 1) (ret := none) (by decide) rfl ?_
  intro p e s m args below meth c s₁ B hml hv
  obtain ⟨rfl, hsz, hP, hK, hD0⟩ := hv
  have hx := B.exec
  have hb := B.bytes
  have hr := B.returns
  have hts := atoms_spec (ws := gws yX7_init cX7_init 1 none) B.pre
  have hg : ∀ w ∈ gw, w.before _ s = true := fun w h => hts w (List.mem_cons_of_mem _ h)
  have hown : s.vm.findClass RX7 = some m.cls := findClass_of_methodNamed B.named
  have hlocks := B.notSynchronized
  have hin : meth.name = "<init>" := (name_of_methodNamed B.named B.method).1
  subst hsz
  have hD := hD0.self (sz := s.heap.size)
  generalize hAe : va_A [(h0, .inr (7, [.int 0, .int 0, .int 0, .int 0, .int 0, .int 0, .int 0, .int 0]))] s.heap.size = A at hD ⊢
  have hA : ∀ q : Nat, s.heap.size ≤ q → A q := fun q h => by rw [← hAe]; exact Or.inr h
  have hS : va_S A s.heap s.heap [] := va_S.rf
  have hP : va_P D vwC [(h0, .inr (7, [.int 0, .int 0, .int 0, .int 0, .int 0, .int 0, .int 0, .int 0]))] s.heap := hP
  have hl := lv_entry ([.ref h0]) (n := 1) (Nat.le_of_ble_eq_true rfl)
  rw [lg_entry_eq]
  generalize (lg_sl ([.ref h0]) ++ List.replicate (1 - (lg_sl ([.ref h0])).length) Slot.unset).toArray = ls at hl ⊢
  have hl : lv_has ls 1 [(0, .ref h0)] := hl
  refine lv_aload_n hx hb dX7_init_0 rfl (lv_at hl 0 rfl) ?_
  refine g_obj hx hb hg hown q302 q186 q187 hml hl.1 dX7_init_1 (Nat.le_of_ble_eq_true rfl) (Nat.le_of_ble_eq_true rfl) ?_
  refine lv_aload_n hx hb dX7_init_4 rfl (lv_at hl 0 rfl) ?_
  refine lv_iconst (v := 0) hx hb dX7_init_5 (by decide) ?_
  refine g_Vv (n := 1) (As := [.int 0]) (rest := []) (wr := []) hx hb hml hg hown hK hP hD hS hA (c_X7_clear l D dA h0 _) [0] [] rfl (by decide) rfl (by decide) (by decide) 0 rfl rfl q306 q154 q303 q305 q0 (by decide +kernel) ⟨(Nat.le_of_ble_eq_true rfl), (Nat.le_of_ble_eq_true rfl)⟩ rfl hl.1 rfl (Nat.le_of_ble_eq_true rfl) dX7_init_6 ⟨(Nat.le_of_ble_eq_true rfl), (Nat.le_of_ble_eq_true rfl)⟩ (fun u1 H locs w3 hP hD hS => ?_)
  refine W.widen (k := 0) (n := 0) (Nat.le_of_ble_eq_true rfl) (Nat.le_of_ble_eq_true rfl) ?_
  have hP : va_P D vwC [(h0, .inr (7, [.int 0, .int 0, .int 0, .int (-1), .int (-1), .int 0, .int 0, .int 0]))] H := hP
  have hD : va_D A [(h0, .inr (7, [.int 0, .int 0, .int 0, .int (-1), .int (-1), .int 0, .int 0, .int 0]))] := hD
  obtain ⟨hP, hD⟩ := g_cut (is := [0]) (w' := [(h0, .inr (7, [.int 0, .int 0, .int 0, .int (-1), .int (-1), .int 0, .int 0, .int 0]))]) hP hD (by decide) rfl rfl
  exact g_vret hx hb hr hlocks hK (fun k => ([] : List Nat).getD k 0) hP hD hS trivial (Nat.le_of_ble_eq_true rfl) (Nat.le_of_ble_eq_true rfl) dX7_init_9
set_option maxHeartbeats 4000000 in
set_option maxRecDepth 100000 in
theorem c_X0_init (l : Launch) (D : va_G) (dA : Nat → ClassId) (h0 : Nat) (sz : Nat) : Met l yX0_init (gws yX0_init cX0_init 1 none) (gR 2 7 1736) (gPre D dA [.ref h0] [(h0, .inr (0, [.null, .null, .null, .null, .null, .null, .null, .int 0]))] sz) (va_Qv (fun _ : Nat → Nat => True) (gAt D dA (va_A [(h0, .inr (0, [.null, .null, .null, .null, .null, .null, .null, .int 0]))] sz) (fun ad : Nat → Nat => [(h0, .inr (0, [.ref (ad 0), .ref (ad 1), .ref (ad 2), .ref (ad 3), .ref (ad 4), .ref (ad 5), .ref (ad 6), .int 0]))])) (va_A [(h0, .inr (0, [.null, .null, .null, .null, .null, .null, .null, .int 0]))] sz)) 7 1736 (va_A [(h0, .inr (0, [.null, .null, .null, .null, .null, .null, .null, .int 0]))] sz) := by
  refine Met.ofW (cc := cX0_init) (maxL := 1) (ret := none) (by decide) rfl ?_
  intro p e s m args below meth c s₁ B hml hv
  obtain ⟨rfl, hsz, hP, hK, hD0⟩ := hv
  have hx := B.exec
  have hb := B.bytes
  have hr := B.returns
  have hts := atoms_spec (ws := gws yX0_init cX0_init 1 none) B.pre
  have hg : ∀ w ∈ gw, w.before _ s = true := fun w h => hts w (List.mem_cons_of_mem _ h)
  have hown : s.vm.findClass RX0 = some m.cls := findClass_of_methodNamed B.named
  have hlocks := B.notSynchronized
  have hin : meth.name = "<init>" := (name_of_methodNamed B.named B.method).1
  subst hsz
  have hD := hD0.self (sz := s.heap.size)
  generalize hAe : va_A [(h0, .inr (0, [.null, .null, .null, .null, .null, .null, .null, .int 0]))] s.heap.size = A at hD ⊢
  have hA : ∀ q : Nat, s.heap.size ≤ q → A q := fun q h => by rw [← hAe]; exact Or.inr h
  have hS : va_S A s.heap s.heap [] := va_S.rf
  have hP : va_P D vwC [(h0, .inr (0, [.null, .null, .null, .null, .null, .null, .null, .int 0]))] s.heap := hP
  have hl := lv_entry ([.ref h0]) (n := 1) (Nat.le_of_ble_eq_true rfl)
  rw [lg_entry_eq]
  generalize (lg_sl ([.ref h0]) ++ List.replicate (1 - (lg_sl ([.ref h0])).length) Slot.unset).toArray = ls at hl ⊢
  have hl : lv_has ls 1 [(0, .ref h0)] := hl
  refine lv_aload_n hx hb dX0_init_0 rfl (lv_at hl 0 rfl) ?_
  refine g_obj hx hb hg hown q256 q186 q187 hml hl.1 dX0_init_1 (Nat.le_of_ble_eq_true rfl) (Nat.le_of_ble_eq_true rfl) ?_
  refine lv_aload_n hx hb dX0_init_4 rfl (lv_at hl 0 rfl) ?_
  refine lv_sipush (v := 248) hx hb dX0_init_5 (by decide) ?_
  refine g_newa (ty := .int) (N' := 248) (a0 := (248, .inl (fun _ => 0))) hx hb hg rfl q224 hK hP hD hS hA 0 rfl (fun _ => rfl) (by decide) (by decide) (Nat.le_of_ble_eq_true rfl) (Nat.le_of_ble_eq_true rfl) (Nat.le_of_ble_eq_true rfl) dX0_init_8 (fun q1 H hP hD hS => ?_)
  refine W.widen (k := 1) (n := 248) (Nat.le_of_ble_eq_true rfl) (Nat.le_of_ble_eq_true rfl) ?_
  have hP : va_P D vwC [(h0, .inr (0, [.null, .null, .null, .null, .null, .null, .null, .int 0])), (q1, .inl (dA 0, 248, .inl (fun _ => 0)))] H := hP
  have hD : va_D A [(h0, .inr (0, [.null, .null, .null, .null, .null, .null, .null, .int 0])), (q1, .inl (dA 0, 248, .inl (fun _ => 0)))] := hD
  refine g_putF (w' := [(h0, .inr (0, [.ref q1, .null, .null, .null, .null, .null, .null, .int 0])), (q1, .inl (dA 0, 248, .inl (fun _ => 0)))]) hx hb hg hown hK hP hD hS 0 rfl rfl inX0 tyX0_ok nmX0 0 (by decide) q257 rfl hin rfl rfl rfl (Nat.le_of_ble_eq_true rfl) rfl dX0_init_10 (fun H locs hP hD hS => ?_)
  refine lv_aload_n hx hb dX0_init_13 rfl (lv_at hl 0 rfl) ?_
  refine lv_sipush (v := 248) hx hb dX0_init_14 (by decide) ?_
  refine g_newa (ty := .int) (N' := 248) (a0 := (248, .inl (fun _ => 0))) hx hb hg rfl q224 hK hP hD hS hA 0 rfl (fun _ => rfl) (by decide) (by decide) (Nat.le_of_ble_eq_true rfl) (Nat.le_of_ble_eq_true rfl) (Nat.le_of_ble_eq_true rfl) dX0_init_17 (fun q2 H hP hD hS => ?_)
  refine W.widen (k := 2) (n := 496) (Nat.le_of_ble_eq_true rfl) (Nat.le_of_ble_eq_true rfl) ?_
  have hP : va_P D vwC [(h0, .inr (0, [.ref q1, .null, .null, .null, .null, .null, .null, .int 0])), (q1, .inl (dA 0, 248, .inl (fun _ => 0))), (q2, .inl (dA 0, 248, .inl (fun _ => 0)))] H := hP
  have hD : va_D A [(h0, .inr (0, [.ref q1, .null, .null, .null, .null, .null, .null, .int 0])), (q1, .inl (dA 0, 248, .inl (fun _ => 0))), (q2, .inl (dA 0, 248, .inl (fun _ => 0)))] := hD
  refine g_putF (w' := [(h0, .inr (0, [.ref q1, .ref q2, .null, .null, .null, .null, .null, .int 0])), (q1, .inl (dA 0, 248, .inl (fun _ => 0))), (q2, .inl (dA 0, 248, .inl (fun _ => 0)))]) hx hb hg hown hK hP hD hS 0 rfl rfl inX0 tyX0_ok nmX0 1 (by decide) q259 rfl hin rfl rfl rfl (Nat.le_of_ble_eq_true rfl) rfl dX0_init_19 (fun H locs hP hD hS => ?_)
  refine lv_aload_n hx hb dX0_init_22 rfl (lv_at hl 0 rfl) ?_
  refine lv_sipush (v := 248) hx hb dX0_init_23 (by decide) ?_
  refine g_newa (ty := .int) (N' := 248) (a0 := (248, .inl (fun _ => 0))) hx hb hg rfl q224 hK hP hD hS hA 0 rfl (fun _ => rfl) (by decide) (by decide) (Nat.le_of_ble_eq_true rfl) (Nat.le_of_ble_eq_true rfl) (Nat.le_of_ble_eq_true rfl) dX0_init_26 (fun q3 H hP hD hS => ?_)
  refine W.widen (k := 3) (n := 744) (Nat.le_of_ble_eq_true rfl) (Nat.le_of_ble_eq_true rfl) ?_
  have hP : va_P D vwC [(h0, .inr (0, [.ref q1, .ref q2, .null, .null, .null, .null, .null, .int 0])), (q1, .inl (dA 0, 248, .inl (fun _ => 0))), (q2, .inl (dA 0, 248, .inl (fun _ => 0))), (q3, .inl (dA 0, 248, .inl (fun _ => 0)))] H := hP
  have hD : va_D A [(h0, .inr (0, [.ref q1, .ref q2, .null, .null, .null, .null, .null, .int 0])), (q1, .inl (dA 0, 248, .inl (fun _ => 0))), (q2, .inl (dA 0, 248, .inl (fun _ => 0))), (q3, .inl (dA 0, 248, .inl (fun _ => 0)))] := hD
  refine g_putF (w' := [(h0, .inr (0, [.ref q1, .ref q2, .ref q3, .null, .null, .null, .null, .int 0])), (q1, .inl (dA 0, 248, .inl (fun _ => 0))), (q2, .inl (dA 0, 248, .inl (fun _ => 0))), (q3, .inl (dA 0, 248, .inl (fun _ => 0)))]) hx hb hg hown hK hP hD hS 0 rfl rfl inX0 tyX0_ok nmX0 2 (by decide) q261 rfl hin rfl rfl rfl (Nat.le_of_ble_eq_true rfl) rfl dX0_init_28 (fun H locs hP hD hS => ?_)
  refine lv_aload_n hx hb dX0_init_31 rfl (lv_at hl 0 rfl) ?_
  refine lv_sipush (v := 248) hx hb dX0_init_32 (by decide) ?_
  refine g_newa (ty := .int) (N' := 248) (a0 := (248, .inl (fun _ => 0))) hx hb hg rfl q224 hK hP hD hS hA 0 rfl (fun _ => rfl) (by decide) (by decide) (Nat.le_of_ble_eq_true rfl) (Nat.le_of_ble_eq_true rfl) (Nat.le_of_ble_eq_true rfl) dX0_init_35 (fun q4 H hP hD hS => ?_)
  refine W.widen (k := 4) (n := 992) (Nat.le_of_ble_eq_true rfl) (Nat.le_of_ble_eq_true rfl) ?_
  have hP : va_P D vwC [(h0, .inr (0, [.ref q1, .ref q2, .ref q3, .null, .null, .null, .null, .int 0])), (q1, .inl (dA 0, 248, .inl (fun _ => 0))), (q2, .inl (dA 0, 248, .inl (fun _ => 0))), (q3, .inl (dA 0, 248, .inl (fun _ => 0))), (q4, .inl (dA 0, 248, .inl (fun _ => 0)))] H := hP
  have hD : va_D A [(h0, .inr (0, [.ref q1, .ref q2, .ref q3, .null, .null, .null, .null, .int 0])), (q1, .inl (dA 0, 248, .inl (fun _ => 0))), (q2, .inl (dA 0, 248, .inl (fun _ => 0))), (q3, .inl (dA 0, 248, .inl (fun _ => 0))), (q4, .inl (dA 0, 248, .inl (fun _ => 0)))] := hD
  refine g_putF (w' := [(h0, .inr (0, [.ref q1, .ref q2, .ref q3, .ref q4, .null, .null, .null, .int 0])), (q1, .inl (dA 0, 248, .inl (fun _ => 0))), (q2, .inl (dA 0, 248, .inl (fun _ => 0))), (q3, .inl (dA 0, 248, .inl (fun _ => 0))), (q4, .inl (dA 0, 248, .inl (fun _ => 0)))]) hx hb hg hown hK hP hD hS 0 rfl rfl inX0 tyX0_ok nmX0 3 (by decide) q263 rfl hin rfl rfl rfl (Nat.le_of_ble_eq_true rfl) rfl dX0_init_37 (fun H locs hP hD hS => ?_)
  refine lv_aload_n hx hb dX0_init_40 rfl (lv_at hl 0 rfl) ?_
  refine lv_sipush (v := 248) hx hb dX0_init_41 (by decide) ?_
  refine g_newa (ty := .int) (N' := 248) (a0 := (248, .inl (fun _ => 0))) hx hb hg rfl q224 hK hP hD hS hA 0 rfl (fun _ => rfl) (by decide) (by decide) (Nat.le_of_ble_eq_true rfl) (Nat.le_of_ble_eq_true rfl) (Nat.le_of_ble_eq_true rfl) dX0_init_44 (fun q5 H hP hD hS => ?_)
  refine W.widen (k := 5) (n := 1240) (Nat.le_of_ble_eq_true rfl) (Nat.le_of_ble_eq_true rfl) ?_
  have hP : va_P D vwC [(h0, .inr (0, [.ref q1, .ref q2, .ref q3, .ref q4, .null, .null, .null, .int 0])), (q1, .inl (dA 0, 248, .inl (fun _ => 0))), (q2, .inl (dA 0, 248, .inl (fun _ => 0))), (q3, .inl (dA 0, 248, .inl (fun _ => 0))), (q4, .inl (dA 0, 248, .inl (fun _ => 0))), (q5, .inl (dA 0, 248, .inl (fun _ => 0)))] H := hP
  have hD : va_D A [(h0, .inr (0, [.ref q1, .ref q2, .ref q3, .ref q4, .null, .null, .null, .int 0])), (q1, .inl (dA 0, 248, .inl (fun _ => 0))), (q2, .inl (dA 0, 248, .inl (fun _ => 0))), (q3, .inl (dA 0, 248, .inl (fun _ => 0))), (q4, .inl (dA 0, 248, .inl (fun _ => 0))), (q5, .inl (dA 0, 248, .inl (fun _ => 0)))] := hD
  refine g_putF (w' := [(h0, .inr (0, [.ref q1, .ref q2, .ref q3, .ref q4, .ref q5, .null, .null, .int 0])), (q1, .inl (dA 0, 248, .inl (fun _ => 0))), (q2, .inl (dA 0, 248, .inl (fun _ => 0))), (q3, .inl (dA 0, 248, .inl (fun _ => 0))), (q4, .inl (dA 0, 248, .inl (fun _ => 0))), (q5, .inl (dA 0, 248, .inl (fun _ => 0)))]) hx hb hg hown hK hP hD hS 0 rfl rfl inX0 tyX0_ok nmX0 4 (by decide) q265 rfl hin rfl rfl rfl (Nat.le_of_ble_eq_true rfl) rfl dX0_init_46 (fun H locs hP hD hS => ?_)
  refine lv_aload_n hx hb dX0_init_49 rfl (lv_at hl 0 rfl) ?_
  refine lv_sipush (v := 248) hx hb dX0_init_50 (by decide) ?_
  refine g_newa (ty := .int) (N' := 248) (a0 := (248, .inl (fun _ => 0))) hx hb hg rfl q224 hK hP hD hS hA 0 rfl (fun _ => rfl) (by decide) (by decide) (Nat.le_of_ble_eq_true rfl) (Nat.le_of_ble_eq_true rfl) (Nat.le_of_ble_eq_true rfl) dX0_init_53 (fun q6 H hP hD hS => ?_)
  refine W.widen (k := 6) (n := 1488) (Nat.le_of_ble_eq_true rfl) (Nat.le_of_ble_eq_true rfl) ?_
  have hP : va_P D vwC [(h0, .inr (0, [.ref q1, .ref q2, .ref q3, .ref q4, .ref q5, .null, .null, .int 0])), (q1, .inl (dA 0, 248, .inl (fun _ => 0))), (q2, .inl (dA 0, 248, .inl (fun _ => 0))), (q3, .inl (dA 0, 248, .inl (fun _ => 0))), (q4, .inl (dA 0, 248, .inl (fun _ => 0))), (q5, .inl (dA 0, 248, .inl (fun _ => 0))), (q6, .inl (dA 0, 248, .inl (fun _ => 0)))] H := hP
  have hD : va_D A [(h0, .inr (0, [.ref q1, .ref q2, .ref q3, .ref q4, .ref q5, .null, .null, .int 0])), (q1, .inl (dA 0, 248, .inl (fun _ => 0))), (q2, .inl (dA 0, 248, .inl (fun _ => 0))), (q3, .inl (dA 0, 248, .inl (fun _ => 0))), (q4, .inl (dA 0, 248, .inl (fun _ => 0))), (q5, .inl (dA 0, 248, .inl (fun _ => 0))), (q6, .inl (dA 0, 248, .inl (fun _ => 0)))] := hD
  refine g_putF (w' := [(h0, .inr (0, [.ref q1, .ref q2, .ref q3, .ref q4, .ref q5, .ref q6, .null, .int 0])), (q1, .inl (dA 0, 248, .inl (fun _ => 0))), (q2, .inl (dA 0, 248, .inl (fun _ => 0))), (q3, .inl (dA 0, 248, .inl (fun _ => 0))), (q4, .inl (dA 0, 248, .inl (fun _ => 0))), (q5, .inl (dA 0, 248, .inl (fun _ => 0))), (q6, .inl (dA 0, 248, .inl (fun _ => 0)))]) hx hb hg hown hK hP hD hS 0 rfl rfl inX0 tyX0_ok nmX0 5 (by decide) q267 rfl hin rfl rfl rfl (Nat.le_of_ble_eq_true rfl) rfl dX0_init_55 (fun H locs hP hD hS => ?_)
  refine lv_aload_n hx hb dX0_init_58 rfl (lv_at hl 0 rfl) ?_
  refine lv_sipush (v := 248) hx hb dX0_init_59 (by decide) ?_
  refine g_newa (ty := .int) (N' := 248) (a0 := (248, .inl (fun _ => 0))) hx hb hg rfl q224 hK hP hD hS hA 0 rfl (fun _ => rfl) (by decide) (by decide) (Nat.le_of_ble_eq_true rfl) (Nat.le_of_ble_eq_true rfl) (Nat.le_of_ble_eq_true rfl) dX0_init_62 (fun q7 H hP hD hS => ?_)
  refine W.widen (k := 7) (n := 1736) (Nat.le_of_ble_eq_true rfl) (Nat.le_of_ble_eq_true rfl) ?_
  have hP : va_P D vwC [(h0, .inr (0, [.ref q1, .ref q2, .ref q3, .ref q4, .ref q5, .ref q6, .null, .int 0])), (q1, .inl (dA 0, 248, .inl (fun _ => 0))), (q2, .inl (dA 0, 248, .inl (fun _ => 0))), (q3, .inl (dA 0, 248, .inl (fun _ => 0))), (q4, .inl (dA 0, 248, .inl (fun _ => 0))), (q5, .inl (dA 0, 248, .inl (fun _ => 0))), (q6, .inl (dA 0, 248, .inl (fun _ => 0))), (q7, .inl (dA 0, 248, .inl (fun _ => 0)))] H := hP
  have hD : va_D A [(h0, .inr (0, [.ref q1, .ref q2, .ref q3, .ref q4, .ref q5, .ref q6, .null, .int 0])), (q1, .inl (dA 0, 248, .inl (fun _ => 0))), (q2, .inl (dA 0, 248, .inl (fun _ => 0))), (q3, .inl (dA 0, 248, .inl (fun _ => 0))), (q4, .inl (dA 0, 248, .inl (fun _ => 0))), (q5, .inl (dA 0, 248, .inl (fun _ => 0))), (q6, .inl (dA 0, 248, .inl (fun _ => 0))), (q7, .inl (dA 0, 248, .inl (fun _ => 0)))] := hD
  refine g_putF (w' := [(h0, .inr (0, [.ref q1, .ref q2, .ref q3, .ref q4, .ref q5, .ref q6, .ref q7, .int 0])), (q1, .inl (dA 0, 248, .inl (fun _ => 0))), (q2, .inl (dA 0, 248, .inl (fun _ => 0))), (q3, .inl (dA 0, 248, .inl (fun _ => 0))), (q4, .inl (dA 0, 248, .inl (fun _ => 0))), (q5, .inl (dA 0, 248, .inl (fun _ => 0))), (q6, .inl (dA 0, 248, .inl (fun _ => 0))), (q7, .inl (dA 0, 248, .inl (fun _ => 0)))]) hx hb hg hown hK hP hD hS 0 rfl rfl inX0 tyX0_ok nmX0 6 (by decide) q269 rfl hin rfl rfl rfl (Nat.le_of_ble_eq_true rfl) rfl dX0_init_64 (fun H locs hP hD hS => ?_)
  refine lv_aload_n hx hb dX0_init_67 rfl (lv_at hl 0 rfl) ?_
  refine lv_iconst (v := 0) hx hb dX0_init_68 (by decide) ?_
  refine g_put (w' := [(h0, .inr (0, [.ref q1, .ref q2, .ref q3, .ref q4, .ref q5, .ref q6, .ref q7, .int 0])), (q1, .inl (dA 0, 248, .inl (fun _ => 0))), (q2, .inl (dA 0, 248, .inl (fun _ => 0))), (q3, .inl (dA 0, 248, .inl (fun _ => 0))), (q4, .inl (dA 0, 248, .inl (fun _ => 0))), (q5, .inl (dA 0, 248, .inl (fun _ => 0))), (q6, .inl (dA 0, 248, .inl (fun _ => 0))), (q7, .inl (dA 0, 248, .inl (fun _ => 0)))]) hx hb hg hown hK hP hD hS 0 rfl rfl inX0 tyX0_ok nmX0 7 (by decide) q271 rfl rfl rfl (Nat.le_of_ble_eq_true rfl) rfl dX0_init_69 (fun H locs hP hD hS => ?_)
  obtain ⟨hP, hD⟩ := g_cut (is := [0]) (w' := [(h0, .inr (0, [.ref q1, .ref q2, .ref q3, .ref q4, .ref q5, .ref q6, .ref q7, .int 0]))]) hP hD (by decide) rfl rfl
  exact g_vret hx hb hr hlocks hK (fun k => ([q1, q2, q3, q4, q5, q6, q7] : List Nat).getD k 0) hP hD hS trivial (Nat.le_of_ble_eq_true rfl) (Nat.le_of_ble_eq_true rfl) dX0_init_72
set_option maxHeartbeats 4000000 in
set_option maxRecDepth 100000 in
theorem c_X8_init (l : Launch) (D : va_G) (dA : Nat → ClassId) (h0 : Nat) (n0 : Nat) (n1 : Nat) (sz : Nat) : Met l yX8_init (gws yX8_init cX8_init 3 none) (gR 4 2 16) (gPre D dA [.ref h0, .ref n0, .ref n1] [(h0, .inr (8, [.null, .null, .null, .null, .int 0, .int 0]))] sz) (va_Qv (fun _ : Nat → Nat => True) (gAt D dA (va_A [(h0, .inr (8, [.null, .null, .null, .null, .int 0, .int 0]))] sz) (fun ad : Nat → Nat => [(h0, .inr (8, [.ref n0, .ref n1, .ref (ad 0), .ref (ad 1), .int 0, .int 0]))])) (va_A [(h0, .inr (8, [.null, .null, .null, .null, .int 0, .int 0]))] sz)) 2 16 (va_A [(h0, .inr (8, [.null, .null, .null, .null, .int 0, .int 0]))] sz) := by
  refine Met.ofW (cc := cX8_init) (maxL := 3) (ret := none) (by decide) rfl ?_
  intro p e s m args below meth c s₁ B hml hv
  obtain ⟨rfl, hsz, hP, hK, hD0⟩ := hv
  have hx := B.exec
  have hb := B.bytes
  have hr := B.returns
  have hts := atoms_spec (ws := gws yX8_init cX8_init 3 none) B.pre
  have hg : ∀ w ∈ gw, w.before _ s = true := fun w h => hts w (List.mem_cons_of_mem _ h)
  have hown : s.vm.findClass RX8 = some m.cls := findClass_of_methodNamed B.named
  have hlocks := B.notSynchronized
  have hin : meth.name = "<init>" := (name_of_methodNamed B.named B.method).1
  subst hsz
  have hD := hD0.self (sz := s.heap.size)
  generalize hAe : va_A [(h0, .inr (8, [.null, .null, .null, .null, .int 0, .int 0]))] s.heap.size = A at hD ⊢
  have hA : ∀ q : Nat, s.heap.size ≤ q → A q := fun q h => by rw [← hAe]; exact Or.inr h
  have hS : va_S A s.heap s.heap [] := va_S.rf
  have hP : va_P D vwC [(h0, .inr (8, [.null, .null, .null, .null, .int 0, .int 0]))] s.heap := hP
  have hl := lv_entry ([.ref h0, .ref n0, .ref n1]) (n := 3) (Nat.le_of_ble_eq_true rfl)
  rw [lg_entry_eq]
  generalize (lg_sl ([.ref h0, .ref n0, .ref n1]) ++ List.replicate (3 - (lg_sl ([.ref h0, .ref n0, .ref n1])).length) Slot.unset).toArray = ls at hl ⊢
  have hl : lv_has ls 3 [(0, .ref h0), (1, .ref n0), (2, .ref n1)] := hl
  refine lv_aload_n hx hb dX8_init_0 rfl (lv_at hl 0 rfl) ?_
  refine g_obj hx hb hg hown q296 q186 q187 hml hl.1 dX8_init_1 (Nat.le_of_ble_eq_true rfl) (Nat.le_of_ble_eq_true rfl) ?_
  refine lv_aload_n hx hb dX8_init_4 rfl (lv_at hl 0 rfl) ?_
  refine lv_aload_n hx hb dX8_init_5 rfl (lv_at hl 1 rfl) ?_
  refine g_putF (w' := [(h0, .inr (8, [.ref n0, .null, .null, .null, .int 0, .int 0]))]) hx hb hg hown hK hP hD hS 0 rfl rfl inX8 tyX8_ok nmX8 0 (by decide) q346 rfl hin rfl rfl rfl (Nat.le_of_ble_eq_true rfl) rfl dX8_init_6 (fun H locs hP hD hS => ?_)
  refine lv_aload_n hx hb dX8_init_9 rfl (lv_at hl 0 rfl) ?_
  refine lv_aload_n hx hb dX8_init_10 rfl (lv_at hl 2 rfl) ?_
  refine g_putF (w' := [(h0, .inr (8, [.ref n0, .ref n1, .null, .null, .int 0, .int 0]))]) hx hb hg hown hK hP hD hS 0 rfl rfl inX8 tyX8_ok nmX8 1 (by decide) q347 rfl hin rfl rfl rfl (Nat.le_of_ble_eq_true rfl) rfl dX8_init_11 (fun H locs hP hD hS => ?_)
  refine lv_aload_n hx hb dX8_init_14 rfl (lv_at hl 0 rfl) ?_
  refine g_new (fs := f0X7) hx hb hg 7 rfl inX7 tyX7_ok hown q297 q298 q154 hK hP hD hS hA dfX7 (Nat.le_of_ble_eq_true rfl) (Nat.le_of_ble_eq_true rfl) dX8_init_15 (fun q1 H hP hD hS => ?_)
  refine W.widen (k := 1) (n := 8) (Nat.le_of_ble_eq_true rfl) (Nat.le_of_ble_eq_true rfl) ?_
  have hP : va_P D vwC [(h0, .inr (8, [.ref n0, .ref n1, .null, .null, .int 0, .int 0])), (q1, .inr (7, [.int 0, .int 0, .int 0, .int 0, .int 0, .int 0, .int 0, .int 0]))] H := hP
  have hD : va_D A [(h0, .inr (8, [.ref n0, .ref n1, .null, .null, .int 0, .int 0])), (q1, .inr (7, [.int 0, .int 0, .int 0, .int 0, .int 0, .int 0, .int 0, .int 0]))] := hD
  refine lv_dup hx hb dX8_init_18 rfl ?_
  refine g_Iv (n := 0) (As := []) (rest := [.ref q1, .ref h0]) (wr := [(h0, .inr (8, [.ref n0, .ref n1, .null, .null, .int 0, .int 0]))]) hx hb hml hg hown hK hP hD hS hA (c_X7_init l D dA q1 _) [1] [0] rfl (by decide) rfl (by decide) (by decide) q301 q154 q299 q300 rfl (by decide +kernel) ⟨(Nat.le_of_ble_eq_true rfl), (Nat.le_of_ble_eq_true rfl)⟩ rfl hl.1 rfl (Nat.le_of_ble_eq_true rfl) dX8_init_19 ⟨(Nat.le_of_ble_eq_true rfl), (Nat.le_of_ble_eq_true rfl)⟩ (fun u2 H locs w4 hP hD hS => ?_)
  refine W.widen (k := 1) (n := 8) (Nat.le_of_ble_eq_true rfl) (Nat.le_of_ble_eq_true rfl) ?_
  have hP : va_P D vwC [(h0, .inr (8, [.ref n0, .ref n1, .null, .null, .int 0, .int 0])), (q1, .inr (7, [.int 0, .int 0, .int 0, .int (-1), .int (-1), .int 0, .int 0, .int 0]))] H := hP
  have hD : va_D A [(h0, .inr (8, [.ref n0, .ref n1, .null, .null, .int 0, .int 0])), (q1, .inr (7, [.int 0, .int 0, .int 0, .int (-1), .int (-1), .int 0, .int 0, .int 0]))] := hD
  refine g_putF (w' := [(h0, .inr (8, [.ref n0, .ref n1, .ref q1, .null, .int 0, .int 0])), (q1, .inr (7, [.int 0, .int 0, .int 0, .int (-1), .int (-1), .int 0, .int 0, .int 0]))]) hx hb hg hown hK hP hD hS 0 rfl rfl inX8 tyX8_ok nmX8 2 (by decide) q348 rfl hin rfl rfl rfl (Nat.le_of_ble_eq_true rfl) rfl dX8_init_22 (fun H locs hP hD hS => ?_)
  refine lv_aload_n hx hb dX8_init_25 rfl (lv_at hl 0 rfl) ?_
  refine g_new (fs := f0X7) hx hb hg 7 rfl inX7 tyX7_ok hown q297 q298 q154 hK hP hD hS hA dfX7 (Nat.le_of_ble_eq_true rfl) (Nat.le_of_ble_eq_true rfl) dX8_init_26 (fun q5 H hP hD hS => ?_)
  refine W.widen (k := 2) (n := 16) (Nat.le_of_ble_eq_true rfl) (Nat.le_of_ble_eq_true rfl) ?_
  have hP : va_P D vwC [(h0, .inr (8, [.ref n0, .ref n1, .ref q1, .null, .int 0, .int 0])), (q1, .inr (7, [.int 0, .int 0, .int 0, .int (-1), .int (-1), .int 0, .int 0, .int 0])), (q5, .inr (7, [.int 0, .int 0, .int 0, .int 0, .int 0, .int 0, .int 0, .int 0]))] H := hP
  have hD : va_D A [(h0, .inr (8, [.ref n0, .ref n1, .ref q1, .null, .int 0, .int 0])), (q1, .inr (7, [.int 0, .int 0, .int 0, .int (-1), .int (-1), .int 0, .int 0, .int 0])), (q5, .inr (7, [.int 0, .int 0, .int 0, .int 0, .int 0, .int 0, .int 0, .int 0]))] := hD
  refine lv_dup hx hb dX8_init_29 rfl ?_
  refine g_Iv (n := 0) (As := []) (rest := [.ref q5, .ref h0]) (wr := [(h0, .inr (8, [.ref n0, .ref n1, .ref q1, .null, .int 0, .int 0])), (q1, .inr (7, [.int 0, .int 0, .int 0, .int (-1), .int (-1), .int 0, .int 0, .int 0]))]) hx hb hml hg hown hK hP hD hS hA (c_X7_init l D dA q5 _) [2] [0, 1] rfl (by decide) rfl (by decide) (by decide) q301 q154 q299 q300 rfl (by decide +kernel) ⟨(Nat.le_of_ble_eq_true rfl), (Nat.le_of_ble_eq_true rfl)⟩ rfl hl.1 rfl (Nat.le_of_ble_eq_true rfl) dX8_init_30 ⟨(Nat.le_of_ble_eq_true rfl), (Nat.le_of_ble_eq_true rfl)⟩ (fun u6 H locs w8 hP hD hS => ?_)
  refine W.widen (k := 2) (n := 16) (Nat.le_of_ble_eq_true rfl) (Nat.le_of_ble_eq_true rfl) ?_
  have hP : va_P D vwC [(h0, .inr (8, [.ref n0, .ref n1, .ref q1, .null, .int 0, .int 0])), (q1, .inr (7, [.int 0, .int 0, .int 0, .int (-1), .int (-1), .int 0, .int 0, .int 0])), (q5, .inr (7, [.int 0, .int 0, .int 0, .int (-1), .int (-1), .int 0, .int 0, .int 0]))] H := hP
  have hD : va_D A [(h0, .inr (8, [.ref n0, .ref n1, .ref q1, .null, .int 0, .int 0])), (q1, .inr (7, [.int 0, .int 0, .int 0, .int (-1), .int (-1), .int 0, .int 0, .int 0])), (q5, .inr (7, [.int 0, .int 0, .int 0, .int (-1), .int (-1), .int 0, .int 0, .int 0]))] := hD
  refine g_putF (w' := [(h0, .inr (8, [.ref n0, .ref n1, .ref q1, .ref q5, .int 0, .int 0])), (q1, .inr (7, [.int 0, .int 0, .int 0, .int (-1), .int (-1), .int 0, .int 0, .int 0])), (q5, .inr (7, [.int 0, .int 0, .int 0, .int (-1), .int (-1), .int 0, .int 0, .int 0]))]) hx hb hg hown hK hP hD hS 0 rfl rfl inX8 tyX8_ok nmX8 3 (by decide) q349 rfl hin rfl rfl rfl (Nat.le_of_ble_eq_true rfl) rfl dX8_init_33 (fun H locs hP hD hS => ?_)
  refine lv_aload_n hx hb dX8_init_36 rfl (lv_at hl 0 rfl) ?_
  refine lv_iconst (v := 0) hx hb dX8_init_37 (by decide) ?_
  refine g_put (w' := [(h0, .inr (8, [.ref n0, .ref n1, .ref q1, .ref q5, .int 0, .int 0])), (q1, .inr (7, [.int 0, .int 0, .int 0, .int (-1), .int (-1), .int 0, .int 0, .int 0])), (q5, .inr (7, [.int 0, .int 0, .int 0, .int (-1), .int (-1), .int 0, .int 0, .int 0]))]) hx hb hg hown hK hP hD hS 0 rfl rfl inX8 tyX8_ok nmX8 4 (by decide) q350 rfl rfl rfl (Nat.le_of_ble_eq_true rfl) rfl dX8_init_38 (fun H locs hP hD hS => ?_)
  refine lv_aload_n hx hb dX8_init_41 rfl (lv_at hl 0 rfl) ?_
  refine lv_iconst (v := 0) hx hb dX8_init_42 (by decide) ?_
  refine g_put (w' := [(h0, .inr (8, [.ref n0, .ref n1, .ref q1, .ref q5, .int 0, .int 0])), (q1, .inr (7, [.int 0, .int 0, .int 0, .int (-1), .int (-1), .int 0, .int 0, .int 0])), (q5, .inr (7, [.int 0, .int 0, .int 0, .int (-1), .int (-1), .int 0, .int 0, .int 0]))]) hx hb hg hown hK hP hD hS 0 rfl rfl inX8 tyX8_ok nmX8 5 (by decide) q351 rfl rfl rfl (Nat.le_of_ble_eq_true rfl) rfl dX8_init_43 (fun H locs hP hD hS => ?_)
  obtain ⟨hP, hD⟩ := g_cut (is := [0]) (w' := [(h0, .inr (8, [.ref n0, .ref n1, .ref q1, .ref q5, .int 0, .int 0]))]) hP hD (by decide) rfl rfl
  exact g_vret hx hb hr hlocks hK (fun k => ([q1, q5] : List Nat).getD k 0) hP hD hS trivial (Nat.le_of_ble_eq_true rfl) (Nat.le_of_ble_eq_true rfl) dX8_init_46
set_option maxHeartbeats 4000000 in
set_option maxRecDepth 100000 in
theorem c_X2_init (l : Launch) (D : va_G) (dA : Nat → ClassId) (h0 : Nat) (n0 : Nat) (n1 : Nat) (sz : Nat) : Met l yX2_init (gws yX2_init cX2_init 3 none) (gR 2 2 120) (gPre D dA [.ref h0, .ref n0, .ref n1] [(h0, .inr (2, [.null, .null, .null, .null, .int 0, .int 0]))] sz) (va_Qv (fun _ : Nat → Nat => True) (gAt D dA (va_A [(h0, .inr (2, [.null, .null, .null, .null, .int 0, .int 0]))] sz) (fun ad : Nat → Nat => [(h0, .inr (2, [.ref n0, .ref n1, .ref (ad 0), .ref (ad 1), .int 0, .int (-1)])), (ad 1, .inl (dA 0, 60, .inl (fun _ => 0)))])) (va_A [(h0, .inr (2, [.null, .null, .null, .null, .int 0, .int 0]))] sz)) 2 120 (va_A [(h0, .inr (2, [.null, .null, .null, .null, .int 0, .int 0]))] sz) := by
  refine Met.ofW (cc := cX2_init) (maxL := 3) (ret := none) (by decide) rfl ?_
  intro p e s m args below meth c s₁ B hml hv
  obtain ⟨rfl, hsz, hP, hK, hD0⟩ := hv
  have hx := B.exec
  have hb := B.bytes
  have hr := B.returns
  have hts := atoms_spec (ws := gws yX2_init cX2_init 3 none) B.pre
  have hg : ∀ w ∈ gw, w.before _ s = true := fun w h => hts w (List.mem_cons_of_mem _ h)
  have hown : s.vm.findClass RX2 = some m.cls := findClass_of_methodNamed B.named
  have hlocks := B.notSynchronized
  have hin : meth.name = "<init>" := (name_of_methodNamed B.named B.method).1
  subst hsz
  have hD := hD0.self (sz := s.heap.size)
  generalize hAe : va_A [(h0, .inr (2, [.null, .null, .null, .null, .int 0, .int 0]))] s.heap.size = A at hD ⊢
  have hA : ∀ q : Nat, s.heap.size ≤ q → A q := fun q h => by rw [← hAe]; exact Or.inr h
  have hS : va_S A s.heap s.heap [] := va_S.rf
  have hP : va_P D vwC [(h0, .inr (2, [.null, .null, .null, .null, .int 0, .int 0]))] s.heap := hP
  have hl := lv_entry ([.ref h0, .ref n0, .ref n1]) (n := 3) (Nat.le_of_ble_eq_true rfl)
  rw [lg_entry_eq]
  generalize (lg_sl ([.ref h0, .ref n0, .ref n1]) ++ List.replicate (3 - (lg_sl ([.ref h0, .ref n0, .ref n1])).length) Slot.unset).toArray = ls at hl ⊢
  have hl : lv_has ls 3 [(0, .ref h0), (1, .ref n0), (2, .ref n1)] := hl
  refine lv_aload_n hx hb dX2_init_0 rfl (lv_at hl 0 rfl) ?_
  refine g_obj hx hb hg hown q370 q186 q187 hml hl.1 dX2_init_1 (Nat.le_of_ble_eq_true rfl) (Nat.le_of_ble_eq_true rfl) ?_
  refine lv_aload_n hx hb dX2_init_4 rfl (lv_at hl 0 rfl) ?_
  refine lv_aload_n hx hb dX2_init_5 rfl (lv_at hl 1 rfl) ?_
  refine g_putF (w' := [(h0, .inr (2, [.ref n0, .null, .null, .null, .int 0, .int 0]))]) hx hb hg hown hK hP hD hS 0 rfl rfl inX2 tyX2_ok nmX2 0 (by decide) q371 rfl hin rfl rfl rfl (Nat.le_of_ble_eq_true rfl) rfl dX2_init_6 (fun H locs hP hD hS => ?_)
  refine lv_aload_n hx hb dX2_init_9 rfl (lv_at hl 0 rfl) ?_
  refine lv_aload_n hx hb dX2_init_10 rfl (lv_at hl 2 rfl) ?_
  refine g_putF (w' := [(h0, .inr (2, [.ref n0, .ref n1, .null, .null, .int 0, .int 0]))]) hx hb hg hown hK hP hD hS 0 rfl rfl inX2 tyX2_ok nmX2 1 (by decide) q372 rfl hin rfl rfl rfl (Nat.le_of_ble_eq_true rfl) rfl dX2_init_11 (fun H locs hP hD hS => ?_)
  refine lv_aload_n hx hb dX2_init_14 rfl (lv_at hl 0 rfl) ?_
  refine lv_bipush (v := 60) hx hb dX2_init_15 (by decide) ?_
  refine g_newa (ty := .int) (N' := 60) (a0 := (60, .inl (fun _ => 0))) hx hb hg rfl q224 hK hP hD hS hA 0 rfl (fun _ => rfl) (by decide) (by decide) (Nat.le_of_ble_eq_true rfl) (Nat.le_of_ble_eq_true rfl) (Nat.le_of_ble_eq_true rfl) dX2_init_17 (fun q1 H hP hD hS => ?_)
  refine W.widen (k := 1) (n := 60) (Nat.le_of_ble_eq_true rfl) (Nat.le_of_ble_eq_true rfl) ?_
  have hP : va_P D vwC [(h0, .inr (2, [.ref n0, .ref n1, .null, .null, .int 0, .int 0])), (q1, .inl (dA 0, 60, .inl (fun _ => 0)))] H := hP
  have hD : va_D A [(h0, .inr (2, [.ref n0, .ref n1, .null, .null, .int 0, .int 0])), (q1, .inl (dA 0, 60, .inl (fun _ => 0)))] := hD
  refine g_putF (w' := [(h0, .inr (2, [.ref n0, .ref n1, .ref q1, .null, .int 0, .int 0])), (q1, .inl (dA 0, 60, .inl (fun _ => 0)))]) hx hb hg hown hK hP hD hS 0 rfl rfl inX2 tyX2_ok nmX2 2 (by decide) q373 rfl hin rfl rfl rfl (Nat.le_of_ble_eq_true rfl) rfl dX2_init_19 (fun H locs hP hD hS => ?_)
  refine lv_aload_n hx hb dX2_init_22 rfl (lv_at hl 0 rfl) ?_
  refine lv_bipush (v := 60) hx hb dX2_init_23 (by decide) ?_
  refine g_newa (ty := .int) (N' := 60) (a0 := (60, .inl (fun _ => 0))) hx hb hg rfl q224 hK hP hD hS hA 0 rfl (fun _ => rfl) (by decide) (by decide) (Nat.le_of_ble_eq_true rfl) (Nat.le_of_ble_eq_true rfl) (Nat.le_of_ble_eq_true rfl) dX2_init_25 (fun q2 H hP hD hS => ?_)
  refine W.widen (k := 2) (n := 120) (Nat.le_of_ble_eq_true rfl) (Nat.le_of_ble_eq_true rfl) ?_
  have hP : va_P D vwC [(h0, .inr (2, [.ref n0, .ref n1, .ref q1, .null, .int 0, .int 0])), (q1, .inl (dA 0, 60, .inl (fun _ => 0))), (q2, .inl (dA 0, 60, .inl (fun _ => 0)))] H := hP
  have hD : va_D A [(h0, .inr (2, [.ref n0, .ref n1, .ref q1, .null, .int 0, .int 0])), (q1, .inl (dA 0, 60, .inl (fun _ => 0))), (q2, .inl (dA 0, 60, .inl (fun _ => 0)))] := hD
  refine g_putF (w' := [(h0, .inr (2, [.ref n0, .ref n1, .ref q1, .ref q2, .int 0, .int 0])), (q1, .inl (dA 0, 60, .inl (fun _ => 0))), (q2, .inl (dA 0, 60, .inl (fun _ => 0)))]) hx hb hg hown hK hP hD hS 0 rfl rfl inX2 tyX2_ok nmX2 3 (by decide) q374 rfl hin rfl rfl rfl (Nat.le_of_ble_eq_true rfl) rfl dX2_init_27 (fun H locs hP hD hS => ?_)
  refine lv_aload_n hx hb dX2_init_30 rfl (lv_at hl 0 rfl) ?_
  refine lv_iconst (v := 0) hx hb dX2_init_31 (by decide) ?_
  refine g_put (w' := [(h0, .inr (2, [.ref n0, .ref n1, .ref q1, .ref q2, .int 0, .int 0])), (q1, .inl (dA 0, 60, .inl (fun _ => 0))), (q2, .inl (dA 0, 60, .inl (fun _ => 0)))]) hx hb hg hown hK hP hD hS 0 rfl rfl inX2 tyX2_ok nmX2 4 (by decide) q375 rfl rfl rfl (Nat.le_of_ble_eq_true rfl) rfl dX2_init_32 (fun H locs hP hD hS => ?_)
  refine lv_aload_n hx hb dX2_init_35 rfl (lv_at hl 0 rfl) ?_
  refine lv_iconst (v := (-1)) hx hb dX2_init_36 (by decide) ?_
  refine g_put (w' := [(h0, .inr (2, [.ref n0, .ref n1, .ref q1, .ref q2, .int 0, .int (-1)])), (q1, .inl (dA 0, 60, .inl (fun _ => 0))), (q2, .inl (dA 0, 60, .inl (fun _ => 0)))]) hx hb hg hown hK hP hD hS 0 rfl rfl inX2 tyX2_ok nmX2 5 (by decide) q376 rfl rfl rfl (Nat.le_of_ble_eq_true rfl) rfl dX2_init_37 (fun H locs hP hD hS => ?_)
  obtain ⟨hP, hD⟩ := g_cut (is := [0, 2]) (w' := [(h0, .inr (2, [.ref n0, .ref n1, .ref q1, .ref q2, .int 0, .int (-1)])), (q2, .inl (dA 0, 60, .inl (fun _ => 0)))]) hP hD (by decide) rfl rfl
  exact g_vret hx hb hr hlocks hK (fun k => ([q1, q2] : List Nat).getD k 0) hP hD hS trivial (Nat.le_of_ble_eq_true rfl) (Nat.le_of_ble_eq_true rfl) dX2_init_40
set_option maxHeartbeats 4000000 in
set_option maxRecDepth 100000 in
theorem c_X6_init (l : Launch) (D : va_G) (dA : Nat → ClassId) (h0 : Nat) (sz : Nat) : Met l yX6_init (gws yX6_init cX6_init 1 none) (gR 2 13 1568) (gPre D dA [.ref h0] [(h0, .inr (6, [.int 0, .int 0, .null, .null, .null, .null, .null, .int 0, .null, .null, .null, .null, .null, .int 0, .null, .null, .null]))] sz) (va_Qv (fun _ : Nat → Nat => True) (gAt D dA (va_A [(h0, .inr (6, [.int 0, .int 0, .null, .null, .null, .null, .null, .int 0, .null, .null, .null, .null, .null, .int 0, .null, .null, .null]))] sz) (fun ad : Nat → Nat => [(h0, .inr (6, [.int 0, .int 0, .ref (ad 0), .ref (ad 1), .ref (ad 2), .ref (ad 3), .ref (ad 4), .int 0, .ref (ad 5), .ref (ad 6), .ref (ad 7), .ref (ad 8), .ref (ad 9), .int 0, .ref (ad 10), .ref (ad 11), .ref (ad 12)])), (ad 4, .inl (dA 0, 400, .inl (fun _ => 0)))])) (va_A [(h0, .inr (6, [.int 0, .int 0, .null, .null, .null, .null, .null, .int 0, .null, .null, .null, .null, .null, .int 0, .null, .null, .null]))] sz)) 13 1568 (va_A [(h0, .inr (6, [.int 0, .int 0, .null, .null, .null, .null, .null, .int 0, .null, .null, .null, .null, .null, .int 0, .null, .null, .null]))] sz) := by
  refine Met.ofW (cc := cX6_init) (maxL := 1) (ret := none) (by decide) rfl ?_
  intro p e s m args below meth c s₁ B hml hv
  obtain ⟨rfl, hsz, hP, hK, hD0⟩ := hv
  have hx := B.exec
  have hb := B.bytes
  have hr := B.returns
  have hts := atoms_spec (ws := gws yX6_init cX6_init 1 none) B.pre
  have hg : ∀ w ∈ gw, w.before _ s = true := fun w h => hts w (List.mem_cons_of_mem _ h)
  have hown : s.vm.findClass RX6 = some m.cls := findClass_of_methodNamed B.named
  have hlocks := B.notSynchronized
  have hin : meth.name = "<init>" := (name_of_methodNamed B.named B.method).1
  subst hsz
  have hD := hD0.self (sz := s.heap.size)
  generalize hAe : va_A [(h0, .inr (6, [.int 0, .int 0, .null, .null, .null, .null, .null, .int 0, .null, .null, .null, .null, .null, .int 0, .null, .null, .null]))] s.heap.size = A at hD ⊢
  have hA : ∀ q : Nat, s.heap.size ≤ q → A q := fun q h => by rw [← hAe]; exact Or.inr h
  have hS : va_S A s.heap s.heap [] := va_S.rf
  have hP : va_P D vwC [(h0, .inr (6, [.int 0, .int 0, .null, .null, .null, .null, .null, .int 0, .null, .null, .null, .null, .null, .int 0, .null, .null, .null]))] s.heap := hP
  have hl := lv_entry ([.ref h0]) (n := 1) (Nat.le_of_ble_eq_true rfl)
  rw [lg_entry_eq]
  generalize (lg_sl ([.ref h0]) ++ List.replicate (1 - (lg_sl ([.ref h0])).length) Slot.unset).toArray = ls at hl ⊢
  have hl : lv_has ls 1 [(0, .ref h0)] := hl
  refine lv_aload_n hx hb dX6_init_0 rfl (lv_at hl 0 rfl) ?_
  refine g_obj hx hb hg hown q396 q186 q187 hml hl.1 dX6_init_1 (Nat.le_of_ble_eq_true rfl) (Nat.le_of_ble_eq_true rfl) ?_
  refine lv_aload_n hx hb dX6_init_4 rfl (lv_at hl 0 rfl) ?_
  refine lv_iconst (v := 0) hx hb dX6_init_5 (by decide) ?_
  refine g_put (w' := [(h0, .inr (6, [.int 0, .int 0, .null, .null, .null, .null, .null, .int 0, .null, .null, .null, .null, .null, .int 0, .null, .null, .null]))]) hx hb hg hown hK hP hD hS 0 rfl rfl inX6 tyX6_ok nmX6 0 (by decide) q397 rfl rfl rfl (Nat.le_of_ble_eq_true rfl) rfl dX6_init_6 (fun H locs hP hD hS => ?_)
  refine lv_aload_n hx hb dX6_init_9 rfl (lv_at hl 0 rfl) ?_
  refine lv_iconst (v := 0) hx hb dX6_init_10 (by decide) ?_
  refine g_put (w' := [(h0, .inr (6, [.int 0, .int 0, .null, .null, .null, .null, .null, .int 0, .null, .null, .null, .null, .null, .int 0, .null, .null, .null]))]) hx hb hg hown hK hP hD hS 0 rfl rfl inX6 tyX6_ok nmX6 1 (by decide) q401 rfl rfl rfl (Nat.le_of_ble_eq_true rfl) rfl dX6_init_11 (fun H locs hP hD hS => ?_)
  refine lv_aload_n hx hb dX6_init_14 rfl (lv_at hl 0 rfl) ?_
  refine lv_bipush (v := 24) hx hb dX6_init_15 (by decide) ?_
  refine g_newa (ty := .long) (N' := 24) (a0 := (24, .inr (.inl (fun _ => 0)))) hx hb hg rfl q223 hK hP hD hS hA 1 rfl (fun _ => rfl) (by decide) (by decide) (Nat.le_of_ble_eq_true rfl) (Nat.le_of_ble_eq_true rfl) (Nat.le_of_ble_eq_true rfl) dX6_init_17 (fun q1 H hP hD hS => ?_)
  refine W.widen (k := 1) (n := 24) (Nat.le_of_ble_eq_true rfl) (Nat.le_of_ble_eq_true rfl) ?_
  have hP : va_P D vwC [(h0, .inr (6, [.int 0, .int 0, .null, .null, .null, .null, .null, .int 0, .null, .null, .null, .null, .null, .int 0, .null, .null, .null])), (q1, .inl (dA 1, 24, .inr (.inl (fun _ => 0))))] H := hP
  have hD : va_D A [(h0, .inr (6, [.int 0, .int 0, .null, .null, .null, .null, .null, .int 0, .null, .null, .null, .null, .null, .int 0, .null, .null, .null])), (q1, .inl (dA 1, 24, .inr (.inl (fun _ => 0))))] := hD
  refine g_putF (w' := [(h0, .inr (6, [.int 0, .int 0, .ref q1, .null, .null, .null, .null, .int 0, .null, .null, .null, .null, .null, .int 0, .null, .null, .null])), (q1, .inl (dA 1, 24, .inr (.inl (fun _ => 0))))]) hx hb hg hown hK hP hD hS 0 rfl rfl inX6 tyX6_ok nmX6 2 (by decide) q404 rfl hin rfl rfl rfl (Nat.le_of_ble_eq_true rfl) rfl dX6_init_19 (fun H locs hP hD hS => ?_)
  refine lv_aload_n hx hb dX6_init_22 rfl (lv_at hl 0 rfl) ?_
  refine lv_bipush (v := 24) hx hb dX6_init_23 (by decide) ?_
  refine g_newa (ty := .int) (N' := 24) (a0 := (24, .inl (fun _ => 0))) hx hb hg rfl q224 hK hP hD hS hA 0 rfl (fun _ => rfl) (by decide) (by decide) (Nat.le_of_ble_eq_true rfl) (Nat.le_of_ble_eq_true rfl) (Nat.le_of_ble_eq_true rfl) dX6_init_25 (fun q2 H hP hD hS => ?_)
  refine W.widen (k := 2) (n := 48) (Nat.le_of_ble_eq_true rfl) (Nat.le_of_ble_eq_true rfl) ?_
  have hP : va_P D vwC [(h0, .inr (6, [.int 0, .int 0, .ref q1, .null, .null, .null, .null, .int 0, .null, .null, .null, .null, .null, .int 0, .null, .null, .null])), (q1, .inl (dA 1, 24, .inr (.inl (fun _ => 0)))), (q2, .inl (dA 0, 24, .inl (fun _ => 0)))] H := hP
  have hD : va_D A [(h0, .inr (6, [.int 0, .int 0, .ref q1, .null, .null, .null, .null, .int 0, .null, .null, .null, .null, .null, .int 0, .null, .null, .null])), (q1, .inl (dA 1, 24, .inr (.inl (fun _ => 0)))), (q2, .inl (dA 0, 24, .inl (fun _ => 0)))] := hD
  refine g_putF (w' := [(h0, .inr (6, [.int 0, .int 0, .ref q1, .ref q2, .null, .null, .null, .int 0, .null, .null, .null, .null, .null, .int 0, .null, .null, .null])), (q1, .inl (dA 1, 24, .inr (.inl (fun _ => 0)))), (q2, .inl (dA 0, 24, .inl (fun _ => 0)))]) hx hb hg hown hK hP hD hS 0 rfl rfl inX6 tyX6_ok nmX6 3 (by decide) q406 rfl hin rfl rfl rfl (Nat.le_of_ble_eq_true rfl) rfl dX6_init_27 (fun H locs hP hD hS => ?_)
  refine lv_aload_n hx hb dX6_init_30 rfl (lv_at hl 0 rfl) ?_
  refine lv_bipush (v := 24) hx hb dX6_init_31 (by decide) ?_
  refine g_newa (ty := .int) (N' := 24) (a0 := (24, .inl (fun _ => 0))) hx hb hg rfl q224 hK hP hD hS hA 0 rfl (fun _ => rfl) (by decide) (by decide) (Nat.le_of_ble_eq_true rfl) (Nat.le_of_ble_eq_true rfl) (Nat.le_of_ble_eq_true rfl) dX6_init_33 (fun q3 H hP hD hS => ?_)
  refine W.widen (k := 3) (n := 72) (Nat.le_of_ble_eq_true rfl) (Nat.le_of_ble_eq_true rfl) ?_
  have hP : va_P D vwC [(h0, .inr (6, [.int 0, .int 0, .ref q1, .ref q2, .null, .null, .null, .int 0, .null, .null, .null, .null, .null, .int 0, .null, .null, .null])), (q1, .inl (dA 1, 24, .inr (.inl (fun _ => 0)))), (q2, .inl (dA 0, 24, .inl (fun _ => 0))), (q3, .inl (dA 0, 24, .inl (fun _ => 0)))] H := hP
  have hD : va_D A [(h0, .inr (6, [.int 0, .int 0, .ref q1, .ref q2, .null, .null, .null, .int 0, .null, .null, .null, .null, .null, .int 0, .null, .null, .null])), (q1, .inl (dA 1, 24, .inr (.inl (fun _ => 0)))), (q2, .inl (dA 0, 24, .inl (fun _ => 0))), (q3, .inl (dA 0, 24, .inl (fun _ => 0)))] := hD
  refine g_putF (w' := [(h0, .inr (6, [.int 0, .int 0, .ref q1, .ref q2, .ref q3, .null, .null, .int 0, .null, .null, .null, .null, .null, .int 0, .null, .null, .null])), (q1, .inl (dA 1, 24, .inr (.inl (fun _ => 0)))), (q2, .inl (dA 0, 24, .inl (fun _ => 0))), (q3, .inl (dA 0, 24, .inl (fun _ => 0)))]) hx hb hg hown hK hP hD hS 0 rfl rfl inX6 tyX6_ok nmX6 4 (by decide) q408 rfl hin rfl rfl rfl (Nat.le_of_ble_eq_true rfl) rfl dX6_init_35 (fun H locs hP hD hS => ?_)
  refine lv_aload_n hx hb dX6_init_38 rfl (lv_at hl 0 rfl) ?_
  refine lv_bipush (v := 24) hx hb dX6_init_39 (by decide) ?_
  refine g_newa (ty := .int) (N' := 24) (a0 := (24, .inl (fun _ => 0))) hx hb hg rfl q224 hK hP hD hS hA 0 rfl (fun _ => rfl) (by decide) (by decide) (Nat.le_of_ble_eq_true rfl) (Nat.le_of_ble_eq_true rfl) (Nat.le_of_ble_eq_true rfl) dX6_init_41 (fun q4 H hP hD hS => ?_)
  refine W.widen (k := 4) (n := 96) (Nat.le_of_ble_eq_true rfl) (Nat.le_of_ble_eq_true rfl) ?_
  have hP : va_P D vwC [(h0, .inr (6, [.int 0, .int 0, .ref q1, .ref q2, .ref q3, .null, .null, .int 0, .null, .null, .null, .null, .null, .int 0, .null, .null, .null])), (q1, .inl (dA 1, 24, .inr (.inl (fun _ => 0)))), (q2, .inl (dA 0, 24, .inl (fun _ => 0))), (q3, .inl (dA 0, 24, .inl (fun _ => 0))), (q4, .inl (dA 0, 24, .inl (fun _ => 0)))] H := hP
  have hD : va_D A [(h0, .inr (6, [.int 0, .int 0, .ref q1, .ref q2, .ref q3, .null, .null, .int 0, .null, .null, .null, .null, .null, .int 0, .null, .null, .null])), (q1, .inl (dA 1, 24, .inr (.inl (fun _ => 0)))), (q2, .inl (dA 0, 24, .inl (fun _ => 0))), (q3, .inl (dA 0, 24, .inl (fun _ => 0))), (q4, .inl (dA 0, 24, .inl (fun _ => 0)))] := hD
  refine g_putF (w' := [(h0, .inr (6, [.int 0, .int 0, .ref q1, .ref q2, .ref q3, .ref q4, .null, .int 0, .null, .null, .null, .null, .null, .int 0, .null, .null, .null])), (q1, .inl (dA 1, 24, .inr (.inl (fun _ => 0)))), (q2, .inl (dA 0, 24, .inl (fun _ => 0))), (q3, .inl (dA 0, 24, .inl (fun _ => 0))), (q4, .inl (dA 0, 24, .inl (fun _ => 0)))]) hx hb hg hown hK hP hD hS 0 rfl rfl inX6 tyX6_ok nmX6 5 (by decide) q411 rfl hin rfl rfl rfl (Nat.le_of_ble_eq_true rfl) rfl dX6_init_43 (fun H locs hP hD hS => ?_)
  refine lv_aload_n hx hb dX6_init_46 rfl (lv_at hl 0 rfl) ?_
  refine lv_sipush (v := 400) hx hb dX6_init_47 (by decide) ?_
  refine g_newa (ty := .int) (N' := 400) (a0 := (400, .inl (fun _ => 0))) hx hb hg rfl q224 hK hP hD hS hA 0 rfl (fun _ => rfl) (by decide) (by decide) (Nat.le_of_ble_eq_true rfl) (Nat.le_of_ble_eq_true rfl) (Nat.le_of_ble_eq_true rfl) dX6_init_50 (fun q5 H hP hD hS => ?_)
  refine W.widen (k := 5) (n := 496) (Nat.le_of_ble_eq_true rfl) (Nat.le_of_ble_eq_true rfl) ?_
  have hP : va_P D vwC [(h0, .inr (6, [.int 0, .int 0, .ref q1, .ref q2, .ref q3, .ref q4, .null, .int 0, .null, .null, .null, .null, .null, .int 0, .null, .null, .null])), (q1, .inl (dA 1, 24, .inr (.inl (fun _ => 0)))), (q2, .inl (dA 0, 24, .inl (fun _ => 0))), (q3, .inl (dA 0, 24, .inl (fun _ => 0))), (q4, .inl (dA 0, 24, .inl (fun _ => 0))), (q5, .inl (dA 0, 400, .inl (fun _ => 0)))] H := hP
  have hD : va_D A [(h0, .inr (6, [.int 0, .int 0, .ref q1, .ref q2, .ref q3, .ref q4, .null, .int 0, .null, .null, .null, .null, .null, .int 0, .null, .null, .null])), (q1, .inl (dA 1, 24, .inr (.inl (fun _ => 0)))), (q2, .inl (dA 0, 24, .inl (fun _ => 0))), (q3, .inl (dA 0, 24, .inl (fun _ => 0))), (q4, .inl (dA 0, 24, .inl (fun _ => 0))), (q5, .inl (dA 0, 400, .inl (fun _ => 0)))] := hD
  refine g_putF (w' := [(h0, .inr (6, [.int 0, .int 0, .ref q1, .ref q2, .ref q3, .ref q4, .ref q5, .int 0, .null, .null, .null, .null, .null, .int 0, .null, .null, .null])), (q1, .inl (dA 1, 24, .inr (.inl (fun _ => 0)))), (q2, .inl (dA 0, 24, .inl (fun _ => 0))), (q3, .inl (dA 0, 24, .inl (fun _ => 0))), (q4, .inl (dA 0, 24, .inl (fun _ => 0))), (q5, .inl (dA 0, 400, .inl (fun _ => 0)))]) hx hb hg hown hK hP hD hS 0 rfl rfl inX6 tyX6_ok nmX6 6 (by decide) q414 rfl hin rfl rfl rfl (Nat.le_of_ble_eq_true rfl) rfl dX6_init_52 (fun H locs hP hD hS => ?_)
  refine lv_aload_n hx hb dX6_init_55 rfl (lv_at hl 0 rfl) ?_
  refine lv_iconst (v := 0) hx hb dX6_init_56 (by decide) ?_
  refine g_put (w' := [(h0, .inr (6, [.int 0, .int 0, .ref q1, .ref q2, .ref q3, .ref q4, .ref q5, .int 0, .null, .null, .null, .null, .null, .int 0, .null, .null, .null])), (q1, .inl (dA 1, 24, .inr (.inl (fun _ => 0)))), (q2, .inl (dA 0, 24, .inl (fun _ => 0))), (q3, .inl (dA 0, 24, .inl (fun _ => 0))), (q4, .inl (dA 0, 24, .inl (fun _ => 0))), (q5, .inl (dA 0, 400, .inl (fun _ => 0)))]) hx hb hg hown hK hP hD hS 0 rfl rfl inX6 tyX6_ok nmX6 7 (by decide) q417 rfl rfl rfl (Nat.le_of_ble_eq_true rfl) rfl dX6_init_57 (fun H locs hP hD hS => ?_)
  refine lv_aload_n hx hb dX6_init_60 rfl (lv_at hl 0 rfl) ?_
  refine lv_sipush (v := 200) hx hb dX6_init_61 (by decide) ?_
  refine g_newa (ty := .int) (N' := 200) (a0 := (200, .inl (fun _ => 0))) hx hb hg rfl q224 hK hP hD hS hA 0 rfl (fun _ => rfl) (by decide) (by decide) (Nat.le_of_ble_eq_true rfl) (Nat.le_of_ble_eq_true rfl) (Nat.le_of_ble_eq_true rfl) dX6_init_64 (fun q6 H hP hD hS => ?_)
  refine W.widen (k := 6) (n := 696) (Nat.le_of_ble_eq_true rfl) (Nat.le_of_ble_eq_true rfl) ?_
  have hP : va_P D vwC [(h0, .inr (6, [.int 0, .int 0, .ref q1, .ref q2, .ref q3, .ref q4, .ref q5, .int 0, .null, .null, .null, .null, .null, .int 0, .null, .null, .null])), (q1, .inl (dA 1, 24, .inr (.inl (fun _ => 0)))), (q2, .inl (dA 0, 24, .inl (fun _ => 0))), (q3, .inl (dA 0, 24, .inl (fun _ => 0))), (q4, .inl (dA 0, 24, .inl (fun _ => 0))), (q5, .inl (dA 0, 400, .inl (fun _ => 0))), (q6, .inl (dA 0, 200, .inl (fun _ => 0)))] H := hP
  have hD : va_D A [(h0, .inr (6, [.int 0, .int 0, .ref q1, .ref q2, .ref q3, .ref q4, .ref q5, .int 0, .null, .null, .null, .null, .null, .int 0, .null, .null, .null])), (q1, .inl (dA 1, 24, .inr (.inl (fun _ => 0)))), (q2, .inl (dA 0, 24, .inl (fun _ => 0))), (q3, .inl (dA 0, 24, .inl (fun _ => 0))), (q4, .inl (dA 0, 24, .inl (fun _ => 0))), (q5, .inl (dA 0, 400, .inl (fun _ => 0))), (q6, .inl (dA 0, 200, .inl (fun _ => 0)))] := hD
  refine g_putF (w' := [(h0, .inr (6, [.int 0, .int 0, .ref q1, .ref q2, .ref q3, .ref q4, .ref q5, .int 0, .ref q6, .null, .null, .null, .null, .int 0, .null, .null, .null])), (q1, .inl (dA 1, 24, .inr (.inl (fun _ => 0)))), (q2, .inl (dA 0, 24, .inl (fun _ => 0))), (q3, .inl (dA 0, 24, .inl (fun _ => 0))), (q4, .inl (dA 0, 24, .inl (fun _ => 0))), (q5, .inl (dA 0, 400, .inl (fun _ => 0))), (q6, .inl (dA 0, 200, .inl (fun _ => 0)))]) hx hb hg hown hK hP hD hS 0 rfl rfl inX6 tyX6_ok nmX6 8 (by decide) q420 rfl hin rfl rfl rfl (Nat.le_of_ble_eq_true rfl) rfl dX6_init_66 (fun H locs hP hD hS => ?_)
  refine lv_aload_n hx hb dX6_init_69 rfl (lv_at hl 0 rfl) ?_
  refine lv_sipush (v := 200) hx hb dX6_init_70 (by decide) ?_
  refine g_newa (ty := .int) (N' := 200) (a0 := (200, .inl (fun _ => 0))) hx hb hg rfl q224 hK hP hD hS hA 0 rfl (fun _ => rfl) (by decide) (by decide) (Nat.le_of_ble_eq_true rfl) (Nat.le_of_ble_eq_true rfl) (Nat.le_of_ble_eq_true rfl) dX6_init_73 (fun q7 H hP hD hS => ?_)
  refine W.widen (k := 7) (n := 896) (Nat.le_of_ble_eq_true rfl) (Nat.le_of_ble_eq_true rfl) ?_
  have hP : va_P D vwC [(h0, .inr (6, [.int 0, .int 0, .ref q1, .ref q2, .ref q3, .ref q4, .ref q5, .int 0, .ref q6, .null, .null, .null, .null, .int 0, .null, .null, .null])), (q1, .inl (dA 1, 24, .inr (.inl (fun _ => 0)))), (q2, .inl (dA 0, 24, .inl (fun _ => 0))), (q3, .inl (dA 0, 24, .inl (fun _ => 0))), (q4, .inl (dA 0, 24, .inl (fun _ => 0))), (q5, .inl (dA 0, 400, .inl (fun _ => 0))), (q6, .inl (dA 0, 200, .inl (fun _ => 0))), (q7, .inl (dA 0, 200, .inl (fun _ => 0)))] H := hP
  have hD : va_D A [(h0, .inr (6, [.int 0, .int 0, .ref q1, .ref q2, .ref q3, .ref q4, .ref q5, .int 0, .ref q6, .null, .null, .null, .null, .int 0, .null, .null, .null])), (q1, .inl (dA 1, 24, .inr (.inl (fun _ => 0)))), (q2, .inl (dA 0, 24, .inl (fun _ => 0))), (q3, .inl (dA 0, 24, .inl (fun _ => 0))), (q4, .inl (dA 0, 24, .inl (fun _ => 0))), (q5, .inl (dA 0, 400, .inl (fun _ => 0))), (q6, .inl (dA 0, 200, .inl (fun _ => 0))), (q7, .inl (dA 0, 200, .inl (fun _ => 0)))] := hD
  refine g_putF (w' := [(h0, .inr (6, [.int 0, .int 0, .ref q1, .ref q2, .ref q3, .ref q4, .ref q5, .int 0, .ref q6, .ref q7, .null, .null, .null, .int 0, .null, .null, .null])), (q1, .inl (dA 1, 24, .inr (.inl (fun _ => 0)))), (q2, .inl (dA 0, 24, .inl (fun _ => 0))), (q3, .inl (dA 0, 24, .inl (fun _ => 0))), (q4, .inl (dA 0, 24, .inl (fun _ => 0))), (q5, .inl (dA 0, 400, .inl (fun _ => 0))), (q6, .inl (dA 0, 200, .inl (fun _ => 0))), (q7, .inl (dA 0, 200, .inl (fun _ => 0)))]) hx hb hg hown hK hP hD hS 0 rfl rfl inX6 tyX6_ok nmX6 9 (by decide) q423 rfl hin rfl rfl rfl (Nat.le_of_ble_eq_true rfl) rfl dX6_init_75 (fun H locs hP hD hS => ?_)
  refine lv_aload_n hx hb dX6_init_78 rfl (lv_at hl 0 rfl) ?_
  refine lv_sipush (v := 200) hx hb dX6_init_79 (by decide) ?_
  refine g_newa (ty := .int) (N' := 200) (a0 := (200, .inl (fun _ => 0))) hx hb hg rfl q224 hK hP hD hS hA 0 rfl (fun _ => rfl) (by decide) (by decide) (Nat.le_of_ble_eq_true rfl) (Nat.le_of_ble_eq_true rfl) (Nat.le_of_ble_eq_true rfl) dX6_init_82 (fun q8 H hP hD hS => ?_)
  refine W.widen (k := 8) (n := 1096) (Nat.le_of_ble_eq_true rfl) (Nat.le_of_ble_eq_true rfl) ?_
  have hP : va_P D vwC [(h0, .inr (6, [.int 0, .int 0, .ref q1, .ref q2, .ref q3, .ref q4, .ref q5, .int 0, .ref q6, .ref q7, .null, .null, .null, .int 0, .null, .null, .null])), (q1, .inl (dA 1, 24, .inr (.inl (fun _ => 0)))), (q2, .inl (dA 0, 24, .inl (fun _ => 0))), (q3, .inl (dA 0, 24, .inl (fun _ => 0))), (q4, .inl (dA 0, 24, .inl (fun _ => 0))), (q5, .inl (dA 0, 400, .inl (fun _ => 0))), (q6, .inl (dA 0, 200, .inl (fun _ => 0))), (q7, .inl (dA 0, 200, .inl (fun _ => 0))), (q8, .inl (dA 0, 200, .inl (fun _ => 0)))] H := hP
  have hD : va_D A [(h0, .inr (6, [.int 0, .int 0, .ref q1, .ref q2, .ref q3, .ref q4, .ref q5, .int 0, .ref q6, .ref q7, .null, .null, .null, .int 0, .null, .null, .null])), (q1, .inl (dA 1, 24, .inr (.inl (fun _ => 0)))), (q2, .inl (dA 0, 24, .inl (fun _ => 0))), (q3, .inl (dA 0, 24, .inl (fun _ => 0))), (q4, .inl (dA 0, 24, .inl (fun _ => 0))), (q5, .inl (dA 0, 400, .inl (fun _ => 0))), (q6, .inl (dA 0, 200, .inl (fun _ => 0))), (q7, .inl (dA 0, 200, .inl (fun _ => 0))), (q8, .inl (dA 0, 200, .inl (fun _ => 0)))] := hD
  refine g_putF (w' := [(h0, .inr (6, [.int 0, .int 0, .ref q1, .ref q2, .ref q3, .ref q4, .ref q5, .int 0, .ref q6, .ref q7, .ref q8, .null, .null, .int 0, .null, .null, .null])), (q1, .inl (dA 1, 24, .inr (.inl (fun _ => 0)))), (q2, .inl (dA 0, 24, .inl (fun _ => 0))), (q3, .inl (dA 0, 24, .inl (fun _ => 0))), (q4, .inl (dA 0, 24, .inl (fun _ => 0))), (q5, .inl (dA 0, 400, .inl (fun _ => 0))), (q6, .inl (dA 0, 200, .inl (fun _ => 0))), (q7, .inl (dA 0, 200, .inl (fun _ => 0))), (q8, .inl (dA 0, 200, .inl (fun _ => 0)))]) hx hb hg hown hK hP hD hS 0 rfl rfl inX6 tyX6_ok nmX6 10 (by decide) q426 rfl hin rfl rfl rfl (Nat.le_of_ble_eq_true rfl) rfl dX6_init_84 (fun H locs hP hD hS => ?_)
  refine lv_aload_n hx hb dX6_init_87 rfl (lv_at hl 0 rfl) ?_
  refine lv_sipush (v := 200) hx hb dX6_init_88 (by decide) ?_
  refine g_newa (ty := .int) (N' := 200) (a0 := (200, .inl (fun _ => 0))) hx hb hg rfl q224 hK hP hD hS hA 0 rfl (fun _ => rfl) (by decide) (by decide) (Nat.le_of_ble_eq_true rfl) (Nat.le_of_ble_eq_true rfl) (Nat.le_of_ble_eq_true rfl) dX6_init_91 (fun q9 H hP hD hS => ?_)
  refine W.widen (k := 9) (n := 1296) (Nat.le_of_ble_eq_true rfl) (Nat.le_of_ble_eq_true rfl) ?_
  have hP : va_P D vwC [(h0, .inr (6, [.int 0, .int 0, .ref q1, .ref q2, .ref q3, .ref q4, .ref q5, .int 0, .ref q6, .ref q7, .ref q8, .null, .null, .int 0, .null, .null, .null])), (q1, .inl (dA 1, 24, .inr (.inl (fun _ => 0)))), (q2, .inl (dA 0, 24, .inl (fun _ => 0))), (q3, .inl (dA 0, 24, .inl (fun _ => 0))), (q4, .inl (dA 0, 24, .inl (fun _ => 0))), (q5, .inl (dA 0, 400, .inl (fun _ => 0))), (q6, .inl (dA 0, 200, .inl (fun _ => 0))), (q7, .inl (dA 0, 200, .inl (fun _ => 0))), (q8, .inl (dA 0, 200, .inl (fun _ => 0))), (q9, .inl (dA 0, 200, .inl (fun _ => 0)))] H := hP
  have hD : va_D A [(h0, .inr (6, [.int 0, .int 0, .ref q1, .ref q2, .ref q3, .ref q4, .ref q5, .int 0, .ref q6, .ref q7, .ref q8, .null, .null, .int 0, .null, .null, .null])), (q1, .inl (dA 1, 24, .inr (.inl (fun _ => 0)))), (q2, .inl (dA 0, 24, .inl (fun _ => 0))), (q3, .inl (dA 0, 24, .inl (fun _ => 0))), (q4, .inl (dA 0, 24, .inl (fun _ => 0))), (q5, .inl (dA 0, 400, .inl (fun _ => 0))), (q6, .inl (dA 0, 200, .inl (fun _ => 0))), (q7, .inl (dA 0, 200, .inl (fun _ => 0))), (q8, .inl (dA 0, 200, .inl (fun _ => 0))), (q9, .inl (dA 0, 200, .inl (fun _ => 0)))] := hD
  refine g_putF (w' := [(h0, .inr (6, [.int 0, .int 0, .ref q1, .ref q2, .ref q3, .ref q4, .ref q5, .int 0, .ref q6, .ref q7, .ref q8, .ref q9, .null, .int 0, .null, .null, .null])), (q1, .inl (dA 1, 24, .inr (.inl (fun _ => 0)))), (q2, .inl (dA 0, 24, .inl (fun _ => 0))), (q3, .inl (dA 0, 24, .inl (fun _ => 0))), (q4, .inl (dA 0, 24, .inl (fun _ => 0))), (q5, .inl (dA 0, 400, .inl (fun _ => 0))), (q6, .inl (dA 0, 200, .inl (fun _ => 0))), (q7, .inl (dA 0, 200, .inl (fun _ => 0))), (q8, .inl (dA 0, 200, .inl (fun _ => 0))), (q9, .inl (dA 0, 200, .inl (fun _ => 0)))]) hx hb hg hown hK hP hD hS 0 rfl rfl inX6 tyX6_ok nmX6 11 (by decide) q429 rfl hin rfl rfl rfl (Nat.le_of_ble_eq_true rfl) rfl dX6_init_93 (fun H locs hP hD hS => ?_)
  refine lv_aload_n hx hb dX6_init_96 rfl (lv_at hl 0 rfl) ?_
  refine lv_sipush (v := 200) hx hb dX6_init_97 (by decide) ?_
  refine g_newa (ty := .long) (N' := 200) (a0 := (200, .inr (.inl (fun _ => 0)))) hx hb hg rfl q223 hK hP hD hS hA 1 rfl (fun _ => rfl) (by decide) (by decide) (Nat.le_of_ble_eq_true rfl) (Nat.le_of_ble_eq_true rfl) (Nat.le_of_ble_eq_true rfl) dX6_init_100 (fun q10 H hP hD hS => ?_)
  refine W.widen (k := 10) (n := 1496) (Nat.le_of_ble_eq_true rfl) (Nat.le_of_ble_eq_true rfl) ?_
  have hP : va_P D vwC [(h0, .inr (6, [.int 0, .int 0, .ref q1, .ref q2, .ref q3, .ref q4, .ref q5, .int 0, .ref q6, .ref q7, .ref q8, .ref q9, .null, .int 0, .null, .null, .null])), (q1, .inl (dA 1, 24, .inr (.inl (fun _ => 0)))), (q2, .inl (dA 0, 24, .inl (fun _ => 0))), (q3, .inl (dA 0, 24, .inl (fun _ => 0))), (q4, .inl (dA 0, 24, .inl (fun _ => 0))), (q5, .inl (dA 0, 400, .inl (fun _ => 0))), (q6, .inl (dA 0, 200, .inl (fun _ => 0))), (q7, .inl (dA 0, 200, .inl (fun _ => 0))), (q8, .inl (dA 0, 200, .inl (fun _ => 0))), (q9, .inl (dA 0, 200, .inl (fun _ => 0))), (q10, .inl (dA 1, 200, .inr (.inl (fun _ => 0))))] H := hP
  have hD : va_D A [(h0, .inr (6, [.int 0, .int 0, .ref q1, .ref q2, .ref q3, .ref q4, .ref q5, .int 0, .ref q6, .ref q7, .ref q8, .ref q9, .null, .int 0, .null, .null, .null])), (q1, .inl (dA 1, 24, .inr (.inl (fun _ => 0)))), (q2, .inl (dA 0, 24, .inl (fun _ => 0))), (q3, .inl (dA 0, 24, .inl (fun _ => 0))), (q4, .inl (dA 0, 24, .inl (fun _ => 0))), (q5, .inl (dA 0, 400, .inl (fun _ => 0))), (q6, .inl (dA 0, 200, .inl (fun _ => 0))), (q7, .inl (dA 0, 200, .inl (fun _ => 0))), (q8, .inl (dA 0, 200, .inl (fun _ => 0))), (q9, .inl (dA 0, 200, .inl (fun _ => 0))), (q10, .inl (dA 1, 200, .inr (.inl (fun _ => 0))))] := hD
  refine g_putF (w' := [(h0, .inr (6, [.int 0, .int 0, .ref q1, .ref q2, .ref q3, .ref q4, .ref q5, .int 0, .ref q6, .ref q7, .ref q8, .ref q9, .ref q10, .int 0, .null, .null, .null])), (q1, .inl (dA 1, 24, .inr (.inl (fun _ => 0)))), (q2, .inl (dA 0, 24, .inl (fun _ => 0))), (q3, .inl (dA 0, 24, .inl (fun _ => 0))), (q4, .inl (dA 0, 24, .inl (fun _ => 0))), (q5, .inl (dA 0, 400, .inl (fun _ => 0))), (q6, .inl (dA 0, 200, .inl (fun _ => 0))), (q7, .inl (dA 0, 200, .inl (fun _ => 0))), (q8, .inl (dA 0, 200, .inl (fun _ => 0))), (q9, .inl (dA 0, 200, .inl (fun _ => 0))), (q10, .inl (dA 1, 200, .inr (.inl (fun _ => 0))))]) hx hb hg hown hK hP hD hS 0 rfl rfl inX6 tyX6_ok nmX6 12 (by decide) q432 rfl hin rfl rfl rfl (Nat.le_of_ble_eq_true rfl) rfl dX6_init_102 (fun H locs hP hD hS => ?_)
  refine lv_aload_n hx hb dX6_init_105 rfl (lv_at hl 0 rfl) ?_
  refine lv_iconst (v := 0) hx hb dX6_init_106 (by decide) ?_
  refine g_put (w' := [(h0, .inr (6, [.int 0, .int 0, .ref q1, .ref q2, .ref q3, .ref q4, .ref q5, .int 0, .ref q6, .ref q7, .ref q8, .ref q9, .ref q10, .int 0, .null, .null, .null])), (q1, .inl (dA 1, 24, .inr (.inl (fun _ => 0)))), (q2, .inl (dA 0, 24, .inl (fun _ => 0))), (q3, .inl (dA 0, 24, .inl (fun _ => 0))), (q4, .inl (dA 0, 24, .inl (fun _ => 0))), (q5, .inl (dA 0, 400, .inl (fun _ => 0))), (q6, .inl (dA 0, 200, .inl (fun _ => 0))), (q7, .inl (dA 0, 200, .inl (fun _ => 0))), (q8, .inl (dA 0, 200, .inl (fun _ => 0))), (q9, .inl (dA 0, 200, .inl (fun _ => 0))), (q10, .inl (dA 1, 200, .inr (.inl (fun _ => 0))))]) hx hb hg hown hK hP hD hS 0 rfl rfl inX6 tyX6_ok nmX6 13 (by decide) q434 rfl rfl rfl (Nat.le_of_ble_eq_true rfl) rfl dX6_init_107 (fun H locs hP hD hS => ?_)
  refine lv_aload_n hx hb dX6_init_110 rfl (lv_at hl 0 rfl) ?_
  refine lv_bipush (v := 24) hx hb dX6_init_111 (by decide) ?_
  refine g_newa (ty := .long) (N' := 24) (a0 := (24, .inr (.inl (fun _ => 0)))) hx hb hg rfl q223 hK hP hD hS hA 1 rfl (fun _ => rfl) (by decide) (by decide) (Nat.le_of_ble_eq_true rfl) (Nat.le_of_ble_eq_true rfl) (Nat.le_of_ble_eq_true rfl) dX6_init_113 (fun q11 H hP hD hS => ?_)
  refine W.widen (k := 11) (n := 1520) (Nat.le_of_ble_eq_true rfl) (Nat.le_of_ble_eq_true rfl) ?_
  have hP : va_P D vwC [(h0, .inr (6, [.int 0, .int 0, .ref q1, .ref q2, .ref q3, .ref q4, .ref q5, .int 0, .ref q6, .ref q7, .ref q8, .ref q9, .ref q10, .int 0, .null, .null, .null])), (q1, .inl (dA 1, 24, .inr (.inl (fun _ => 0)))), (q2, .inl (dA 0, 24, .inl (fun _ => 0))), (q3, .inl (dA 0, 24, .inl (fun _ => 0))), (q4, .inl (dA 0, 24, .inl (fun _ => 0))), (q5, .inl (dA 0, 400, .inl (fun _ => 0))), (q6, .inl (dA 0, 200, .inl (fun _ => 0))), (q7, .inl (dA 0, 200, .inl (fun _ => 0))), (q8, .inl (dA 0, 200, .inl (fun _ => 0))), (q9, .inl (dA 0, 200, .inl (fun _ => 0))), (q10, .inl (dA 1, 200, .inr (.inl (fun _ => 0)))), (q11, .inl (dA 1, 24, .inr (.inl (fun _ => 0))))] H := hP
  have hD : va_D A [(h0, .inr (6, [.int 0, .int 0, .ref q1, .ref q2, .ref q3, .ref q4, .ref q5, .int 0, .ref q6, .ref q7, .ref q8, .ref q9, .ref q10, .int 0, .null, .null, .null])), (q1, .inl (dA 1, 24, .inr (.inl (fun _ => 0)))), (q2, .inl (dA 0, 24, .inl (fun _ => 0))), (q3, .inl (dA 0, 24, .inl (fun _ => 0))), (q4, .inl (dA 0, 24, .inl (fun _ => 0))), (q5, .inl (dA 0, 400, .inl (fun _ => 0))), (q6, .inl (dA 0, 200, .inl (fun _ => 0))), (q7, .inl (dA 0, 200, .inl (fun _ => 0))), (q8, .inl (dA 0, 200, .inl (fun _ => 0))), (q9, .inl (dA 0, 200, .inl (fun _ => 0))), (q10, .inl (dA 1, 200, .inr (.inl (fun _ => 0)))), (q11, .inl (dA 1, 24, .inr (.inl (fun _ => 0))))] := hD
  refine g_putF (w' := [(h0, .inr (6, [.int 0, .int 0, .ref q1, .ref q2, .ref q3, .ref q4, .ref q5, .int 0, .ref q6, .ref q7, .ref q8, .ref q9, .ref q10, .int 0, .ref q11, .null, .null])), (q1, .inl (dA 1, 24, .inr (.inl (fun _ => 0)))), (q2, .inl (dA 0, 24, .inl (fun _ => 0))), (q3, .inl (dA 0, 24, .inl (fun _ => 0))), (q4, .inl (dA 0, 24, .inl (fun _ => 0))), (q5, .inl (dA 0, 400, .inl (fun _ => 0))), (q6, .inl (dA 0, 200, .inl (fun _ => 0))), (q7, .inl (dA 0, 200, .inl (fun _ => 0))), (q8, .inl (dA 0, 200, .inl (fun _ => 0))), (q9, .inl (dA 0, 200, .inl (fun _ => 0))), (q10, .inl (dA 1, 200, .inr (.inl (fun _ => 0)))), (q11, .inl (dA 1, 24, .inr (.inl (fun _ => 0))))]) hx hb hg hown hK hP hD hS 0 rfl rfl inX6 tyX6_ok nmX6 14 (by decide) q436 rfl hin rfl rfl rfl (Nat.le_of_ble_eq_true rfl) rfl dX6_init_115 (fun H locs hP hD hS => ?_)
  refine lv_aload_n hx hb dX6_init_118 rfl (lv_at hl 0 rfl) ?_
  refine lv_bipush (v := 24) hx hb dX6_init_119 (by decide) ?_
  refine g_newa (ty := .int) (N' := 24) (a0 := (24, .inl (fun _ => 0))) hx hb hg rfl q224 hK hP hD hS hA 0 rfl (fun _ => rfl) (by decide) (by decide) (Nat.le_of_ble_eq_true rfl) (Nat.le_of_ble_eq_true rfl) (Nat.le_of_ble_eq_true rfl) dX6_init_121 (fun q12 H hP hD hS => ?_)
  refine W.widen (k := 12) (n := 1544) (Nat.le_of_ble_eq_true rfl) (Nat.le_of_ble_eq_true rfl) ?_
  have hP : va_P D vwC [(h0, .inr (6, [.int 0, .int 0, .ref q1, .ref q2, .ref q3, .ref q4, .ref q5, .int 0, .ref q6, .ref q7, .ref q8, .ref q9, .ref q10, .int 0, .ref q11, .null, .null])), (q1, .inl (dA 1, 24, .inr (.inl (fun _ => 0)))), (q2, .inl (dA 0, 24, .inl (fun _ => 0))), (q3, .inl (dA 0, 24, .inl (fun _ => 0))), (q4, .inl (dA 0, 24, .inl (fun _ => 0))), (q5, .inl (dA 0, 400, .inl (fun _ => 0))), (q6, .inl (dA 0, 200, .inl (fun _ => 0))), (q7, .inl (dA 0, 200, .inl (fun _ => 0))), (q8, .inl (dA 0, 200, .inl (fun _ => 0))), (q9, .inl (dA 0, 200, .inl (fun _ => 0))), (q10, .inl (dA 1, 200, .inr (.inl (fun _ => 0)))), (q11, .inl (dA 1, 24, .inr (.inl (fun _ => 0)))), (q12, .inl (dA 0, 24, .inl (fun _ => 0)))] H := hP
  have hD : va_D A [(h0, .inr (6, [.int 0, .int 0, .ref q1, .ref q2, .ref q3, .ref q4, .ref q5, .int 0, .ref q6, .ref q7, .ref q8, .ref q9, .ref q10, .int 0, .ref q11, .null, .null])), (q1, .inl (dA 1, 24, .inr (.inl (fun _ => 0)))), (q2, .inl (dA 0, 24, .inl (fun _ => 0))), (q3, .inl (dA 0, 24, .inl (fun _ => 0))), (q4, .inl (dA 0, 24, .inl (fun _ => 0))), (q5, .inl (dA 0, 400, .inl (fun _ => 0))), (q6, .inl (dA 0, 200, .inl (fun _ => 0))), (q7, .inl (dA 0, 200, .inl (fun _ => 0))), (q8, .inl (dA 0, 200, .inl (fun _ => 0))), (q9, .inl (dA 0, 200, .inl (fun _ => 0))), (q10, .inl (dA 1, 200, .inr (.inl (fun _ => 0)))), (q11, .inl (dA 1, 24, .inr (.inl (fun _ => 0)))), (q12, .inl (dA 0, 24, .inl (fun _ => 0)))] := hD
  refine g_putF (w' := [(h0, .inr (6, [.int 0, .int 0, .ref q1, .ref q2, .ref q3, .ref q4, .ref q5, .int 0, .ref q6, .ref q7, .ref q8, .ref q9, .ref q10, .int 0, .ref q11, .ref q12, .null])), (q1, .inl (dA 1, 24, .inr (.inl (fun _ => 0)))), (q2, .inl (dA 0, 24, .inl (fun _ => 0))), (q3, .inl (dA 0, 24, .inl (fun _ => 0))), (q4, .inl (dA 0, 24, .inl (fun _ => 0))), (q5, .inl (dA 0, 400, .inl (fun _ => 0))), (q6, .inl (dA 0, 200, .inl (fun _ => 0))), (q7, .inl (dA 0, 200, .inl (fun _ => 0))), (q8, .inl (dA 0, 200, .inl (fun _ => 0))), (q9, .inl (dA 0, 200, .inl (fun _ => 0))), (q10, .inl (dA 1, 200, .inr (.inl (fun _ => 0)))), (q11, .inl (dA 1, 24, .inr (.inl (fun _ => 0)))), (q12, .inl (dA 0, 24, .inl (fun _ => 0)))]) hx hb hg hown hK hP hD hS 0 rfl rfl inX6 tyX6_ok nmX6 15 (by decide) q438 rfl hin rfl rfl rfl (Nat.le_of_ble_eq_true rfl) rfl dX6_init_123 (fun H locs hP hD hS => ?_)
  refine lv_aload_n hx hb dX6_init_126 rfl (lv_at hl 0 rfl) ?_
  refine lv_bipush (v := 24) hx hb dX6_init_127 (by decide) ?_
  refine g_newa (ty := .int) (N' := 24) (a0 := (24, .inl (fun _ => 0))) hx hb hg rfl q224 hK hP hD hS hA 0 rfl (fun _ => rfl) (by decide) (by decide) (Nat.le_of_ble_eq_true rfl) (Nat.le_of_ble_eq_true rfl) (Nat.le_of_ble_eq_true rfl) dX6_init_129 (fun q13 H hP hD hS => ?_)
  refine W.widen (k := 13) (n := 1568) (Nat.le_of_ble_eq_true rfl) (Nat.le_of_ble_eq_true rfl) ?_
  have hP : va_P D vwC [(h0, .inr (6, [.int 0, .int 0, .ref q1, .ref q2, .ref q3, .ref q4, .ref q5, .int 0, .ref q6, .ref q7, .ref q8, .ref q9, .ref q10, .int 0, .ref q11, .ref q12, .null])), (q1, .inl (dA 1, 24, .inr (.inl (fun _ => 0)))), (q2, .inl (dA 0, 24, .inl (fun _ => 0))), (q3, .inl (dA 0, 24, .inl (fun _ => 0))), (q4, .inl (dA 0, 24, .inl (fun _ => 0))), (q5, .inl (dA 0, 400, .inl (fun _ => 0))), (q6, .inl (dA 0, 200, .inl (fun _ => 0))), (q7, .inl (dA 0, 200, .inl (fun _ => 0))), (q8, .inl (dA 0, 200, .inl (fun _ => 0))), (q9, .inl (dA 0, 200, .inl (fun _ => 0))), (q10, .inl (dA 1, 200, .inr (.inl (fun _ => 0)))), (q11, .inl (dA 1, 24, .inr (.inl (fun _ => 0)))), (q12, .inl (dA 0, 24, .inl (fun _ => 0))), (q13, .inl (dA 0, 24, .inl (fun _ => 0)))] H := hP
  have hD : va_D A [(h0, .inr (6, [.int 0, .int 0, .ref q1, .ref q2, .ref q3, .ref q4, .ref q5, .int 0, .ref q6, .ref q7, .ref q8, .ref q9, .ref q10, .int 0, .ref q11, .ref q12, .null])), (q1, .inl (dA 1, 24, .inr (.inl (fun _ => 0)))), (q2, .inl (dA 0, 24, .inl (fun _ => 0))), (q3, .inl (dA 0, 24, .inl (fun _ => 0))), (q4, .inl (dA 0, 24, .inl (fun _ => 0))), (q5, .inl (dA 0, 400, .inl (fun _ => 0))), (q6, .inl (dA 0, 200, .inl (fun _ => 0))), (q7, .inl (dA 0, 200, .inl (fun _ => 0))), (q8, .inl (dA 0, 200, .inl (fun _ => 0))), (q9, .inl (dA 0, 200, .inl (fun _ => 0))), (q10, .inl (dA 1, 200, .inr (.inl (fun _ => 0)))), (q11, .inl (dA 1, 24, .inr (.inl (fun _ => 0)))), (q12, .inl (dA 0, 24, .inl (fun _ => 0))), (q13, .inl (dA 0, 24, .inl (fun _ => 0)))] := hD
  refine g_putF (w' := [(h0, .inr (6, [.int 0, .int 0, .ref q1, .ref q2, .ref q3, .ref q4, .ref q5, .int 0, .ref q6, .ref q7, .ref q8, .ref q9, .ref q10, .int 0, .ref q11, .ref q12, .ref q13])), (q1, .inl (dA 1, 24, .inr (.inl (fun _ => 0)))), (q2, .inl (dA 0, 24, .inl (fun _ => 0))), (q3, .inl (dA 0, 24, .inl (fun _ => 0))), (q4, .inl (dA 0, 24, .inl (fun _ => 0))), (q5, .inl (dA 0, 400, .inl (fun _ => 0))), (q6, .inl (dA 0, 200, .inl (fun _ => 0))), (q7, .inl (dA 0, 200, .inl (fun _ => 0))), (q8, .inl (dA 0, 200, .inl (fun _ => 0))), (q9, .inl (dA 0, 200, .inl (fun _ => 0))), (q10, .inl (dA 1, 200, .inr (.inl (fun _ => 0)))), (q11, .inl (dA 1, 24, .inr (.inl (fun _ => 0)))), (q12, .inl (dA 0, 24, .inl (fun _ => 0))), (q13, .inl (dA 0, 24, .inl (fun _ => 0)))]) hx hb hg hown hK hP hD hS 0 rfl rfl inX6 tyX6_ok nmX6 16 (by decide) q440 rfl hin rfl rfl rfl (Nat.le_of_ble_eq_true rfl) rfl dX6_init_131 (fun H locs hP hD hS => ?_)
  obtain ⟨hP, hD⟩ := g_cut (is := [0, 5]) (w' := [(h0, .inr (6, [.int 0, .int 0, .ref q1, .ref q2, .ref q3, .ref q4, .ref q5, .int 0, .ref q6, .ref q7, .ref q8, .ref q9, .ref q10, .int 0, .ref q11, .ref q12, .ref q13])), (q5, .inl (dA 0, 400, .inl (fun _ => 0)))]) hP hD (by decide) rfl rfl
  exact g_vret hx hb hr hlocks hK (fun k => ([q1, q2, q3, q4, q5, q6, q7, q8, q9, q10, q11, q12, q13] : List Nat).getD k 0) hP hD hS trivial (Nat.le_of_ble_eq_true rfl) (Nat.le_of_ble_eq_true rfl) dX6_init_134
set_option maxHeartbeats 4000000 in
set_option maxRecDepth 100000 in
theorem c_X3_init (l : Launch) (D : va_G) (dA : Nat → ClassId) (h0 : Nat) (n0 : Nat) (sz : Nat) : Met l yX3_init (gws yX3_init cX3_init 2 none) (gR 2 5 360) (gPre D dA [.ref h0, .ref n0] [(h0, .inr (3, [.null, .null, .null, .null, .int 0, .null, .null]))] sz) (va_Qv (fun _ : Nat → Nat => True) (gAt D dA (va_A [(h0, .inr (3, [.null, .null, .null, .null, .int 0, .null, .null]))] sz) (fun ad : Nat → Nat => [(h0, .inr (3, [.ref n0, .ref (ad 0), .ref (ad 1), .ref (ad 2), .int 0, .ref (ad 3), .ref (ad 4)]))])) (va_A [(h0, .inr (3, [.null, .null, .null, .null, .int 0, .null, .null]))] sz)) 5 360 (va_A [(h0, .inr (3, [.null, .null, .null, .null, .int 0, .null, .null]))] sz) := by
  refine Met.ofW (cc := cX3_init) (maxL := 2) (ret := none) (by decide) rfl ?_
  intro p e s m args below meth c s₁ B hml hv
  obtain ⟨rfl, hsz, hP, hK, hD0⟩ := hv
  have hx := B.exec
  have hb := B.bytes
  have hr := B.returns
  have hts := atoms_spec (ws := gws yX3_init cX3_init 2 none) B.pre
  have hg : ∀ w ∈ gw, w.before _ s = true := fun w h => hts w (List.mem_cons_of_mem _ h)
  have hown : s.vm.findClass RX3 = some m.cls := findClass_of_methodNamed B.named
  have hlocks := B.notSynchronized
  have hin : meth.name = "<init>" := (name_of_methodNamed B.named B.method).1
  subst hsz
  have hD := hD0.self (sz := s.heap.size)
  generalize hAe : va_A [(h0, .inr (3, [.null, .null, .null, .null, .int 0, .null, .null]))] s.heap.size = A at hD ⊢
  have hA : ∀ q : Nat, s.heap.size ≤ q → A q := fun q h => by rw [← hAe]; exact Or.inr h
  have hS : va_S A s.heap s.heap [] := va_S.rf
  have hP : va_P D vwC [(h0, .inr (3, [.null, .null, .null, .null, .int 0, .null, .null]))] s.heap := hP
  have hl := lv_entry ([.ref h0, .ref n0]) (n := 2) (Nat.le_of_ble_eq_true rfl)
  rw [lg_entry_eq]
  generalize (lg_sl ([.ref h0, .ref n0]) ++ List.replicate (2 - (lg_sl ([.ref h0, .ref n0])).length) Slot.unset).toArray = ls at hl ⊢
  have hl : lv_has ls 2 [(0, .ref h0), (1, .ref n0)] := hl
  refine lv_aload_n hx hb dX3_init_0 rfl (lv_at hl 0 rfl) ?_
  refine g_obj hx hb hg hown q482 q186 q187 hml hl.1 dX3_init_1 (Nat.le_of_ble_eq_true rfl) (Nat.le_of_ble_eq_true rfl) ?_
  refine lv_aload_n hx hb dX3_init_4 rfl (lv_at hl 0 rfl) ?_
  refine lv_aload_n hx hb dX3_init_5 rfl (lv_at hl 1 rfl) ?_
  refine g_putF (w' := [(h0, .inr (3, [.ref n0, .null, .null, .null, .int 0, .null, .null]))]) hx hb hg hown hK hP hD hS 0 rfl rfl inX3 tyX3_ok nmX3 0 (by decide) q483 rfl hin rfl rfl rfl (Nat.le_of_ble_eq_true rfl) rfl dX3_init_6 (fun H locs hP hD hS => ?_)
  refine lv_aload_n hx hb dX3_init_9 rfl (lv_at hl 0 rfl) ?_
  refine lv_bipush (v := 72) hx hb dX3_init_10 (by decide) ?_
  refine g_newa (ty := .long) (N' := 72) (a0 := (72, .inr (.inl (fun _ => 0)))) hx hb hg rfl q223 hK hP hD hS hA 1 rfl (fun _ => rfl) (by decide) (by decide) (Nat.le_of_ble_eq_true rfl) (Nat.le_of_ble_eq_true rfl) (Nat.le_of_ble_eq_true rfl) dX3_init_12 (fun q1 H hP hD hS => ?_)
  refine W.widen (k := 1) (n := 72) (Nat.le_of_ble_eq_true rfl) (Nat.le_of_ble_eq_true rfl) ?_
  have hP : va_P D vwC [(h0, .inr (3, [.ref n0, .null, .null, .null, .int 0, .null, .null])), (q1, .inl (dA 1, 72, .inr (.inl (fun _ => 0))))] H := hP
  have hD : va_D A [(h0, .inr (3, [.ref n0, .null, .null, .null, .int 0, .null, .null])), (q1, .inl (dA 1, 72, .inr (.inl (fun _ => 0))))] := hD
  refine g_putF (w' := [(h0, .inr (3, [.ref n0, .ref q1, .null, .null, .int 0, .null, .null])), (q1, .inl (dA 1, 72, .inr (.inl (fun _ => 0))))]) hx hb hg hown hK hP hD hS 0 rfl rfl inX3 tyX3_ok nmX3 1 (by decide) q484 rfl hin rfl rfl rfl (Nat.le_of_ble_eq_true rfl) rfl dX3_init_14 (fun H locs hP hD hS => ?_)
  refine lv_aload_n hx hb dX3_init_17 rfl (lv_at hl 0 rfl) ?_
  refine lv_bipush (v := 72) hx hb dX3_init_18 (by decide) ?_
  refine g_newa (ty := .int) (N' := 72) (a0 := (72, .inl (fun _ => 0))) hx hb hg rfl q224 hK hP hD hS hA 0 rfl (fun _ => rfl) (by decide) (by decide) (Nat.le_of_ble_eq_true rfl) (Nat.le_of_ble_eq_true rfl) (Nat.le_of_ble_eq_true rfl) dX3_init_20 (fun q2 H hP hD hS => ?_)
  refine W.widen (k := 2) (n := 144) (Nat.le_of_ble_eq_true rfl) (Nat.le_of_ble_eq_true rfl) ?_
  have hP : va_P D vwC [(h0, .inr (3, [.ref n0, .ref q1, .null, .null, .int 0, .null, .null])), (q1, .inl (dA 1, 72, .inr (.inl (fun _ => 0)))), (q2, .inl (dA 0, 72, .inl (fun _ => 0)))] H := hP
  have hD : va_D A [(h0, .inr (3, [.ref n0, .ref q1, .null, .null, .int 0, .null, .null])), (q1, .inl (dA 1, 72, .inr (.inl (fun _ => 0)))), (q2, .inl (dA 0, 72, .inl (fun _ => 0)))] := hD
  refine g_putF (w' := [(h0, .inr (3, [.ref n0, .ref q1, .ref q2, .null, .int 0, .null, .null])), (q1, .inl (dA 1, 72, .inr (.inl (fun _ => 0)))), (q2, .inl (dA 0, 72, .inl (fun _ => 0)))]) hx hb hg hown hK hP hD hS 0 rfl rfl inX3 tyX3_ok nmX3 2 (by decide) q485 rfl hin rfl rfl rfl (Nat.le_of_ble_eq_true rfl) rfl dX3_init_22 (fun H locs hP hD hS => ?_)
  refine lv_aload_n hx hb dX3_init_25 rfl (lv_at hl 0 rfl) ?_
  refine lv_bipush (v := 72) hx hb dX3_init_26 (by decide) ?_
  refine g_newa (ty := .int) (N' := 72) (a0 := (72, .inl (fun _ => 0))) hx hb hg rfl q224 hK hP hD hS hA 0 rfl (fun _ => rfl) (by decide) (by decide) (Nat.le_of_ble_eq_true rfl) (Nat.le_of_ble_eq_true rfl) (Nat.le_of_ble_eq_true rfl) dX3_init_28 (fun q3 H hP hD hS => ?_)
  refine W.widen (k := 3) (n := 216) (Nat.le_of_ble_eq_true rfl) (Nat.le_of_ble_eq_true rfl) ?_
  have hP : va_P D vwC [(h0, .inr (3, [.ref n0, .ref q1, .ref q2, .null, .int 0, .null, .null])), (q1, .inl (dA 1, 72, .inr (.inl (fun _ => 0)))), (q2, .inl (dA 0, 72, .inl (fun _ => 0))), (q3, .inl (dA 0, 72, .inl (fun _ => 0)))] H := hP
  have hD : va_D A [(h0, .inr (3, [.ref n0, .ref q1, .ref q2, .null, .int 0, .null, .null])), (q1, .inl (dA 1, 72, .inr (.inl (fun _ => 0)))), (q2, .inl (dA 0, 72, .inl (fun _ => 0))), (q3, .inl (dA 0, 72, .inl (fun _ => 0)))] := hD
  refine g_putF (w' := [(h0, .inr (3, [.ref n0, .ref q1, .ref q2, .ref q3, .int 0, .null, .null])), (q1, .inl (dA 1, 72, .inr (.inl (fun _ => 0)))), (q2, .inl (dA 0, 72, .inl (fun _ => 0))), (q3, .inl (dA 0, 72, .inl (fun _ => 0)))]) hx hb hg hown hK hP hD hS 0 rfl rfl inX3 tyX3_ok nmX3 3 (by decide) q486 rfl hin rfl rfl rfl (Nat.le_of_ble_eq_true rfl) rfl dX3_init_30 (fun H locs hP hD hS => ?_)
  refine lv_aload_n hx hb dX3_init_33 rfl (lv_at hl 0 rfl) ?_
  refine lv_iconst (v := 0) hx hb dX3_init_34 (by decide) ?_
  refine g_put (w' := [(h0, .inr (3, [.ref n0, .ref q1, .ref q2, .ref q3, .int 0, .null, .null])), (q1, .inl (dA 1, 72, .inr (.inl (fun _ => 0)))), (q2, .inl (dA 0, 72, .inl (fun _ => 0))), (q3, .inl (dA 0, 72, .inl (fun _ => 0)))]) hx hb hg hown hK hP hD hS 0 rfl rfl inX3 tyX3_ok nmX3 4 (by decide) q487 rfl rfl rfl (Nat.le_of_ble_eq_true rfl) rfl dX3_init_35 (fun H locs hP hD hS => ?_)
  refine lv_aload_n hx hb dX3_init_38 rfl (lv_at hl 0 rfl) ?_
  refine lv_bipush (v := 72) hx hb dX3_init_39 (by decide) ?_
  refine g_newa (ty := .int) (N' := 72) (a0 := (72, .inl (fun _ => 0))) hx hb hg rfl q224 hK hP hD hS hA 0 rfl (fun _ => rfl) (by decide) (by decide) (Nat.le_of_ble_eq_true rfl) (Nat.le_of_ble_eq_true rfl) (Nat.le_of_ble_eq_true rfl) dX3_init_41 (fun q4 H hP hD hS => ?_)
  refine W.widen (k := 4) (n := 288) (Nat.le_of_ble_eq_true rfl) (Nat.le_of_ble_eq_true rfl) ?_
  have hP : va_P D vwC [(h0, .inr (3, [.ref n0, .ref q1, .ref q2, .ref q3, .int 0, .null, .null])), (q1, .inl (dA 1, 72, .inr (.inl (fun _ => 0)))), (q2, .inl (dA 0, 72, .inl (fun _ => 0))), (q3, .inl (dA 0, 72, .inl (fun _ => 0))), (q4, .inl (dA 0, 72, .inl (fun _ => 0)))] H := hP
  have hD : va_D A [(h0, .inr (3, [.ref n0, .ref q1, .ref q2, .ref q3, .int 0, .null, .null])), (q1, .inl (dA 1, 72, .inr (.inl (fun _ => 0)))), (q2, .inl (dA 0, 72, .inl (fun _ => 0))), (q3, .inl (dA 0, 72, .inl (fun _ => 0))), (q4, .inl (dA 0, 72, .inl (fun _ => 0)))] := hD
  refine g_putF (w' := [(h0, .inr (3, [.ref n0, .ref q1, .ref q2, .ref q3, .int 0, .ref q4, .null])), (q1, .inl (dA 1, 72, .inr (.inl (fun _ => 0)))), (q2, .inl (dA 0, 72, .inl (fun _ => 0))), (q3, .inl (dA 0, 72, .inl (fun _ => 0))), (q4, .inl (dA 0, 72, .inl (fun _ => 0)))]) hx hb hg hown hK hP hD hS 0 rfl rfl inX3 tyX3_ok nmX3 5 (by decide) q488 rfl hin rfl rfl rfl (Nat.le_of_ble_eq_true rfl) rfl dX3_init_43 (fun H locs hP hD hS => ?_)
  refine lv_aload_n hx hb dX3_init_46 rfl (lv_at hl 0 rfl) ?_
  refine lv_bipush (v := 72) hx hb dX3_init_47 (by decide) ?_
  refine g_newa (ty := .int) (N' := 72) (a0 := (72, .inl (fun _ => 0))) hx hb hg rfl q224 hK hP hD hS hA 0 rfl (fun _ => rfl) (by decide) (by decide) (Nat.le_of_ble_eq_true rfl) (Nat.le_of_ble_eq_true rfl) (Nat.le_of_ble_eq_true rfl) dX3_init_49 (fun q5 H hP hD hS => ?_)
  refine W.widen (k := 5) (n := 360) (Nat.le_of_ble_eq_true rfl) (Nat.le_of_ble_eq_true rfl) ?_
  have hP : va_P D vwC [(h0, .inr (3, [.ref n0, .ref q1, .ref q2, .ref q3, .int 0, .ref q4, .null])), (q1, .inl (dA 1, 72, .inr (.inl (fun _ => 0)))), (q2, .inl (dA 0, 72, .inl (fun _ => 0))), (q3, .inl (dA 0, 72, .inl (fun _ => 0))), (q4, .inl (dA 0, 72, .inl (fun _ => 0))), (q5, .inl (dA 0, 72, .inl (fun _ => 0)))] H := hP
  have hD : va_D A [(h0, .inr (3, [.ref n0, .ref q1, .ref q2, .ref q3, .int 0, .ref q4, .null])), (q1, .inl (dA 1, 72, .inr (.inl (fun _ => 0)))), (q2, .inl (dA 0, 72, .inl (fun _ => 0))), (q3, .inl (dA 0, 72, .inl (fun _ => 0))), (q4, .inl (dA 0, 72, .inl (fun _ => 0))), (q5, .inl (dA 0, 72, .inl (fun _ => 0)))] := hD
  refine g_putF (w' := [(h0, .inr (3, [.ref n0, .ref q1, .ref q2, .ref q3, .int 0, .ref q4, .ref q5])), (q1, .inl (dA 1, 72, .inr (.inl (fun _ => 0)))), (q2, .inl (dA 0, 72, .inl (fun _ => 0))), (q3, .inl (dA 0, 72, .inl (fun _ => 0))), (q4, .inl (dA 0, 72, .inl (fun _ => 0))), (q5, .inl (dA 0, 72, .inl (fun _ => 0)))]) hx hb hg hown hK hP hD hS 0 rfl rfl inX3 tyX3_ok nmX3 6 (by decide) q489 rfl hin rfl rfl rfl (Nat.le_of_ble_eq_true rfl) rfl dX3_init_51 (fun H locs hP hD hS => ?_)
  obtain ⟨hP, hD⟩ := g_cut (is := [0]) (w' := [(h0, .inr (3, [.ref n0, .ref q1, .ref q2, .ref q3, .int 0, .ref q4, .ref q5]))]) hP hD (by decide) rfl rfl
  exact g_vret hx hb hr hlocks hK (fun k => ([q1, q2, q3, q4, q5] : List Nat).getD k 0) hP hD hS trivial (Nat.le_of_ble_eq_true rfl) (Nat.le_of_ble_eq_true rfl) dX3_init_54
set_option maxHeartbeats 4000000 in
set_option maxRecDepth 100000 in
theorem c_X1_init (l : Launch) (D : va_G) (dA : Nat → ClassId) (h0 : Nat) (sz : Nat) : Met l yX1_init (gws yX1_init cX1_init 1 none) (gR 2 2 1800) (gPre D dA [.ref h0] [(h0, .inr (1, [.int 0, .int 0, .null, .int 0, .null, .int 0, .int 0]))] sz) (va_Qv (fun _ : Nat → Nat => True) (gAt D dA (va_A [(h0, .inr (1, [.int 0, .int 0, .null, .int 0, .null, .int 0, .int 0]))] sz) (fun ad : Nat → Nat => [(h0, .inr (1, [.int 0, .int 0, .ref (ad 0), .int 0, .ref (ad 1), .int 0, .int 0]))])) (va_A [(h0, .inr (1, [.int 0, .int 0, .null, .int 0, .null, .int 0, .int 0]))] sz)) 2 1800 (va_A [(h0, .inr (1, [.int 0, .int 0, .null, .int 0, .null, .int 0, .int 0]))] sz) := by
  refine Met.ofW (cc := cX1_init) (maxL := 1) (ret := none) (by decide) rfl ?_
  intro p e s m args below meth c s₁ B hml hv
  obtain ⟨rfl, hsz, hP, hK, hD0⟩ := hv
  have hx := B.exec
  have hb := B.bytes
  have hr := B.returns
  have hts := atoms_spec (ws := gws yX1_init cX1_init 1 none) B.pre
  have hg : ∀ w ∈ gw, w.before _ s = true := fun w h => hts w (List.mem_cons_of_mem _ h)
  have hown : s.vm.findClass RX1 = some m.cls := findClass_of_methodNamed B.named
  have hlocks := B.notSynchronized
  have hin : meth.name = "<init>" := (name_of_methodNamed B.named B.method).1
  subst hsz
  have hD := hD0.self (sz := s.heap.size)
  generalize hAe : va_A [(h0, .inr (1, [.int 0, .int 0, .null, .int 0, .null, .int 0, .int 0]))] s.heap.size = A at hD ⊢
  have hA : ∀ q : Nat, s.heap.size ≤ q → A q := fun q h => by rw [← hAe]; exact Or.inr h
  have hS : va_S A s.heap s.heap [] := va_S.rf
  have hP : va_P D vwC [(h0, .inr (1, [.int 0, .int 0, .null, .int 0, .null, .int 0, .int 0]))] s.heap := hP
  have hl := lv_entry ([.ref h0]) (n := 1) (Nat.le_of_ble_eq_true rfl)
  rw [lg_entry_eq]
  generalize (lg_sl ([.ref h0]) ++ List.replicate (1 - (lg_sl ([.ref h0])).length) Slot.unset).toArray = ls at hl ⊢
  have hl : lv_has ls 1 [(0, .ref h0)] := hl
  refine lv_aload_n hx hb dX1_init_0 rfl (lv_at hl 0 rfl) ?_
  refine g_obj hx hb hg hown q510 q186 q187 hml hl.1 dX1_init_1 (Nat.le_of_ble_eq_true rfl) (Nat.le_of_ble_eq_true rfl) ?_
  refine lv_aload_n hx hb dX1_init_4 rfl (lv_at hl 0 rfl) ?_
  refine lv_iconst (v := 0) hx hb dX1_init_5 (by decide) ?_
  refine g_put (w' := [(h0, .inr (1, [.int 0, .int 0, .null, .int 0, .null, .int 0, .int 0]))]) hx hb hg hown hK hP hD hS 0 rfl rfl inX1 tyX1_ok nmX1 0 (by decide) q511 rfl rfl rfl (Nat.le_of_ble_eq_true rfl) rfl dX1_init_6 (fun H locs hP hD hS => ?_)
  refine lv_aload_n hx hb dX1_init_9 rfl (lv_at hl 0 rfl) ?_
  refine lv_iconst (v := 0) hx hb dX1_init_10 (by decide) ?_
  refine g_put (w' := [(h0, .inr (1, [.int 0, .int 0, .null, .int 0, .null, .int 0, .int 0]))]) hx hb hg hown hK hP hD hS 0 rfl rfl inX1 tyX1_ok nmX1 1 (by decide) q513 rfl rfl rfl (Nat.le_of_ble_eq_true rfl) rfl dX1_init_11 (fun H locs hP hD hS => ?_)
  refine lv_aload_n hx hb dX1_init_14 rfl (lv_at hl 0 rfl) ?_
  refine lv_sipush (v := 1200) hx hb dX1_init_15 (by decide) ?_
  refine g_newa (ty := .int) (N' := 1200) (a0 := (1200, .inl (fun _ => 0))) hx hb hg rfl q224 hK hP hD hS hA 0 rfl (fun _ => rfl) (by decide) (by decide) (Nat.le_of_ble_eq_true rfl) (Nat.le_of_ble_eq_true rfl) (Nat.le_of_ble_eq_true rfl) dX1_init_18 (fun q1 H hP hD hS => ?_)
  refine W.widen (k := 1) (n := 1200) (Nat.le_of_ble_eq_true rfl) (Nat.le_of_ble_eq_true rfl) ?_
  have hP : va_P D vwC [(h0, .inr (1, [.int 0, .int 0, .null, .int 0, .null, .int 0, .int 0])), (q1, .inl (dA 0, 1200, .inl (fun _ => 0)))] H := hP
  have hD : va_D A [(h0, .inr (1, [.int 0, .int 0, .null, .int 0, .null, .int 0, .int 0])), (q1, .inl (dA 0, 1200, .inl (fun _ => 0)))] := hD
  refine g_putF (w' := [(h0, .inr (1, [.int 0, .int 0, .ref q1, .int 0, .null, .int 0, .int 0])), (q1, .inl (dA 0, 1200, .inl (fun _ => 0)))]) hx hb hg hown hK hP hD hS 0 rfl rfl inX1 tyX1_ok nmX1 2 (by decide) q516 rfl hin rfl rfl rfl (Nat.le_of_ble_eq_true rfl) rfl dX1_init_20 (fun H locs hP hD hS => ?_)
  refine lv_aload_n hx hb dX1_init_23 rfl (lv_at hl 0 rfl) ?_
  refine lv_iconst (v := 0) hx hb dX1_init_24 (by decide) ?_
  refine g_put (w' := [(h0, .inr (1, [.int 0, .int 0, .ref q1, .int 0, .null, .int 0, .int 0])), (q1, .inl (dA 0, 1200, .inl (fun _ => 0)))]) hx hb hg hown hK hP hD hS 0 rfl rfl inX1 tyX1_ok nmX1 3 (by decide) q520 rfl rfl rfl (Nat.le_of_ble_eq_true rfl) rfl dX1_init_25 (fun H locs hP hD hS => ?_)
  refine lv_aload_n hx hb dX1_init_28 rfl (lv_at hl 0 rfl) ?_
  refine lv_sipush (v := 600) hx hb dX1_init_29 (by decide) ?_
  refine g_newa (ty := .int) (N' := 600) (a0 := (600, .inl (fun _ => 0))) hx hb hg rfl q224 hK hP hD hS hA 0 rfl (fun _ => rfl) (by decide) (by decide) (Nat.le_of_ble_eq_true rfl) (Nat.le_of_ble_eq_true rfl) (Nat.le_of_ble_eq_true rfl) dX1_init_32 (fun q2 H hP hD hS => ?_)
  refine W.widen (k := 2) (n := 1800) (Nat.le_of_ble_eq_true rfl) (Nat.le_of_ble_eq_true rfl) ?_
  have hP : va_P D vwC [(h0, .inr (1, [.int 0, .int 0, .ref q1, .int 0, .null, .int 0, .int 0])), (q1, .inl (dA 0, 1200, .inl (fun _ => 0))), (q2, .inl (dA 0, 600, .inl (fun _ => 0)))] H := hP
  have hD : va_D A [(h0, .inr (1, [.int 0, .int 0, .ref q1, .int 0, .null, .int 0, .int 0])), (q1, .inl (dA 0, 1200, .inl (fun _ => 0))), (q2, .inl (dA 0, 600, .inl (fun _ => 0)))] := hD
  refine g_putF (w' := [(h0, .inr (1, [.int 0, .int 0, .ref q1, .int 0, .ref q2, .int 0, .int 0])), (q1, .inl (dA 0, 1200, .inl (fun _ => 0))), (q2, .inl (dA 0, 600, .inl (fun _ => 0)))]) hx hb hg hown hK hP hD hS 0 rfl rfl inX1 tyX1_ok nmX1 4 (by decide) q523 rfl hin rfl rfl rfl (Nat.le_of_ble_eq_true rfl) rfl dX1_init_34 (fun H locs hP hD hS => ?_)
  refine lv_aload_n hx hb dX1_init_37 rfl (lv_at hl 0 rfl) ?_
  refine lv_iconst (v := 0) hx hb dX1_init_38 (by decide) ?_
  refine g_put (w' := [(h0, .inr (1, [.int 0, .int 0, .ref q1, .int 0, .ref q2, .int 0, .int 0])), (q1, .inl (dA 0, 1200, .inl (fun _ => 0))), (q2, .inl (dA 0, 600, .inl (fun _ => 0)))]) hx hb hg hown hK hP hD hS 0 rfl rfl inX1 tyX1_ok nmX1 5 (by decide) q525 rfl rfl rfl (Nat.le_of_ble_eq_true rfl) rfl dX1_init_39 (fun H locs hP hD hS => ?_)
  refine lv_aload_n hx hb dX1_init_42 rfl (lv_at hl 0 rfl) ?_
  refine lv_iconst (v := 0) hx hb dX1_init_43 (by decide) ?_
  refine g_put (w' := [(h0, .inr (1, [.int 0, .int 0, .ref q1, .int 0, .ref q2, .int 0, .int 0])), (q1, .inl (dA 0, 1200, .inl (fun _ => 0))), (q2, .inl (dA 0, 600, .inl (fun _ => 0)))]) hx hb hg hown hK hP hD hS 0 rfl rfl inX1 tyX1_ok nmX1 6 (by decide) q528 rfl rfl rfl (Nat.le_of_ble_eq_true rfl) rfl dX1_init_44 (fun H locs hP hD hS => ?_)
  obtain ⟨hP, hD⟩ := g_cut (is := [0]) (w' := [(h0, .inr (1, [.int 0, .int 0, .ref q1, .int 0, .ref q2, .int 0, .int 0]))]) hP hD (by decide) rfl rfl
  exact g_vret hx hb hr hlocks hK (fun k => ([q1, q2] : List Nat).getD k 0) hP hD hS trivial (Nat.le_of_ble_eq_true rfl) (Nat.le_of_ble_eq_true rfl) dX1_init_47
set_option maxHeartbeats 4000000 in
set_option maxRecDepth 100000 in
theorem c_X4_init (l : Launch) (D : va_G) (dA : Nat → ClassId) (h0 : Nat) (sz : Nat) : Met l yX4_init (gws yX4_init cX4_init 1 none) (gR 2 4 4138) (gPre D dA [.ref h0] [(h0, .inr (4, [.null, .null, .null, .int 0, .int 0, .int 0, .int 0, .int 0, .int 0, .int 0, .null, .int 0, .int 0, .int 0]))] sz) (va_Qv (fun _ : Nat → Nat => True) (gAt D dA (va_A [(h0, .inr (4, [.null, .null, .null, .int 0, .int 0, .int 0, .int 0, .int 0, .int 0, .int 0, .null, .int 0, .int 0, .int 0]))] sz) (fun ad : Nat → Nat => [(h0, .inr (4, [.ref (ad 0), .ref (ad 1), .ref (ad 2), .int 0, .int 0, .int 0, .int 0, .int 1, .int 0, .int 0, .ref (ad 3), .int 0, .int 0, .int 0])), (ad 0, .inl (dA 0, 4096, .inl (fun _ => 0))), (ad 1, .inl (dA 0, 8, .inl (fun _ => 0))), (ad 2, .inl (dA 0, 4, .inl (fun _ => 0)))])) (va_A [(h0, .inr (4, [.null, .null, .null, .int 0, .int 0, .int 0, .int 0, .int 0, .int 0, .int 0, .null, .int 0, .int 0, .int 0]))] sz)) 4 4138 (va_A [(h0, .inr (4, [.null, .null, .null, .int 0, .int 0, .int 0, .int 0, .int 0, .int 0, .int 0, .null, .int 0, .int 0, .int 0]))] sz) := by
  refine Met.ofW (cc := cX4_init) (maxL := 1) (ret := none) (by decide) rfl ?_
  intro p e s m args below meth c s₁ B hml hv
  obtain ⟨rfl, hsz, hP, hK, hD0⟩ := hv
  have hx := B.exec
  have hb := B.bytes
  have hr := B.returns
  have hts := atoms_spec (ws := gws yX4_init cX4_init 1 none) B.pre
  have hg : ∀ w ∈ gw, w.before _ s = true := fun w h => hts w (List.mem_cons_of_mem _ h)
  have hown : s.vm.findClass RX4 = some m.cls := findClass_of_methodNamed B.named
  have hlocks := B.notSynchronized
  have hin : meth.name = "<init>" := (name_of_methodNamed B.named B.method).1
  subst hsz
  have hD := hD0.self (sz := s.heap.size)
  generalize hAe : va_A [(h0, .inr (4, [.null, .null, .null, .int 0, .int 0, .int 0, .int 0, .int 0, .int 0, .int 0, .null, .int 0, .int 0, .int 0]))] s.heap.size = A at hD ⊢
  have hA : ∀ q : Nat, s.heap.size ≤ q → A q := fun q h => by rw [← hAe]; exact Or.inr h
  have hS : va_S A s.heap s.heap [] := va_S.rf
  have hP : va_P D vwC [(h0, .inr (4, [.null, .null, .null, .int 0, .int 0, .int 0, .int 0, .int 0, .int 0, .int 0, .null, .int 0, .int 0, .int 0]))] s.heap := hP
  have hl := lv_entry ([.ref h0]) (n := 1) (Nat.le_of_ble_eq_true rfl)
  rw [lg_entry_eq]
  generalize (lg_sl ([.ref h0]) ++ List.replicate (1 - (lg_sl ([.ref h0])).length) Slot.unset).toArray = ls at hl ⊢
  have hl : lv_has ls 1 [(0, .ref h0)] := hl
  refine lv_aload_n hx hb dX4_init_0 rfl (lv_at hl 0 rfl) ?_
  refine g_obj hx hb hg hown q551 q186 q187 hml hl.1 dX4_init_1 (Nat.le_of_ble_eq_true rfl) (Nat.le_of_ble_eq_true rfl) ?_
  refine lv_aload_n hx hb dX4_init_4 rfl (lv_at hl 0 rfl) ?_
  refine lv_sipush (v := 4096) hx hb dX4_init_5 (by decide) ?_
  refine g_newa (ty := .int) (N' := 4096) (a0 := (4096, .inl (fun _ => 0))) hx hb hg rfl q224 hK hP hD hS hA 0 rfl (fun _ => rfl) (by decide) (by decide) (Nat.le_of_ble_eq_true rfl) (Nat.le_of_ble_eq_true rfl) (Nat.le_of_ble_eq_true rfl) dX4_init_8 (fun q1 H hP hD hS => ?_)
  refine W.widen (k := 1) (n := 4096) (Nat.le_of_ble_eq_true rfl) (Nat.le_of_ble_eq_true rfl) ?_
  have hP : va_P D vwC [(h0, .inr (4, [.null, .null, .null, .int 0, .int 0, .int 0, .int 0, .int 0, .int 0, .int 0, .null, .int 0, .int 0, .int 0])), (q1, .inl (dA 0, 4096, .inl (fun _ => 0)))] H := hP
  have hD : va_D A [(h0, .inr (4, [.null, .null, .null, .int 0, .int 0, .int 0, .int 0, .int 0, .int 0, .int 0, .null, .int 0, .int 0, .int 0])), (q1, .inl (dA 0, 4096, .inl (fun _ => 0)))] := hD
  refine g_putF (w' := [(h0, .inr (4, [.ref q1, .null, .null, .int 0, .int 0, .int 0, .int 0, .int 0, .int 0, .int 0, .null, .int 0, .int 0, .int 0])), (q1, .inl (dA 0, 4096, .inl (fun _ => 0)))]) hx hb hg hown hK hP hD hS 0 rfl rfl inX4 tyX4_ok nmX4 0 (by decide) q552 rfl hin rfl rfl rfl (Nat.le_of_ble_eq_true rfl) rfl dX4_init_10 (fun H locs hP hD hS => ?_)
  refine lv_aload_n hx hb dX4_init_13 rfl (lv_at hl 0 rfl) ?_
  refine lv_bipush (v := 8) hx hb dX4_init_14 (by decide) ?_
  refine g_newa (ty := .int) (N' := 8) (a0 := (8, .inl (fun _ => 0))) hx hb hg rfl q224 hK hP hD hS hA 0 rfl (fun _ => rfl) (by decide) (by decide) (Nat.le_of_ble_eq_true rfl) (Nat.le_of_ble_eq_true rfl) (Nat.le_of_ble_eq_true rfl) dX4_init_16 (fun q2 H hP hD hS => ?_)
  refine W.widen (k := 2) (n := 4104) (Nat.le_of_ble_eq_true rfl) (Nat.le_of_ble_eq_true rfl) ?_
  have hP : va_P D vwC [(h0, .inr (4, [.ref q1, .null, .null, .int 0, .int 0, .int 0, .int 0, .int 0, .int 0, .int 0, .null, .int 0, .int 0, .int 0])), (q1, .inl (dA 0, 4096, .inl (fun _ => 0))), (q2, .inl (dA 0, 8, .inl (fun _ => 0)))] H := hP
  have hD : va_D A [(h0, .inr (4, [.ref q1, .null, .null, .int 0, .int 0, .int 0, .int 0, .int 0, .int 0, .int 0, .null, .int 0, .int 0, .int 0])), (q1, .inl (dA 0, 4096, .inl (fun _ => 0))), (q2, .inl (dA 0, 8, .inl (fun _ => 0)))] := hD
  refine g_putF (w' := [(h0, .inr (4, [.ref q1, .ref q2, .null, .int 0, .int 0, .int 0, .int 0, .int 0, .int 0, .int 0, .null, .int 0, .int 0, .int 0])), (q1, .inl (dA 0, 4096, .inl (fun _ => 0))), (q2, .inl (dA 0, 8, .inl (fun _ => 0)))]) hx hb hg hown hK hP hD hS 0 rfl rfl inX4 tyX4_ok nmX4 1 (by decide) q554 rfl hin rfl rfl rfl (Nat.le_of_ble_eq_true rfl) rfl dX4_init_18 (fun H locs hP hD hS => ?_)
  refine lv_aload_n hx hb dX4_init_21 rfl (lv_at hl 0 rfl) ?_
  refine lv_iconst (v := 4) hx hb dX4_init_22 (by decide) ?_
  refine g_newa (ty := .int) (N' := 4) (a0 := (4, .inl (fun _ => 0))) hx hb hg rfl q224 hK hP hD hS hA 0 rfl (fun _ => rfl) (by decide) (by decide) (Nat.le_of_ble_eq_true rfl) (Nat.le_of_ble_eq_true rfl) (Nat.le_of_ble_eq_true rfl) dX4_init_23 (fun q3 H hP hD hS => ?_)
  refine W.widen (k := 3) (n := 4108) (Nat.le_of_ble_eq_true rfl) (Nat.le_of_ble_eq_true rfl) ?_
  have hP : va_P D vwC [(h0, .inr (4, [.ref q1, .ref q2, .null, .int 0, .int 0, .int 0, .int 0, .int 0, .int 0, .int 0, .null, .int 0, .int 0, .int 0])), (q1, .inl (dA 0, 4096, .inl (fun _ => 0))), (q2, .inl (dA 0, 8, .inl (fun _ => 0))), (q3, .inl (dA 0, 4, .inl (fun _ => 0)))] H := hP
  have hD : va_D A [(h0, .inr (4, [.ref q1, .ref q2, .null, .int 0, .int 0, .int 0, .int 0, .int 0, .int 0, .int 0, .null, .int 0, .int 0, .int 0])), (q1, .inl (dA 0, 4096, .inl (fun _ => 0))), (q2, .inl (dA 0, 8, .inl (fun _ => 0))), (q3, .inl (dA 0, 4, .inl (fun _ => 0)))] := hD
  refine g_putF (w' := [(h0, .inr (4, [.ref q1, .ref q2, .ref q3, .int 0, .int 0, .int 0, .int 0, .int 0, .int 0, .int 0, .null, .int 0, .int 0, .int 0])), (q1, .inl (dA 0, 4096, .inl (fun _ => 0))), (q2, .inl (dA 0, 8, .inl (fun _ => 0))), (q3, .inl (dA 0, 4, .inl (fun _ => 0)))]) hx hb hg hown hK hP hD hS 0 rfl rfl inX4 tyX4_ok nmX4 2 (by decide) q556 rfl hin rfl rfl rfl (Nat.le_of_ble_eq_true rfl) rfl dX4_init_25 (fun H locs hP hD hS => ?_)
  refine lv_aload_n hx hb dX4_init_28 rfl (lv_at hl 0 rfl) ?_
  refine lv_bipush (v := 30) hx hb dX4_init_29 (by decide) ?_
  refine g_newa (ty := .int) (N' := 30) (a0 := (30, .inl (fun _ => 0))) hx hb hg rfl q224 hK hP hD hS hA 0 rfl (fun _ => rfl) (by decide) (by decide) (Nat.le_of_ble_eq_true rfl) (Nat.le_of_ble_eq_true rfl) (Nat.le_of_ble_eq_true rfl) dX4_init_31 (fun q4 H hP hD hS => ?_)
  refine W.widen (k := 4) (n := 4138) (Nat.le_of_ble_eq_true rfl) (Nat.le_of_ble_eq_true rfl) ?_
  have hP : va_P D vwC [(h0, .inr (4, [.ref q1, .ref q2, .ref q3, .int 0, .int 0, .int 0, .int 0, .int 0, .int 0, .int 0, .null, .int 0, .int 0, .int 0])), (q1, .inl (dA 0, 4096, .inl (fun _ => 0))), (q2, .inl (dA 0, 8, .inl (fun _ => 0))), (q3, .inl (dA 0, 4, .inl (fun _ => 0))), (q4, .inl (dA 0, 30, .inl (fun _ => 0)))] H := hP
  have hD : va_D A [(h0, .inr (4, [.ref q1, .ref q2, .ref q3, .int 0, .int 0, .int 0, .int 0, .int 0, .int 0, .int 0, .null, .int 0, .int 0, .int 0])), (q1, .inl (dA 0, 4096, .inl (fun _ => 0))), (q2, .inl (dA 0, 8, .inl (fun _ => 0))), (q3, .inl (dA 0, 4, .inl (fun _ => 0))), (q4, .inl (dA 0, 30, .inl (fun _ => 0)))] := hD
  refine g_putF (w' := [(h0, .inr (4, [.ref q1, .ref q2, .ref q3, .int 0, .int 0, .int 0, .int 0, .int 0, .int 0, .int 0, .ref q4, .int 0, .int 0, .int 0])), (q1, .inl (dA 0, 4096, .inl (fun _ => 0))), (q2, .inl (dA 0, 8, .inl (fun _ => 0))), (q3, .inl (dA 0, 4, .inl (fun _ => 0))), (q4, .inl (dA 0, 30, .inl (fun _ => 0)))]) hx hb hg hown hK hP hD hS 0 rfl rfl inX4 tyX4_ok nmX4 10 (by decide) q572 rfl hin rfl rfl rfl (Nat.le_of_ble_eq_true rfl) rfl dX4_init_33 (fun H locs hP hD hS => ?_)
  refine lv_aload_n hx hb dX4_init_36 rfl (lv_at hl 0 rfl) ?_
  refine lv_iconst (v := 1) hx hb dX4_init_37 (by decide) ?_
  refine g_put (w' := [(h0, .inr (4, [.ref q1, .ref q2, .ref q3, .int 0, .int 0, .int 0, .int 0, .int 1, .int 0, .int 0, .ref q4, .int 0, .int 0, .int 0])), (q1, .inl (dA 0, 4096, .inl (fun _ => 0))), (q2, .inl (dA 0, 8, .inl (fun _ => 0))), (q3, .inl (dA 0, 4, .inl (fun _ => 0))), (q4, .inl (dA 0, 30, .inl (fun _ => 0)))]) hx hb hg hown hK hP hD hS 0 rfl rfl inX4 tyX4_ok nmX4 7 (by decide) q566 rfl rfl rfl (Nat.le_of_ble_eq_true rfl) rfl dX4_init_38 (fun H locs hP hD hS => ?_)
  refine lv_aload_n hx hb dX4_init_41 rfl (lv_at hl 0 rfl) ?_
  refine lv_iconst (v := 0) hx hb dX4_init_42 (by decide) ?_
  refine g_put (w' := [(h0, .inr (4, [.ref q1, .ref q2, .ref q3, .int 0, .int 0, .int 0, .int 0, .int 1, .int 0, .int 0, .ref q4, .int 0, .int 0, .int 0])), (q1, .inl (dA 0, 4096, .inl (fun _ => 0))), (q2, .inl (dA 0, 8, .inl (fun _ => 0))), (q3, .inl (dA 0, 4, .inl (fun _ => 0))), (q4, .inl (dA 0, 30, .inl (fun _ => 0)))]) hx hb hg hown hK hP hD hS 0 rfl rfl inX4 tyX4_ok nmX4 3 (by decide) q558 rfl rfl rfl (Nat.le_of_ble_eq_true rfl) rfl dX4_init_43 (fun H locs hP hD hS => ?_)
  refine lv_aload_n hx hb dX4_init_46 rfl (lv_at hl 0 rfl) ?_
  refine lv_iconst (v := 0) hx hb dX4_init_47 (by decide) ?_
  refine g_put (w' := [(h0, .inr (4, [.ref q1, .ref q2, .ref q3, .int 0, .int 0, .int 0, .int 0, .int 1, .int 0, .int 0, .ref q4, .int 0, .int 0, .int 0])), (q1, .inl (dA 0, 4096, .inl (fun _ => 0))), (q2, .inl (dA 0, 8, .inl (fun _ => 0))), (q3, .inl (dA 0, 4, .inl (fun _ => 0))), (q4, .inl (dA 0, 30, .inl (fun _ => 0)))]) hx hb hg hown hK hP hD hS 0 rfl rfl inX4 tyX4_ok nmX4 4 (by decide) q560 rfl rfl rfl (Nat.le_of_ble_eq_true rfl) rfl dX4_init_48 (fun H locs hP hD hS => ?_)
  refine lv_aload_n hx hb dX4_init_51 rfl (lv_at hl 0 rfl) ?_
  refine lv_iconst (v := 0) hx hb dX4_init_52 (by decide) ?_
  refine g_put (w' := [(h0, .inr (4, [.ref q1, .ref q2, .ref q3, .int 0, .int 0, .int 0, .int 0, .int 1, .int 0, .int 0, .ref q4, .int 0, .int 0, .int 0])), (q1, .inl (dA 0, 4096, .inl (fun _ => 0))), (q2, .inl (dA 0, 8, .inl (fun _ => 0))), (q3, .inl (dA 0, 4, .inl (fun _ => 0))), (q4, .inl (dA 0, 30, .inl (fun _ => 0)))]) hx hb hg hown hK hP hD hS 0 rfl rfl inX4 tyX4_ok nmX4 5 (by decide) q562 rfl rfl rfl (Nat.le_of_ble_eq_true rfl) rfl dX4_init_53 (fun H locs hP hD hS => ?_)
  refine lv_aload_n hx hb dX4_init_56 rfl (lv_at hl 0 rfl) ?_
  refine lv_iconst (v := 0) hx hb dX4_init_57 (by decide) ?_
  refine g_put (w' := [(h0, .inr (4, [.ref q1, .ref q2, .ref q3, .int 0, .int 0, .int 0, .int 0, .int 1, .int 0, .int 0, .ref q4, .int 0, .int 0, .int 0])), (q1, .inl (dA 0, 4096, .inl (fun _ => 0))), (q2, .inl (dA 0, 8, .inl (fun _ => 0))), (q3, .inl (dA 0, 4, .inl (fun _ => 0))), (q4, .inl (dA 0, 30, .inl (fun _ => 0)))]) hx hb hg hown hK hP hD hS 0 rfl rfl inX4 tyX4_ok nmX4 6 (by decide) q564 rfl rfl rfl (Nat.le_of_ble_eq_true rfl) rfl dX4_init_58 (fun H locs hP hD hS => ?_)
  refine lv_aload_n hx hb dX4_init_61 rfl (lv_at hl 0 rfl) ?_
  refine lv_iconst (v := 0) hx hb dX4_init_62 (by decide) ?_
  refine g_put (w' := [(h0, .inr (4, [.ref q1, .ref q2, .ref q3, .int 0, .int 0, .int 0, .int 0, .int 1, .int 0, .int 0, .ref q4, .int 0, .int 0, .int 0])), (q1, .inl (dA 0, 4096, .inl (fun _ => 0))), (q2, .inl (dA 0, 8, .inl (fun _ => 0))), (q3, .inl (dA 0, 4, .inl (fun _ => 0))), (q4, .inl (dA 0, 30, .inl (fun _ => 0)))]) hx hb hg hown hK hP hD hS 0 rfl rfl inX4 tyX4_ok nmX4 8 (by decide) q568 rfl rfl rfl (Nat.le_of_ble_eq_true rfl) rfl dX4_init_63 (fun H locs hP hD hS => ?_)
  refine lv_aload_n hx hb dX4_init_66 rfl (lv_at hl 0 rfl) ?_
  refine lv_iconst (v := 0) hx hb dX4_init_67 (by decide) ?_
  refine g_put (w' := [(h0, .inr (4, [.ref q1, .ref q2, .ref q3, .int 0, .int 0, .int 0, .int 0, .int 1, .int 0, .int 0, .ref q4, .int 0, .int 0, .int 0])), (q1, .inl (dA 0, 4096, .inl (fun _ => 0))), (q2, .inl (dA 0, 8, .inl (fun _ => 0))), (q3, .inl (dA 0, 4, .inl (fun _ => 0))), (q4, .inl (dA 0, 30, .inl (fun _ => 0)))]) hx hb hg hown hK hP hD hS 0 rfl rfl inX4 tyX4_ok nmX4 9 (by decide) q570 rfl rfl rfl (Nat.le_of_ble_eq_true rfl) rfl dX4_init_68 (fun H locs hP hD hS => ?_)
  refine lv_aload_n hx hb dX4_init_71 rfl (lv_at hl 0 rfl) ?_
  refine lv_iconst (v := 0) hx hb dX4_init_72 (by decide) ?_
  refine g_put (w' := [(h0, .inr (4, [.ref q1, .ref q2, .ref q3, .int 0, .int 0, .int 0, .int 0, .int 1, .int 0, .int 0, .ref q4, .int 0, .int 0, .int 0])), (q1, .inl (dA 0, 4096, .inl (fun _ => 0))), (q2, .inl (dA 0, 8, .inl (fun _ => 0))), (q3, .inl (dA 0, 4, .inl (fun _ => 0))), (q4, .inl (dA 0, 30, .inl (fun _ => 0)))]) hx hb hg hown hK hP hD hS 0 rfl rfl inX4 tyX4_ok nmX4 11 (by decide) q574 rfl rfl rfl (Nat.le_of_ble_eq_true rfl) rfl dX4_init_73 (fun H locs hP hD hS => ?_)
  refine lv_aload_n hx hb dX4_init_76 rfl (lv_at hl 0 rfl) ?_
  refine lv_iconst (v := 0) hx hb dX4_init_77 (by decide) ?_
  refine g_put (w' := [(h0, .inr (4, [.ref q1, .ref q2, .ref q3, .int 0, .int 0, .int 0, .int 0, .int 1, .int 0, .int 0, .ref q4, .int 0, .int 0, .int 0])), (q1, .inl (dA 0, 4096, .inl (fun _ => 0))), (q2, .inl (dA 0, 8, .inl (fun _ => 0))), (q3, .inl (dA 0, 4, .inl (fun _ => 0))), (q4, .inl (dA 0, 30, .inl (fun _ => 0)))]) hx hb hg hown hK hP hD hS 0 rfl rfl inX4 tyX4_ok nmX4 12 (by decide) q575 rfl rfl rfl (Nat.le_of_ble_eq_true rfl) rfl dX4_init_78 (fun H locs hP hD hS => ?_)
  refine lv_aload_n hx hb dX4_init_81 rfl (lv_at hl 0 rfl) ?_
  refine lv_iconst (v := 0) hx hb dX4_init_82 (by decide) ?_
  refine g_put (w' := [(h0, .inr (4, [.ref q1, .ref q2, .ref q3, .int 0, .int 0, .int 0, .int 0, .int 1, .int 0, .int 0, .ref q4, .int 0, .int 0, .int 0])), (q1, .inl (dA 0, 4096, .inl (fun _ => 0))), (q2, .inl (dA 0, 8, .inl (fun _ => 0))), (q3, .inl (dA 0, 4, .inl (fun _ => 0))), (q4, .inl (dA 0, 30, .inl (fun _ => 0)))]) hx hb hg hown hK hP hD hS 0 rfl rfl inX4 tyX4_ok nmX4 13 (by decide) q576 rfl rfl rfl (Nat.le_of_ble_eq_true rfl) rfl dX4_init_83 (fun H locs hP hD hS => ?_)
  obtain ⟨hP, hD⟩ := g_cut (is := [0, 1, 2, 3]) (w' := [(h0, .inr (4, [.ref q1, .ref q2, .ref q3, .int 0, .int 0, .int 0, .int 0, .int 1, .int 0, .int 0, .ref q4, .int 0, .int 0, .int 0])), (q1, .inl (dA 0, 4096, .inl (fun _ => 0))), (q2, .inl (dA 0, 8, .inl (fun _ => 0))), (q3, .inl (dA 0, 4, .inl (fun _ => 0)))]) hP hD (by decide) rfl rfl
  exact g_vret hx hb hr hlocks hK (fun k => ([q1, q2, q3, q4] : List Nat).getD k 0) hP hD hS trivial (Nat.le_of_ble_eq_true rfl) (Nat.le_of_ble_eq_true rfl) dX4_init_86
end
section
theorem q150 : Cond.initialized RX5 ∈ gw := gw_in (i := 150) (by decide +kernel) rfl
theorem q151 : Cond.initialized RX9 ∈ gw := gw_in (i := 151) (by decide +kernel) rfl
theorem q152 : Cond.initialized RX0 ∈ gw := gw_in (i := 152) (by decide +kernel) rfl
theorem q153 : Cond.initialized RX8 ∈ gw := gw_in (i := 153) (by decide +kernel) rfl
theorem q155 : Cond.initialized RX2 ∈ gw := gw_in (i := 155) (by decide +kernel) rfl
theorem q156 : Cond.initialized RX6 ∈ gw := gw_in (i := 156) (by decide +kernel) rfl
theorem q157 : Cond.initialized RX3 ∈ gw := gw_in (i := 157) (by decide +kernel) rfl
theorem q158 : Cond.initialized RX1 ∈ gw := gw_in (i := 158) (by decide +kernel) rfl
theorem q159 : Cond.initialized RX4 ∈ gw := gw_in (i := 159) (by decide +kernel) rfl
theorem q185 : Cond.methodLink RX10 1 objectInit ∈ gw := gw_in (i := 185) (by decide +kernel) rfl
theorem q188 : Cond.classLink RX10 23 RX5 ∈ gw := gw_in (i := 188) (by decide +kernel) rfl
theorem q189 : Cond.instantiable RX5 7 ∈ gw := gw_in (i := 189) (by decide +kernel) rfl
theorem q190 : Cond.methodLink RX10 25 yX5_init ∈ gw := gw_in (i := 190) (by decide +kernel) rfl
theorem q191 : Cond.instanceMethod yX5_init ∈ gw := gw_in (i := 191) (by decide +kernel) rfl
theorem q192 : Cond.code yX5_init cX5_init 1 none ∈ gw := gw_in (i := 192) (by decide +kernel) rfl
theorem q222 : Cond.arrayClass .char ∈ gw := gw_in (i := 222) (by decide +kernel) rfl
theorem q225 : Cond.classLink RX10 30 RX9 ∈ gw := gw_in (i := 225) (by decide +kernel) rfl
theorem q226 : Cond.instantiable RX9 5 ∈ gw := gw_in (i := 226) (by decide +kernel) rfl
theorem q227 : Cond.methodLink RX10 32 yX9_init ∈ gw := gw_in (i := 227) (by decide +kernel) rfl
theorem q228 : Cond.instanceMethod yX9_init ∈ gw := gw_in (i := 228) (by decide +kernel) rfl
theorem q229 : Cond.code yX9_init cX9_init 2 none ∈ gw := gw_in (i := 229) (by decide +kernel) rfl
theorem q251 : Cond.classLink RX10 39 RX0 ∈ gw := gw_in (i := 251) (by decide +kernel) rfl
theorem q252 : Cond.instantiable RX0 8 ∈ gw := gw_in (i := 252) (by decide +kernel) rfl
theorem q253 : Cond.methodLink RX10 41 yX0_init ∈ gw := gw_in (i := 253) (by decide +kernel) rfl
theorem q254 : Cond.instanceMethod yX0_init ∈ gw := gw_in (i := 254) (by decide +kernel) rfl
theorem q255 : Cond.code yX0_init cX0_init 1 none ∈ gw := gw_in (i := 255) (by decide +kernel) rfl
theorem q291 : Cond.classLink RX10 42 RX8 ∈ gw := gw_in (i := 291) (by decide +kernel) rfl
theorem q292 : Cond.instantiable RX8 6 ∈ gw := gw_in (i := 292) (by decide +kernel) rfl
theorem q293 : Cond.methodLink RX10 44 yX8_init ∈ gw := gw_in (i := 293) (by decide +kernel) rfl
theorem q294 : Cond.instanceMethod yX8_init ∈ gw := gw_in (i := 294) (by decide +kernel) rfl
theorem q295 : Cond.code yX8_init cX8_init 3 none ∈ gw := gw_in (i := 295) (by decide +kernel) rfl
theorem q365 : Cond.classLink RX10 51 RX2 ∈ gw := gw_in (i := 365) (by decide +kernel) rfl
theorem q366 : Cond.instantiable RX2 6 ∈ gw := gw_in (i := 366) (by decide +kernel) rfl
theorem q367 : Cond.methodLink RX10 53 yX2_init ∈ gw := gw_in (i := 367) (by decide +kernel) rfl
theorem q368 : Cond.instanceMethod yX2_init ∈ gw := gw_in (i := 368) (by decide +kernel) rfl
theorem q369 : Cond.code yX2_init cX2_init 3 none ∈ gw := gw_in (i := 369) (by decide +kernel) rfl
theorem q390 : Cond.classLink RX10 60 RX6 ∈ gw := gw_in (i := 390) (by decide +kernel) rfl
theorem q391 : Cond.arrayOver (.object RX6) ∈ gw := gw_in (i := 391) (by decide +kernel) rfl
theorem q392 : Cond.instantiable RX6 17 ∈ gw := gw_in (i := 392) (by decide +kernel) rfl
theorem q393 : Cond.methodLink RX10 66 yX6_init ∈ gw := gw_in (i := 393) (by decide +kernel) rfl
theorem q394 : Cond.instanceMethod yX6_init ∈ gw := gw_in (i := 394) (by decide +kernel) rfl
theorem q395 : Cond.code yX6_init cX6_init 1 none ∈ gw := gw_in (i := 395) (by decide +kernel) rfl
theorem q477 : Cond.classLink RX10 67 RX3 ∈ gw := gw_in (i := 477) (by decide +kernel) rfl
theorem q478 : Cond.instantiable RX3 7 ∈ gw := gw_in (i := 478) (by decide +kernel) rfl
theorem q479 : Cond.methodLink RX10 69 yX3_init ∈ gw := gw_in (i := 479) (by decide +kernel) rfl
theorem q480 : Cond.instanceMethod yX3_init ∈ gw := gw_in (i := 480) (by decide +kernel) rfl
theorem q481 : Cond.code yX3_init cX3_init 2 none ∈ gw := gw_in (i := 481) (by decide +kernel) rfl
theorem q505 : Cond.classLink RX10 76 RX1 ∈ gw := gw_in (i := 505) (by decide +kernel) rfl
theorem q506 : Cond.instantiable RX1 7 ∈ gw := gw_in (i := 506) (by decide +kernel) rfl
theorem q507 : Cond.methodLink RX10 78 yX1_init ∈ gw := gw_in (i := 507) (by decide +kernel) rfl
theorem q508 : Cond.instanceMethod yX1_init ∈ gw := gw_in (i := 508) (by decide +kernel) rfl
theorem q509 : Cond.code yX1_init cX1_init 1 none ∈ gw := gw_in (i := 509) (by decide +kernel) rfl
theorem q546 : Cond.classLink RX10 83 RX4 ∈ gw := gw_in (i := 546) (by decide +kernel) rfl
theorem q547 : Cond.instantiable RX4 14 ∈ gw := gw_in (i := 547) (by decide +kernel) rfl
theorem q548 : Cond.methodLink RX10 85 yX4_init ∈ gw := gw_in (i := 548) (by decide +kernel) rfl
theorem q549 : Cond.instanceMethod yX4_init ∈ gw := gw_in (i := 549) (by decide +kernel) rfl
theorem q550 : Cond.code yX4_init cX4_init 1 none ∈ gw := gw_in (i := 550) (by decide +kernel) rfl
theorem q606 : Cond.fieldLink RX10 9 "SegmentBench" "text" "[C" ∈ gw := gw_in (i := 606) (by decide +kernel) rfl
theorem q607 : Cond.fieldLink RX10 13 "SegmentBench" "length" "I" ∈ gw := gw_in (i := 607) (by decide +kernel) rfl
theorem q608 : Cond.fieldLink RX10 17 "SegmentBench" "kind" "I" ∈ gw := gw_in (i := 608) (by decide +kernel) rfl
theorem q609 : Cond.fieldLink RX10 20 "SegmentBench" "place" "I" ∈ gw := gw_in (i := 609) (by decide +kernel) rfl
theorem q610 : Cond.fieldLink RX10 26 "SegmentBench" "names" "LSegmentBench$Names;" ∈ gw := gw_in (i := 610) (by decide +kernel) rfl
theorem q611 : Cond.fieldLink RX10 35 "SegmentBench" "tokens" "LSegmentBench$Tokens;" ∈ gw := gw_in (i := 611) (by decide +kernel) rfl
theorem q612 : Cond.fieldLink RX10 47 "SegmentBench" "parse\x72" "LSegmentBench$Parser;" ∈ gw := gw_in (i := 612) (by decide +kernel) rfl
theorem q613 : Cond.fieldLink RX10 56 "SegmentBench" "layout" "LSegmentBench$Layout;" ∈ gw := gw_in (i := 613) (by decide +kernel) rfl
theorem q614 : Cond.fieldLink RX10 62 "SegmentBench" "modules" "[LSegmentBench$ObjectModule;" ∈ gw := gw_in (i := 614) (by decide +kernel) rfl
theorem q615 : Cond.fieldLink RX10 72 "SegmentBench" "linke\x72" "LSegmentBench$Linker;" ∈ gw := gw_in (i := 615) (by decide +kernel) rfl
theorem q616 : Cond.fieldLink RX10 79 "SegmentBench" "image" "LSegmentBench$Image;" ∈ gw := gw_in (i := 616) (by decide +kernel) rfl
theorem q617 : Cond.fieldLink RX10 86 "SegmentBench" "machine" "LSegmentBench$Machine;" ∈ gw := gw_in (i := 617) (by decide +kernel) rfl
theorem dX10_init_0 : decode cX10_init 0 = .ok (.aload_n 0, 1) := by decide +kernel
theorem dX10_init_1 : decode cX10_init 1 = .ok (.invokespecial 1, 3) := by decide +kernel
theorem dX10_init_4 : decode cX10_init 4 = .ok (.aload_n 0, 1) := by decide +kernel
theorem dX10_init_5 : decode cX10_init 5 = .ok (.sipush 480, 3) := by decide +kernel
theorem dX10_init_8 : decode cX10_init 8 = .ok (.newarray .char, 2) := by decide +kernel
theorem dX10_init_10 : decode cX10_init 10 = .ok (.putfield 9, 3) := by decide +kernel
theorem dX10_init_13 : decode cX10_init 13 = .ok (.aload_n 0, 1) := by decide +kernel
theorem dX10_init_14 : decode cX10_init 14 = .ok (.iconst 0, 1) := by decide +kernel
theorem dX10_init_15 : decode cX10_init 15 = .ok (.putfield 13, 3) := by decide +kernel
theorem dX10_init_18 : decode cX10_init 18 = .ok (.aload_n 0, 1) := by decide +kernel
theorem dX10_init_19 : decode cX10_init 19 = .ok (.iconst (-1), 1) := by decide +kernel
theorem dX10_init_20 : decode cX10_init 20 = .ok (.putfield 17, 3) := by decide +kernel
theorem dX10_init_23 : decode cX10_init 23 = .ok (.aload_n 0, 1) := by decide +kernel
theorem dX10_init_24 : decode cX10_init 24 = .ok (.iconst (-1), 1) := by decide +kernel
theorem dX10_init_25 : decode cX10_init 25 = .ok (.putfield 20, 3) := by decide +kernel
theorem dX10_init_28 : decode cX10_init 28 = .ok (.aload_n 0, 1) := by decide +kernel
theorem dX10_init_29 : decode cX10_init 29 = .ok (.new 23, 3) := by decide +kernel
theorem dX10_init_32 : decode cX10_init 32 = .ok (.dup, 1) := by decide +kernel
theorem dX10_init_33 : decode cX10_init 33 = .ok (.invokespecial 25, 3) := by decide +kernel
theorem dX10_init_36 : decode cX10_init 36 = .ok (.putfield 26, 3) := by decide +kernel
theorem dX10_init_39 : decode cX10_init 39 = .ok (.aload_n 0, 1) := by decide +kernel
theorem dX10_init_40 : decode cX10_init 40 = .ok (.new 30, 3) := by decide +kernel
theorem dX10_init_43 : decode cX10_init 43 = .ok (.dup, 1) := by decide +kernel
theorem dX10_init_44 : decode cX10_init 44 = .ok (.aload_n 0, 1) := by decide +kernel
theorem dX10_init_45 : decode cX10_init 45 = .ok (.getfield 26, 3) := by decide +kernel
theorem dX10_init_48 : decode cX10_init 48 = .ok (.invokespecial 32, 3) := by decide +kernel
theorem dX10_init_51 : decode cX10_init 51 = .ok (.putfield 35, 3) := by decide +kernel
theorem dX10_init_54 : decode cX10_init 54 = .ok (.new 39, 3) := by decide +kernel
theorem dX10_init_57 : decode cX10_init 57 = .ok (.dup, 1) := by decide +kernel
theorem dX10_init_58 : decode cX10_init 58 = .ok (.invokespecial 41, 3) := by decide +kernel
theorem dX10_init_61 : decode cX10_init 61 = .ok (.astore_n 1, 1) := by decide +kernel
theorem dX10_init_62 : decode cX10_init 62 = .ok (.aload_n 0, 1) := by decide +kernel
theorem dX10_init_63 : decode cX10_init 63 = .ok (.new 42, 3) := by decide +kernel
theorem dX10_init_66 : decode cX10_init 66 = .ok (.dup, 1) := by decide +kernel
theorem dX10_init_67 : decode cX10_init 67 = .ok (.aload_n 0, 1) := by decide +kernel
theorem dX10_init_68 : decode cX10_init 68 = .ok (.getfield 35, 3) := by decide +kernel
theorem dX10_init_71 : decode cX10_init 71 = .ok (.aload_n 1, 1) := by decide +kernel
theorem dX10_init_72 : decode cX10_init 72 = .ok (.invokespecial 44, 3) := by decide +kernel
theorem dX10_init_75 : decode cX10_init 75 = .ok (.putfield 47, 3) := by decide +kernel
theorem dX10_init_78 : decode cX10_init 78 = .ok (.aload_n 0, 1) := by decide +kernel
theorem dX10_init_79 : decode cX10_init 79 = .ok (.new 51, 3) := by decide +kernel
theorem dX10_init_82 : decode cX10_init 82 = .ok (.dup, 1) := by decide +kernel
theorem dX10_init_83 : decode cX10_init 83 = .ok (.aload_n 1, 1) := by decide +kernel
theorem dX10_init_84 : decode cX10_init 84 = .ok (.aload_n 0, 1) := by decide +kernel
theorem dX10_init_85 : decode cX10_init 85 = .ok (.getfield 26, 3) := by decide +kernel
theorem dX10_init_88 : decode cX10_init 88 = .ok (.invokespecial 53, 3) := by decide +kernel
theorem dX10_init_91 : decode cX10_init 91 = .ok (.putfield 56, 3) := by decide +kernel
theorem dX10_init_94 : decode cX10_init 94 = .ok (.aload_n 0, 1) := by decide +kernel
theorem dX10_init_95 : decode cX10_init 95 = .ok (.iconst 3, 1) := by decide +kernel
theorem dX10_init_96 : decode cX10_init 96 = .ok (.anewarray 60, 3) := by decide +kernel
theorem dX10_init_99 : decode cX10_init 99 = .ok (.putfield 62, 3) := by decide +kernel
theorem dX10_init_102 : decode cX10_init 102 = .ok (.iconst 0, 1) := by decide +kernel
theorem dX10_init_103 : decode cX10_init 103 = .ok (.istore_n 2, 1) := by decide +kernel
theorem dX10_init_104 : decode cX10_init 104 = .ok (.iload_n 2, 1) := by decide +kernel
theorem dX10_init_105 : decode cX10_init 105 = .ok (.iconst 3, 1) := by decide +kernel
theorem dX10_init_106 : decode cX10_init 106 = .ok (.if_icmp .ge 22, 3) := by decide +kernel
theorem dX10_init_109 : decode cX10_init 109 = .ok (.aload_n 0, 1) := by decide +kernel
theorem dX10_init_110 : decode cX10_init 110 = .ok (.getfield 62, 3) := by decide +kernel
theorem dX10_init_113 : decode cX10_init 113 = .ok (.iload_n 2, 1) := by decide +kernel
theorem dX10_init_114 : decode cX10_init 114 = .ok (.new 60, 3) := by decide +kernel
theorem dX10_init_117 : decode cX10_init 117 = .ok (.dup, 1) := by decide +kernel
theorem dX10_init_118 : decode cX10_init 118 = .ok (.invokespecial 66, 3) := by decide +kernel
theorem dX10_init_121 : decode cX10_init 121 = .ok (.aastore, 1) := by decide +kernel
theorem dX10_init_122 : decode cX10_init 122 = .ok (.iinc 2 1, 3) := by decide +kernel
theorem dX10_init_125 : decode cX10_init 125 = .ok (.goto (-21), 3) := by decide +kernel
theorem dX10_init_128 : decode cX10_init 128 = .ok (.aload_n 0, 1) := by decide +kernel
theorem dX10_init_129 : decode cX10_init 129 = .ok (.new 67, 3) := by decide +kernel
theorem dX10_init_132 : decode cX10_init 132 = .ok (.dup, 1) := by decide +kernel
theorem dX10_init_133 : decode cX10_init 133 = .ok (.aload_n 0, 1) := by decide +kernel
theorem dX10_init_134 : decode cX10_init 134 = .ok (.getfield 62, 3) := by decide +kernel
theorem dX10_init_137 : decode cX10_init 137 = .ok (.invokespecial 69, 3) := by decide +kernel
theorem dX10_init_140 : decode cX10_init 140 = .ok (.putfield 72, 3) := by decide +kernel
theorem dX10_init_143 : decode cX10_init 143 = .ok (.aload_n 0, 1) := by decide +kernel
theorem dX10_init_144 : decode cX10_init 144 = .ok (.new 76, 3) := by decide +kernel
theorem dX10_init_147 : decode cX10_init 147 = .ok (.dup, 1) := by decide +kernel
theorem dX10_init_148 : decode cX10_init 148 = .ok (.invokespecial 78, 3) := by decide +kernel
theorem dX10_init_151 : decode cX10_init 151 = .ok (.putfield 79, 3) := by decide +kernel
theorem dX10_init_154 : decode cX10_init 154 = .ok (.aload_n 0, 1) := by decide +kernel
theorem dX10_init_155 : decode cX10_init 155 = .ok (.new 83, 3) := by decide +kernel
theorem dX10_init_158 : decode cX10_init 158 = .ok (.dup, 1) := by decide +kernel
theorem dX10_init_159 : decode cX10_init 159 = .ok (.invokespecial 85, 3) := by decide +kernel
theorem dX10_init_162 : decode cX10_init 162 = .ok (.putfield 86, 3) := by decide +kernel
theorem dX10_init_165 : decode cX10_init 165 = .ok (.return_, 1) := by decide +kernel
/-- three modules in their array -/
def gM (a b c : Nat) : Nat → Option Nat := fun j => if j = 0 then some a else if j = 1 then some b else if j = 2 then some c else none
theorem gM_eq (a b c : Nat) : va_up (va_up (va_up (fun _ => none) (0 : Int32).toNatClampNeg (some a)) (1 : Int32).toNatClampNeg (some b)) (2 : Int32).toNatClampNeg (some c) = gM a b c := by
  funext j
  have e0 : (0 : Int32).toNatClampNeg = 0 := by decide
  have e1 : (1 : Int32).toNatClampNeg = 1 := by decide
  have e2 : (2 : Int32).toNatClampNeg = 2 := by decide
  rw [e0, e1, e2]
  unfold va_up gM
  by_cases h0 : j = 0
  · subst h0; rfl
  · by_cases h1 : j = 1
    · subst h1; rfl
    · by_cases h2 : j = 2
      · subst h2; rfl
      · simp [h0, h1, h2]
set_option maxHeartbeats 4000000 in
set_option maxRecDepth 100000 in
theorem c_X10_init (l : Launch) (D : va_G) (dA : Nat → ClassId) (h0 : Nat) (sz : Nat) : Met l yX10_init (gws yX10_init cX10_init 3 none) (gR 6 82 16111) (gPre D dA [.ref h0] [(h0, .inr (10, [.null, .int 0, .int 0, .int 0, .null, .null, .null, .null, .null, .null, .null, .null]))] sz) (va_Qv (fun _ : Nat → Nat => True) (gAt D dA (va_A [(h0, .inr (10, [.null, .int 0, .int 0, .int 0, .null, .null, .null, .null, .null, .null, .null, .null]))] sz) (fun ad : Nat → Nat => [(h0, .inr (10, [.ref (ad 0), .int 0, .int (-1), .int (-1), .ref (ad 1), .ref (ad 2), .ref (ad 3), .ref (ad 4), .ref (ad 5), .ref (ad 6), .ref (ad 7), .ref (ad 8)])), (ad 0, .inl (dA 2, 480, .inl (fun _ => 0))), (ad 1, .inr (5, [.ref (ad 9), .ref (ad 10), .ref (ad 11), .ref (ad 12), .ref (ad 13), .int 0, .int (-1)])), (ad 2, .inr (9, [.ref (ad 14), .ref (ad 15), .ref (ad 16), .int 0, .ref (ad 1)])), (ad 14, .inl (dA 0, 481, .inl (fun _ => 0))), (ad 15, .inl (dA 0, 481, .inl (fun _ => 0))), (ad 16, .inl (dA 0, 481, .inl (fun _ => 0))), (ad 3, .inr (8, [.ref (ad 2), .ref (ad 17), .ref (ad 18), .ref (ad 19), .int 0, .int 0])), (ad 17, .inr (0, [.ref (ad 20), .ref (ad 21), .ref (ad 22), .ref (ad 23), .ref (ad 24), .ref (ad 25), .ref (ad 26), .int 0])), (ad 4, .inr (2, [.ref (ad 17), .ref (ad 1), .ref (ad 27), .ref (ad 28), .int 0, .int (-1)])), (ad 28, .inl (dA 0, 60, .inl (fun _ => 0))), (ad 5, .inl (dA 4, 3, .inr (.inr (.inr (.inr (gM (ad 29) (ad 30) (ad 31))))))), (ad 29, .inr (6, [.int 0, .int 0, .ref (ad 32), .ref (ad 33), .ref (ad 34), .ref (ad 35), .ref (ad 36), .int 0, .ref (ad 37), .ref (ad 38), .ref (ad 39), .ref (ad 40), .ref (ad 41), .int 0, .ref (ad 42), .ref (ad 43), .ref (ad 44)])), (ad 36, .inl (dA 0, 400, .inl (fun _ => 0))), (ad 30, .inr (6, [.int 0, .int 0, .ref (ad 45), .ref (ad 46), .ref (ad 47), .ref (ad 48), .ref (ad 49), .int 0, .ref (ad 50), .ref (ad 51), .ref (ad 52), .ref (ad 53), .ref (ad 54), .int 0, .ref (ad 55), .ref (ad 56), .ref (ad 57)])), (ad 49, .inl (dA 0, 400, .inl (fun _ => 0))), (ad 31, .inr (6, [.int 0, .int 0, .ref (ad 58), .ref (ad 59), .ref (ad 60), .ref (ad 61), .ref (ad 62), .int 0, .ref (ad 63), .ref (ad 64), .ref (ad 65), .ref (ad 66), .ref (ad 67), .int 0, .ref (ad 68), .ref (ad 69), .ref (ad 70)])), (ad 62, .inl (dA 0, 400, .inl (fun _ => 0))), (ad 6, .inr (3, [.ref (ad 5), .ref (ad 71), .ref (ad 72), .ref (ad 73), .int 0, .ref (ad 74), .ref (ad 75)])), (ad 7, .inr (1, [.int 0, .int 0, .ref (ad 76), .int 0, .ref (ad 77), .int 0, .int 0])), (ad 8, .inr (4, [.ref (ad 78), .ref (ad 79), .ref (ad 80), .int 0, .int 0, .int 0, .int 0, .int 1, .int 0, .int 0, .ref (ad 81), .int 0, .int 0, .int 0])), (ad 78, .inl (dA 0, 4096, .inl (fun _ => 0))), (ad 79, .inl (dA 0, 8, .inl (fun _ => 0))), (ad 80, .inl (dA 0, 4, .inl (fun _ => 0)))])) (va_A [(h0, .inr (10, [.null, .int 0, .int 0, .int 0, .null, .null, .null, .null, .null, .null, .null, .null]))] sz)) 82 16111 (va_A [(h0, .inr (10, [.null, .int 0, .int 0, .int 0, .null, .null, .null, .null, .null, .null, .null, .null]))] sz) := by
  refine Met.ofW (cc := cX10_init) (maxL := 3) (ret := none) (by decide) rfl ?_
  intro p e s m args below meth c s₁ B hml hv
  obtain ⟨rfl, hsz, hP, hK, hD0⟩ := hv
  have hx := B.exec
  have hb := B.bytes
  have hr := B.returns
  have hts := atoms_spec (ws := gws yX10_init cX10_init 3 none) B.pre
  have hg : ∀ w ∈ gw, w.before _ s = true := fun w h => hts w (List.mem_cons_of_mem _ h)
  have hown : s.vm.findClass RX10 = some m.cls := findClass_of_methodNamed B.named
  have hlocks := B.notSynchronized
  have hin : meth.name = "<init>" := (name_of_methodNamed B.named B.method).1
  subst hsz
  have hD := hD0.self (sz := s.heap.size)
  generalize hAe : va_A [(h0, .inr (10, [.null, .int 0, .int 0, .int 0, .null, .null, .null, .null, .null, .null, .null, .null]))] s.heap.size = A at hD ⊢
  have hA : ∀ q : Nat, s.heap.size ≤ q → A q := fun q h => by rw [← hAe]; exact Or.inr h
  have hS : va_S A s.heap s.heap [] := va_S.rf
  have hP : va_P D vwC [(h0, .inr (10, [.null, .int 0, .int 0, .int 0, .null, .null, .null, .null, .null, .null, .null, .null]))] s.heap := hP
  have hl := lv_entry ([.ref h0]) (n := 3) (Nat.le_of_ble_eq_true rfl)
  rw [lg_entry_eq]
  generalize (lg_sl ([.ref h0]) ++ List.replicate (3 - (lg_sl ([.ref h0])).length) Slot.unset).toArray = ls at hl ⊢
  have hl : lv_has ls 3 [(0, .ref h0)] := hl
  refine lv_aload_n hx hb dX10_init_0 rfl (lv_at hl 0 rfl) ?_
  refine g_obj hx hb hg hown q185 q186 q187 hml hl.1 dX10_init_1 (Nat.le_of_ble_eq_true rfl) (Nat.le_of_ble_eq_true rfl) ?_
  refine lv_aload_n hx hb dX10_init_4 rfl (lv_at hl 0 rfl) ?_
  refine lv_sipush (v := 480) hx hb dX10_init_5 (by decide) ?_
  refine g_newa (ty := .char) (N' := 480) (a0 := (480, .inl (fun _ => 0))) hx hb hg rfl q222 hK hP hD hS hA 2 rfl (fun _ => rfl) (by decide) (by decide) (Nat.le_of_ble_eq_true rfl) (Nat.le_of_ble_eq_true rfl) (Nat.le_of_ble_eq_true rfl) dX10_init_8 (fun q1 H hP hD hS => ?_)
  refine W.widen (k := 1) (n := 480) (Nat.le_of_ble_eq_true rfl) (Nat.le_of_ble_eq_true rfl) ?_
  have hP : va_P D vwC [(h0, .inr (10, [.null, .int 0, .int 0, .int 0, .null, .null, .null, .null, .null, .null, .null, .null])), (q1, .inl (dA 2, 480, .inl (fun _ => 0)))] H := hP
  have hD : va_D A [(h0, .inr (10, [.null, .int 0, .int 0, .int 0, .null, .null, .null, .null, .null, .null, .null, .null])), (q1, .inl (dA 2, 480, .inl (fun _ => 0)))] := hD
  refine g_putF (w' := [(h0, .inr (10, [.ref q1, .int 0, .int 0, .int 0, .null, .null, .null, .null, .null, .null, .null, .null])), (q1, .inl (dA 2, 480, .inl (fun _ => 0)))]) hx hb hg hown hK hP hD hS 0 rfl rfl inX10 tyX10_ok nmX10 0 (by decide) q606 rfl hin rfl rfl rfl (Nat.le_of_ble_eq_true rfl) rfl dX10_init_10 (fun H locs hP hD hS => ?_)
  refine lv_aload_n hx hb dX10_init_13 rfl (lv_at hl 0 rfl) ?_
  refine lv_iconst (v := 0) hx hb dX10_init_14 (by decide) ?_
  refine g_put (w' := [(h0, .inr (10, [.ref q1, .int 0, .int 0, .int 0, .null, .null, .null, .null, .null, .null, .null, .null])), (q1, .inl (dA 2, 480, .inl (fun _ => 0)))]) hx hb hg hown hK hP hD hS 0 rfl rfl inX10 tyX10_ok nmX10 1 (by decide) q607 rfl rfl rfl (Nat.le_of_ble_eq_true rfl) rfl dX10_init_15 (fun H locs hP hD hS => ?_)
  refine lv_aload_n hx hb dX10_init_18 rfl (lv_at hl 0 rfl) ?_
  refine lv_iconst (v := (-1)) hx hb dX10_init_19 (by decide) ?_
  refine g_put (w' := [(h0, .inr (10, [.ref q1, .int 0, .int (-1), .int 0, .null, .null, .null, .null, .null, .null, .null, .null])), (q1, .inl (dA 2, 480, .inl (fun _ => 0)))]) hx hb hg hown hK hP hD hS 0 rfl rfl inX10 tyX10_ok nmX10 2 (by decide) q608 rfl rfl rfl (Nat.le_of_ble_eq_true rfl) rfl dX10_init_20 (fun H locs hP hD hS => ?_)
  refine lv_aload_n hx hb dX10_init_23 rfl (lv_at hl 0 rfl) ?_
  refine lv_iconst (v := (-1)) hx hb dX10_init_24 (by decide) ?_
  refine g_put (w' := [(h0, .inr (10, [.ref q1, .int 0, .int (-1), .int (-1), .null, .null, .null, .null, .null, .null, .null, .null])), (q1, .inl (dA 2, 480, .inl (fun _ => 0)))]) hx hb hg hown hK hP hD hS 0 rfl rfl inX10 tyX10_ok nmX10 3 (by decide) q609 rfl rfl rfl (Nat.le_of_ble_eq_true rfl) rfl dX10_init_25 (fun H locs hP hD hS => ?_)
  refine lv_aload_n hx hb dX10_init_28 rfl (lv_at hl 0 rfl) ?_
  refine g_new (fs := f0X5) hx hb hg 5 rfl inX5 tyX5_ok hown q188 q189 q150 hK hP hD hS hA dfX5 (Nat.le_of_ble_eq_true rfl) (Nat.le_of_ble_eq_true rfl) dX10_init_29 (fun q2 H hP hD hS => ?_)
  refine W.widen (k := 2) (n := 487) (Nat.le_of_ble_eq_true rfl) (Nat.le_of_ble_eq_true rfl) ?_
  have hP : va_P D vwC [(h0, .inr (10, [.ref q1, .int 0, .int (-1), .int (-1), .null, .null, .null, .null, .null, .null, .null, .null])), (q1, .inl (dA 2, 480, .inl (fun _ => 0))), (q2, .inr (5, [.null, .null, .null, .null, .null, .int 0, .int 0]))] H := hP
  have hD : va_D A [(h0, .inr (10, [.ref q1, .int 0, .int (-1), .int (-1), .null, .null, .null, .null, .null, .null, .null, .null])), (q1, .inl (dA 2, 480, .inl (fun _ => 0))), (q2, .inr (5, [.null, .null, .null, .null, .null, .int 0, .int 0]))] := hD
  refine lv_dup hx hb dX10_init_32 rfl ?_
  refine g_Iv (n := 0) (As := []) (rest := [.ref q2, .ref h0]) (wr := [(h0, .inr (10, [.ref q1, .int 0, .int (-1), .int (-1), .null, .null, .null, .null, .null, .null, .null, .null])), (q1, .inl (dA 2, 480, .inl (fun _ => 0)))]) hx hb hml hg hown hK hP hD hS hA (c_X5_init l D dA q2 _) [2] [0, 1] rfl (by decide) rfl (by decide) (by decide) q192 q150 q190 q191 rfl (by decide +kernel) ⟨(Nat.le_of_ble_eq_true rfl), (Nat.le_of_ble_eq_true rfl)⟩ rfl hl.1 rfl (Nat.le_of_ble_eq_true rfl) dX10_init_33 ⟨(Nat.le_of_ble_eq_true rfl), (Nat.le_of_ble_eq_true rfl)⟩ (fun u3 H locs w5 hP hD hS => ?_)
  refine W.widen (k := 7) (n := 1687) (Nat.le_of_ble_eq_true rfl) (Nat.le_of_ble_eq_true rfl) ?_
  have hP : va_P D vwC [(h0, .inr (10, [.ref q1, .int 0, .int (-1), .int (-1), .null, .null, .null, .null, .null, .null, .null, .null])), (q1, .inl (dA 2, 480, .inl (fun _ => 0))), (q2, .inr (5, [.ref (u3 0), .ref (u3 1), .ref (u3 2), .ref (u3 3), .ref (u3 4), .int 0, .int (-1)]))] H := hP
  have hD : va_D A [(h0, .inr (10, [.ref q1, .int 0, .int (-1), .int (-1), .null, .null, .null, .null, .null, .null, .null, .null])), (q1, .inl (dA 2, 480, .inl (fun _ => 0))), (q2, .inr (5, [.ref (u3 0), .ref (u3 1), .ref (u3 2), .ref (u3 3), .ref (u3 4), .int 0, .int (-1)]))] := hD
  refine g_putF (w' := [(h0, .inr (10, [.ref q1, .int 0, .int (-1), .int (-1), .ref q2, .null, .null, .null, .null, .null, .null, .null])), (q1, .inl (dA 2, 480, .inl (fun _ => 0))), (q2, .inr (5, [.ref (u3 0), .ref (u3 1), .ref (u3 2), .ref (u3 3), .ref (u3 4), .int 0, .int (-1)]))]) hx hb hg hown hK hP hD hS 0 rfl rfl inX10 tyX10_ok nmX10 4 (by decide) q610 rfl hin rfl rfl rfl (Nat.le_of_ble_eq_true rfl) rfl dX10_init_36 (fun H locs hP hD hS => ?_)
  refine lv_aload_n hx hb dX10_init_39 rfl (lv_at hl 0 rfl) ?_
  refine g_new (fs := f0X9) hx hb hg 9 rfl inX9 tyX9_ok hown q225 q226 q151 hK hP hD hS hA dfX9 (Nat.le_of_ble_eq_true rfl) (Nat.le_of_ble_eq_true rfl) dX10_init_40 (fun q6 H hP hD hS => ?_)
  refine W.widen (k := 8) (n := 1692) (Nat.le_of_ble_eq_true rfl) (Nat.le_of_ble_eq_true rfl) ?_
  have hP : va_P D vwC [(h0, .inr (10, [.ref q1, .int 0, .int (-1), .int (-1), .ref q2, .null, .null, .null, .null, .null, .null, .null])), (q1, .inl (dA 2, 480, .inl (fun _ => 0))), (q2, .inr (5, [.ref (u3 0), .ref (u3 1), .ref (u3 2), .ref (u3 3), .ref (u3 4), .int 0, .int (-1)])), (q6, .inr (9, [.null, .null, .null, .int 0, .null]))] H := hP
  have hD : va_D A [(h0, .inr (10, [.ref q1, .int 0, .int (-1), .int (-1), .ref q2, .null, .null, .null, .null, .null, .null, .null])), (q1, .inl (dA 2, 480, .inl (fun _ => 0))), (q2, .inr (5, [.ref (u3 0), .ref (u3 1), .ref (u3 2), .ref (u3 3), .ref (u3 4), .int 0, .int (-1)])), (q6, .inr (9, [.null, .null, .null, .int 0, .null]))] := hD
  refine lv_dup hx hb dX10_init_43 rfl ?_
  refine lv_aload_n hx hb dX10_init_44 rfl (lv_at hl 0 rfl) ?_
  refine g_get hx hb hg hown hK hP 0 rfl rfl inX10 4 (by decide) q610 rfl dX10_init_45 ?_
  refine g_Iv (n := 1) (As := [.ref q2]) (rest := [.ref q6, .ref h0]) (wr := [(h0, .inr (10, [.ref q1, .int 0, .int (-1), .int (-1), .ref q2, .null, .null, .null, .null, .null, .null, .null])), (q1, .inl (dA 2, 480, .inl (fun _ => 0))), (q2, .inr (5, [.ref (u3 0), .ref (u3 1), .ref (u3 2), .ref (u3 3), .ref (u3 4), .int 0, .int (-1)]))]) hx hb hml hg hown hK hP hD hS hA (c_X9_init l D dA q6 q2 _) [3] [0, 1, 2] rfl (by decide) rfl (by decide) (by decide) q229 q151 q227 q228 rfl (by decide +kernel) ⟨(Nat.le_of_ble_eq_true rfl), (Nat.le_of_ble_eq_true rfl)⟩ rfl hl.1 rfl (Nat.le_of_ble_eq_true rfl) dX10_init_48 ⟨(Nat.le_of_ble_eq_true rfl), (Nat.le_of_ble_eq_true rfl)⟩ (fun u7 H locs w9 hP hD hS => ?_)
  refine W.widen (k := 11) (n := 3135) (Nat.le_of_ble_eq_true rfl) (Nat.le_of_ble_eq_true rfl) ?_
  have hP : va_P D vwC [(h0, .inr (10, [.ref q1, .int 0, .int (-1), .int (-1), .ref q2, .null, .null, .null, .null, .null, .null, .null])), (q1, .inl (dA 2, 480, .inl (fun _ => 0))), (q2, .inr (5, [.ref (u3 0), .ref (u3 1), .ref (u3 2), .ref (u3 3), .ref (u3 4), .int 0, .int (-1)])), (q6, .inr (9, [.ref (u7 0), .ref (u7 1), .ref (u7 2), .int 0, .ref q2])), (u7 0, .inl (dA 0, 481, .inl (fun _ => 0))), (u7 1, .inl (dA 0, 481, .inl (fun _ => 0))), (u7 2, .inl (dA 0, 481, .inl (fun _ => 0)))] H := hP
  have hD : va_D A [(h0, .inr (10, [.ref q1, .int 0, .int (-1), .int (-1), .ref q2, .null, .null, .null, .null, .null, .null, .null])), (q1, .inl (dA 2, 480, .inl (fun _ => 0))), (q2, .inr (5, [.ref (u3 0), .ref (u3 1), .ref (u3 2), .ref (u3 3), .ref (u3 4), .int 0, .int (-1)])), (q6, .inr (9, [.ref (u7 0), .ref (u7 1), .ref (u7 2), .int 0, .ref q2])), (u7 0, .inl (dA 0, 481, .inl (fun _ => 0))), (u7 1, .inl (dA 0, 481, .inl (fun _ => 0))), (u7 2, .inl (dA 0, 481, .inl (fun _ => 0)))] := hD
  refine g_putF (w' := [(h0, .inr (10, [.ref q1, .int 0, .int (-1), .int (-1), .ref q2, .ref q6, .null, .null, .null, .null, .null, .null])), (q1, .inl (dA 2, 480, .inl (fun _ => 0))), (q2, .inr (5, [.ref (u3 0), .ref (u3 1), .ref (u3 2), .ref (u3 3), .ref (u3 4), .int 0, .int (-1)])), (q6, .inr (9, [.ref (u7 0), .ref (u7 1), .ref (u7 2), .int 0, .ref q2])), (u7 0, .inl (dA 0, 481, .inl (fun _ => 0))), (u7 1, .inl (dA 0, 481, .inl (fun _ => 0))), (u7 2, .inl (dA 0, 481, .inl (fun _ => 0)))]) hx hb hg hown hK hP hD hS 0 rfl rfl inX10 tyX10_ok nmX10 5 (by decide) q611 rfl hin rfl rfl rfl (Nat.le_of_ble_eq_true rfl) rfl dX10_init_51 (fun H locs hP hD hS => ?_)
  refine g_new (fs := f0X0) hx hb hg 0 rfl inX0 tyX0_ok hown q251 q252 q152 hK hP hD hS hA dfX0 (Nat.le_of_ble_eq_true rfl) (Nat.le_of_ble_eq_true rfl) dX10_init_54 (fun q10 H hP hD hS => ?_)
  refine W.widen (k := 12) (n := 3143) (Nat.le_of_ble_eq_true rfl) (Nat.le_of_ble_eq_true rfl) ?_
  have hP : va_P D vwC [(h0, .inr (10, [.ref q1, .int 0, .int (-1), .int (-1), .ref q2, .ref q6, .null, .null, .null, .null, .null, .null])), (q1, .inl (dA 2, 480, .inl (fun _ => 0))), (q2, .inr (5, [.ref (u3 0), .ref (u3 1), .ref (u3 2), .ref (u3 3), .ref (u3 4), .int 0, .int (-1)])), (q6, .inr (9, [.ref (u7 0), .ref (u7 1), .ref (u7 2), .int 0, .ref q2])), (u7 0, .inl (dA 0, 481, .inl (fun _ => 0))), (u7 1, .inl (dA 0, 481, .inl (fun _ => 0))), (u7 2, .inl (dA 0, 481, .inl (fun _ => 0))), (q10, .inr (0, [.null, .null, .null, .null, .null, .null, .null, .int 0]))] H := hP
  have hD : va_D A [(h0, .inr (10, [.ref q1, .int 0, .int (-1), .int (-1), .ref q2, .ref q6, .null, .null, .null, .null, .null, .null])), (q1, .inl (dA 2, 480, .inl (fun _ => 0))), (q2, .inr (5, [.ref (u3 0), .ref (u3 1), .ref (u3 2), .ref (u3 3), .ref (u3 4), .int 0, .int (-1)])), (q6, .inr (9, [.ref (u7 0), .ref (u7 1), .ref (u7 2), .int 0, .ref q2])), (u7 0, .inl (dA 0, 481, .inl (fun _ => 0))), (u7 1, .inl (dA 0, 481, .inl (fun _ => 0))), (u7 2, .inl (dA 0, 481, .inl (fun _ => 0))), (q10, .inr (0, [.null, .null, .null, .null, .null, .null, .null, .int 0]))] := hD
  refine lv_dup hx hb dX10_init_57 rfl ?_
  refine g_Iv (n := 0) (As := []) (rest := [.ref q10]) (wr := [(h0, .inr (10, [.ref q1, .int 0, .int (-1), .int (-1), .ref q2, .ref q6, .null, .null, .null, .null, .null, .null])), (q1, .inl (dA 2, 480, .inl (fun _ => 0))), (q2, .inr (5, [.ref (u3 0), .ref (u3 1), .ref (u3 2), .ref (u3 3), .ref (u3 4), .int 0, .int (-1)])), (q6, .inr (9, [.ref (u7 0), .ref (u7 1), .ref (u7 2), .int 0, .ref q2])), (u7 0, .inl (dA 0, 481, .inl (fun _ => 0))), (u7 1, .inl (dA 0, 481, .inl (fun _ => 0))), (u7 2, .inl (dA 0, 481, .inl (fun _ => 0)))]) hx hb hml hg hown hK hP hD hS hA (c_X0_init l D dA q10 _) [7] [0, 1, 2, 3, 4, 5, 6] rfl (by decide) rfl (by decide) (by decide) q255 q152 q253 q254 rfl (by decide +kernel) ⟨(Nat.le_of_ble_eq_true rfl), (Nat.le_of_ble_eq_true rfl)⟩ rfl hl.1 rfl (Nat.le_of_ble_eq_true rfl) dX10_init_58 ⟨(Nat.le_of_ble_eq_true rfl), (Nat.le_of_ble_eq_true rfl)⟩ (fun u11 H locs w13 hP hD hS => ?_)
  refine W.widen (k := 19) (n := 4879) (Nat.le_of_ble_eq_true rfl) (Nat.le_of_ble_eq_true rfl) ?_
  have hP : va_P D vwC [(h0, .inr (10, [.ref q1, .int 0, .int (-1), .int (-1), .ref q2, .ref q6, .null, .null, .null, .null, .null, .null])), (q1, .inl (dA 2, 480, .inl (fun _ => 0))), (q2, .inr (5, [.ref (u3 0), .ref (u3 1), .ref (u3 2), .ref (u3 3), .ref (u3 4), .int 0, .int (-1)])), (q6, .inr (9, [.ref (u7 0), .ref (u7 1), .ref (u7 2), .int 0, .ref q2])), (u7 0, .inl (dA 0, 481, .inl (fun _ => 0))), (u7 1, .inl (dA 0, 481, .inl (fun _ => 0))), (u7 2, .inl (dA 0, 481, .inl (fun _ => 0))), (q10, .inr (0, [.ref (u11 0), .ref (u11 1), .ref (u11 2), .ref (u11 3), .ref (u11 4), .ref (u11 5), .ref (u11 6), .int 0]))] H := hP
  have hD : va_D A [(h0, .inr (10, [.ref q1, .int 0, .int (-1), .int (-1), .ref q2, .ref q6, .null, .null, .null, .null, .null, .null])), (q1, .inl (dA 2, 480, .inl (fun _ => 0))), (q2, .inr (5, [.ref (u3 0), .ref (u3 1), .ref (u3 2), .ref (u3 3), .ref (u3 4), .int 0, .int (-1)])), (q6, .inr (9, [.ref (u7 0), .ref (u7 1), .ref (u7 2), .int 0, .ref q2])), (u7 0, .inl (dA 0, 481, .inl (fun _ => 0))), (u7 1, .inl (dA 0, 481, .inl (fun _ => 0))), (u7 2, .inl (dA 0, 481, .inl (fun _ => 0))), (q10, .inr (0, [.ref (u11 0), .ref (u11 1), .ref (u11 2), .ref (u11 3), .ref (u11 4), .ref (u11 5), .ref (u11 6), .int 0]))] := hD
  refine lv_astore_n (lv' := [(1, .ref q10), (0, .ref h0)]) hx hb dX10_init_61 rfl hl (by decide) rfl (fun ls hl => ?_)
  refine lv_aload_n hx hb dX10_init_62 rfl (lv_at hl 1 rfl) ?_
  refine g_new (fs := f0X8) hx hb hg 8 rfl inX8 tyX8_ok hown q291 q292 q153 hK hP hD hS hA dfX8 (Nat.le_of_ble_eq_true rfl) (Nat.le_of_ble_eq_true rfl) dX10_init_63 (fun q14 H hP hD hS => ?_)
  refine W.widen (k := 20) (n := 4885) (Nat.le_of_ble_eq_true rfl) (Nat.le_of_ble_eq_true rfl) ?_
  have hP : va_P D vwC [(h0, .inr (10, [.ref q1, .int 0, .int (-1), .int (-1), .ref q2, .ref q6, .null, .null, .null, .null, .null, .null])), (q1, .inl (dA 2, 480, .inl (fun _ => 0))), (q2, .inr (5, [.ref (u3 0), .ref (u3 1), .ref (u3 2), .ref (u3 3), .ref (u3 4), .int 0, .int (-1)])), (q6, .inr (9, [.ref (u7 0), .ref (u7 1), .ref (u7 2), .int 0, .ref q2])), (u7 0, .inl (dA 0, 481, .inl (fun _ => 0))), (u7 1, .inl (dA 0, 481, .inl (fun _ => 0))), (u7 2, .inl (dA 0, 481, .inl (fun _ => 0))), (q10, .inr (0, [.ref (u11 0), .ref (u11 1), .ref (u11 2), .ref (u11 3), .ref (u11 4), .ref (u11 5), .ref (u11 6), .int 0])), (q14, .inr (8, [.null, .null, .null, .null, .int 0, .int 0]))] H := hP
  have hD : va_D A [(h0, .inr (10, [.ref q1, .int 0, .int (-1), .int (-1), .ref q2, .ref q6, .null, .null, .null, .null, .null, .null])), (q1, .inl (dA 2, 480, .inl (fun _ => 0))), (q2, .inr (5, [.ref (u3 0), .ref (u3 1), .ref (u3 2), .ref (u3 3), .ref (u3 4), .int 0, .int (-1)])), (q6, .inr (9, [.ref (u7 0), .ref (u7 1), .ref (u7 2), .int 0, .ref q2])), (u7 0, .inl (dA 0, 481, .inl (fun _ => 0))), (u7 1, .inl (dA 0, 481, .inl (fun _ => 0))), (u7 2, .inl (dA 0, 481, .inl (fun _ => 0))), (q10, .inr (0, [.ref (u11 0), .ref (u11 1), .ref (u11 2), .ref (u11 3), .ref (u11 4), .ref (u11 5), .ref (u11 6), .int 0])), (q14, .inr (8, [.null, .null, .null, .null, .int 0, .int 0]))] := hD
  refine lv_dup hx hb dX10_init_66 rfl ?_
  refine lv_aload_n hx hb dX10_init_67 rfl (lv_at hl 1 rfl) ?_
  refine g_get hx hb hg hown hK hP 0 rfl rfl inX10 5 (by decide) q611 rfl dX10_init_68 ?_
  refine lv_aload_n hx hb dX10_init_71 rfl (lv_at hl 0 rfl) ?_
  refine g_Iv (n := 2) (As := [.ref q6, .ref q10]) (rest := [.ref q14, .ref h0]) (wr := [(h0, .inr (10, [.ref q1, .int 0, .int (-1), .int (-1), .ref q2, .ref q6, .null, .null, .null, .null, .null, .null])), (q1, .inl (dA 2, 480, .inl (fun _ => 0))), (q2, .inr (5, [.ref (u3 0), .ref (u3 1), .ref (u3 2), .ref (u3 3), .ref (u3 4), .int 0, .int (-1)])), (q6, .inr (9, [.ref (u7 0), .ref (u7 1), .ref (u7 2), .int 0, .ref q2])), (u7 0, .inl (dA 0, 481, .inl (fun _ => 0))), (u7 1, .inl (dA 0, 481, .inl (fun _ => 0))), (u7 2, .inl (dA 0, 481, .inl (fun _ => 0))), (q10, .inr (0, [.ref (u11 0), .ref (u11 1), .ref (u11 2), .ref (u11 3), .ref (u11 4), .ref (u11 5), .ref (u11 6), .int 0]))]) hx hb hml hg hown hK hP hD hS hA (c_X8_init l D dA q14 q6 q10 _) [8] [0, 1, 2, 3, 4, 5, 6, 7] rfl (by decide) rfl (by decide) (by decide) q295 q153 q293 q294 rfl (by decide +kernel) ⟨(Nat.le_of_ble_eq_true rfl), (Nat.le_of_ble_eq_true rfl)⟩ rfl hl.1 rfl (Nat.le_of_ble_eq_true rfl) dX10_init_72 ⟨(Nat.le_of_ble_eq_true rfl), (Nat.le_of_ble_eq_true rfl)⟩ (fun u15 H locs w17 hP hD hS => ?_)
  refine W.widen (k := 22) (n := 4901) (Nat.le_of_ble_eq_true rfl) (Nat.le_of_ble_eq_true rfl) ?_
  have hP : va_P D vwC [(h0, .inr (10, [.ref q1, .int 0, .int (-1), .int (-1), .ref q2, .ref q6, .null, .null, .null, .null, .null, .null])), (q1, .inl (dA 2, 480, .inl (fun _ => 0))), (q2, .inr (5, [.ref (u3 0), .ref (u3 1), .ref (u3 2), .ref (u3 3), .ref (u3 4), .int 0, .int (-1)])), (q6, .inr (9, [.ref (u7 0), .ref (u7 1), .ref (u7 2), .int 0, .ref q2])), (u7 0, .inl (dA 0, 481, .inl (fun _ => 0))), (u7 1, .inl (dA 0, 481, .inl (fun _ => 0))), (u7 2, .inl (dA 0, 481, .inl (fun _ => 0))), (q10, .inr (0, [.ref (u11 0), .ref (u11 1), .ref (u11 2), .ref (u11 3), .ref (u11 4), .ref (u11 5), .ref (u11 6), .int 0])), (q14, .inr (8, [.ref q6, .ref q10, .ref (u15 0), .ref (u15 1), .int 0, .int 0]))] H := hP
  have hD : va_D A [(h0, .inr (10, [.ref q1, .int 0, .int (-1), .int (-1), .ref q2, .ref q6, .null, .null, .null, .null, .null, .null])), (q1, .inl (dA 2, 480, .inl (fun _ => 0))), (q2, .inr (5, [.ref (u3 0), .ref (u3 1), .ref (u3 2), .ref (u3 3), .ref (u3 4), .int 0, .int (-1)])), (q6, .inr (9, [.ref (u7 0), .ref (u7 1), .ref (u7 2), .int 0, .ref q2])), (u7 0, .inl (dA 0, 481, .inl (fun _ => 0))), (u7 1, .inl (dA 0, 481, .inl (fun _ => 0))), (u7 2, .inl (dA 0, 481, .inl (fun _ => 0))), (q10, .inr (0, [.ref (u11 0), .ref (u11 1), .ref (u11 2), .ref (u11 3), .ref (u11 4), .ref (u11 5), .ref (u11 6), .int 0])), (q14, .inr (8, [.ref q6, .ref q10, .ref (u15 0), .ref (u15 1), .int 0, .int 0]))] := hD
  refine g_putF (w' := [(h0, .inr (10, [.ref q1, .int 0, .int (-1), .int (-1), .ref q2, .ref q6, .ref q14, .null, .null, .null, .null, .null])), (q1, .inl (dA 2, 480, .inl (fun _ => 0))), (q2, .inr (5, [.ref (u3 0), .ref (u3 1), .ref (u3 2), .ref (u3 3), .ref (u3 4), .int 0, .int (-1)])), (q6, .inr (9, [.ref (u7 0), .ref (u7 1), .ref (u7 2), .int 0, .ref q2])), (u7 0, .inl (dA 0, 481, .inl (fun _ => 0))), (u7 1, .inl (dA 0, 481, .inl (fun _ => 0))), (u7 2, .inl (dA 0, 481, .inl (fun _ => 0))), (q10, .inr (0, [.ref (u11 0), .ref (u11 1), .ref (u11 2), .ref (u11 3), .ref (u11 4), .ref (u11 5), .ref (u11 6), .int 0])), (q14, .inr (8, [.ref q6, .ref q10, .ref (u15 0), .ref (u15 1), .int 0, .int 0]))]) hx hb hg hown hK hP hD hS 0 rfl rfl inX10 tyX10_ok nmX10 6 (by decide) q612 rfl hin rfl rfl rfl (Nat.le_of_ble_eq_true rfl) rfl dX10_init_75 (fun H locs hP hD hS => ?_)
  refine lv_aload_n hx hb dX10_init_78 rfl (lv_at hl 1 rfl) ?_
  refine g_new (fs := f0X2) hx hb hg 2 rfl inX2 tyX2_ok hown q365 q366 q155 hK hP hD hS hA dfX2 (Nat.le_of_ble_eq_true rfl) (Nat.le_of_ble_eq_true rfl) dX10_init_79 (fun q18 H hP hD hS => ?_)
  refine W.widen (k := 23) (n := 4907) (Nat.le_of_ble_eq_true rfl) (Nat.le_of_ble_eq_true rfl) ?_
  have hP : va_P D vwC [(h0, .inr (10, [.ref q1, .int 0, .int (-1), .int (-1), .ref q2, .ref q6, .ref q14, .null, .null, .null, .null, .null])), (q1, .inl (dA 2, 480, .inl (fun _ => 0))), (q2, .inr (5, [.ref (u3 0), .ref (u3 1), .ref (u3 2), .ref (u3 3), .ref (u3 4), .int 0, .int (-1)])), (q6, .inr (9, [.ref (u7 0), .ref (u7 1), .ref (u7 2), .int 0, .ref q2])), (u7 0, .inl (dA 0, 481, .inl (fun _ => 0))), (u7 1, .inl (dA 0, 481, .inl (fun _ => 0))), (u7 2, .inl (dA 0, 481, .inl (fun _ => 0))), (q10, .inr (0, [.ref (u11 0), .ref (u11 1), .ref (u11 2), .ref (u11 3), .ref (u11 4), .ref (u11 5), .ref (u11 6), .int 0])), (q14, .inr (8, [.ref q6, .ref q10, .ref (u15 0), .ref (u15 1), .int 0, .int 0])), (q18, .inr (2, [.null, .null, .null, .null, .int 0, .int 0]))] H := hP
  have hD : va_D A [(h0, .inr (10, [.ref q1, .int 0, .int (-1), .int (-1), .ref q2, .ref q6, .ref q14, .null, .null, .null, .null, .null])), (q1, .inl (dA 2, 480, .inl (fun _ => 0))), (q2, .inr (5, [.ref (u3 0), .ref (u3 1), .ref (u3 2), .ref (u3 3), .ref (u3 4), .int 0, .int (-1)])), (q6, .inr (9, [.ref (u7 0), .ref (u7 1), .ref (u7 2), .int 0, .ref q2])), (u7 0, .inl (dA 0, 481, .inl (fun _ => 0))), (u7 1, .inl (dA 0, 481, .inl (fun _ => 0))), (u7 2, .inl (dA 0, 481, .inl (fun _ => 0))), (q10, .inr (0, [.ref (u11 0), .ref (u11 1), .ref (u11 2), .ref (u11 3), .ref (u11 4), .ref (u11 5), .ref (u11 6), .int 0])), (q14, .inr (8, [.ref q6, .ref q10, .ref (u15 0), .ref (u15 1), .int 0, .int 0])), (q18, .inr (2, [.null, .null, .null, .null, .int 0, .int 0]))] := hD
  refine lv_dup hx hb dX10_init_82 rfl ?_
  refine lv_aload_n hx hb dX10_init_83 rfl (lv_at hl 0 rfl) ?_
  refine lv_aload_n hx hb dX10_init_84 rfl (lv_at hl 1 rfl) ?_
  refine g_get hx hb hg hown hK hP 0 rfl rfl inX10 4 (by decide) q610 rfl dX10_init_85 ?_
  refine g_Iv (n := 2) (As := [.ref q10, .ref q2]) (rest := [.ref q18, .ref h0]) (wr := [(h0, .inr (10, [.ref q1, .int 0, .int (-1), .int (-1), .ref q2, .ref q6, .ref q14, .null, .null, .null, .null, .null])), (q1, .inl (dA 2, 480, .inl (fun _ => 0))), (q2, .inr (5, [.ref (u3 0), .ref (u3 1), .ref (u3 2), .ref (u3 3), .ref (u3 4), .int 0, .int (-1)])), (q6, .inr (9, [.ref (u7 0), .ref (u7 1), .ref (u7 2), .int 0, .ref q2])), (u7 0, .inl (dA 0, 481, .inl (fun _ => 0))), (u7 1, .inl (dA 0, 481, .inl (fun _ => 0))), (u7 2, .inl (dA 0, 481, .inl (fun _ => 0))), (q10, .inr (0, [.ref (u11 0), .ref (u11 1), .ref (u11 2), .ref (u11 3), .ref (u11 4), .ref (u11 5), .ref (u11 6), .int 0])), (q14, .inr (8, [.ref q6, .ref q10, .ref (u15 0), .ref (u15 1), .int 0, .int 0]))]) hx hb hml hg hown hK hP hD hS hA (c_X2_init l D dA q18 q10 q2 _) [9] [0, 1, 2, 3, 4, 5, 6, 7, 8] rfl (by decide) rfl (by decide) (by decide) q369 q155 q367 q368 rfl (by decide +kernel) ⟨(Nat.le_of_ble_eq_true rfl), (Nat.le_of_ble_eq_true rfl)⟩ rfl hl.1 rfl (Nat.le_of_ble_eq_true rfl) dX10_init_88 ⟨(Nat.le_of_ble_eq_true rfl), (Nat.le_of_ble_eq_true rfl)⟩ (fun u19 H locs w21 hP hD hS => ?_)
  refine W.widen (k := 25) (n := 5027) (Nat.le_of_ble_eq_true rfl) (Nat.le_of_ble_eq_true rfl) ?_
  have hP : va_P D vwC [(h0, .inr (10, [.ref q1, .int 0, .int (-1), .int (-1), .ref q2, .ref q6, .ref q14, .null, .null, .null, .null, .null])), (q1, .inl (dA 2, 480, .inl (fun _ => 0))), (q2, .inr (5, [.ref (u3 0), .ref (u3 1), .ref (u3 2), .ref (u3 3), .ref (u3 4), .int 0, .int (-1)])), (q6, .inr (9, [.ref (u7 0), .ref (u7 1), .ref (u7 2), .int 0, .ref q2])), (u7 0, .inl (dA 0, 481, .inl (fun _ => 0))), (u7 1, .inl (dA 0, 481, .inl (fun _ => 0))), (u7 2, .inl (dA 0, 481, .inl (fun _ => 0))), (q10, .inr (0, [.ref (u11 0), .ref (u11 1), .ref (u11 2), .ref (u11 3), .ref (u11 4), .ref (u11 5), .ref (u11 6), .int 0])), (q14, .inr (8, [.ref q6, .ref q10, .ref (u15 0), .ref (u15 1), .int 0, .int 0])), (q18, .inr (2, [.ref q10, .ref q2, .ref (u19 0), .ref (u19 1), .int 0, .int (-1)])), (u19 1, .inl (dA 0, 60, .inl (fun _ => 0)))] H := hP
  have hD : va_D A [(h0, .inr (10, [.ref q1, .int 0, .int (-1), .int (-1), .ref q2, .ref q6, .ref q14, .null, .null, .null, .null, .null])), (q1, .inl (dA 2, 480, .inl (fun _ => 0))), (q2, .inr (5, [.ref (u3 0), .ref (u3 1), .ref (u3 2), .ref (u3 3), .ref (u3 4), .int 0, .int (-1)])), (q6, .inr (9, [.ref (u7 0), .ref (u7 1), .ref (u7 2), .int 0, .ref q2])), (u7 0, .inl (dA 0, 481, .inl (fun _ => 0))), (u7 1, .inl (dA 0, 481, .inl (fun _ => 0))), (u7 2, .inl (dA 0, 481, .inl (fun _ => 0))), (q10, .inr (0, [.ref (u11 0), .ref (u11 1), .ref (u11 2), .ref (u11 3), .ref (u11 4), .ref (u11 5), .ref (u11 6), .int 0])), (q14, .inr (8, [.ref q6, .ref q10, .ref (u15 0), .ref (u15 1), .int 0, .int 0])), (q18, .inr (2, [.ref q10, .ref q2, .ref (u19 0), .ref (u19 1), .int 0, .int (-1)])), (u19 1, .inl (dA 0, 60, .inl (fun _ => 0)))] := hD
  refine g_putF (w' := [(h0, .inr (10, [.ref q1, .int 0, .int (-1), .int (-1), .ref q2, .ref q6, .ref q14, .ref q18, .null, .null, .null, .null])), (q1, .inl (dA 2, 480, .inl (fun _ => 0))), (q2, .inr (5, [.ref (u3 0), .ref (u3 1), .ref (u3 2), .ref (u3 3), .ref (u3 4), .int 0, .int (-1)])), (q6, .inr (9, [.ref (u7 0), .ref (u7 1), .ref (u7 2), .int 0, .ref q2])), (u7 0, .inl (dA 0, 481, .inl (fun _ => 0))), (u7 1, .inl (dA 0, 481, .inl (fun _ => 0))), (u7 2, .inl (dA 0, 481, .inl (fun _ => 0))), (q10, .inr (0, [.ref (u11 0), .ref (u11 1), .ref (u11 2), .ref (u11 3), .ref (u11 4), .ref (u11 5), .ref (u11 6), .int 0])), (q14, .inr (8, [.ref q6, .ref q10, .ref (u15 0), .ref (u15 1), .int 0, .int 0])), (q18, .inr (2, [.ref q10, .ref q2, .ref (u19 0), .ref (u19 1), .int 0, .int (-1)])), (u19 1, .inl (dA 0, 60, .inl (fun _ => 0)))]) hx hb hg hown hK hP hD hS 0 rfl rfl inX10 tyX10_ok nmX10 7 (by decide) q613 rfl hin rfl rfl rfl (Nat.le_of_ble_eq_true rfl) rfl dX10_init_91 (fun H locs hP hD hS => ?_)
  refine lv_aload_n hx hb dX10_init_94 rfl (lv_at hl 1 rfl) ?_
  refine lv_iconst (v := 3) hx hb dX10_init_95 (by decide) ?_
  refine g_newq (N' := 3) hx hb hg hown q390 q391 hK hP hD hS hA 4 rfl (by decide) (by decide) (Nat.le_of_ble_eq_true rfl) (Nat.le_of_ble_eq_true rfl) (Nat.le_of_ble_eq_true rfl) dX10_init_96 (fun q22 H hP hD hS => ?_)
  refine W.widen (k := 26) (n := 5030) (Nat.le_of_ble_eq_true rfl) (Nat.le_of_ble_eq_true rfl) ?_
  have hP : va_P D vwC [(h0, .inr (10, [.ref q1, .int 0, .int (-1), .int (-1), .ref q2, .ref q6, .ref q14, .ref q18, .null, .null, .null, .null])), (q1, .inl (dA 2, 480, .inl (fun _ => 0))), (q2, .inr (5, [.ref (u3 0), .ref (u3 1), .ref (u3 2), .ref (u3 3), .ref (u3 4), .int 0, .int (-1)])), (q6, .inr (9, [.ref (u7 0), .ref (u7 1), .ref (u7 2), .int 0, .ref q2])), (u7 0, .inl (dA 0, 481, .inl (fun _ => 0))), (u7 1, .inl (dA 0, 481, .inl (fun _ => 0))), (u7 2, .inl (dA 0, 481, .inl (fun _ => 0))), (q10, .inr (0, [.ref (u11 0), .ref (u11 1), .ref (u11 2), .ref (u11 3), .ref (u11 4), .ref (u11 5), .ref (u11 6), .int 0])), (q14, .inr (8, [.ref q6, .ref q10, .ref (u15 0), .ref (u15 1), .int 0, .int 0])), (q18, .inr (2, [.ref q10, .ref q2, .ref (u19 0), .ref (u19 1), .int 0, .int (-1)])), (u19 1, .inl (dA 0, 60, .inl (fun _ => 0))), (q22, .inl (dA 4, 3, .inr (.inr (.inr (.inr (fun _ => none))))))] H := hP
  have hD : va_D A [(h0, .inr (10, [.ref q1, .int 0, .int (-1), .int (-1), .ref q2, .ref q6, .ref q14, .ref q18, .null, .null, .null, .null])), (q1, .inl (dA 2, 480, .inl (fun _ => 0))), (q2, .inr (5, [.ref (u3 0), .ref (u3 1), .ref (u3 2), .ref (u3 3), .ref (u3 4), .int 0, .int (-1)])), (q6, .inr (9, [.ref (u7 0), .ref (u7 1), .ref (u7 2), .int 0, .ref q2])), (u7 0, .inl (dA 0, 481, .inl (fun _ => 0))), (u7 1, .inl (dA 0, 481, .inl (fun _ => 0))), (u7 2, .inl (dA 0, 481, .inl (fun _ => 0))), (q10, .inr (0, [.ref (u11 0), .ref (u11 1), .ref (u11 2), .ref (u11 3), .ref (u11 4), .ref (u11 5), .ref (u11 6), .int 0])), (q14, .inr (8, [.ref q6, .ref q10, .ref (u15 0), .ref (u15 1), .int 0, .int 0])), (q18, .inr (2, [.ref q10, .ref q2, .ref (u19 0), .ref (u19 1), .int 0, .int (-1)])), (u19 1, .inl (dA 0, 60, .inl (fun _ => 0))), (q22, .inl (dA 4, 3, .inr (.inr (.inr (.inr (fun _ => none))))))] := hD
  refine g_putF (w' := [(h0, .inr (10, [.ref q1, .int 0, .int (-1), .int (-1), .ref q2, .ref q6, .ref q14, .ref q18, .ref q22, .null, .null, .null])), (q1, .inl (dA 2, 480, .inl (fun _ => 0))), (q2, .inr (5, [.ref (u3 0), .ref (u3 1), .ref (u3 2), .ref (u3 3), .ref (u3 4), .int 0, .int (-1)])), (q6, .inr (9, [.ref (u7 0), .ref (u7 1), .ref (u7 2), .int 0, .ref q2])), (u7 0, .inl (dA 0, 481, .inl (fun _ => 0))), (u7 1, .inl (dA 0, 481, .inl (fun _ => 0))), (u7 2, .inl (dA 0, 481, .inl (fun _ => 0))), (q10, .inr (0, [.ref (u11 0), .ref (u11 1), .ref (u11 2), .ref (u11 3), .ref (u11 4), .ref (u11 5), .ref (u11 6), .int 0])), (q14, .inr (8, [.ref q6, .ref q10, .ref (u15 0), .ref (u15 1), .int 0, .int 0])), (q18, .inr (2, [.ref q10, .ref q2, .ref (u19 0), .ref (u19 1), .int 0, .int (-1)])), (u19 1, .inl (dA 0, 60, .inl (fun _ => 0))), (q22, .inl (dA 4, 3, .inr (.inr (.inr (.inr (fun _ => none))))))]) hx hb hg hown hK hP hD hS 0 rfl rfl inX10 tyX10_ok nmX10 8 (by decide) q614 rfl hin rfl rfl rfl (Nat.le_of_ble_eq_true rfl) rfl dX10_init_99 (fun H locs hP hD hS => ?_)
  refine lv_iconst (v := 0) hx hb dX10_init_102 (by decide) ?_
  refine lv_istore_n (lv' := [(2, .int 0), (1, .ref q10), (0, .ref h0)]) hx hb dX10_init_103 rfl hl (by decide) rfl (fun ls hl => ?_)
  refine lv_iload_n hx hb dX10_init_104 rfl (lv_at hl 0 rfl) ?_
  refine lv_iconst (v := 3) hx hb dX10_init_105 (by decide) ?_
  refine lv_icmp_ge (tgt := 128) hx hb dX10_init_106 (by decide) (fun h => absurd h (by decide)) (fun _ => ?_)
  refine lv_aload_n hx hb dX10_init_109 rfl (lv_at hl 2 rfl) ?_
  refine g_get hx hb hg hown hK hP 0 rfl rfl inX10 8 (by decide) q614 rfl dX10_init_110 ?_
  refine lv_iload_n hx hb dX10_init_113 rfl (lv_at hl 0 rfl) ?_
  refine g_new (fs := f0X6) hx hb hg 6 rfl inX6 tyX6_ok hown q390 q392 q156 hK hP hD hS hA dfX6 (Nat.le_of_ble_eq_true rfl) (Nat.le_of_ble_eq_true rfl) dX10_init_114 (fun q23 H hP hD hS => ?_)
  refine W.widen (k := 27) (n := 5047) (Nat.le_of_ble_eq_true rfl) (Nat.le_of_ble_eq_true rfl) ?_
  have hP : va_P D vwC [(h0, .inr (10, [.ref q1, .int 0, .int (-1), .int (-1), .ref q2, .ref q6, .ref q14, .ref q18, .ref q22, .null, .null, .null])), (q1, .inl (dA 2, 480, .inl (fun _ => 0))), (q2, .inr (5, [.ref (u3 0), .ref (u3 1), .ref (u3 2), .ref (u3 3), .ref (u3 4), .int 0, .int (-1)])), (q6, .inr (9, [.ref (u7 0), .ref (u7 1), .ref (u7 2), .int 0, .ref q2])), (u7 0, .inl (dA 0, 481, .inl (fun _ => 0))), (u7 1, .inl (dA 0, 481, .inl (fun _ => 0))), (u7 2, .inl (dA 0, 481, .inl (fun _ => 0))), (q10, .inr (0, [.ref (u11 0), .ref (u11 1), .ref (u11 2), .ref (u11 3), .ref (u11 4), .ref (u11 5), .ref (u11 6), .int 0])), (q14, .inr (8, [.ref q6, .ref q10, .ref (u15 0), .ref (u15 1), .int 0, .int 0])), (q18, .inr (2, [.ref q10, .ref q2, .ref (u19 0), .ref (u19 1), .int 0, .int (-1)])), (u19 1, .inl (dA 0, 60, .inl (fun _ => 0))), (q22, .inl (dA 4, 3, .inr (.inr (.inr (.inr (fun _ => none)))))), (q23, .inr (6, [.int 0, .int 0, .null, .null, .null, .null, .null, .int 0, .null, .null, .null, .null, .null, .int 0, .null, .null, .null]))] H := hP
  have hD : va_D A [(h0, .inr (10, [.ref q1, .int 0, .int (-1), .int (-1), .ref q2, .ref q6, .ref q14, .ref q18, .ref q22, .null, .null, .null])), (q1, .inl (dA 2, 480, .inl (fun _ => 0))), (q2, .inr (5, [.ref (u3 0), .ref (u3 1), .ref (u3 2), .ref (u3 3), .ref (u3 4), .int 0, .int (-1)])), (q6, .inr (9, [.ref (u7 0), .ref (u7 1), .ref (u7 2), .int 0, .ref q2])), (u7 0, .inl (dA 0, 481, .inl (fun _ => 0))), (u7 1, .inl (dA 0, 481, .inl (fun _ => 0))), (u7 2, .inl (dA 0, 481, .inl (fun _ => 0))), (q10, .inr (0, [.ref (u11 0), .ref (u11 1), .ref (u11 2), .ref (u11 3), .ref (u11 4), .ref (u11 5), .ref (u11 6), .int 0])), (q14, .inr (8, [.ref q6, .ref q10, .ref (u15 0), .ref (u15 1), .int 0, .int 0])), (q18, .inr (2, [.ref q10, .ref q2, .ref (u19 0), .ref (u19 1), .int 0, .int (-1)])), (u19 1, .inl (dA 0, 60, .inl (fun _ => 0))), (q22, .inl (dA 4, 3, .inr (.inr (.inr (.inr (fun _ => none)))))), (q23, .inr (6, [.int 0, .int 0, .null, .null, .null, .null, .null, .int 0, .null, .null, .null, .null, .null, .int 0, .null, .null, .null]))] := hD
  refine lv_dup hx hb dX10_init_117 rfl ?_
  refine g_Iv (n := 0) (As := []) (rest := [.ref q23, .int 0, .ref q22]) (wr := [(h0, .inr (10, [.ref q1, .int 0, .int (-1), .int (-1), .ref q2, .ref q6, .ref q14, .ref q18, .ref q22, .null, .null, .null])), (q1, .inl (dA 2, 480, .inl (fun _ => 0))), (q2, .inr (5, [.ref (u3 0), .ref (u3 1), .ref (u3 2), .ref (u3 3), .ref (u3 4), .int 0, .int (-1)])), (q6, .inr (9, [.ref (u7 0), .ref (u7 1), .ref (u7 2), .int 0, .ref q2])), (u7 0, .inl (dA 0, 481, .inl (fun _ => 0))), (u7 1, .inl (dA 0, 481, .inl (fun _ => 0))), (u7 2, .inl (dA 0, 481, .inl (fun _ => 0))), (q10, .inr (0, [.ref (u11 0), .ref (u11 1), .ref (u11 2), .ref (u11 3), .ref (u11 4), .ref (u11 5), .ref (u11 6), .int 0])), (q14, .inr (8, [.ref q6, .ref q10, .ref (u15 0), .ref (u15 1), .int 0, .int 0])), (q18, .inr (2, [.ref q10, .ref q2, .ref (u19 0), .ref (u19 1), .int 0, .int (-1)])), (u19 1, .inl (dA 0, 60, .inl (fun _ => 0))), (q22, .inl (dA 4, 3, .inr (.inr (.inr (.inr (fun _ => none))))))]) hx hb hml hg hown hK hP hD hS hA (c_X6_init l D dA q23 _) [12] [0, 1, 2, 3, 4, 5, 6, 7, 8, 9, 10, 11] rfl (by decide) rfl (by decide) (by decide) q395 q156 q393 q394 rfl (by decide +kernel) ⟨(Nat.le_of_ble_eq_true rfl), (Nat.le_of_ble_eq_true rfl)⟩ rfl hl.1 rfl (Nat.le_of_ble_eq_true rfl) dX10_init_118 ⟨(Nat.le_of_ble_eq_true rfl), (Nat.le_of_ble_eq_true rfl)⟩ (fun u24 H locs w26 hP hD hS => ?_)
  refine W.widen (k := 40) (n := 6615) (Nat.le_of_ble_eq_true rfl) (Nat.le_of_ble_eq_true rfl) ?_
  have hP : va_P D vwC [(h0, .inr (10, [.ref q1, .int 0, .int (-1), .int (-1), .ref q2, .ref q6, .ref q14, .ref q18, .ref q22, .null, .null, .null])), (q1, .inl (dA 2, 480, .inl (fun _ => 0))), (q2, .inr (5, [.ref (u3 0), .ref (u3 1), .ref (u3 2), .ref (u3 3), .ref (u3 4), .int 0, .int (-1)])), (q6, .inr (9, [.ref (u7 0), .ref (u7 1), .ref (u7 2), .int 0, .ref q2])), (u7 0, .inl (dA 0, 481, .inl (fun _ => 0))), (u7 1, .inl (dA 0, 481, .inl (fun _ => 0))), (u7 2, .inl (dA 0, 481, .inl (fun _ => 0))), (q10, .inr (0, [.ref (u11 0), .ref (u11 1), .ref (u11 2), .ref (u11 3), .ref (u11 4), .ref (u11 5), .ref (u11 6), .int 0])), (q14, .inr (8, [.ref q6, .ref q10, .ref (u15 0), .ref (u15 1), .int 0, .int 0])), (q18, .inr (2, [.ref q10, .ref q2, .ref (u19 0), .ref (u19 1), .int 0, .int (-1)])), (u19 1, .inl (dA 0, 60, .inl (fun _ => 0))), (q22, .inl (dA 4, 3, .inr (.inr (.inr (.inr (fun _ => none)))))), (q23, .inr (6, [.int 0, .int 0, .ref (u24 0), .ref (u24 1), .ref (u24 2), .ref (u24 3), .ref (u24 4), .int 0, .ref (u24 5), .ref (u24 6), .ref (u24 7), .ref (u24 8), .ref (u24 9), .int 0, .ref (u24 10), .ref (u24 11), .ref (u24 12)])), (u24 4, .inl (dA 0, 400, .inl (fun _ => 0)))] H := hP
  have hD : va_D A [(h0, .inr (10, [.ref q1, .int 0, .int (-1), .int (-1), .ref q2, .ref q6, .ref q14, .ref q18, .ref q22, .null, .null, .null])), (q1, .inl (dA 2, 480, .inl (fun _ => 0))), (q2, .inr (5, [.ref (u3 0), .ref (u3 1), .ref (u3 2), .ref (u3 3), .ref (u3 4), .int 0, .int (-1)])), (q6, .inr (9, [.ref (u7 0), .ref (u7 1), .ref (u7 2), .int 0, .ref q2])), (u7 0, .inl (dA 0, 481, .inl (fun _ => 0))), (u7 1, .inl (dA 0, 481, .inl (fun _ => 0))), (u7 2, .inl (dA 0, 481, .inl (fun _ => 0))), (q10, .inr (0, [.ref (u11 0), .ref (u11 1), .ref (u11 2), .ref (u11 3), .ref (u11 4), .ref (u11 5), .ref (u11 6), .int 0])), (q14, .inr (8, [.ref q6, .ref q10, .ref (u15 0), .ref (u15 1), .int 0, .int 0])), (q18, .inr (2, [.ref q10, .ref q2, .ref (u19 0), .ref (u19 1), .int 0, .int (-1)])), (u19 1, .inl (dA 0, 60, .inl (fun _ => 0))), (q22, .inl (dA 4, 3, .inr (.inr (.inr (.inr (fun _ => none)))))), (q23, .inr (6, [.int 0, .int 0, .ref (u24 0), .ref (u24 1), .ref (u24 2), .ref (u24 3), .ref (u24 4), .int 0, .ref (u24 5), .ref (u24 6), .ref (u24 7), .ref (u24 8), .ref (u24 9), .int 0, .ref (u24 10), .ref (u24 11), .ref (u24 12)])), (u24 4, .inl (dA 0, 400, .inl (fun _ => 0)))] := hD
  refine va_astq hx hb hK hP hD hS 11 4 12 6 rfl rfl rfl rfl (by unfold vp_in; decide) dX10_init_121 (fun H locs hP hD hS => ?_)
  have hP : va_P D vwC [(h0, .inr (10, [.ref q1, .int 0, .int (-1), .int (-1), .ref q2, .ref q6, .ref q14, .ref q18, .ref q22, .null, .null, .null])), (q1, .inl (dA 2, 480, .inl (fun _ => 0))), (q2, .inr (5, [.ref (u3 0), .ref (u3 1), .ref (u3 2), .ref (u3 3), .ref (u3 4), .int 0, .int (-1)])), (q6, .inr (9, [.ref (u7 0), .ref (u7 1), .ref (u7 2), .int 0, .ref q2])), (u7 0, .inl (dA 0, 481, .inl (fun _ => 0))), (u7 1, .inl (dA 0, 481, .inl (fun _ => 0))), (u7 2, .inl (dA 0, 481, .inl (fun _ => 0))), (q10, .inr (0, [.ref (u11 0), .ref (u11 1), .ref (u11 2), .ref (u11 3), .ref (u11 4), .ref (u11 5), .ref (u11 6), .int 0])), (q14, .inr (8, [.ref q6, .ref q10, .ref (u15 0), .ref (u15 1), .int 0, .int 0])), (q18, .inr (2, [.ref q10, .ref q2, .ref (u19 0), .ref (u19 1), .int 0, .int (-1)])), (u19 1, .inl (dA 0, 60, .inl (fun _ => 0))), (q22, .inl (dA 4, 3, .inr (.inr (.inr (.inr (va_up (fun _ => none) (0 : Int32).toNatClampNeg (some q23))))))), (q23, .inr (6, [.int 0, .int 0, .ref (u24 0), .ref (u24 1), .ref (u24 2), .ref (u24 3), .ref (u24 4), .int 0, .ref (u24 5), .ref (u24 6), .ref (u24 7), .ref (u24 8), .ref (u24 9), .int 0, .ref (u24 10), .ref (u24 11), .ref (u24 12)])), (u24 4, .inl (dA 0, 400, .inl (fun _ => 0)))] H := hP
  have hD : va_D A [(h0, .inr (10, [.ref q1, .int 0, .int (-1), .int (-1), .ref q2, .ref q6, .ref q14, .ref q18, .ref q22, .null, .null, .null])), (q1, .inl (dA 2, 480, .inl (fun _ => 0))), (q2, .inr (5, [.ref (u3 0), .ref (u3 1), .ref (u3 2), .ref (u3 3), .ref (u3 4), .int 0, .int (-1)])), (q6, .inr (9, [.ref (u7 0), .ref (u7 1), .ref (u7 2), .int 0, .ref q2])), (u7 0, .inl (dA 0, 481, .inl (fun _ => 0))), (u7 1, .inl (dA 0, 481, .inl (fun _ => 0))), (u7 2, .inl (dA 0, 481, .inl (fun _ => 0))), (q10, .inr (0, [.ref (u11 0), .ref (u11 1), .ref (u11 2), .ref (u11 3), .ref (u11 4), .ref (u11 5), .ref (u11 6), .int 0])), (q14, .inr (8, [.ref q6, .ref q10, .ref (u15 0), .ref (u15 1), .int 0, .int 0])), (q18, .inr (2, [.ref q10, .ref q2, .ref (u19 0), .ref (u19 1), .int 0, .int (-1)])), (u19 1, .inl (dA 0, 60, .inl (fun _ => 0))), (q22, .inl (dA 4, 3, .inr (.inr (.inr (.inr (va_up (fun _ => none) (0 : Int32).toNatClampNeg (some q23))))))), (q23, .inr (6, [.int 0, .int 0, .ref (u24 0), .ref (u24 1), .ref (u24 2), .ref (u24 3), .ref (u24 4), .int 0, .ref (u24 5), .ref (u24 6), .ref (u24 7), .ref (u24 8), .ref (u24 9), .int 0, .ref (u24 10), .ref (u24 11), .ref (u24 12)])), (u24 4, .inl (dA 0, 400, .inl (fun _ => 0)))] := hD
  refine lv_iinc (v := 1) (lv' := [(2, .int 1), (1, .ref q10), (0, .ref h0)]) hx hb dX10_init_122 hl (k := 0) rfl (by decide) (by decide) rfl (fun ls hl => ?_)
  refine lv_goto (tgt := 104) hx hb dX10_init_125 (by decide) ?_
  refine lv_iload_n hx hb dX10_init_104 rfl (lv_at hl 0 rfl) ?_
  refine lv_iconst (v := 3) hx hb dX10_init_105 (by decide) ?_
  refine lv_icmp_ge (tgt := 128) hx hb dX10_init_106 (by decide) (fun h => absurd h (by decide)) (fun _ => ?_)
  refine lv_aload_n hx hb dX10_init_109 rfl (lv_at hl 2 rfl) ?_
  refine g_get hx hb hg hown hK hP 0 rfl rfl inX10 8 (by decide) q614 rfl dX10_init_110 ?_
  refine lv_iload_n hx hb dX10_init_113 rfl (lv_at hl 0 rfl) ?_
  refine g_new (fs := f0X6) hx hb hg 6 rfl inX6 tyX6_ok hown q390 q392 q156 hK hP hD hS hA dfX6 (Nat.le_of_ble_eq_true rfl) (Nat.le_of_ble_eq_true rfl) dX10_init_114 (fun q27 H hP hD hS => ?_)
  refine W.widen (k := 41) (n := 6632) (Nat.le_of_ble_eq_true rfl) (Nat.le_of_ble_eq_true rfl) ?_
  have hP : va_P D vwC [(h0, .inr (10, [.ref q1, .int 0, .int (-1), .int (-1), .ref q2, .ref q6, .ref q14, .ref q18, .ref q22, .null, .null, .null])), (q1, .inl (dA 2, 480, .inl (fun _ => 0))), (q2, .inr (5, [.ref (u3 0), .ref (u3 1), .ref (u3 2), .ref (u3 3), .ref (u3 4), .int 0, .int (-1)])), (q6, .inr (9, [.ref (u7 0), .ref (u7 1), .ref (u7 2), .int 0, .ref q2])), (u7 0, .inl (dA 0, 481, .inl (fun _ => 0))), (u7 1, .inl (dA 0, 481, .inl (fun _ => 0))), (u7 2, .inl (dA 0, 481, .inl (fun _ => 0))), (q10, .inr (0, [.ref (u11 0), .ref (u11 1), .ref (u11 2), .ref (u11 3), .ref (u11 4), .ref (u11 5), .ref (u11 6), .int 0])), (q14, .inr (8, [.ref q6, .ref q10, .ref (u15 0), .ref (u15 1), .int 0, .int 0])), (q18, .inr (2, [.ref q10, .ref q2, .ref (u19 0), .ref (u19 1), .int 0, .int (-1)])), (u19 1, .inl (dA 0, 60, .inl (fun _ => 0))), (q22, .inl (dA 4, 3, .inr (.inr (.inr (.inr (va_up (fun _ => none) (0 : Int32).toNatClampNeg (some q23))))))), (q23, .inr (6, [.int 0, .int 0, .ref (u24 0), .ref (u24 1), .ref (u24 2), .ref (u24 3), .ref (u24 4), .int 0, .ref (u24 5), .ref (u24 6), .ref (u24 7), .ref (u24 8), .ref (u24 9), .int 0, .ref (u24 10), .ref (u24 11), .ref (u24 12)])), (u24 4, .inl (dA 0, 400, .inl (fun _ => 0))), (q27, .inr (6, [.int 0, .int 0, .null, .null, .null, .null, .null, .int 0, .null, .null, .null, .null, .null, .int 0, .null, .null, .null]))] H := hP
  have hD : va_D A [(h0, .inr (10, [.ref q1, .int 0, .int (-1), .int (-1), .ref q2, .ref q6, .ref q14, .ref q18, .ref q22, .null, .null, .null])), (q1, .inl (dA 2, 480, .inl (fun _ => 0))), (q2, .inr (5, [.ref (u3 0), .ref (u3 1), .ref (u3 2), .ref (u3 3), .ref (u3 4), .int 0, .int (-1)])), (q6, .inr (9, [.ref (u7 0), .ref (u7 1), .ref (u7 2), .int 0, .ref q2])), (u7 0, .inl (dA 0, 481, .inl (fun _ => 0))), (u7 1, .inl (dA 0, 481, .inl (fun _ => 0))), (u7 2, .inl (dA 0, 481, .inl (fun _ => 0))), (q10, .inr (0, [.ref (u11 0), .ref (u11 1), .ref (u11 2), .ref (u11 3), .ref (u11 4), .ref (u11 5), .ref (u11 6), .int 0])), (q14, .inr (8, [.ref q6, .ref q10, .ref (u15 0), .ref (u15 1), .int 0, .int 0])), (q18, .inr (2, [.ref q10, .ref q2, .ref (u19 0), .ref (u19 1), .int 0, .int (-1)])), (u19 1, .inl (dA 0, 60, .inl (fun _ => 0))), (q22, .inl (dA 4, 3, .inr (.inr (.inr (.inr (va_up (fun _ => none) (0 : Int32).toNatClampNeg (some q23))))))), (q23, .inr (6, [.int 0, .int 0, .ref (u24 0), .ref (u24 1), .ref (u24 2), .ref (u24 3), .ref (u24 4), .int 0, .ref (u24 5), .ref (u24 6), .ref (u24 7), .ref (u24 8), .ref (u24 9), .int 0, .ref (u24 10), .ref (u24 11), .ref (u24 12)])), (u24 4, .inl (dA 0, 400, .inl (fun _ => 0))), (q27, .inr (6, [.int 0, .int 0, .null, .null, .null, .null, .null, .int 0, .null, .null, .null, .null, .null, .int 0, .null, .null, .null]))] := hD
  refine lv_dup hx hb dX10_init_117 rfl ?_
  refine g_Iv (n := 0) (As := []) (rest := [.ref q27, .int 1, .ref q22]) (wr := [(h0, .inr (10, [.ref q1, .int 0, .int (-1), .int (-1), .ref q2, .ref q6, .ref q14, .ref q18, .ref q22, .null, .null, .null])), (q1, .inl (dA 2, 480, .inl (fun _ => 0))), (q2, .inr (5, [.ref (u3 0), .ref (u3 1), .ref (u3 2), .ref (u3 3), .ref (u3 4), .int 0, .int (-1)])), (q6, .inr (9, [.ref (u7 0), .ref (u7 1), .ref (u7 2), .int 0, .ref q2])), (u7 0, .inl (dA 0, 481, .inl (fun _ => 0))), (u7 1, .inl (dA 0, 481, .inl (fun _ => 0))), (u7 2, .inl (dA 0, 481, .inl (fun _ => 0))), (q10, .inr (0, [.ref (u11 0), .ref (u11 1), .ref (u11 2), .ref (u11 3), .ref (u11 4), .ref (u11 5), .ref (u11 6), .int 0])), (q14, .inr (8, [.ref q6, .ref q10, .ref (u15 0), .ref (u15 1), .int 0, .int 0])), (q18, .inr (2, [.ref q10, .ref q2, .ref (u19 0), .ref (u19 1), .int 0, .int (-1)])), (u19 1, .inl (dA 0, 60, .inl (fun _ => 0))), (q22, .inl (dA 4, 3, .inr (.inr (.inr (.inr (va_up (fun _ => none) (0 : Int32).toNatClampNeg (some q23))))))), (q23, .inr (6, [.int 0, .int 0, .ref (u24 0), .ref (u24 1), .ref (u24 2), .ref (u24 3), .ref (u24 4), .int 0, .ref (u24 5), .ref (u24 6), .ref (u24 7), .ref (u24 8), .ref (u24 9), .int 0, .ref (u24 10), .ref (u24 11), .ref (u24 12)])), (u24 4, .inl (dA 0, 400, .inl (fun _ => 0)))]) hx hb hml hg hown hK hP hD hS hA (c_X6_init l D dA q27 _) [14] [0, 1, 2, 3, 4, 5, 6, 7, 8, 9, 10, 11, 12, 13] rfl (by decide) rfl (by decide) (by decide) q395 q156 q393 q394 rfl (by decide +kernel) ⟨(Nat.le_of_ble_eq_true rfl), (Nat.le_of_ble_eq_true rfl)⟩ rfl hl.1 rfl (Nat.le_of_ble_eq_true rfl) dX10_init_118 ⟨(Nat.le_of_ble_eq_true rfl), (Nat.le_of_ble_eq_true rfl)⟩ (fun u28 H locs w30 hP hD hS => ?_)
  refine W.widen (k := 54) (n := 8200) (Nat.le_of_ble_eq_true rfl) (Nat.le_of_ble_eq_true rfl) ?_
  have hP : va_P D vwC [(h0, .inr (10, [.ref q1, .int 0, .int (-1), .int (-1), .ref q2, .ref q6, .ref q14, .ref q18, .ref q22, .null, .null, .null])), (q1, .inl (dA 2, 480, .inl (fun _ => 0))), (q2, .inr (5, [.ref (u3 0), .ref (u3 1), .ref (u3 2), .ref (u3 3), .ref (u3 4), .int 0, .int (-1)])), (q6, .inr (9, [.ref (u7 0), .ref (u7 1), .ref (u7 2), .int 0, .ref q2])), (u7 0, .inl (dA 0, 481, .inl (fun _ => 0))), (u7 1, .inl (dA 0, 481, .inl (fun _ => 0))), (u7 2, .inl (dA 0, 481, .inl (fun _ => 0))), (q10, .inr (0, [.ref (u11 0), .ref (u11 1), .ref (u11 2), .ref (u11 3), .ref (u11 4), .ref (u11 5), .ref (u11 6), .int 0])), (q14, .inr (8, [.ref q6, .ref q10, .ref (u15 0), .ref (u15 1), .int 0, .int 0])), (q18, .inr (2, [.ref q10, .ref q2, .ref (u19 0), .ref (u19 1), .int 0, .int (-1)])), (u19 1, .inl (dA 0, 60, .inl (fun _ => 0))), (q22, .inl (dA 4, 3, .inr (.inr (.inr (.inr (va_up (fun _ => none) (0 : Int32).toNatClampNeg (some q23))))))), (q23, .inr (6, [.int 0, .int 0, .ref (u24 0), .ref (u24 1), .ref (u24 2), .ref (u24 3), .ref (u24 4), .int 0, .ref (u24 5), .ref (u24 6), .ref (u24 7), .ref (u24 8), .ref (u24 9), .int 0, .ref (u24 10), .ref (u24 11), .ref (u24 12)])), (u24 4, .inl (dA 0, 400, .inl (fun _ => 0))), (q27, .inr (6, [.int 0, .int 0, .ref (u28 0), .ref (u28 1), .ref (u28 2), .ref (u28 3), .ref (u28 4), .int 0, .ref (u28 5), .ref (u28 6), .ref (u28 7), .ref (u28 8), .ref (u28 9), .int 0, .ref (u28 10), .ref (u28 11), .ref (u28 12)])), (u28 4, .inl (dA 0, 400, .inl (fun _ => 0)))] H := hP
  have hD : va_D A [(h0, .inr (10, [.ref q1, .int 0, .int (-1), .int (-1), .ref q2, .ref q6, .ref q14, .ref q18, .ref q22, .null, .null, .null])), (q1, .inl (dA 2, 480, .inl (fun _ => 0))), (q2, .inr (5, [.ref (u3 0), .ref (u3 1), .ref (u3 2), .ref (u3 3), .ref (u3 4), .int 0, .int (-1)])), (q6, .inr (9, [.ref (u7 0), .ref (u7 1), .ref (u7 2), .int 0, .ref q2])), (u7 0, .inl (dA 0, 481, .inl (fun _ => 0))), (u7 1, .inl (dA 0, 481, .inl (fun _ => 0))), (u7 2, .inl (dA 0, 481, .inl (fun _ => 0))), (q10, .inr (0, [.ref (u11 0), .ref (u11 1), .ref (u11 2), .ref (u11 3), .ref (u11 4), .ref (u11 5), .ref (u11 6), .int 0])), (q14, .inr (8, [.ref q6, .ref q10, .ref (u15 0), .ref (u15 1), .int 0, .int 0])), (q18, .inr (2, [.ref q10, .ref q2, .ref (u19 0), .ref (u19 1), .int 0, .int (-1)])), (u19 1, .inl (dA 0, 60, .inl (fun _ => 0))), (q22, .inl (dA 4, 3, .inr (.inr (.inr (.inr (va_up (fun _ => none) (0 : Int32).toNatClampNeg (some q23))))))), (q23, .inr (6, [.int 0, .int 0, .ref (u24 0), .ref (u24 1), .ref (u24 2), .ref (u24 3), .ref (u24 4), .int 0, .ref (u24 5), .ref (u24 6), .ref (u24 7), .ref (u24 8), .ref (u24 9), .int 0, .ref (u24 10), .ref (u24 11), .ref (u24 12)])), (u24 4, .inl (dA 0, 400, .inl (fun _ => 0))), (q27, .inr (6, [.int 0, .int 0, .ref (u28 0), .ref (u28 1), .ref (u28 2), .ref (u28 3), .ref (u28 4), .int 0, .ref (u28 5), .ref (u28 6), .ref (u28 7), .ref (u28 8), .ref (u28 9), .int 0, .ref (u28 10), .ref (u28 11), .ref (u28 12)])), (u28 4, .inl (dA 0, 400, .inl (fun _ => 0)))] := hD
  refine va_astq hx hb hK hP hD hS 11 4 14 6 rfl rfl rfl rfl (by unfold vp_in; decide) dX10_init_121 (fun H locs hP hD hS => ?_)
  have hP : va_P D vwC [(h0, .inr (10, [.ref q1, .int 0, .int (-1), .int (-1), .ref q2, .ref q6, .ref q14, .ref q18, .ref q22, .null, .null, .null])), (q1, .inl (dA 2, 480, .inl (fun _ => 0))), (q2, .inr (5, [.ref (u3 0), .ref (u3 1), .ref (u3 2), .ref (u3 3), .ref (u3 4), .int 0, .int (-1)])), (q6, .inr (9, [.ref (u7 0), .ref (u7 1), .ref (u7 2), .int 0, .ref q2])), (u7 0, .inl (dA 0, 481, .inl (fun _ => 0))), (u7 1, .inl (dA 0, 481, .inl (fun _ => 0))), (u7 2, .inl (dA 0, 481, .inl (fun _ => 0))), (q10, .inr (0, [.ref (u11 0), .ref (u11 1), .ref (u11 2), .ref (u11 3), .ref (u11 4), .ref (u11 5), .ref (u11 6), .int 0])), (q14, .inr (8, [.ref q6, .ref q10, .ref (u15 0), .ref (u15 1), .int 0, .int 0])), (q18, .inr (2, [.ref q10, .ref q2, .ref (u19 0), .ref (u19 1), .int 0, .int (-1)])), (u19 1, .inl (dA 0, 60, .inl (fun _ => 0))), (q22, .inl (dA 4, 3, .inr (.inr (.inr (.inr (va_up (va_up (fun _ => none) (0 : Int32).toNatClampNeg (some q23)) (1 : Int32).toNatClampNeg (some q27))))))), (q23, .inr (6, [.int 0, .int 0, .ref (u24 0), .ref (u24 1), .ref (u24 2), .ref (u24 3), .ref (u24 4), .int 0, .ref (u24 5), .ref (u24 6), .ref (u24 7), .ref (u24 8), .ref (u24 9), .int 0, .ref (u24 10), .ref (u24 11), .ref (u24 12)])), (u24 4, .inl (dA 0, 400, .inl (fun _ => 0))), (q27, .inr (6, [.int 0, .int 0, .ref (u28 0), .ref (u28 1), .ref (u28 2), .ref (u28 3), .ref (u28 4), .int 0, .ref (u28 5), .ref (u28 6), .ref (u28 7), .ref (u28 8), .ref (u28 9), .int 0, .ref (u28 10), .ref (u28 11), .ref (u28 12)])), (u28 4, .inl (dA 0, 400, .inl (fun _ => 0)))] H := hP
  have hD : va_D A [(h0, .inr (10, [.ref q1, .int 0, .int (-1), .int (-1), .ref q2, .ref q6, .ref q14, .ref q18, .ref q22, .null, .null, .null])), (q1, .inl (dA 2, 480, .inl (fun _ => 0))), (q2, .inr (5, [.ref (u3 0), .ref (u3 1), .ref (u3 2), .ref (u3 3), .ref (u3 4), .int 0, .int (-1)])), (q6, .inr (9, [.ref (u7 0), .ref (u7 1), .ref (u7 2), .int 0, .ref q2])), (u7 0, .inl (dA 0, 481, .inl (fun _ => 0))), (u7 1, .inl (dA 0, 481, .inl (fun _ => 0))), (u7 2, .inl (dA 0, 481, .inl (fun _ => 0))), (q10, .inr (0, [.ref (u11 0), .ref (u11 1), .ref (u11 2), .ref (u11 3), .ref (u11 4), .ref (u11 5), .ref (u11 6), .int 0])), (q14, .inr (8, [.ref q6, .ref q10, .ref (u15 0), .ref (u15 1), .int 0, .int 0])), (q18, .inr (2, [.ref q10, .ref q2, .ref (u19 0), .ref (u19 1), .int 0, .int (-1)])), (u19 1, .inl (dA 0, 60, .inl (fun _ => 0))), (q22, .inl (dA 4, 3, .inr (.inr (.inr (.inr (va_up (va_up (fun _ => none) (0 : Int32).toNatClampNeg (some q23)) (1 : Int32).toNatClampNeg (some q27))))))), (q23, .inr (6, [.int 0, .int 0, .ref (u24 0), .ref (u24 1), .ref (u24 2), .ref (u24 3), .ref (u24 4), .int 0, .ref (u24 5), .ref (u24 6), .ref (u24 7), .ref (u24 8), .ref (u24 9), .int 0, .ref (u24 10), .ref (u24 11), .ref (u24 12)])), (u24 4, .inl (dA 0, 400, .inl (fun _ => 0))), (q27, .inr (6, [.int 0, .int 0, .ref (u28 0), .ref (u28 1), .ref (u28 2), .ref (u28 3), .ref (u28 4), .int 0, .ref (u28 5), .ref (u28 6), .ref (u28 7), .ref (u28 8), .ref (u28 9), .int 0, .ref (u28 10), .ref (u28 11), .ref (u28 12)])), (u28 4, .inl (dA 0, 400, .inl (fun _ => 0)))] := hD
  refine lv_iinc (v := 2) (lv' := [(2, .int 2), (1, .ref q10), (0, .ref h0)]) hx hb dX10_init_122 hl (k := 0) rfl (by decide) (by decide) rfl (fun ls hl => ?_)
  refine lv_goto (tgt := 104) hx hb dX10_init_125 (by decide) ?_
  refine lv_iload_n hx hb dX10_init_104 rfl (lv_at hl 0 rfl) ?_
  refine lv_iconst (v := 3) hx hb dX10_init_105 (by decide) ?_
  refine lv_icmp_ge (tgt := 128) hx hb dX10_init_106 (by decide) (fun h => absurd h (by decide)) (fun _ => ?_)
  refine lv_aload_n hx hb dX10_init_109 rfl (lv_at hl 2 rfl) ?_
  refine g_get hx hb hg hown hK hP 0 rfl rfl inX10 8 (by decide) q614 rfl dX10_init_110 ?_
  refine lv_iload_n hx hb dX10_init_113 rfl (lv_at hl 0 rfl) ?_
  refine g_new (fs := f0X6) hx hb hg 6 rfl inX6 tyX6_ok hown q390 q392 q156 hK hP hD hS hA dfX6 (Nat.le_of_ble_eq_true rfl) (Nat.le_of_ble_eq_true rfl) dX10_init_114 (fun q31 H hP hD hS => ?_)
  refine W.widen (k := 55) (n := 8217) (Nat.le_of_ble_eq_true rfl) (Nat.le_of_ble_eq_true rfl) ?_
  have hP : va_P D vwC [(h0, .inr (10, [.ref q1, .int 0, .int (-1), .int (-1), .ref q2, .ref q6, .ref q14, .ref q18, .ref q22, .null, .null, .null])), (q1, .inl (dA 2, 480, .inl (fun _ => 0))), (q2, .inr (5, [.ref (u3 0), .ref (u3 1), .ref (u3 2), .ref (u3 3), .ref (u3 4), .int 0, .int (-1)])), (q6, .inr (9, [.ref (u7 0), .ref (u7 1), .ref (u7 2), .int 0, .ref q2])), (u7 0, .inl (dA 0, 481, .inl (fun _ => 0))), (u7 1, .inl (dA 0, 481, .inl (fun _ => 0))), (u7 2, .inl (dA 0, 481, .inl (fun _ => 0))), (q10, .inr (0, [.ref (u11 0), .ref (u11 1), .ref (u11 2), .ref (u11 3), .ref (u11 4), .ref (u11 5), .ref (u11 6), .int 0])), (q14, .inr (8, [.ref q6, .ref q10, .ref (u15 0), .ref (u15 1), .int 0, .int 0])), (q18, .inr (2, [.ref q10, .ref q2, .ref (u19 0), .ref (u19 1), .int 0, .int (-1)])), (u19 1, .inl (dA 0, 60, .inl (fun _ => 0))), (q22, .inl (dA 4, 3, .inr (.inr (.inr (.inr (va_up (va_up (fun _ => none) (0 : Int32).toNatClampNeg (some q23)) (1 : Int32).toNatClampNeg (some q27))))))), (q23, .inr (6, [.int 0, .int 0, .ref (u24 0), .ref (u24 1), .ref (u24 2), .ref (u24 3), .ref (u24 4), .int 0, .ref (u24 5), .ref (u24 6), .ref (u24 7), .ref (u24 8), .ref (u24 9), .int 0, .ref (u24 10), .ref (u24 11), .ref (u24 12)])), (u24 4, .inl (dA 0, 400, .inl (fun _ => 0))), (q27, .inr (6, [.int 0, .int 0, .ref (u28 0), .ref (u28 1), .ref (u28 2), .ref (u28 3), .ref (u28 4), .int 0, .ref (u28 5), .ref (u28 6), .ref (u28 7), .ref (u28 8), .ref (u28 9), .int 0, .ref (u28 10), .ref (u28 11), .ref (u28 12)])), (u28 4, .inl (dA 0, 400, .inl (fun _ => 0))), (q31, .inr (6, [.int 0, .int 0, .null, .null, .null, .null, .null, .int 0, .null, .null, .null, .null, .null, .int 0, .null, .null, .null]))] H := hP
  have hD : va_D A [(h0, .inr (10, [.ref q1, .int 0, .int (-1), .int (-1), .ref q2, .ref q6, .ref q14, .ref q18, .ref q22, .null, .null, .null])), (q1, .inl (dA 2, 480, .inl (fun _ => 0))), (q2, .inr (5, [.ref (u3 0), .ref (u3 1), .ref (u3 2), .ref (u3 3), .ref (u3 4), .int 0, .int (-1)])), (q6, .inr (9, [.ref (u7 0), .ref (u7 1), .ref (u7 2), .int 0, .ref q2])), (u7 0, .inl (dA 0, 481, .inl (fun _ => 0))), (u7 1, .inl (dA 0, 481, .inl (fun _ => 0))), (u7 2, .inl (dA 0, 481, .inl (fun _ => 0))), (q10, .inr (0, [.ref (u11 0), .ref (u11 1), .ref (u11 2), .ref (u11 3), .ref (u11 4), .ref (u11 5), .ref (u11 6), .int 0])), (q14, .inr (8, [.ref q6, .ref q10, .ref (u15 0), .ref (u15 1), .int 0, .int 0])), (q18, .inr (2, [.ref q10, .ref q2, .ref (u19 0), .ref (u19 1), .int 0, .int (-1)])), (u19 1, .inl (dA 0, 60, .inl (fun _ => 0))), (q22, .inl (dA 4, 3, .inr (.inr (.inr (.inr (va_up (va_up (fun _ => none) (0 : Int32).toNatClampNeg (some q23)) (1 : Int32).toNatClampNeg (some q27))))))), (q23, .inr (6, [.int 0, .int 0, .ref (u24 0), .ref (u24 1), .ref (u24 2), .ref (u24 3), .ref (u24 4), .int 0, .ref (u24 5), .ref (u24 6), .ref (u24 7), .ref (u24 8), .ref (u24 9), .int 0, .ref (u24 10), .ref (u24 11), .ref (u24 12)])), (u24 4, .inl (dA 0, 400, .inl (fun _ => 0))), (q27, .inr (6, [.int 0, .int 0, .ref (u28 0), .ref (u28 1), .ref (u28 2), .ref (u28 3), .ref (u28 4), .int 0, .ref (u28 5), .ref (u28 6), .ref (u28 7), .ref (u28 8), .ref (u28 9), .int 0, .ref (u28 10), .ref (u28 11), .ref (u28 12)])), (u28 4, .inl (dA 0, 400, .inl (fun _ => 0))), (q31, .inr (6, [.int 0, .int 0, .null, .null, .null, .null, .null, .int 0, .null, .null, .null, .null, .null, .int 0, .null, .null, .null]))] := hD
  refine lv_dup hx hb dX10_init_117 rfl ?_
  refine g_Iv (n := 0) (As := []) (rest := [.ref q31, .int 2, .ref q22]) (wr := [(h0, .inr (10, [.ref q1, .int 0, .int (-1), .int (-1), .ref q2, .ref q6, .ref q14, .ref q18, .ref q22, .null, .null, .null])), (q1, .inl (dA 2, 480, .inl (fun _ => 0))), (q2, .inr (5, [.ref (u3 0), .ref (u3 1), .ref (u3 2), .ref (u3 3), .ref (u3 4), .int 0, .int (-1)])), (q6, .inr (9, [.ref (u7 0), .ref (u7 1), .ref (u7 2), .int 0, .ref q2])), (u7 0, .inl (dA 0, 481, .inl (fun _ => 0))), (u7 1, .inl (dA 0, 481, .inl (fun _ => 0))), (u7 2, .inl (dA 0, 481, .inl (fun _ => 0))), (q10, .inr (0, [.ref (u11 0), .ref (u11 1), .ref (u11 2), .ref (u11 3), .ref (u11 4), .ref (u11 5), .ref (u11 6), .int 0])), (q14, .inr (8, [.ref q6, .ref q10, .ref (u15 0), .ref (u15 1), .int 0, .int 0])), (q18, .inr (2, [.ref q10, .ref q2, .ref (u19 0), .ref (u19 1), .int 0, .int (-1)])), (u19 1, .inl (dA 0, 60, .inl (fun _ => 0))), (q22, .inl (dA 4, 3, .inr (.inr (.inr (.inr (va_up (va_up (fun _ => none) (0 : Int32).toNatClampNeg (some q23)) (1 : Int32).toNatClampNeg (some q27))))))), (q23, .inr (6, [.int 0, .int 0, .ref (u24 0), .ref (u24 1), .ref (u24 2), .ref (u24 3), .ref (u24 4), .int 0, .ref (u24 5), .ref (u24 6), .ref (u24 7), .ref (u24 8), .ref (u24 9), .int 0, .ref (u24 10), .ref (u24 11), .ref (u24 12)])), (u24 4, .inl (dA 0, 400, .inl (fun _ => 0))), (q27, .inr (6, [.int 0, .int 0, .ref (u28 0), .ref (u28 1), .ref (u28 2), .ref (u28 3), .ref (u28 4), .int 0, .ref (u28 5), .ref (u28 6), .ref (u28 7), .ref (u28 8), .ref (u28 9), .int 0, .ref (u28 10), .ref (u28 11), .ref (u28 12)])), (u28 4, .inl (dA 0, 400, .inl (fun _ => 0)))]) hx hb hml hg hown hK hP hD hS hA (c_X6_init l D dA q31 _) [16] [0, 1, 2, 3, 4, 5, 6, 7, 8, 9, 10, 11, 12, 13, 14, 15] rfl (by decide) rfl (by decide) (by decide) q395 q156 q393 q394 rfl (by decide +kernel) ⟨(Nat.le_of_ble_eq_true rfl), (Nat.le_of_ble_eq_true rfl)⟩ rfl hl.1 rfl (Nat.le_of_ble_eq_true rfl) dX10_init_118 ⟨(Nat.le_of_ble_eq_true rfl), (Nat.le_of_ble_eq_true rfl)⟩ (fun u32 H locs w34 hP hD hS => ?_)
  refine W.widen (k := 68) (n := 9785) (Nat.le_of_ble_eq_true rfl) (Nat.le_of_ble_eq_true rfl) ?_
  have hP : va_P D vwC [(h0, .inr (10, [.ref q1, .int 0, .int (-1), .int (-1), .ref q2, .ref q6, .ref q14, .ref q18, .ref q22, .null, .null, .null])), (q1, .inl (dA 2, 480, .inl (fun _ => 0))), (q2, .inr (5, [.ref (u3 0), .ref (u3 1), .ref (u3 2), .ref (u3 3), .ref (u3 4), .int 0, .int (-1)])), (q6, .inr (9, [.ref (u7 0), .ref (u7 1), .ref (u7 2), .int 0, .ref q2])), (u7 0, .inl (dA 0, 481, .inl (fun _ => 0))), (u7 1, .inl (dA 0, 481, .inl (fun _ => 0))), (u7 2, .inl (dA 0, 481, .inl (fun _ => 0))), (q10, .inr (0, [.ref (u11 0), .ref (u11 1), .ref (u11 2), .ref (u11 3), .ref (u11 4), .ref (u11 5), .ref (u11 6), .int 0])), (q14, .inr (8, [.ref q6, .ref q10, .ref (u15 0), .ref (u15 1), .int 0, .int 0])), (q18, .inr (2, [.ref q10, .ref q2, .ref (u19 0), .ref (u19 1), .int 0, .int (-1)])), (u19 1, .inl (dA 0, 60, .inl (fun _ => 0))), (q22, .inl (dA 4, 3, .inr (.inr (.inr (.inr (va_up (va_up (fun _ => none) (0 : Int32).toNatClampNeg (some q23)) (1 : Int32).toNatClampNeg (some q27))))))), (q23, .inr (6, [.int 0, .int 0, .ref (u24 0), .ref (u24 1), .ref (u24 2), .ref (u24 3), .ref (u24 4), .int 0, .ref (u24 5), .ref (u24 6), .ref (u24 7), .ref (u24 8), .ref (u24 9), .int 0, .ref (u24 10), .ref (u24 11), .ref (u24 12)])), (u24 4, .inl (dA 0, 400, .inl (fun _ => 0))), (q27, .inr (6, [.int 0, .int 0, .ref (u28 0), .ref (u28 1), .ref (u28 2), .ref (u28 3), .ref (u28 4), .int 0, .ref (u28 5), .ref (u28 6), .ref (u28 7), .ref (u28 8), .ref (u28 9), .int 0, .ref (u28 10), .ref (u28 11), .ref (u28 12)])), (u28 4, .inl (dA 0, 400, .inl (fun _ => 0))), (q31, .inr (6, [.int 0, .int 0, .ref (u32 0), .ref (u32 1), .ref (u32 2), .ref (u32 3), .ref (u32 4), .int 0, .ref (u32 5), .ref (u32 6), .ref (u32 7), .ref (u32 8), .ref (u32 9), .int 0, .ref (u32 10), .ref (u32 11), .ref (u32 12)])), (u32 4, .inl (dA 0, 400, .inl (fun _ => 0)))] H := hP
  have hD : va_D A [(h0, .inr (10, [.ref q1, .int 0, .int (-1), .int (-1), .ref q2, .ref q6, .ref q14, .ref q18, .ref q22, .null, .null, .null])), (q1, .inl (dA 2, 480, .inl (fun _ => 0))), (q2, .inr (5, [.ref (u3 0), .ref (u3 1), .ref (u3 2), .ref (u3 3), .ref (u3 4), .int 0, .int (-1)])), (q6, .inr (9, [.ref (u7 0), .ref (u7 1), .ref (u7 2), .int 0, .ref q2])), (u7 0, .inl (dA 0, 481, .inl (fun _ => 0))), (u7 1, .inl (dA 0, 481, .inl (fun _ => 0))), (u7 2, .inl (dA 0, 481, .inl (fun _ => 0))), (q10, .inr (0, [.ref (u11 0), .ref (u11 1), .ref (u11 2), .ref (u11 3), .ref (u11 4), .ref (u11 5), .ref (u11 6), .int 0])), (q14, .inr (8, [.ref q6, .ref q10, .ref (u15 0), .ref (u15 1), .int 0, .int 0])), (q18, .inr (2, [.ref q10, .ref q2, .ref (u19 0), .ref (u19 1), .int 0, .int (-1)])), (u19 1, .inl (dA 0, 60, .inl (fun _ => 0))), (q22, .inl (dA 4, 3, .inr (.inr (.inr (.inr (va_up (va_up (fun _ => none) (0 : Int32).toNatClampNeg (some q23)) (1 : Int32).toNatClampNeg (some q27))))))), (q23, .inr (6, [.int 0, .int 0, .ref (u24 0), .ref (u24 1), .ref (u24 2), .ref (u24 3), .ref (u24 4), .int 0, .ref (u24 5), .ref (u24 6), .ref (u24 7), .ref (u24 8), .ref (u24 9), .int 0, .ref (u24 10), .ref (u24 11), .ref (u24 12)])), (u24 4, .inl (dA 0, 400, .inl (fun _ => 0))), (q27, .inr (6, [.int 0, .int 0, .ref (u28 0), .ref (u28 1), .ref (u28 2), .ref (u28 3), .ref (u28 4), .int 0, .ref (u28 5), .ref (u28 6), .ref (u28 7), .ref (u28 8), .ref (u28 9), .int 0, .ref (u28 10), .ref (u28 11), .ref (u28 12)])), (u28 4, .inl (dA 0, 400, .inl (fun _ => 0))), (q31, .inr (6, [.int 0, .int 0, .ref (u32 0), .ref (u32 1), .ref (u32 2), .ref (u32 3), .ref (u32 4), .int 0, .ref (u32 5), .ref (u32 6), .ref (u32 7), .ref (u32 8), .ref (u32 9), .int 0, .ref (u32 10), .ref (u32 11), .ref (u32 12)])), (u32 4, .inl (dA 0, 400, .inl (fun _ => 0)))] := hD
  refine va_astq hx hb hK hP hD hS 11 4 16 6 rfl rfl rfl rfl (by unfold vp_in; decide) dX10_init_121 (fun H locs hP hD hS => ?_)
  have hP : va_P D vwC [(h0, .inr (10, [.ref q1, .int 0, .int (-1), .int (-1), .ref q2, .ref q6, .ref q14, .ref q18, .ref q22, .null, .null, .null])), (q1, .inl (dA 2, 480, .inl (fun _ => 0))), (q2, .inr (5, [.ref (u3 0), .ref (u3 1), .ref (u3 2), .ref (u3 3), .ref (u3 4), .int 0, .int (-1)])), (q6, .inr (9, [.ref (u7 0), .ref (u7 1), .ref (u7 2), .int 0, .ref q2])), (u7 0, .inl (dA 0, 481, .inl (fun _ => 0))), (u7 1, .inl (dA 0, 481, .inl (fun _ => 0))), (u7 2, .inl (dA 0, 481, .inl (fun _ => 0))), (q10, .inr (0, [.ref (u11 0), .ref (u11 1), .ref (u11 2), .ref (u11 3), .ref (u11 4), .ref (u11 5), .ref (u11 6), .int 0])), (q14, .inr (8, [.ref q6, .ref q10, .ref (u15 0), .ref (u15 1), .int 0, .int 0])), (q18, .inr (2, [.ref q10, .ref q2, .ref (u19 0), .ref (u19 1), .int 0, .int (-1)])), (u19 1, .inl (dA 0, 60, .inl (fun _ => 0))), (q22, .inl (dA 4, 3, .inr (.inr (.inr (.inr (va_up (va_up (va_up (fun _ => none) (0 : Int32).toNatClampNeg (some q23)) (1 : Int32).toNatClampNeg (some q27)) (2 : Int32).toNatClampNeg (some q31))))))), (q23, .inr (6, [.int 0, .int 0, .ref (u24 0), .ref (u24 1), .ref (u24 2), .ref (u24 3), .ref (u24 4), .int 0, .ref (u24 5), .ref (u24 6), .ref (u24 7), .ref (u24 8), .ref (u24 9), .int 0, .ref (u24 10), .ref (u24 11), .ref (u24 12)])), (u24 4, .inl (dA 0, 400, .inl (fun _ => 0))), (q27, .inr (6, [.int 0, .int 0, .ref (u28 0), .ref (u28 1), .ref (u28 2), .ref (u28 3), .ref (u28 4), .int 0, .ref (u28 5), .ref (u28 6), .ref (u28 7), .ref (u28 8), .ref (u28 9), .int 0, .ref (u28 10), .ref (u28 11), .ref (u28 12)])), (u28 4, .inl (dA 0, 400, .inl (fun _ => 0))), (q31, .inr (6, [.int 0, .int 0, .ref (u32 0), .ref (u32 1), .ref (u32 2), .ref (u32 3), .ref (u32 4), .int 0, .ref (u32 5), .ref (u32 6), .ref (u32 7), .ref (u32 8), .ref (u32 9), .int 0, .ref (u32 10), .ref (u32 11), .ref (u32 12)])), (u32 4, .inl (dA 0, 400, .inl (fun _ => 0)))] H := hP
  have hD : va_D A [(h0, .inr (10, [.ref q1, .int 0, .int (-1), .int (-1), .ref q2, .ref q6, .ref q14, .ref q18, .ref q22, .null, .null, .null])), (q1, .inl (dA 2, 480, .inl (fun _ => 0))), (q2, .inr (5, [.ref (u3 0), .ref (u3 1), .ref (u3 2), .ref (u3 3), .ref (u3 4), .int 0, .int (-1)])), (q6, .inr (9, [.ref (u7 0), .ref (u7 1), .ref (u7 2), .int 0, .ref q2])), (u7 0, .inl (dA 0, 481, .inl (fun _ => 0))), (u7 1, .inl (dA 0, 481, .inl (fun _ => 0))), (u7 2, .inl (dA 0, 481, .inl (fun _ => 0))), (q10, .inr (0, [.ref (u11 0), .ref (u11 1), .ref (u11 2), .ref (u11 3), .ref (u11 4), .ref (u11 5), .ref (u11 6), .int 0])), (q14, .inr (8, [.ref q6, .ref q10, .ref (u15 0), .ref (u15 1), .int 0, .int 0])), (q18, .inr (2, [.ref q10, .ref q2, .ref (u19 0), .ref (u19 1), .int 0, .int (-1)])), (u19 1, .inl (dA 0, 60, .inl (fun _ => 0))), (q22, .inl (dA 4, 3, .inr (.inr (.inr (.inr (va_up (va_up (va_up (fun _ => none) (0 : Int32).toNatClampNeg (some q23)) (1 : Int32).toNatClampNeg (some q27)) (2 : Int32).toNatClampNeg (some q31))))))), (q23, .inr (6, [.int 0, .int 0, .ref (u24 0), .ref (u24 1), .ref (u24 2), .ref (u24 3), .ref (u24 4), .int 0, .ref (u24 5), .ref (u24 6), .ref (u24 7), .ref (u24 8), .ref (u24 9), .int 0, .ref (u24 10), .ref (u24 11), .ref (u24 12)])), (u24 4, .inl (dA 0, 400, .inl (fun _ => 0))), (q27, .inr (6, [.int 0, .int 0, .ref (u28 0), .ref (u28 1), .ref (u28 2), .ref (u28 3), .ref (u28 4), .int 0, .ref (u28 5), .ref (u28 6), .ref (u28 7), .ref (u28 8), .ref (u28 9), .int 0, .ref (u28 10), .ref (u28 11), .ref (u28 12)])), (u28 4, .inl (dA 0, 400, .inl (fun _ => 0))), (q31, .inr (6, [.int 0, .int 0, .ref (u32 0), .ref (u32 1), .ref (u32 2), .ref (u32 3), .ref (u32 4), .int 0, .ref (u32 5), .ref (u32 6), .ref (u32 7), .ref (u32 8), .ref (u32 9), .int 0, .ref (u32 10), .ref (u32 11), .ref (u32 12)])), (u32 4, .inl (dA 0, 400, .inl (fun _ => 0)))] := hD
  refine lv_iinc (v := 3) (lv' := [(2, .int 3), (1, .ref q10), (0, .ref h0)]) hx hb dX10_init_122 hl (k := 0) rfl (by decide) (by decide) rfl (fun ls hl => ?_)
  refine lv_goto (tgt := 104) hx hb dX10_init_125 (by decide) ?_
  refine lv_iload_n hx hb dX10_init_104 rfl (lv_at hl 0 rfl) ?_
  refine lv_iconst (v := 3) hx hb dX10_init_105 (by decide) ?_
  refine lv_icmp_ge (tgt := 128) hx hb dX10_init_106 (by decide) (fun _ => ?_) (fun h => absurd (by decide) h)
  rw [gM_eq] at hP hD
  refine lv_aload_n hx hb dX10_init_128 rfl (lv_at hl 2 rfl) ?_
  refine g_new (fs := f0X3) hx hb hg 3 rfl inX3 tyX3_ok hown q477 q478 q157 hK hP hD hS hA dfX3 (Nat.le_of_ble_eq_true rfl) (Nat.le_of_ble_eq_true rfl) dX10_init_129 (fun q35 H hP hD hS => ?_)
  refine W.widen (k := 69) (n := 9792) (Nat.le_of_ble_eq_true rfl) (Nat.le_of_ble_eq_true rfl) ?_
  have hP : va_P D vwC [(h0, .inr (10, [.ref q1, .int 0, .int (-1), .int (-1), .ref q2, .ref q6, .ref q14, .ref q18, .ref q22, .null, .null, .null])), (q1, .inl (dA 2, 480, .inl (fun _ => 0))), (q2, .inr (5, [.ref (u3 0), .ref (u3 1), .ref (u3 2), .ref (u3 3), .ref (u3 4), .int 0, .int (-1)])), (q6, .inr (9, [.ref (u7 0), .ref (u7 1), .ref (u7 2), .int 0, .ref q2])), (u7 0, .inl (dA 0, 481, .inl (fun _ => 0))), (u7 1, .inl (dA 0, 481, .inl (fun _ => 0))), (u7 2, .inl (dA 0, 481, .inl (fun _ => 0))), (q10, .inr (0, [.ref (u11 0), .ref (u11 1), .ref (u11 2), .ref (u11 3), .ref (u11 4), .ref (u11 5), .ref (u11 6), .int 0])), (q14, .inr (8, [.ref q6, .ref q10, .ref (u15 0), .ref (u15 1), .int 0, .int 0])), (q18, .inr (2, [.ref q10, .ref q2, .ref (u19 0), .ref (u19 1), .int 0, .int (-1)])), (u19 1, .inl (dA 0, 60, .inl (fun _ => 0))), (q22, .inl (dA 4, 3, .inr (.inr (.inr (.inr (gM q23 q27 q31)))))), (q23, .inr (6, [.int 0, .int 0, .ref (u24 0), .ref (u24 1), .ref (u24 2), .ref (u24 3), .ref (u24 4), .int 0, .ref (u24 5), .ref (u24 6), .ref (u24 7), .ref (u24 8), .ref (u24 9), .int 0, .ref (u24 10), .ref (u24 11), .ref (u24 12)])), (u24 4, .inl (dA 0, 400, .inl (fun _ => 0))), (q27, .inr (6, [.int 0, .int 0, .ref (u28 0), .ref (u28 1), .ref (u28 2), .ref (u28 3), .ref (u28 4), .int 0, .ref (u28 5), .ref (u28 6), .ref (u28 7), .ref (u28 8), .ref (u28 9), .int 0, .ref (u28 10), .ref (u28 11), .ref (u28 12)])), (u28 4, .inl (dA 0, 400, .inl (fun _ => 0))), (q31, .inr (6, [.int 0, .int 0, .ref (u32 0), .ref (u32 1), .ref (u32 2), .ref (u32 3), .ref (u32 4), .int 0, .ref (u32 5), .ref (u32 6), .ref (u32 7), .ref (u32 8), .ref (u32 9), .int 0, .ref (u32 10), .ref (u32 11), .ref (u32 12)])), (u32 4, .inl (dA 0, 400, .inl (fun _ => 0))), (q35, .inr (3, [.null, .null, .null, .null, .int 0, .null, .null]))] H := hP
  have hD : va_D A [(h0, .inr (10, [.ref q1, .int 0, .int (-1), .int (-1), .ref q2, .ref q6, .ref q14, .ref q18, .ref q22, .null, .null, .null])), (q1, .inl (dA 2, 480, .inl (fun _ => 0))), (q2, .inr (5, [.ref (u3 0), .ref (u3 1), .ref (u3 2), .ref (u3 3), .ref (u3 4), .int 0, .int (-1)])), (q6, .inr (9, [.ref (u7 0), .ref (u7 1), .ref (u7 2), .int 0, .ref q2])), (u7 0, .inl (dA 0, 481, .inl (fun _ => 0))), (u7 1, .inl (dA 0, 481, .inl (fun _ => 0))), (u7 2, .inl (dA 0, 481, .inl (fun _ => 0))), (q10, .inr (0, [.ref (u11 0), .ref (u11 1), .ref (u11 2), .ref (u11 3), .ref (u11 4), .ref (u11 5), .ref (u11 6), .int 0])), (q14, .inr (8, [.ref q6, .ref q10, .ref (u15 0), .ref (u15 1), .int 0, .int 0])), (q18, .inr (2, [.ref q10, .ref q2, .ref (u19 0), .ref (u19 1), .int 0, .int (-1)])), (u19 1, .inl (dA 0, 60, .inl (fun _ => 0))), (q22, .inl (dA 4, 3, .inr (.inr (.inr (.inr (gM q23 q27 q31)))))), (q23, .inr (6, [.int 0, .int 0, .ref (u24 0), .ref (u24 1), .ref (u24 2), .ref (u24 3), .ref (u24 4), .int 0, .ref (u24 5), .ref (u24 6), .ref (u24 7), .ref (u24 8), .ref (u24 9), .int 0, .ref (u24 10), .ref (u24 11), .ref (u24 12)])), (u24 4, .inl (dA 0, 400, .inl (fun _ => 0))), (q27, .inr (6, [.int 0, .int 0, .ref (u28 0), .ref (u28 1), .ref (u28 2), .ref (u28 3), .ref (u28 4), .int 0, .ref (u28 5), .ref (u28 6), .ref (u28 7), .ref (u28 8), .ref (u28 9), .int 0, .ref (u28 10), .ref (u28 11), .ref (u28 12)])), (u28 4, .inl (dA 0, 400, .inl (fun _ => 0))), (q31, .inr (6, [.int 0, .int 0, .ref (u32 0), .ref (u32 1), .ref (u32 2), .ref (u32 3), .ref (u32 4), .int 0, .ref (u32 5), .ref (u32 6), .ref (u32 7), .ref (u32 8), .ref (u32 9), .int 0, .ref (u32 10), .ref (u32 11), .ref (u32 12)])), (u32 4, .inl (dA 0, 400, .inl (fun _ => 0))), (q35, .inr (3, [.null, .null, .null, .null, .int 0, .null, .null]))] := hD
  refine lv_dup hx hb dX10_init_132 rfl ?_
  refine lv_aload_n hx hb dX10_init_133 rfl (lv_at hl 2 rfl) ?_
  refine g_get hx hb hg hown hK hP 0 rfl rfl inX10 8 (by decide) q614 rfl dX10_init_134 ?_
  refine g_Iv (n := 1) (As := [.ref q22]) (rest := [.ref q35, .ref h0]) (wr := [(h0, .inr (10, [.ref q1, .int 0, .int (-1), .int (-1), .ref q2, .ref q6, .ref q14, .ref q18, .ref q22, .null, .null, .null])), (q1, .inl (dA 2, 480, .inl (fun _ => 0))), (q2, .inr (5, [.ref (u3 0), .ref (u3 1), .ref (u3 2), .ref (u3 3), .ref (u3 4), .int 0, .int (-1)])), (q6, .inr (9, [.ref (u7 0), .ref (u7 1), .ref (u7 2), .int 0, .ref q2])), (u7 0, .inl (dA 0, 481, .inl (fun _ => 0))), (u7 1, .inl (dA 0, 481, .inl (fun _ => 0))), (u7 2, .inl (dA 0, 481, .inl (fun _ => 0))), (q10, .inr (0, [.ref (u11 0), .ref (u11 1), .ref (u11 2), .ref (u11 3), .ref (u11 4), .ref (u11 5), .ref (u11 6), .int 0])), (q14, .inr (8, [.ref q6, .ref q10, .ref (u15 0), .ref (u15 1), .int 0, .int 0])), (q18, .inr (2, [.ref q10, .ref q2, .ref (u19 0), .ref (u19 1), .int 0, .int (-1)])), (u19 1, .inl (dA 0, 60, .inl (fun _ => 0))), (q22, .inl (dA 4, 3, .inr (.inr (.inr (.inr (gM q23 q27 q31)))))), (q23, .inr (6, [.int 0, .int 0, .ref (u24 0), .ref (u24 1), .ref (u24 2), .ref (u24 3), .ref (u24 4), .int 0, .ref (u24 5), .ref (u24 6), .ref (u24 7), .ref (u24 8), .ref (u24 9), .int 0, .ref (u24 10), .ref (u24 11), .ref (u24 12)])), (u24 4, .inl (dA 0, 400, .inl (fun _ => 0))), (q27, .inr (6, [.int 0, .int 0, .ref (u28 0), .ref (u28 1), .ref (u28 2), .ref (u28 3), .ref (u28 4), .int 0, .ref (u28 5), .ref (u28 6), .ref (u28 7), .ref (u28 8), .ref (u28 9), .int 0, .ref (u28 10), .ref (u28 11), .ref (u28 12)])), (u28 4, .inl (dA 0, 400, .inl (fun _ => 0))), (q31, .inr (6, [.int 0, .int 0, .ref (u32 0), .ref (u32 1), .ref (u32 2), .ref (u32 3), .ref (u32 4), .int 0, .ref (u32 5), .ref (u32 6), .ref (u32 7), .ref (u32 8), .ref (u32 9), .int 0, .ref (u32 10), .ref (u32 11), .ref (u32 12)])), (u32 4, .inl (dA 0, 400, .inl (fun _ => 0)))]) hx hb hml hg hown hK hP hD hS hA (c_X3_init l D dA q35 q22 _) [18] [0, 1, 2, 3, 4, 5, 6, 7, 8, 9, 10, 11, 12, 13, 14, 15, 16, 17] rfl (by decide) rfl (by decide) (by decide) q481 q157 q479 q480 rfl (by decide +kernel) ⟨(Nat.le_of_ble_eq_true rfl), (Nat.le_of_ble_eq_true rfl)⟩ rfl hl.1 rfl (Nat.le_of_ble_eq_true rfl) dX10_init_137 ⟨(Nat.le_of_ble_eq_true rfl), (Nat.le_of_ble_eq_true rfl)⟩ (fun u36 H locs w38 hP hD hS => ?_)
  refine W.widen (k := 74) (n := 10152) (Nat.le_of_ble_eq_true rfl) (Nat.le_of_ble_eq_true rfl) ?_
  have hP : va_P D vwC [(h0, .inr (10, [.ref q1, .int 0, .int (-1), .int (-1), .ref q2, .ref q6, .ref q14, .ref q18, .ref q22, .null, .null, .null])), (q1, .inl (dA 2, 480, .inl (fun _ => 0))), (q2, .inr (5, [.ref (u3 0), .ref (u3 1), .ref (u3 2), .ref (u3 3), .ref (u3 4), .int 0, .int (-1)])), (q6, .inr (9, [.ref (u7 0), .ref (u7 1), .ref (u7 2), .int 0, .ref q2])), (u7 0, .inl (dA 0, 481, .inl (fun _ => 0))), (u7 1, .inl (dA 0, 481, .inl (fun _ => 0))), (u7 2, .inl (dA 0, 481, .inl (fun _ => 0))), (q10, .inr (0, [.ref (u11 0), .ref (u11 1), .ref (u11 2), .ref (u11 3), .ref (u11 4), .ref (u11 5), .ref (u11 6), .int 0])), (q14, .inr (8, [.ref q6, .ref q10, .ref (u15 0), .ref (u15 1), .int 0, .int 0])), (q18, .inr (2, [.ref q10, .ref q2, .ref (u19 0), .ref (u19 1), .int 0, .int (-1)])), (u19 1, .inl (dA 0, 60, .inl (fun _ => 0))), (q22, .inl (dA 4, 3, .inr (.inr (.inr (.inr (gM q23 q27 q31)))))), (q23, .inr (6, [.int 0, .int 0, .ref (u24 0), .ref (u24 1), .ref (u24 2), .ref (u24 3), .ref (u24 4), .int 0, .ref (u24 5), .ref (u24 6), .ref (u24 7), .ref (u24 8), .ref (u24 9), .int 0, .ref (u24 10), .ref (u24 11), .ref (u24 12)])), (u24 4, .inl (dA 0, 400, .inl (fun _ => 0))), (q27, .inr (6, [.int 0, .int 0, .ref (u28 0), .ref (u28 1), .ref (u28 2), .ref (u28 3), .ref (u28 4), .int 0, .ref (u28 5), .ref (u28 6), .ref (u28 7), .ref (u28 8), .ref (u28 9), .int 0, .ref (u28 10), .ref (u28 11), .ref (u28 12)])), (u28 4, .inl (dA 0, 400, .inl (fun _ => 0))), (q31, .inr (6, [.int 0, .int 0, .ref (u32 0), .ref (u32 1), .ref (u32 2), .ref (u32 3), .ref (u32 4), .int 0, .ref (u32 5), .ref (u32 6), .ref (u32 7), .ref (u32 8), .ref (u32 9), .int 0, .ref (u32 10), .ref (u32 11), .ref (u32 12)])), (u32 4, .inl (dA 0, 400, .inl (fun _ => 0))), (q35, .inr (3, [.ref q22, .ref (u36 0), .ref (u36 1), .ref (u36 2), .int 0, .ref (u36 3), .ref (u36 4)]))] H := hP
  have hD : va_D A [(h0, .inr (10, [.ref q1, .int 0, .int (-1), .int (-1), .ref q2, .ref q6, .ref q14, .ref q18, .ref q22, .null, .null, .null])), (q1, .inl (dA 2, 480, .inl (fun _ => 0))), (q2, .inr (5, [.ref (u3 0), .ref (u3 1), .ref (u3 2), .ref (u3 3), .ref (u3 4), .int 0, .int (-1)])), (q6, .inr (9, [.ref (u7 0), .ref (u7 1), .ref (u7 2), .int 0, .ref q2])), (u7 0, .inl (dA 0, 481, .inl (fun _ => 0))), (u7 1, .inl (dA 0, 481, .inl (fun _ => 0))), (u7 2, .inl (dA 0, 481, .inl (fun _ => 0))), (q10, .inr (0, [.ref (u11 0), .ref (u11 1), .ref (u11 2), .ref (u11 3), .ref (u11 4), .ref (u11 5), .ref (u11 6), .int 0])), (q14, .inr (8, [.ref q6, .ref q10, .ref (u15 0), .ref (u15 1), .int 0, .int 0])), (q18, .inr (2, [.ref q10, .ref q2, .ref (u19 0), .ref (u19 1), .int 0, .int (-1)])), (u19 1, .inl (dA 0, 60, .inl (fun _ => 0))), (q22, .inl (dA 4, 3, .inr (.inr (.inr (.inr (gM q23 q27 q31)))))), (q23, .inr (6, [.int 0, .int 0, .ref (u24 0), .ref (u24 1), .ref (u24 2), .ref (u24 3), .ref (u24 4), .int 0, .ref (u24 5), .ref (u24 6), .ref (u24 7), .ref (u24 8), .ref (u24 9), .int 0, .ref (u24 10), .ref (u24 11), .ref (u24 12)])), (u24 4, .inl (dA 0, 400, .inl (fun _ => 0))), (q27, .inr (6, [.int 0, .int 0, .ref (u28 0), .ref (u28 1), .ref (u28 2), .ref (u28 3), .ref (u28 4), .int 0, .ref (u28 5), .ref (u28 6), .ref (u28 7), .ref (u28 8), .ref (u28 9), .int 0, .ref (u28 10), .ref (u28 11), .ref (u28 12)])), (u28 4, .inl (dA 0, 400, .inl (fun _ => 0))), (q31, .inr (6, [.int 0, .int 0, .ref (u32 0), .ref (u32 1), .ref (u32 2), .ref (u32 3), .ref (u32 4), .int 0, .ref (u32 5), .ref (u32 6), .ref (u32 7), .ref (u32 8), .ref (u32 9), .int 0, .ref (u32 10), .ref (u32 11), .ref (u32 12)])), (u32 4, .inl (dA 0, 400, .inl (fun _ => 0))), (q35, .inr (3, [.ref q22, .ref (u36 0), .ref (u36 1), .ref (u36 2), .int 0, .ref (u36 3), .ref (u36 4)]))] := hD
  refine g_putF (w' := [(h0, .inr (10, [.ref q1, .int 0, .int (-1), .int (-1), .ref q2, .ref q6, .ref q14, .ref q18, .ref q22, .ref q35, .null, .null])), (q1, .inl (dA 2, 480, .inl (fun _ => 0))), (q2, .inr (5, [.ref (u3 0), .ref (u3 1), .ref (u3 2), .ref (u3 3), .ref (u3 4), .int 0, .int (-1)])), (q6, .inr (9, [.ref (u7 0), .ref (u7 1), .ref (u7 2), .int 0, .ref q2])), (u7 0, .inl (dA 0, 481, .inl (fun _ => 0))), (u7 1, .inl (dA 0, 481, .inl (fun _ => 0))), (u7 2, .inl (dA 0, 481, .inl (fun _ => 0))), (q10, .inr (0, [.ref (u11 0), .ref (u11 1), .ref (u11 2), .ref (u11 3), .ref (u11 4), .ref (u11 5), .ref (u11 6), .int 0])), (q14, .inr (8, [.ref q6, .ref q10, .ref (u15 0), .ref (u15 1), .int 0, .int 0])), (q18, .inr (2, [.ref q10, .ref q2, .ref (u19 0), .ref (u19 1), .int 0, .int (-1)])), (u19 1, .inl (dA 0, 60, .inl (fun _ => 0))), (q22, .inl (dA 4, 3, .inr (.inr (.inr (.inr (gM q23 q27 q31)))))), (q23, .inr (6, [.int 0, .int 0, .ref (u24 0), .ref (u24 1), .ref (u24 2), .ref (u24 3), .ref (u24 4), .int 0, .ref (u24 5), .ref (u24 6), .ref (u24 7), .ref (u24 8), .ref (u24 9), .int 0, .ref (u24 10), .ref (u24 11), .ref (u24 12)])), (u24 4, .inl (dA 0, 400, .inl (fun _ => 0))), (q27, .inr (6, [.int 0, .int 0, .ref (u28 0), .ref (u28 1), .ref (u28 2), .ref (u28 3), .ref (u28 4), .int 0, .ref (u28 5), .ref (u28 6), .ref (u28 7), .ref (u28 8), .ref (u28 9), .int 0, .ref (u28 10), .ref (u28 11), .ref (u28 12)])), (u28 4, .inl (dA 0, 400, .inl (fun _ => 0))), (q31, .inr (6, [.int 0, .int 0, .ref (u32 0), .ref (u32 1), .ref (u32 2), .ref (u32 3), .ref (u32 4), .int 0, .ref (u32 5), .ref (u32 6), .ref (u32 7), .ref (u32 8), .ref (u32 9), .int 0, .ref (u32 10), .ref (u32 11), .ref (u32 12)])), (u32 4, .inl (dA 0, 400, .inl (fun _ => 0))), (q35, .inr (3, [.ref q22, .ref (u36 0), .ref (u36 1), .ref (u36 2), .int 0, .ref (u36 3), .ref (u36 4)]))]) hx hb hg hown hK hP hD hS 0 rfl rfl inX10 tyX10_ok nmX10 9 (by decide) q615 rfl hin rfl rfl rfl (Nat.le_of_ble_eq_true rfl) rfl dX10_init_140 (fun H locs hP hD hS => ?_)
  refine lv_aload_n hx hb dX10_init_143 rfl (lv_at hl 2 rfl) ?_
  refine g_new (fs := f0X1) hx hb hg 1 rfl inX1 tyX1_ok hown q505 q506 q158 hK hP hD hS hA dfX1 (Nat.le_of_ble_eq_true rfl) (Nat.le_of_ble_eq_true rfl) dX10_init_144 (fun q39 H hP hD hS => ?_)
  refine W.widen (k := 75) (n := 10159) (Nat.le_of_ble_eq_true rfl) (Nat.le_of_ble_eq_true rfl) ?_
  have hP : va_P D vwC [(h0, .inr (10, [.ref q1, .int 0, .int (-1), .int (-1), .ref q2, .ref q6, .ref q14, .ref q18, .ref q22, .ref q35, .null, .null])), (q1, .inl (dA 2, 480, .inl (fun _ => 0))), (q2, .inr (5, [.ref (u3 0), .ref (u3 1), .ref (u3 2), .ref (u3 3), .ref (u3 4), .int 0, .int (-1)])), (q6, .inr (9, [.ref (u7 0), .ref (u7 1), .ref (u7 2), .int 0, .ref q2])), (u7 0, .inl (dA 0, 481, .inl (fun _ => 0))), (u7 1, .inl (dA 0, 481, .inl (fun _ => 0))), (u7 2, .inl (dA 0, 481, .inl (fun _ => 0))), (q10, .inr (0, [.ref (u11 0), .ref (u11 1), .ref (u11 2), .ref (u11 3), .ref (u11 4), .ref (u11 5), .ref (u11 6), .int 0])), (q14, .inr (8, [.ref q6, .ref q10, .ref (u15 0), .ref (u15 1), .int 0, .int 0])), (q18, .inr (2, [.ref q10, .ref q2, .ref (u19 0), .ref (u19 1), .int 0, .int (-1)])), (u19 1, .inl (dA 0, 60, .inl (fun _ => 0))), (q22, .inl (dA 4, 3, .inr (.inr (.inr (.inr (gM q23 q27 q31)))))), (q23, .inr (6, [.int 0, .int 0, .ref (u24 0), .ref (u24 1), .ref (u24 2), .ref (u24 3), .ref (u24 4), .int 0, .ref (u24 5), .ref (u24 6), .ref (u24 7), .ref (u24 8), .ref (u24 9), .int 0, .ref (u24 10), .ref (u24 11), .ref (u24 12)])), (u24 4, .inl (dA 0, 400, .inl (fun _ => 0))), (q27, .inr (6, [.int 0, .int 0, .ref (u28 0), .ref (u28 1), .ref (u28 2), .ref (u28 3), .ref (u28 4), .int 0, .ref (u28 5), .ref (u28 6), .ref (u28 7), .ref (u28 8), .ref (u28 9), .int 0, .ref (u28 10), .ref (u28 11), .ref (u28 12)])), (u28 4, .inl (dA 0, 400, .inl (fun _ => 0))), (q31, .inr (6, [.int 0, .int 0, .ref (u32 0), .ref (u32 1), .ref (u32 2), .ref (u32 3), .ref (u32 4), .int 0, .ref (u32 5), .ref (u32 6), .ref (u32 7), .ref (u32 8), .ref (u32 9), .int 0, .ref (u32 10), .ref (u32 11), .ref (u32 12)])), (u32 4, .inl (dA 0, 400, .inl (fun _ => 0))), (q35, .inr (3, [.ref q22, .ref (u36 0), .ref (u36 1), .ref (u36 2), .int 0, .ref (u36 3), .ref (u36 4)])), (q39, .inr (1, [.int 0, .int 0, .null, .int 0, .null, .int 0, .int 0]))] H := hP
  have hD : va_D A [(h0, .inr (10, [.ref q1, .int 0, .int (-1), .int (-1), .ref q2, .ref q6, .ref q14, .ref q18, .ref q22, .ref q35, .null, .null])), (q1, .inl (dA 2, 480, .inl (fun _ => 0))), (q2, .inr (5, [.ref (u3 0), .ref (u3 1), .ref (u3 2), .ref (u3 3), .ref (u3 4), .int 0, .int (-1)])), (q6, .inr (9, [.ref (u7 0), .ref (u7 1), .ref (u7 2), .int 0, .ref q2])), (u7 0, .inl (dA 0, 481, .inl (fun _ => 0))), (u7 1, .inl (dA 0, 481, .inl (fun _ => 0))), (u7 2, .inl (dA 0, 481, .inl (fun _ => 0))), (q10, .inr (0, [.ref (u11 0), .ref (u11 1), .ref (u11 2), .ref (u11 3), .ref (u11 4), .ref (u11 5), .ref (u11 6), .int 0])), (q14, .inr (8, [.ref q6, .ref q10, .ref (u15 0), .ref (u15 1), .int 0, .int 0])), (q18, .inr (2, [.ref q10, .ref q2, .ref (u19 0), .ref (u19 1), .int 0, .int (-1)])), (u19 1, .inl (dA 0, 60, .inl (fun _ => 0))), (q22, .inl (dA 4, 3, .inr (.inr (.inr (.inr (gM q23 q27 q31)))))), (q23, .inr (6, [.int 0, .int 0, .ref (u24 0), .ref (u24 1), .ref (u24 2), .ref (u24 3), .ref (u24 4), .int 0, .ref (u24 5), .ref (u24 6), .ref (u24 7), .ref (u24 8), .ref (u24 9), .int 0, .ref (u24 10), .ref (u24 11), .ref (u24 12)])), (u24 4, .inl (dA 0, 400, .inl (fun _ => 0))), (q27, .inr (6, [.int 0, .int 0, .ref (u28 0), .ref (u28 1), .ref (u28 2), .ref (u28 3), .ref (u28 4), .int 0, .ref (u28 5), .ref (u28 6), .ref (u28 7), .ref (u28 8), .ref (u28 9), .int 0, .ref (u28 10), .ref (u28 11), .ref (u28 12)])), (u28 4, .inl (dA 0, 400, .inl (fun _ => 0))), (q31, .inr (6, [.int 0, .int 0, .ref (u32 0), .ref (u32 1), .ref (u32 2), .ref (u32 3), .ref (u32 4), .int 0, .ref (u32 5), .ref (u32 6), .ref (u32 7), .ref (u32 8), .ref (u32 9), .int 0, .ref (u32 10), .ref (u32 11), .ref (u32 12)])), (u32 4, .inl (dA 0, 400, .inl (fun _ => 0))), (q35, .inr (3, [.ref q22, .ref (u36 0), .ref (u36 1), .ref (u36 2), .int 0, .ref (u36 3), .ref (u36 4)])), (q39, .inr (1, [.int 0, .int 0, .null, .int 0, .null, .int 0, .int 0]))] := hD
  refine lv_dup hx hb dX10_init_147 rfl ?_
  refine g_Iv (n := 0) (As := []) (rest := [.ref q39, .ref h0]) (wr := [(h0, .inr (10, [.ref q1, .int 0, .int (-1), .int (-1), .ref q2, .ref q6, .ref q14, .ref q18, .ref q22, .ref q35, .null, .null])), (q1, .inl (dA 2, 480, .inl (fun _ => 0))), (q2, .inr (5, [.ref (u3 0), .ref (u3 1), .ref (u3 2), .ref (u3 3), .ref (u3 4), .int 0, .int (-1)])), (q6, .inr (9, [.ref (u7 0), .ref (u7 1), .ref (u7 2), .int 0, .ref q2])), (u7 0, .inl (dA 0, 481, .inl (fun _ => 0))), (u7 1, .inl (dA 0, 481, .inl (fun _ => 0))), (u7 2, .inl (dA 0, 481, .inl (fun _ => 0))), (q10, .inr (0, [.ref (u11 0), .ref (u11 1), .ref (u11 2), .ref (u11 3), .ref (u11 4), .ref (u11 5), .ref (u11 6), .int 0])), (q14, .inr (8, [.ref q6, .ref q10, .ref (u15 0), .ref (u15 1), .int 0, .int 0])), (q18, .inr (2, [.ref q10, .ref q2, .ref (u19 0), .ref (u19 1), .int 0, .int (-1)])), (u19 1, .inl (dA 0, 60, .inl (fun _ => 0))), (q22, .inl (dA 4, 3, .inr (.inr (.inr (.inr (gM q23 q27 q31)))))), (q23, .inr (6, [.int 0, .int 0, .ref (u24 0), .ref (u24 1), .ref (u24 2), .ref (u24 3), .ref (u24 4), .int 0, .ref (u24 5), .ref (u24 6), .ref (u24 7), .ref (u24 8), .ref (u24 9), .int 0, .ref (u24 10), .ref (u24 11), .ref (u24 12)])), (u24 4, .inl (dA 0, 400, .inl (fun _ => 0))), (q27, .inr (6, [.int 0, .int 0, .ref (u28 0), .ref (u28 1), .ref (u28 2), .ref (u28 3), .ref (u28 4), .int 0, .ref (u28 5), .ref (u28 6), .ref (u28 7), .ref (u28 8), .ref (u28 9), .int 0, .ref (u28 10), .ref (u28 11), .ref (u28 12)])), (u28 4, .inl (dA 0, 400, .inl (fun _ => 0))), (q31, .inr (6, [.int 0, .int 0, .ref (u32 0), .ref (u32 1), .ref (u32 2), .ref (u32 3), .ref (u32 4), .int 0, .ref (u32 5), .ref (u32 6), .ref (u32 7), .ref (u32 8), .ref (u32 9), .int 0, .ref (u32 10), .ref (u32 11), .ref (u32 12)])), (u32 4, .inl (dA 0, 400, .inl (fun _ => 0))), (q35, .inr (3, [.ref q22, .ref (u36 0), .ref (u36 1), .ref (u36 2), .int 0, .ref (u36 3), .ref (u36 4)]))]) hx hb hml hg hown hK hP hD hS hA (c_X1_init l D dA q39 _) [19] [0, 1, 2, 3, 4, 5, 6, 7, 8, 9, 10, 11, 12, 13, 14, 15, 16, 17, 18] rfl (by decide) rfl (by decide) (by decide) q509 q158 q507 q508 rfl (by decide +kernel) ⟨(Nat.le_of_ble_eq_true rfl), (Nat.le_of_ble_eq_true rfl)⟩ rfl hl.1 rfl (Nat.le_of_ble_eq_true rfl) dX10_init_148 ⟨(Nat.le_of_ble_eq_true rfl), (Nat.le_of_ble_eq_true rfl)⟩ (fun u40 H locs w42 hP hD hS => ?_)
  refine W.widen (k := 77) (n := 11959) (Nat.le_of_ble_eq_true rfl) (Nat.le_of_ble_eq_true rfl) ?_
  have hP : va_P D vwC [(h0, .inr (10, [.ref q1, .int 0, .int (-1), .int (-1), .ref q2, .ref q6, .ref q14, .ref q18, .ref q22, .ref q35, .null, .null])), (q1, .inl (dA 2, 480, .inl (fun _ => 0))), (q2, .inr (5, [.ref (u3 0), .ref (u3 1), .ref (u3 2), .ref (u3 3), .ref (u3 4), .int 0, .int (-1)])), (q6, .inr (9, [.ref (u7 0), .ref (u7 1), .ref (u7 2), .int 0, .ref q2])), (u7 0, .inl (dA 0, 481, .inl (fun _ => 0))), (u7 1, .inl (dA 0, 481, .inl (fun _ => 0))), (u7 2, .inl (dA 0, 481, .inl (fun _ => 0))), (q10, .inr (0, [.ref (u11 0), .ref (u11 1), .ref (u11 2), .ref (u11 3), .ref (u11 4), .ref (u11 5), .ref (u11 6), .int 0])), (q14, .inr (8, [.ref q6, .ref q10, .ref (u15 0), .ref (u15 1), .int 0, .int 0])), (q18, .inr (2, [.ref q10, .ref q2, .ref (u19 0), .ref (u19 1), .int 0, .int (-1)])), (u19 1, .inl (dA 0, 60, .inl (fun _ => 0))), (q22, .inl (dA 4, 3, .inr (.inr (.inr (.inr (gM q23 q27 q31)))))), (q23, .inr (6, [.int 0, .int 0, .ref (u24 0), .ref (u24 1), .ref (u24 2), .ref (u24 3), .ref (u24 4), .int 0, .ref (u24 5), .ref (u24 6), .ref (u24 7), .ref (u24 8), .ref (u24 9), .int 0, .ref (u24 10), .ref (u24 11), .ref (u24 12)])), (u24 4, .inl (dA 0, 400, .inl (fun _ => 0))), (q27, .inr (6, [.int 0, .int 0, .ref (u28 0), .ref (u28 1), .ref (u28 2), .ref (u28 3), .ref (u28 4), .int 0, .ref (u28 5), .ref (u28 6), .ref (u28 7), .ref (u28 8), .ref (u28 9), .int 0, .ref (u28 10), .ref (u28 11), .ref (u28 12)])), (u28 4, .inl (dA 0, 400, .inl (fun _ => 0))), (q31, .inr (6, [.int 0, .int 0, .ref (u32 0), .ref (u32 1), .ref (u32 2), .ref (u32 3), .ref (u32 4), .int 0, .ref (u32 5), .ref (u32 6), .ref (u32 7), .ref (u32 8), .ref (u32 9), .int 0, .ref (u32 10), .ref (u32 11), .ref (u32 12)])), (u32 4, .inl (dA 0, 400, .inl (fun _ => 0))), (q35, .inr (3, [.ref q22, .ref (u36 0), .ref (u36 1), .ref (u36 2), .int 0, .ref (u36 3), .ref (u36 4)])), (q39, .inr (1, [.int 0, .int 0, .ref (u40 0), .int 0, .ref (u40 1), .int 0, .int 0]))] H := hP
  have hD : va_D A [(h0, .inr (10, [.ref q1, .int 0, .int (-1), .int (-1), .ref q2, .ref q6, .ref q14, .ref q18, .ref q22, .ref q35, .null, .null])), (q1, .inl (dA 2, 480, .inl (fun _ => 0))), (q2, .inr (5, [.ref (u3 0), .ref (u3 1), .ref (u3 2), .ref (u3 3), .ref (u3 4), .int 0, .int (-1)])), (q6, .inr (9, [.ref (u7 0), .ref (u7 1), .ref (u7 2), .int 0, .ref q2])), (u7 0, .inl (dA 0, 481, .inl (fun _ => 0))), (u7 1, .inl (dA 0, 481, .inl (fun _ => 0))), (u7 2, .inl (dA 0, 481, .inl (fun _ => 0))), (q10, .inr (0, [.ref (u11 0), .ref (u11 1), .ref (u11 2), .ref (u11 3), .ref (u11 4), .ref (u11 5), .ref (u11 6), .int 0])), (q14, .inr (8, [.ref q6, .ref q10, .ref (u15 0), .ref (u15 1), .int 0, .int 0])), (q18, .inr (2, [.ref q10, .ref q2, .ref (u19 0), .ref (u19 1), .int 0, .int (-1)])), (u19 1, .inl (dA 0, 60, .inl (fun _ => 0))), (q22, .inl (dA 4, 3, .inr (.inr (.inr (.inr (gM q23 q27 q31)))))), (q23, .inr (6, [.int 0, .int 0, .ref (u24 0), .ref (u24 1), .ref (u24 2), .ref (u24 3), .ref (u24 4), .int 0, .ref (u24 5), .ref (u24 6), .ref (u24 7), .ref (u24 8), .ref (u24 9), .int 0, .ref (u24 10), .ref (u24 11), .ref (u24 12)])), (u24 4, .inl (dA 0, 400, .inl (fun _ => 0))), (q27, .inr (6, [.int 0, .int 0, .ref (u28 0), .ref (u28 1), .ref (u28 2), .ref (u28 3), .ref (u28 4), .int 0, .ref (u28 5), .ref (u28 6), .ref (u28 7), .ref (u28 8), .ref (u28 9), .int 0, .ref (u28 10), .ref (u28 11), .ref (u28 12)])), (u28 4, .inl (dA 0, 400, .inl (fun _ => 0))), (q31, .inr (6, [.int 0, .int 0, .ref (u32 0), .ref (u32 1), .ref (u32 2), .ref (u32 3), .ref (u32 4), .int 0, .ref (u32 5), .ref (u32 6), .ref (u32 7), .ref (u32 8), .ref (u32 9), .int 0, .ref (u32 10), .ref (u32 11), .ref (u32 12)])), (u32 4, .inl (dA 0, 400, .inl (fun _ => 0))), (q35, .inr (3, [.ref q22, .ref (u36 0), .ref (u36 1), .ref (u36 2), .int 0, .ref (u36 3), .ref (u36 4)])), (q39, .inr (1, [.int 0, .int 0, .ref (u40 0), .int 0, .ref (u40 1), .int 0, .int 0]))] := hD
  refine g_putF (w' := [(h0, .inr (10, [.ref q1, .int 0, .int (-1), .int (-1), .ref q2, .ref q6, .ref q14, .ref q18, .ref q22, .ref q35, .ref q39, .null])), (q1, .inl (dA 2, 480, .inl (fun _ => 0))), (q2, .inr (5, [.ref (u3 0), .ref (u3 1), .ref (u3 2), .ref (u3 3), .ref (u3 4), .int 0, .int (-1)])), (q6, .inr (9, [.ref (u7 0), .ref (u7 1), .ref (u7 2), .int 0, .ref q2])), (u7 0, .inl (dA 0, 481, .inl (fun _ => 0))), (u7 1, .inl (dA 0, 481, .inl (fun _ => 0))), (u7 2, .inl (dA 0, 481, .inl (fun _ => 0))), (q10, .inr (0, [.ref (u11 0), .ref (u11 1), .ref (u11 2), .ref (u11 3), .ref (u11 4), .ref (u11 5), .ref (u11 6), .int 0])), (q14, .inr (8, [.ref q6, .ref q10, .ref (u15 0), .ref (u15 1), .int 0, .int 0])), (q18, .inr (2, [.ref q10, .ref q2, .ref (u19 0), .ref (u19 1), .int 0, .int (-1)])), (u19 1, .inl (dA 0, 60, .inl (fun _ => 0))), (q22, .inl (dA 4, 3, .inr (.inr (.inr (.inr (gM q23 q27 q31)))))), (q23, .inr (6, [.int 0, .int 0, .ref (u24 0), .ref (u24 1), .ref (u24 2), .ref (u24 3), .ref (u24 4), .int 0, .ref (u24 5), .ref (u24 6), .ref (u24 7), .ref (u24 8), .ref (u24 9), .int 0, .ref (u24 10), .ref (u24 11), .ref (u24 12)])), (u24 4, .inl (dA 0, 400, .inl (fun _ => 0))), (q27, .inr (6, [.int 0, .int 0, .ref (u28 0), .ref (u28 1), .ref (u28 2), .ref (u28 3), .ref (u28 4), .int 0, .ref (u28 5), .ref (u28 6), .ref (u28 7), .ref (u28 8), .ref (u28 9), .int 0, .ref (u28 10), .ref (u28 11), .ref (u28 12)])), (u28 4, .inl (dA 0, 400, .inl (fun _ => 0))), (q31, .inr (6, [.int 0, .int 0, .ref (u32 0), .ref (u32 1), .ref (u32 2), .ref (u32 3), .ref (u32 4), .int 0, .ref (u32 5), .ref (u32 6), .ref (u32 7), .ref (u32 8), .ref (u32 9), .int 0, .ref (u32 10), .ref (u32 11), .ref (u32 12)])), (u32 4, .inl (dA 0, 400, .inl (fun _ => 0))), (q35, .inr (3, [.ref q22, .ref (u36 0), .ref (u36 1), .ref (u36 2), .int 0, .ref (u36 3), .ref (u36 4)])), (q39, .inr (1, [.int 0, .int 0, .ref (u40 0), .int 0, .ref (u40 1), .int 0, .int 0]))]) hx hb hg hown hK hP hD hS 0 rfl rfl inX10 tyX10_ok nmX10 10 (by decide) q616 rfl hin rfl rfl rfl (Nat.le_of_ble_eq_true rfl) rfl dX10_init_151 (fun H locs hP hD hS => ?_)
  refine lv_aload_n hx hb dX10_init_154 rfl (lv_at hl 2 rfl) ?_
  refine g_new (fs := f0X4) hx hb hg 4 rfl inX4 tyX4_ok hown q546 q547 q159 hK hP hD hS hA dfX4 (Nat.le_of_ble_eq_true rfl) (Nat.le_of_ble_eq_true rfl) dX10_init_155 (fun q43 H hP hD hS => ?_)
  refine W.widen (k := 78) (n := 11973) (Nat.le_of_ble_eq_true rfl) (Nat.le_of_ble_eq_true rfl) ?_
  have hP : va_P D vwC [(h0, .inr (10, [.ref q1, .int 0, .int (-1), .int (-1), .ref q2, .ref q6, .ref q14, .ref q18, .ref q22, .ref q35, .ref q39, .null])), (q1, .inl (dA 2, 480, .inl (fun _ => 0))), (q2, .inr (5, [.ref (u3 0), .ref (u3 1), .ref (u3 2), .ref (u3 3), .ref (u3 4), .int 0, .int (-1)])), (q6, .inr (9, [.ref (u7 0), .ref (u7 1), .ref (u7 2), .int 0, .ref q2])), (u7 0, .inl (dA 0, 481, .inl (fun _ => 0))), (u7 1, .inl (dA 0, 481, .inl (fun _ => 0))), (u7 2, .inl (dA 0, 481, .inl (fun _ => 0))), (q10, .inr (0, [.ref (u11 0), .ref (u11 1), .ref (u11 2), .ref (u11 3), .ref (u11 4), .ref (u11 5), .ref (u11 6), .int 0])), (q14, .inr (8, [.ref q6, .ref q10, .ref (u15 0), .ref (u15 1), .int 0, .int 0])), (q18, .inr (2, [.ref q10, .ref q2, .ref (u19 0), .ref (u19 1), .int 0, .int (-1)])), (u19 1, .inl (dA 0, 60, .inl (fun _ => 0))), (q22, .inl (dA 4, 3, .inr (.inr (.inr (.inr (gM q23 q27 q31)))))), (q23, .inr (6, [.int 0, .int 0, .ref (u24 0), .ref (u24 1), .ref (u24 2), .ref (u24 3), .ref (u24 4), .int 0, .ref (u24 5), .ref (u24 6), .ref (u24 7), .ref (u24 8), .ref (u24 9), .int 0, .ref (u24 10), .ref (u24 11), .ref (u24 12)])), (u24 4, .inl (dA 0, 400, .inl (fun _ => 0))), (q27, .inr (6, [.int 0, .int 0, .ref (u28 0), .ref (u28 1), .ref (u28 2), .ref (u28 3), .ref (u28 4), .int 0, .ref (u28 5), .ref (u28 6), .ref (u28 7), .ref (u28 8), .ref (u28 9), .int 0, .ref (u28 10), .ref (u28 11), .ref (u28 12)])), (u28 4, .inl (dA 0, 400, .inl (fun _ => 0))), (q31, .inr (6, [.int 0, .int 0, .ref (u32 0), .ref (u32 1), .ref (u32 2), .ref (u32 3), .ref (u32 4), .int 0, .ref (u32 5), .ref (u32 6), .ref (u32 7), .ref (u32 8), .ref (u32 9), .int 0, .ref (u32 10), .ref (u32 11), .ref (u32 12)])), (u32 4, .inl (dA 0, 400, .inl (fun _ => 0))), (q35, .inr (3, [.ref q22, .ref (u36 0), .ref (u36 1), .ref (u36 2), .int 0, .ref (u36 3), .ref (u36 4)])), (q39, .inr (1, [.int 0, .int 0, .ref (u40 0), .int 0, .ref (u40 1), .int 0, .int 0])), (q43, .inr (4, [.null, .null, .null, .int 0, .int 0, .int 0, .int 0, .int 0, .int 0, .int 0, .null, .int 0, .int 0, .int 0]))] H := hP
  have hD : va_D A [(h0, .inr (10, [.ref q1, .int 0, .int (-1), .int (-1), .ref q2, .ref q6, .ref q14, .ref q18, .ref q22, .ref q35, .ref q39, .null])), (q1, .inl (dA 2, 480, .inl (fun _ => 0))), (q2, .inr (5, [.ref (u3 0), .ref (u3 1), .ref (u3 2), .ref (u3 3), .ref (u3 4), .int 0, .int (-1)])), (q6, .inr (9, [.ref (u7 0), .ref (u7 1), .ref (u7 2), .int 0, .ref q2])), (u7 0, .inl (dA 0, 481, .inl (fun _ => 0))), (u7 1, .inl (dA 0, 481, .inl (fun _ => 0))), (u7 2, .inl (dA 0, 481, .inl (fun _ => 0))), (q10, .inr (0, [.ref (u11 0), .ref (u11 1), .ref (u11 2), .ref (u11 3), .ref (u11 4), .ref (u11 5), .ref (u11 6), .int 0])), (q14, .inr (8, [.ref q6, .ref q10, .ref (u15 0), .ref (u15 1), .int 0, .int 0])), (q18, .inr (2, [.ref q10, .ref q2, .ref (u19 0), .ref (u19 1), .int 0, .int (-1)])), (u19 1, .inl (dA 0, 60, .inl (fun _ => 0))), (q22, .inl (dA 4, 3, .inr (.inr (.inr (.inr (gM q23 q27 q31)))))), (q23, .inr (6, [.int 0, .int 0, .ref (u24 0), .ref (u24 1), .ref (u24 2), .ref (u24 3), .ref (u24 4), .int 0, .ref (u24 5), .ref (u24 6), .ref (u24 7), .ref (u24 8), .ref (u24 9), .int 0, .ref (u24 10), .ref (u24 11), .ref (u24 12)])), (u24 4, .inl (dA 0, 400, .inl (fun _ => 0))), (q27, .inr (6, [.int 0, .int 0, .ref (u28 0), .ref (u28 1), .ref (u28 2), .ref (u28 3), .ref (u28 4), .int 0, .ref (u28 5), .ref (u28 6), .ref (u28 7), .ref (u28 8), .ref (u28 9), .int 0, .ref (u28 10), .ref (u28 11), .ref (u28 12)])), (u28 4, .inl (dA 0, 400, .inl (fun _ => 0))), (q31, .inr (6, [.int 0, .int 0, .ref (u32 0), .ref (u32 1), .ref (u32 2), .ref (u32 3), .ref (u32 4), .int 0, .ref (u32 5), .ref (u32 6), .ref (u32 7), .ref (u32 8), .ref (u32 9), .int 0, .ref (u32 10), .ref (u32 11), .ref (u32 12)])), (u32 4, .inl (dA 0, 400, .inl (fun _ => 0))), (q35, .inr (3, [.ref q22, .ref (u36 0), .ref (u36 1), .ref (u36 2), .int 0, .ref (u36 3), .ref (u36 4)])), (q39, .inr (1, [.int 0, .int 0, .ref (u40 0), .int 0, .ref (u40 1), .int 0, .int 0])), (q43, .inr (4, [.null, .null, .null, .int 0, .int 0, .int 0, .int 0, .int 0, .int 0, .int 0, .null, .int 0, .int 0, .int 0]))] := hD
  refine lv_dup hx hb dX10_init_158 rfl ?_
  refine g_Iv (n := 0) (As := []) (rest := [.ref q43, .ref h0]) (wr := [(h0, .inr (10, [.ref q1, .int 0, .int (-1), .int (-1), .ref q2, .ref q6, .ref q14, .ref q18, .ref q22, .ref q35, .ref q39, .null])), (q1, .inl (dA 2, 480, .inl (fun _ => 0))), (q2, .inr (5, [.ref (u3 0), .ref (u3 1), .ref (u3 2), .ref (u3 3), .ref (u3 4), .int 0, .int (-1)])), (q6, .inr (9, [.ref (u7 0), .ref (u7 1), .ref (u7 2), .int 0, .ref q2])), (u7 0, .inl (dA 0, 481, .inl (fun _ => 0))), (u7 1, .inl (dA 0, 481, .inl (fun _ => 0))), (u7 2, .inl (dA 0, 481, .inl (fun _ => 0))), (q10, .inr (0, [.ref (u11 0), .ref (u11 1), .ref (u11 2), .ref (u11 3), .ref (u11 4), .ref (u11 5), .ref (u11 6), .int 0])), (q14, .inr (8, [.ref q6, .ref q10, .ref (u15 0), .ref (u15 1), .int 0, .int 0])), (q18, .inr (2, [.ref q10, .ref q2, .ref (u19 0), .ref (u19 1), .int 0, .int (-1)])), (u19 1, .inl (dA 0, 60, .inl (fun _ => 0))), (q22, .inl (dA 4, 3, .inr (.inr (.inr (.inr (gM q23 q27 q31)))))), (q23, .inr (6, [.int 0, .int 0, .ref (u24 0), .ref (u24 1), .ref (u24 2), .ref (u24 3), .ref (u24 4), .int 0, .ref (u24 5), .ref (u24 6), .ref (u24 7), .ref (u24 8), .ref (u24 9), .int 0, .ref (u24 10), .ref (u24 11), .ref (u24 12)])), (u24 4, .inl (dA 0, 400, .inl (fun _ => 0))), (q27, .inr (6, [.int 0, .int 0, .ref (u28 0), .ref (u28 1), .ref (u28 2), .ref (u28 3), .ref (u28 4), .int 0, .ref (u28 5), .ref (u28 6), .ref (u28 7), .ref (u28 8), .ref (u28 9), .int 0, .ref (u28 10), .ref (u28 11), .ref (u28 12)])), (u28 4, .inl (dA 0, 400, .inl (fun _ => 0))), (q31, .inr (6, [.int 0, .int 0, .ref (u32 0), .ref (u32 1), .ref (u32 2), .ref (u32 3), .ref (u32 4), .int 0, .ref (u32 5), .ref (u32 6), .ref (u32 7), .ref (u32 8), .ref (u32 9), .int 0, .ref (u32 10), .ref (u32 11), .ref (u32 12)])), (u32 4, .inl (dA 0, 400, .inl (fun _ => 0))), (q35, .inr (3, [.ref q22, .ref (u36 0), .ref (u36 1), .ref (u36 2), .int 0, .ref (u36 3), .ref (u36 4)])), (q39, .inr (1, [.int 0, .int 0, .ref (u40 0), .int 0, .ref (u40 1), .int 0, .int 0]))]) hx hb hml hg hown hK hP hD hS hA (c_X4_init l D dA q43 _) [20] [0, 1, 2, 3, 4, 5, 6, 7, 8, 9, 10, 11, 12, 13, 14, 15, 16, 17, 18, 19] rfl (by decide) rfl (by decide) (by decide) q550 q159 q548 q549 rfl (by decide +kernel) ⟨(Nat.le_of_ble_eq_true rfl), (Nat.le_of_ble_eq_true rfl)⟩ rfl hl.1 rfl (Nat.le_of_ble_eq_true rfl) dX10_init_159 ⟨(Nat.le_of_ble_eq_true rfl), (Nat.le_of_ble_eq_true rfl)⟩ (fun u44 H locs w46 hP hD hS => ?_)
  refine W.widen (k := 82) (n := 16111) (Nat.le_of_ble_eq_true rfl) (Nat.le_of_ble_eq_true rfl) ?_
  have hP : va_P D vwC [(h0, .inr (10, [.ref q1, .int 0, .int (-1), .int (-1), .ref q2, .ref q6, .ref q14, .ref q18, .ref q22, .ref q35, .ref q39, .null])), (q1, .inl (dA 2, 480, .inl (fun _ => 0))), (q2, .inr (5, [.ref (u3 0), .ref (u3 1), .ref (u3 2), .ref (u3 3), .ref (u3 4), .int 0, .int (-1)])), (q6, .inr (9, [.ref (u7 0), .ref (u7 1), .ref (u7 2), .int 0, .ref q2])), (u7 0, .inl (dA 0, 481, .inl (fun _ => 0))), (u7 1, .inl (dA 0, 481, .inl (fun _ => 0))), (u7 2, .inl (dA 0, 481, .inl (fun _ => 0))), (q10, .inr (0, [.ref (u11 0), .ref (u11 1), .ref (u11 2), .ref (u11 3), .ref (u11 4), .ref (u11 5), .ref (u11 6), .int 0])), (q14, .inr (8, [.ref q6, .ref q10, .ref (u15 0), .ref (u15 1), .int 0, .int 0])), (q18, .inr (2, [.ref q10, .ref q2, .ref (u19 0), .ref (u19 1), .int 0, .int (-1)])), (u19 1, .inl (dA 0, 60, .inl (fun _ => 0))), (q22, .inl (dA 4, 3, .inr (.inr (.inr (.inr (gM q23 q27 q31)))))), (q23, .inr (6, [.int 0, .int 0, .ref (u24 0), .ref (u24 1), .ref (u24 2), .ref (u24 3), .ref (u24 4), .int 0, .ref (u24 5), .ref (u24 6), .ref (u24 7), .ref (u24 8), .ref (u24 9), .int 0, .ref (u24 10), .ref (u24 11), .ref (u24 12)])), (u24 4, .inl (dA 0, 400, .inl (fun _ => 0))), (q27, .inr (6, [.int 0, .int 0, .ref (u28 0), .ref (u28 1), .ref (u28 2), .ref (u28 3), .ref (u28 4), .int 0, .ref (u28 5), .ref (u28 6), .ref (u28 7), .ref (u28 8), .ref (u28 9), .int 0, .ref (u28 10), .ref (u28 11), .ref (u28 12)])), (u28 4, .inl (dA 0, 400, .inl (fun _ => 0))), (q31, .inr (6, [.int 0, .int 0, .ref (u32 0), .ref (u32 1), .ref (u32 2), .ref (u32 3), .ref (u32 4), .int 0, .ref (u32 5), .ref (u32 6), .ref (u32 7), .ref (u32 8), .ref (u32 9), .int 0, .ref (u32 10), .ref (u32 11), .ref (u32 12)])), (u32 4, .inl (dA 0, 400, .inl (fun _ => 0))), (q35, .inr (3, [.ref q22, .ref (u36 0), .ref (u36 1), .ref (u36 2), .int 0, .ref (u36 3), .ref (u36 4)])), (q39, .inr (1, [.int 0, .int 0, .ref (u40 0), .int 0, .ref (u40 1), .int 0, .int 0])), (q43, .inr (4, [.ref (u44 0), .ref (u44 1), .ref (u44 2), .int 0, .int 0, .int 0, .int 0, .int 1, .int 0, .int 0, .ref (u44 3), .int 0, .int 0, .int 0])), (u44 0, .inl (dA 0, 4096, .inl (fun _ => 0))), (u44 1, .inl (dA 0, 8, .inl (fun _ => 0))), (u44 2, .inl (dA 0, 4, .inl (fun _ => 0)))] H := hP
  have hD : va_D A [(h0, .inr (10, [.ref q1, .int 0, .int (-1), .int (-1), .ref q2, .ref q6, .ref q14, .ref q18, .ref q22, .ref q35, .ref q39, .null])), (q1, .inl (dA 2, 480, .inl (fun _ => 0))), (q2, .inr (5, [.ref (u3 0), .ref (u3 1), .ref (u3 2), .ref (u3 3), .ref (u3 4), .int 0, .int (-1)])), (q6, .inr (9, [.ref (u7 0), .ref (u7 1), .ref (u7 2), .int 0, .ref q2])), (u7 0, .inl (dA 0, 481, .inl (fun _ => 0))), (u7 1, .inl (dA 0, 481, .inl (fun _ => 0))), (u7 2, .inl (dA 0, 481, .inl (fun _ => 0))), (q10, .inr (0, [.ref (u11 0), .ref (u11 1), .ref (u11 2), .ref (u11 3), .ref (u11 4), .ref (u11 5), .ref (u11 6), .int 0])), (q14, .inr (8, [.ref q6, .ref q10, .ref (u15 0), .ref (u15 1), .int 0, .int 0])), (q18, .inr (2, [.ref q10, .ref q2, .ref (u19 0), .ref (u19 1), .int 0, .int (-1)])), (u19 1, .inl (dA 0, 60, .inl (fun _ => 0))), (q22, .inl (dA 4, 3, .inr (.inr (.inr (.inr (gM q23 q27 q31)))))), (q23, .inr (6, [.int 0, .int 0, .ref (u24 0), .ref (u24 1), .ref (u24 2), .ref (u24 3), .ref (u24 4), .int 0, .ref (u24 5), .ref (u24 6), .ref (u24 7), .ref (u24 8), .ref (u24 9), .int 0, .ref (u24 10), .ref (u24 11), .ref (u24 12)])), (u24 4, .inl (dA 0, 400, .inl (fun _ => 0))), (q27, .inr (6, [.int 0, .int 0, .ref (u28 0), .ref (u28 1), .ref (u28 2), .ref (u28 3), .ref (u28 4), .int 0, .ref (u28 5), .ref (u28 6), .ref (u28 7), .ref (u28 8), .ref (u28 9), .int 0, .ref (u28 10), .ref (u28 11), .ref (u28 12)])), (u28 4, .inl (dA 0, 400, .inl (fun _ => 0))), (q31, .inr (6, [.int 0, .int 0, .ref (u32 0), .ref (u32 1), .ref (u32 2), .ref (u32 3), .ref (u32 4), .int 0, .ref (u32 5), .ref (u32 6), .ref (u32 7), .ref (u32 8), .ref (u32 9), .int 0, .ref (u32 10), .ref (u32 11), .ref (u32 12)])), (u32 4, .inl (dA 0, 400, .inl (fun _ => 0))), (q35, .inr (3, [.ref q22, .ref (u36 0), .ref (u36 1), .ref (u36 2), .int 0, .ref (u36 3), .ref (u36 4)])), (q39, .inr (1, [.int 0, .int 0, .ref (u40 0), .int 0, .ref (u40 1), .int 0, .int 0])), (q43, .inr (4, [.ref (u44 0), .ref (u44 1), .ref (u44 2), .int 0, .int 0, .int 0, .int 0, .int 1, .int 0, .int 0, .ref (u44 3), .int 0, .int 0, .int 0])), (u44 0, .inl (dA 0, 4096, .inl (fun _ => 0))), (u44 1, .inl (dA 0, 8, .inl (fun _ => 0))), (u44 2, .inl (dA 0, 4, .inl (fun _ => 0)))] := hD
  refine g_putF (w' := [(h0, .inr (10, [.ref q1, .int 0, .int (-1), .int (-1), .ref q2, .ref q6, .ref q14, .ref q18, .ref q22, .ref q35, .ref q39, .ref q43])), (q1, .inl (dA 2, 480, .inl (fun _ => 0))), (q2, .inr (5, [.ref (u3 0), .ref (u3 1), .ref (u3 2), .ref (u3 3), .ref (u3 4), .int 0, .int (-1)])), (q6, .inr (9, [.ref (u7 0), .ref (u7 1), .ref (u7 2), .int 0, .ref q2])), (u7 0, .inl (dA 0, 481, .inl (fun _ => 0))), (u7 1, .inl (dA 0, 481, .inl (fun _ => 0))), (u7 2, .inl (dA 0, 481, .inl (fun _ => 0))), (q10, .inr (0, [.ref (u11 0), .ref (u11 1), .ref (u11 2), .ref (u11 3), .ref (u11 4), .ref (u11 5), .ref (u11 6), .int 0])), (q14, .inr (8, [.ref q6, .ref q10, .ref (u15 0), .ref (u15 1), .int 0, .int 0])), (q18, .inr (2, [.ref q10, .ref q2, .ref (u19 0), .ref (u19 1), .int 0, .int (-1)])), (u19 1, .inl (dA 0, 60, .inl (fun _ => 0))), (q22, .inl (dA 4, 3, .inr (.inr (.inr (.inr (gM q23 q27 q31)))))), (q23, .inr (6, [.int 0, .int 0, .ref (u24 0), .ref (u24 1), .ref (u24 2), .ref (u24 3), .ref (u24 4), .int 0, .ref (u24 5), .ref (u24 6), .ref (u24 7), .ref (u24 8), .ref (u24 9), .int 0, .ref (u24 10), .ref (u24 11), .ref (u24 12)])), (u24 4, .inl (dA 0, 400, .inl (fun _ => 0))), (q27, .inr (6, [.int 0, .int 0, .ref (u28 0), .ref (u28 1), .ref (u28 2), .ref (u28 3), .ref (u28 4), .int 0, .ref (u28 5), .ref (u28 6), .ref (u28 7), .ref (u28 8), .ref (u28 9), .int 0, .ref (u28 10), .ref (u28 11), .ref (u28 12)])), (u28 4, .inl (dA 0, 400, .inl (fun _ => 0))), (q31, .inr (6, [.int 0, .int 0, .ref (u32 0), .ref (u32 1), .ref (u32 2), .ref (u32 3), .ref (u32 4), .int 0, .ref (u32 5), .ref (u32 6), .ref (u32 7), .ref (u32 8), .ref (u32 9), .int 0, .ref (u32 10), .ref (u32 11), .ref (u32 12)])), (u32 4, .inl (dA 0, 400, .inl (fun _ => 0))), (q35, .inr (3, [.ref q22, .ref (u36 0), .ref (u36 1), .ref (u36 2), .int 0, .ref (u36 3), .ref (u36 4)])), (q39, .inr (1, [.int 0, .int 0, .ref (u40 0), .int 0, .ref (u40 1), .int 0, .int 0])), (q43, .inr (4, [.ref (u44 0), .ref (u44 1), .ref (u44 2), .int 0, .int 0, .int 0, .int 0, .int 1, .int 0, .int 0, .ref (u44 3), .int 0, .int 0, .int 0])), (u44 0, .inl (dA 0, 4096, .inl (fun _ => 0))), (u44 1, .inl (dA 0, 8, .inl (fun _ => 0))), (u44 2, .inl (dA 0, 4, .inl (fun _ => 0)))]) hx hb hg hown hK hP hD hS 0 rfl rfl inX10 tyX10_ok nmX10 11 (by decide) q617 rfl hin rfl rfl rfl (Nat.le_of_ble_eq_true rfl) rfl dX10_init_162 (fun H locs hP hD hS => ?_)
  obtain ⟨hP, hD⟩ := g_cut (is := [0, 1, 2, 3, 4, 5, 6, 8, 7, 9, 10, 11, 12, 13, 14, 15, 16, 17, 18, 19, 20, 21, 22, 23]) (w' := [(h0, .inr (10, [.ref q1, .int 0, .int (-1), .int (-1), .ref q2, .ref q6, .ref q14, .ref q18, .ref q22, .ref q35, .ref q39, .ref q43])), (q1, .inl (dA 2, 480, .inl (fun _ => 0))), (q2, .inr (5, [.ref (u3 0), .ref (u3 1), .ref (u3 2), .ref (u3 3), .ref (u3 4), .int 0, .int (-1)])), (q6, .inr (9, [.ref (u7 0), .ref (u7 1), .ref (u7 2), .int 0, .ref q2])), (u7 0, .inl (dA 0, 481, .inl (fun _ => 0))), (u7 1, .inl (dA 0, 481, .inl (fun _ => 0))), (u7 2, .inl (dA 0, 481, .inl (fun _ => 0))), (q14, .inr (8, [.ref q6, .ref q10, .ref (u15 0), .ref (u15 1), .int 0, .int 0])), (q10, .inr (0, [.ref (u11 0), .ref (u11 1), .ref (u11 2), .ref (u11 3), .ref (u11 4), .ref (u11 5), .ref (u11 6), .int 0])), (q18, .inr (2, [.ref q10, .ref q2, .ref (u19 0), .ref (u19 1), .int 0, .int (-1)])), (u19 1, .inl (dA 0, 60, .inl (fun _ => 0))), (q22, .inl (dA 4, 3, .inr (.inr (.inr (.inr (gM q23 q27 q31)))))), (q23, .inr (6, [.int 0, .int 0, .ref (u24 0), .ref (u24 1), .ref (u24 2), .ref (u24 3), .ref (u24 4), .int 0, .ref (u24 5), .ref (u24 6), .ref (u24 7), .ref (u24 8), .ref (u24 9), .int 0, .ref (u24 10), .ref (u24 11), .ref (u24 12)])), (u24 4, .inl (dA 0, 400, .inl (fun _ => 0))), (q27, .inr (6, [.int 0, .int 0, .ref (u28 0), .ref (u28 1), .ref (u28 2), .ref (u28 3), .ref (u28 4), .int 0, .ref (u28 5), .ref (u28 6), .ref (u28 7), .ref (u28 8), .ref (u28 9), .int 0, .ref (u28 10), .ref (u28 11), .ref (u28 12)])), (u28 4, .inl (dA 0, 400, .inl (fun _ => 0))), (q31, .inr (6, [.int 0, .int 0, .ref (u32 0), .ref (u32 1), .ref (u32 2), .ref (u32 3), .ref (u32 4), .int 0, .ref (u32 5), .ref (u32 6), .ref (u32 7), .ref (u32 8), .ref (u32 9), .int 0, .ref (u32 10), .ref (u32 11), .ref (u32 12)])), (u32 4, .inl (dA 0, 400, .inl (fun _ => 0))), (q35, .inr (3, [.ref q22, .ref (u36 0), .ref (u36 1), .ref (u36 2), .int 0, .ref (u36 3), .ref (u36 4)])), (q39, .inr (1, [.int 0, .int 0, .ref (u40 0), .int 0, .ref (u40 1), .int 0, .int 0])), (q43, .inr (4, [.ref (u44 0), .ref (u44 1), .ref (u44 2), .int 0, .int 0, .int 0, .int 0, .int 1, .int 0, .int 0, .ref (u44 3), .int 0, .int 0, .int 0])), (u44 0, .inl (dA 0, 4096, .inl (fun _ => 0))), (u44 1, .inl (dA 0, 8, .inl (fun _ => 0))), (u44 2, .inl (dA 0, 4, .inl (fun _ => 0)))]) hP hD (by decide) rfl rfl
  exact g_vret hx hb hr hlocks hK (fun k => ([q1, q2, q6, q14, q18, q22, q35, q39, q43, u3 0, u3 1, u3 2, u3 3, u3 4, u7 0, u7 1, u7 2, q10, u15 0, u15 1, u11 0, u11 1, u11 2, u11 3, u11 4, u11 5, u11 6, u19 0, u19 1, q23, q27, q31, u24 0, u24 1, u24 2, u24 3, u24 4, u24 5, u24 6, u24 7, u24 8, u24 9, u24 10, u24 11, u24 12, u28 0, u28 1, u28 2, u28 3, u28 4, u28 5, u28 6, u28 7, u28 8, u28 9, u28 10, u28 11, u28 12, u32 0, u32 1, u32 2, u32 3, u32 4, u32 5, u32 6, u32 7, u32 8, u32 9, u32 10, u32 11, u32 12, u36 0, u36 1, u36 2, u36 3, u36 4, u40 0, u40 1, u44 0, u44 1, u44 2, u44 3] : List Nat).getD k 0) hP hD hS trivial (Nat.le_of_ble_eq_true rfl) (Nat.le_of_ble_eq_true rfl) dX10_init_165
end
section
abbrev xRE : List String := ["java/lang/RuntimeException", "java/lang/Exception"]
abbrev xIAE : String := "java/lang/IllegalArgumentException"
abbrev xIOB : String := "java/lang/IndexOutOfBoundsException"
abbrev xISE : String := "java/lang/IllegalStateException"
def gStrs : List (Nat × String) := [(92, "n is not 1 .. 8"), (101, "a byte is not 32 .. 126"), (105, "the text is full"), (112, "module is not 0 .. 2"), (169, "no module is there"), (200, "paragraph is not 0 .. 255"), (203, "there is no image"), (211, "fuel is not 1 .. 400"), (216, "the machine has halted"), (222, "there is no such module"), (227, "there is no such segment"), (233, "there is no such byte"), (241, "what is not 0 .. 3"), (246, "there is no such fixup"), (264, "address is not 0 .. 4095"), (269, "register is not 0 .. 15"), (289, "there is no such int"), (294, "what is not 0 .. 13")]
def gNcs : List (String × String) := [(xIOB, xIAE), (xISE, xIAE)]
def gStr (U : State) : Prop := ∀ q ∈ gStrs, ∃ sa, vk_R RX10 q.1 q.2 sa U
def gNc (U : State) : Prop := ∀ q ∈ gNcs, va_Nc q.1 q.2 U
def gZ (A : Nat → Prop) (U : State) : Prop := vx_Zq Bundle.tN "UNASSIGNED_STACK" Bundle.steD A U U.heap ∧ vx_Zq Bundle.tN "SUPPRESSED_SENTINEL" Bundle.listD A U U.heap ∧ gStr U
theorem gZ_moved {A B : Nat → Prop} {s U : State} {H : Heap} {locs : List Loc} (hW : s.WarmedH U.vm) (hU : U.heap = H) (hS : va_S A s.heap H locs) (hAB : ∀ q, B q → A q) (h : gZ A s) : gZ B U := by
  subst hU
  exact ⟨((h.1.moved hW.alike).kept (fun a h1 h2 => hS.2.1 a h1 h2)).narrow hAB, ((h.2.1.moved hW.alike).kept (fun a h1 h2 => hS.2.1 a h1 h2)).narrow hAB, fun q hq => by
    obtain ⟨sa, hsa⟩ := h.2.2 q hq
    exact ⟨sa, hsa.warm hW⟩⟩
theorem gZ_call {A : Nat → Prop} {U : State} {g : JFrame} {mk : MethodId} {a : Array Value} (h : gZ A U) : gZ A (U.calling g mk a) :=
  ⟨vx_Zq.moved (u := U) (U := U.calling g mk a) (Vm.Alike.refl U.vm) h.1, vx_Zq.moved (u := U) (U := U.calling g mk a) (Vm.Alike.refl U.vm) h.2.1, fun q hq => by
    obtain ⟨sa, hsa⟩ := h.2.2 q hq
    exact ⟨sa, vk_R.same (u := U) (U := U.calling g mk a) rfl hsa⟩⟩
theorem gNc_moved {s U : State} (hW : s.vm.Alike U.vm) (h : gNc s) : gNc U := fun q hq => (h q hq).moved hW
abbrev gPreX (D : va_G) (dA : Nat → ClassId) (av : List Value) (w0 : va_W) (sz : Nat) : Array Value → State → Prop := va_Pc av (fun U => U.heap.size = sz ∧ va_P D vwC w0 U.heap ∧ gK D dA U ∧ va_D (fun _ => True) w0 ∧ gZ (va_A w0 sz) U)
abbrev gPreW (D : va_G) (dA : Nat → ClassId) (av : List Value) (w0 : va_W) (sz : Nat) : Array Value → State → Prop := va_Pc av (fun U => U.heap.size = sz ∧ va_P D vwC w0 U.heap ∧ gK D dA U ∧ va_D (fun _ => True) w0 ∧ gZ (va_A w0 sz) U ∧ gNc U)
theorem g_blindX {D : va_G} {dA : Nat → ClassId} {av : List Value} {w0 : va_W} {sz : Nat} : FrameBlind (gPreX D dA av w0 sz) := fun a U g mk q => by
  obtain ⟨q0, q1, qP, qK, qD, qZ⟩ := q
  exact ⟨q0, q1, qP, va_K.moved (u := U) (U := U.calling g mk a) (Vm.Alike.refl U.vm) qK, qD, gZ_call qZ⟩
theorem g_blindW {D : va_G} {dA : Nat → ClassId} {av : List Value} {w0 : va_W} {sz : Nat} : FrameBlind (gPreW D dA av w0 sz) := fun a U g mk q => by
  obtain ⟨q0, q1, qP, qK, qD, qZ, qN⟩ := q
  exact ⟨q0, q1, qP, va_K.moved (u := U) (U := U.calling g mk a) (Vm.Alike.refl U.vm) qK, qD, gZ_call qZ, gNc_moved (Vm.Alike.refl U.vm) qN⟩
abbrev gX (PX : String → Prop) (A : Nat → Prop) : String → State → State → Prop := vx_X (fun _ : Unit => True) (fun E _ _ => PX E) A
abbrev gwsW (y : MethodName) (b : ByteArray) (n : Nat) (r : Option FieldType) (hh : List (Nat × Nat × Nat × Nat)) : List Cond := .codeWith y b n r hh :: gw
section GX
variable {p : Program} {l : Launch} {e : Env} {R : Room} {s : State} {m : MethodId} {args : Array Value} {below : List Frame} {meth : Method} {c : Code} {H : Heap} {locs : List Loc} {cells slots : Nat} {Q : State → Prop}
variable {cc : ByteArray} {pc : Nat} {ls : Array Slot} {rest st0 : List Value} {D : va_G} {dA : Nat → ClassId} {A : Nat → Prop} {a : Nat} {ws : va_W} {H0 : Heap}
theorem g_thr {Qc : Array Value → State → Outcome → State → Prop} {PX : String → Prop} {mc ms nL ik is ic : Nat} {cls text : String} (hx : p.tables.exec = Jvm.exec) (hb : c.code = cc) (hg : ∀ w ∈ gw, w.before args s = true) (hl : l.stackTraces = false) (hown : s.vm.findClass RX10 = some m.cls) (hcls : Bundle.fit cls = true) (hk : Cond.classLink RX10 ik cls ∈ gw) (hini : Cond.initialized cls ∈ gw) (hst : (is, text) ∈ gStrs) (hat : ∀ w ∈ vx_atS RX10 ic cls xRE, w ∈ gw) (hgood : ∀ w ∈ Cond.classLink RX10 ik cls :: Cond.initialized cls :: vx_atS RX10 ic cls xRE, vx_ot w = true)
    (hZ : gZ A s) (hS : va_S A s.heap H locs) (hml : c.maxLocals = nL) (hsz : ls.size = nL) (hnt : ∀ x ∈ c.exceptionTable.toList, False) (hlocks : meth.locks = false) (d0 : decode cc pc = .ok (.new ik, 3)) (d3 : decode cc (pc + 3) = .ok (.dup, 1)) (d4 : decode cc (pc + 4) = .ok (.ldc is, 2)) (d6 : decode cc (pc + 6) = .ok (.invokespecial ic, 3)) (d9 : decode cc (pc + 9) = .ok (.athrow, 1))
    (hRf : 5 < R.frames) (hRl : (rest.map fun v => v.category).sum + 82 ≤ R.locals) (hRc : cells + 1 ≤ R.cells) (hRs : slots + 6 ≤ R.slots) (hc : cells + 1 ≤ mc) (hs : slots + 6 ≤ ms) (hpx : PX cls) : W p l e R s m args below meth c H locs cells slots (vx_MQ below Qc (gX PX A) args s mc ms A) (F0 m pc ls rest) := by
  obtain ⟨sa, hsa⟩ := hZ.2.2 _ hst
  exact vx_throwS hx hb hl hown hcls (by decide) (hg _ hk) (hg _ hini) hsa (fun w h => hg w (hat w h)) hgood hZ.1 hZ.2.1 hS (hsz.trans hml.symm) d0 d3 d4 d6 d9 (fun x h => (hnt x h).elim) hRf hRl hRc hRs hlocks (fun t hv hz hk => ⟨(), trivial, hpx, Nat.le_trans hS.1 hz, fun q h1 h2 => by rw [hk q (Nat.lt_of_lt_of_le h1 hS.1)]; exact hS.2.1 q h1 h2⟩) hS.2.2 hc hs
theorem g_thrW {Qc : Array Value → State → Outcome → State → Prop} {PX : String → Prop} {mc ms nL ik is ic : Nat} {cls text : String} (hx : p.tables.exec = Jvm.exec) (hb : c.code = cc) (hg : ∀ w ∈ gw, w.before args s = true) (hl : l.stackTraces = false) (hown : s.vm.findClass RX10 = some m.cls) (hcls : Bundle.fit cls = true) (hk : Cond.classLink RX10 ik cls ∈ gw) (hini : Cond.initialized cls ∈ gw) (hst : (is, text) ∈ gStrs) (hat : ∀ w ∈ vx_atS RX10 ic cls xRE, w ∈ gw) (hgood : ∀ w ∈ Cond.classLink RX10 ik cls :: Cond.initialized cls :: vx_atS RX10 ic cls xRE, vx_ot w = true)
    (hZ : gZ A s) (hS : va_S A s.heap H locs) (hml : c.maxLocals = nL) (hsz : ls.size = nL) (hnt : ∀ x ∈ c.exceptionTable.toList, False) (hlocks : meth.locks = false) (d0 : decode cc pc = .ok (.new ik, 3)) (d3 : decode cc (pc + 3) = .ok (.dup, 1)) (d4 : decode cc (pc + 4) = .ok (.ldc_w is, 3)) (d7 : decode cc (pc + 7) = .ok (.invokespecial ic, 3)) (d10 : decode cc (pc + 10) = .ok (.athrow, 1))
    (hRf : 5 < R.frames) (hRl : (rest.map fun v => v.category).sum + 82 ≤ R.locals) (hRc : cells + 1 ≤ R.cells) (hRs : slots + 6 ≤ R.slots) (hc : cells + 1 ≤ mc) (hs : slots + 6 ≤ ms) (hpx : PX cls) : W p l e R s m args below meth c H locs cells slots (vx_MQ below Qc (gX PX A) args s mc ms A) (F0 m pc ls rest) := by
  obtain ⟨sa, hsa⟩ := hZ.2.2 _ hst
  exact vx_throwSW hx hb hl hown hcls (by decide) (hg _ hk) (hg _ hini) hsa (fun w h => hg w (hat w h)) hgood hZ.1 hZ.2.1 hS (hsz.trans hml.symm) d0 d3 d4 d7 d10 (fun x h => (hnt x h).elim) hRf hRl hRc hRs hlocks (fun t hv hz hk => ⟨(), trivial, hpx, Nat.le_trans hS.1 hz, fun q h1 h2 => by rw [hk q (Nat.lt_of_lt_of_le h1 hS.1)]; exact hS.2.1 q h1 h2⟩) hS.2.2 hc hs
theorem g_keep {wc wr : va_W} {H1 : Heap} {isC isR : List Nat} (hP : va_P D vwC ws H) (hD : va_D A ws) (hC : isC.map (fun i => ws[i]?) = wc.map some) (hR : isR.map (fun i => ws[i]?) = wr.map some) (hn : va_nd isR = true) (hdis : ∀ i ∈ isR, i ∉ isC) (hk : ∀ q : Nat, q < H.size → ¬ va_A wc H.size q → H1[q]? = H[q]?) (hF : ∀ q, va_A wc H.size q → A q) : va_P D vwC wr H1 ∧ va_D A wr := by
  have h := va_join (w1 := []) hP hD isC isR hC hR hn hdis hk hF (fun k q h => by simp at h) ⟨fun i j p q h => by simp at h, fun k q h => by simp at h⟩
  simpa using h
/-- a call that may throw -/
theorem g_Vx {own : String} {T : u_T} {N ci index maxL nL lv mc ms n b : Nat} {y : MethodName} {bytes : ByteArray} {rt : FieldType} {As : List Value} {wc wr : va_W} {post : Int32 → Unit → Prop} {PX : String → Prop} {fs : List Value} (hx : p.tables.exec = Jvm.exec) (hb : c.code = cc) (hml : c.maxLocals = nL) (hg : ∀ w ∈ gw, w.before args s = true) (hown : s.vm.findClass own = some m.cls) (hZ : gZ A s) (hK : gK D dA s) (hP : va_P D vwC ws H) (hD : va_D A ws) (hS : va_S A s.heap H locs) (hA : ∀ q, s.heap.size ≤ q → A q)
    (hM : vx_Met l y (gws y bytes maxL (some rt)) (gR lv mc ms) (gPreX D dA (.ref b :: As) wc H.size) (va_Qi post (gAt D dA (va_A wc H.size) (fun _ : Unit => [])) (va_A wc H.size)) (gX PX (va_A wc H.size)) mc ms (va_A wc H.size)) (isC isR : List Nat) (hC : isC.map (fun i => ws[i]?) = wc.map some) (hnC : va_nd isC = true) (hR : isR.map (fun i => ws[i]?) = wr.map some) (hnR : va_nd isR = true) (hdis : ∀ i ∈ isR, i ∉ isC) (q0 : Nat) (he : wc[q0]? = some (b, .inr (ci, fs))) (hcl : vwC[ci]? = some (y.cls, T, N))
    (hc : Cond.code y bytes maxL (some rt) ∈ gw) (hi : Cond.initialized y.cls ∈ gw) (hl : Cond.methodLink own index y ∈ gw) (hin : Cond.instanceMethod y ∈ gw) (hse : Cond.selects y.cls y y ∈ gw) (hd : y.cls ≠ "java/lang/invoke/MethodHandle" ∧ y.cls ≠ "java/lang/invoke/VarHandle" ∧ (parseMethodDescriptor y.desc).map (fun d => d.parameters.length) = some n) (hRm : lv + 1 ≤ R.frames ∧ 8 + (maxL + 11) + 100 * lv ≤ R.locals) (hnn : As.length = n) (hsz : ls.size = nL) (hst : st0 = As.reverse ++ .ref b :: rest) (hrm : (rest.map fun v => v.category).sum ≤ 8) (hdg : decode cc pc = .ok (.invokevirtual index, 3)) (hf : cells + mc ≤ R.cells ∧ slots + ms ≤ R.slots)
    (kx : ∀ (E : String) (ce : Cell) (q9 : Addr) (H1 : Heap) (locs1 : List Loc), PX E → va_P D vwC wr H1 → va_D A wr → va_S A s.heap H1 locs1 → H1[q9]? = some ce → ce.vm = .none → s.vm.findClass E = some ce.cls → vx_W p l e R s m args below meth c H1 locs1 (cells + mc) (slots + ms) Q (F0 m pc ls rest) q9)
    (kk : ∀ (r : Int32) (H1 : Heap) (locs1 : List Loc), post r () → va_P D vwC wr H1 → va_D A wr → va_S A s.heap H1 locs1 → W p l e R s m args below meth c H1 locs1 (cells + mc) (slots + ms) Q (F0 m (pc + 3) ls (.int r :: rest))) : W p l e R s m args below meth c H locs cells slots Q (F0 m pc ls st0) := by
  obtain ⟨hPc, hDc⟩ := g_part hP hD hC hnC
  have hF := va_free (wc := wc) hD hS hA isC hC
  refine vx_calli (vx_runV (As := As) (rest := rest) ⟨hx, hb, hml, hown, hg⟩ hM ⟨g_CB hg hc hi hl hd hRm, hg _ hin, hg _ hse⟩ ⟨g_blindX, va_recv hK hPc hcl he, fun U hU hW => ⟨rfl, by rw [hU], by rw [hU]; exact hPc, va_K.moved hW.alike hK, hDc.weaken (fun _ _ _ _ => trivial), gZ_moved hW hU hS hF hZ⟩⟩ rfl hnn hsz hst (lv_room hrm) hdg hf) hS (fun q _ h => hF q h) hF (fun q _ h => hF q h) (fun E ce q9 u t H1 locs1 ht hvm hpx hB hz1 hk1 hS1 hce hcv hcl => ?_) (fun r u t H1 locs1 ht hvm hw hB hz1 hk1 hS1 => ?_)
  · obtain ⟨hP2, hD2⟩ := g_keep hP hD hC hR hnR hdis hk1 hF
    exact kx E ce q9 H1 locs1 hB hP2 hD2 hS1 hce hcv hcl
  · obtain ⟨hP2, hD2⟩ := g_keep hP hD hC hR hnR hdis hk1 hF
    exact kk r H1 locs1 hw hP2 hD2 hS1
/-- a static call of a method with a table (the law's own) -/
theorem g_SW {S : Type} {own : String} {index maxL nL lv mc ms n : Nat} {y : MethodName} {bytes : ByteArray} {rt : FieldType} {hh : List (Nat × Nat × Nat × Nat)} {As : List Value} {wc wr : va_W} {w1 : S → va_W} {post : Int32 → S → Prop} (hx : p.tables.exec = Jvm.exec) (hb : c.code = cc) (hml : c.maxLocals = nL) (hg : ∀ w ∈ gw, w.before args s = true) (hown : s.vm.findClass own = some m.cls) (hZ : gZ A s) (hN : gNc s) (hK : gK D dA s) (hP : va_P D vwC ws H) (hD : va_D A ws) (hS : va_S A s.heap H locs) (hA : ∀ q, s.heap.size ≤ q → A q)
    (hM : Met l y (gwsW y bytes maxL (some rt) hh) (gR lv mc ms) (gPreW D dA As wc H.size) (va_Qi post (gAt D dA (va_A wc H.size) w1) (va_A wc H.size)) mc ms (va_A wc H.size)) (isC isR : List Nat) (hC : isC.map (fun i => ws[i]?) = wc.map some) (hnC : va_nd isC = true) (hR : isR.map (fun i => ws[i]?) = wr.map some) (hnR : va_nd isR = true) (hdis : ∀ i ∈ isR, i ∉ isC)
    (hc : Cond.codeWith y bytes maxL (some rt) hh ∈ gw) (hi : Cond.initialized y.cls ∈ gw) (hl : Cond.methodLink own index y ∈ gw) (hsta : Cond.static y ∈ gw) (hd : y.cls ≠ "java/lang/invoke/MethodHandle" ∧ y.cls ≠ "java/lang/invoke/VarHandle" ∧ (parseMethodDescriptor y.desc).map (fun d => d.parameters.length) = some n) (hRm : lv + 1 ≤ R.frames ∧ 8 + (maxL + 11) + 100 * lv ≤ R.locals) (hnn : As.length = n) (hsz : ls.size = nL) (hst : st0 = As.reverse ++ rest) (hrm : (rest.map fun v => v.category).sum ≤ 8) (hdg : decode cc pc = .ok (.invokestatic index, 3)) (hf : cells + mc ≤ R.cells ∧ slots + ms ≤ R.slots)
    (kk : ∀ (r : Int32) (u : S) (H1 : Heap) (locs1 : List Loc), post r u → va_P D vwC (wr ++ w1 u) H1 → va_D A (wr ++ w1 u) → va_S A s.heap H1 locs1 → W p l e R s m args below meth c H1 locs1 (cells + mc) (slots + ms) Q (F0 m (pc + 3) ls (.int r :: rest))) : W p l e R s m args below meth c H locs cells slots Q (F0 m pc ls st0) := by
  obtain ⟨hPc, hDc⟩ := g_part hP hD hC hnC
  have hF := va_free (wc := wc) hD hS hA isC hC
  have hcw : vx_CSW R s args own index y bytes maxL (some rt) hh (gwsW y bytes maxL (some rt) hh) (gR lv mc ms) mc ms n := by
    refine ⟨⟨rfl, rfl, hRm.1, hRm.2, fun w hw a' U hW => ?_, List.mem_cons_self⟩, hg _ hc, hg _ hi, ⟨hd.1, hd.2.1⟩, fun sig h => ?_, hg _ hl, hg _ hsta⟩
    · rcases List.mem_cons.mp hw with e1 | h1
      · rw [e1]; exact gOK_pay hW (List.mem_filter.mp hc).2 (hg _ hc)
      · exact gOK_pay hW (List.mem_filter.mp h1).2 (hg _ h1)
    · have h2 := hd.2.2
      rw [h] at h2
      exact (Option.some.inj h2).symm
  exact va_calli (vx_runSW (As := As) (rest := rest) ⟨hx, hb, hml, hown, hg⟩ hM hcw ⟨g_blindW, fun U hU hW => ⟨rfl, by rw [hU], by rw [hU]; exact hPc, va_K.moved hW.alike hK, hDc.weaken (fun _ _ _ _ => trivial), gZ_moved hW hU hS hF hZ, gNc_moved hW.alike hN⟩⟩ rfl hnn hsz hst (lv_room hrm) hdg hf) hS (fun q _ h => hF q h) hF (fun r u t H1 locs1 ht hvm hw hB hz1 hk1 hS1 => by
    obtain ⟨hP2, hD2⟩ := g_back hP hD hC hR hnR hdis ht hk1 hF hB
    exact kk r u H1 locs1 hw hP2 hD2 hS1)
end GX
/-- in range, by two branches -/
theorem g_in {x M : Int32} {n : Nat} (hM : M.toInt = (n : Int)) (h0 : ¬ x < 0) (h1 : x < M) : vp_in x n := by
  rw [vp_in_iff]
  rw [Int32.lt_iff_toInt_lt] at h0 h1
  have e0 : (0 : Int32).toInt = 0 := by decide
  rw [e0] at h0
  rw [hM] at h1
  omega
theorem g_inle {x M : Int32} {n : Nat} (hM : M.toInt + 1 = (n : Int)) (h0 : ¬ x < 0) (h1 : x ≤ M) : vp_in x n := by
  rw [vp_in_iff]
  rw [Int32.lt_iff_toInt_lt] at h0
  rw [Int32.le_iff_toInt_le] at h1
  have e0 : (0 : Int32).toInt = 0 := by decide
  rw [e0] at h0
  omega
set_option maxRecDepth 20000 in
theorem atIAE : ∀ w ∈ vx_atS RX10 94 xIAE xRE, w ∈ gw := gw_all [161, 718, 669, 678, 681, 683, 719, 720, 186, 187, 663, 668, 679, 686, 712, 687, 713, 688, 714, 664, 666, 715, 661, 662, 685, 715, 742, 743, 744, 655, 706, 655, 656, 657, 658, 708, 658, 659, 660, 661, 710, 741, 732, 733, 734, 673, 735, 736, 737, 738, 684, 716, 739] (by decide +kernel) (by decide +kernel)
set_option maxRecDepth 20000 in
theorem atIOB : ∀ w ∈ vx_atS RX10 107 xIOB xRE, w ∈ gw := gw_all [161, 718, 669, 678, 681, 683, 719, 720, 186, 187, 663, 668, 679, 686, 712, 687, 713, 688, 714, 664, 666, 715, 661, 662, 685, 715, 652, 653, 654, 655, 706, 655, 656, 657, 658, 708, 658, 659, 660, 661, 710, 761, 752, 753, 754, 675, 755, 756, 757, 758, 684, 716, 759] (by decide +kernel) (by decide +kernel)
set_option maxRecDepth 20000 in
theorem atISE : ∀ w ∈ vx_atS RX10 171 xISE xRE, w ∈ gw := gw_all [161, 718, 669, 678, 681, 683, 719, 720, 186, 187, 663, 668, 679, 686, 712, 687, 713, 688, 714, 664, 666, 715, 661, 662, 685, 715, 1275, 1276, 1277, 655, 706, 655, 656, 657, 658, 708, 658, 659, 660, 661, 710, 1274, 1265, 1266, 1267, 674, 1268, 1269, 1270, 1271, 684, 716, 1272] (by decide +kernel) (by decide +kernel)
end
section
theorem g_u0 (k : Nat) : upd (fun _ => 0) k 0 = fun _ => 0 := by
  funext j
  unfold upd
  by_cases h : j = k
  · rw [if_pos h]
  · rw [if_neg h]
theorem g_nz : vp_nar .boolean 0 = 0 := by decide
theorem g_u0z (k : Nat) : upd (fun _ => 0) k (vp_nar .boolean 0) = fun _ => 0 := by rw [g_nz]; exact g_u0 k
theorem gM_0 (a b c : Nat) : va_rf (gM a b c (0 : Int32).toNatClampNeg) = .ref a := by
  have e0 : (0 : Int32).toNatClampNeg = 0 := by decide
  rw [e0]; rfl
theorem gM_1 (a b c : Nat) : va_rf (gM a b c (1 : Int32).toNatClampNeg) = .ref b := by
  have e0 : (1 : Int32).toNatClampNeg = 1 := by decide
  rw [e0]; rfl
theorem gM_2 (a b c : Nat) : va_rf (gM a b c (2 : Int32).toNatClampNeg) = .ref c := by
  have e0 : (2 : Int32).toNatClampNeg = 2 := by decide
  rw [e0]; rfl
def gIn (lo hi : Int) (x : Int32) : Prop := lo ≤ x.toInt ∧ x.toInt ≤ hi
theorem gb_lt_r {x c : Int32} {k : Int} (hc : c.toInt = k) (h : x < c) : x.toInt < k := by rw [← hc]; exact Int32.lt_iff_toInt_lt.mp h
theorem gb_nlt_r {x c : Int32} {k : Int} (hc : c.toInt = k) (h : ¬ x < c) : k ≤ x.toInt := by rw [← hc]; rw [Int32.lt_iff_toInt_lt] at h; omega
theorem gb_le_r {x c : Int32} {k : Int} (hc : c.toInt = k) (h : x ≤ c) : x.toInt ≤ k := by rw [← hc]; exact Int32.le_iff_toInt_le.mp h
theorem gb_nle_r {x c : Int32} {k : Int} (hc : c.toInt = k) (h : ¬ x ≤ c) : k < x.toInt := by rw [← hc]; rw [Int32.le_iff_toInt_le] at h; omega
theorem gb_lt_l {x c : Int32} {k : Int} (hc : c.toInt = k) (h : c < x) : k < x.toInt := by rw [← hc]; exact Int32.lt_iff_toInt_lt.mp h
theorem gb_nlt_l {x c : Int32} {k : Int} (hc : c.toInt = k) (h : ¬ c < x) : x.toInt ≤ k := by rw [← hc]; rw [Int32.lt_iff_toInt_lt] at h; omega
theorem gb_le_l {x c : Int32} {k : Int} (hc : c.toInt = k) (h : c ≤ x) : k ≤ x.toInt := by rw [← hc]; exact Int32.le_iff_toInt_le.mp h
theorem gb_nle_l {x c : Int32} {k : Int} (hc : c.toInt = k) (h : ¬ c ≤ x) : x.toInt < k := by rw [← hc]; rw [Int32.le_iff_toInt_le] at h; omega
theorem gb_eq_r {x c : Int32} {k : Int} (hc : c.toInt = k) (h : x = c) : x.toInt = k := by rw [h, hc]
theorem gb_neq_r {x c : Int32} {k : Int} (hc : c.toInt = k) (h : ¬ x = c) : x.toInt ≠ k := lv_neT h hc
theorem gb_ne_r {x c : Int32} {k : Int} (hc : c.toInt = k) (h : ¬ x = c) : x.toInt ≠ k := lv_neT h hc
theorem gb_nne_r {x c : Int32} {k : Int} (hc : c.toInt = k) (h : ¬ ¬ x = c) : x.toInt = k := by rw [Classical.not_not.mp h, hc]
theorem g_eqI {x c : Int32} {k : Int} (hc : c.toInt = k) (h : x.toInt = k) : x = c := Int32.toInt_inj.mp (by rw [h, hc])
theorem g_in3 {x : Int32} (h0 : 0 ≤ x.toInt) (h1 : x.toInt < 3) : x = 0 ∨ x = 1 ∨ x = 2 := by
  have h : x.toInt = 0 ∨ x.toInt = 1 ∨ x.toInt = 2 := by omega
  rcases h with h | h | h
  · exact Or.inl (g_eqI (by decide) h)
  · exact Or.inr (Or.inl (g_eqI (by decide) h))
  · exact Or.inr (Or.inr (g_eqI (by decide) h))
section GT
variable {p : Program} {l : Launch} {e : Env} {R : Room} {s : State} {m : MethodId} {args : Array Value} {below : List Frame} {meth : Method} {c : Code} {H : Heap} {locs : List Loc} {cells slots : Nat} {Q : State → Prop}
variable {pc : Nat} {ls : Array Slot} {rest : List Value}
theorem g_topv {v w : Value} (h : v = w) (k : W p l e R s m args below meth c H locs cells slots Q (F0 m pc ls (w :: rest))) : W p l e R s m args below meth c H locs cells slots Q (F0 m pc ls (v :: rest)) := h ▸ k
end GT
end
section
theorem dX10_isModule_0 : decode cX10_isModule 0 = .ok (.iload_n 0, 1) := by decide +kernel
theorem dX10_isModule_1 : decode cX10_isModule 1 = .ok (.ifCond .lt 12, 3) := by decide +kernel
theorem dX10_isModule_13 : decode cX10_isModule 13 = .ok (.iconst 0, 1) := by decide +kernel
theorem dX10_isModule_14 : decode cX10_isModule 14 = .ok (.ireturn, 1) := by decide +kernel
theorem dX10_isModule_4 : decode cX10_isModule 4 = .ok (.iload_n 0, 1) := by decide +kernel
theorem dX10_isModule_5 : decode cX10_isModule 5 = .ok (.iconst 3, 1) := by decide +kernel
theorem dX10_isModule_6 : decode cX10_isModule 6 = .ok (.if_icmp .ge 7, 3) := by decide +kernel
theorem dX10_isModule_9 : decode cX10_isModule 9 = .ok (.iconst 1, 1) := by decide +kernel
theorem dX10_isModule_10 : decode cX10_isModule 10 = .ok (.goto 4, 3) := by decide +kernel
theorem dX10_tell_0 : decode cX10_tell 0 = .ok (.aload_n 0, 1) := by decide +kernel
theorem dX10_tell_1 : decode cX10_tell 1 = .ok (.iload_n 1, 1) := by decide +kernel
theorem dX10_tell_2 : decode cX10_tell 2 = .ok (.putfield 17, 3) := by decide +kernel
theorem dX10_tell_5 : decode cX10_tell 5 = .ok (.aload_n 0, 1) := by decide +kernel
theorem dX10_tell_6 : decode cX10_tell 6 = .ok (.iload_n 2, 1) := by decide +kernel
theorem dX10_tell_7 : decode cX10_tell 7 = .ok (.putfield 20, 3) := by decide +kernel
theorem dX10_tell_10 : decode cX10_tell 10 = .ok (.return_, 1) := by decide +kernel
set_option maxHeartbeats 4000000 in
set_option maxRecDepth 100000 in
theorem c_X10_isModule (l : Launch) (D : va_G) (dA : Nat → ClassId) (x : Int32) (sz : Nat) : Met l yX10_isModule (gws yX10_isModule cX10_isModule 1 (some .boolean)) (gR 2 0 0) (gPre D dA [.int x] [] sz) (va_Qi (fun (r : Int32) (_ : Nat → Nat) => (r = 1 ∧ x = 0) ∨ (r = 1 ∧ x = 1) ∨ (r = 1 ∧ x = 2) ∨ (r = 0 ∧ ¬ gIn 0 2 x)) (gAt D dA (va_A [] sz) (fun ad : Nat → Nat => [])) (va_A [] sz)) 0 0 (va_A [] sz) := by
  refine Met.ofW (cc := cX10_isModule) (maxL := 1) (ret := (some .boolean)) (by decide) rfl ?_
  intro p e s m args below meth c s₁ B hml hv
  obtain ⟨rfl, hsz, hP, hK, hD0⟩ := hv
  have hx := B.exec
  have hb := B.bytes
  have hr := B.returns
  have hts := atoms_spec (ws := gws yX10_isModule cX10_isModule 1 (some .boolean)) B.pre
  have hg : ∀ w ∈ gw, w.before _ s = true := fun w h => hts w (List.mem_cons_of_mem _ h)
  have hown : s.vm.findClass RX10 = some m.cls := findClass_of_methodNamed B.named
  have hlocks := B.notSynchronized
  subst hsz
  have hD := hD0.self (sz := s.heap.size)
  generalize hAe : va_A [] s.heap.size = A at hD ⊢
  have hA : ∀ q : Nat, s.heap.size ≤ q → A q := fun q h => by rw [← hAe]; exact Or.inr h
  have hS : va_S A s.heap s.heap [] := va_S.rf
  have hP : va_P D vwC [] s.heap := hP
  have hl := lv_entry ([.int x]) (n := 1) (Nat.le_of_ble_eq_true rfl)
  rw [lg_entry_eq]
  generalize (lg_sl ([.int x]) ++ List.replicate (1 - (lg_sl ([.int x])).length) Slot.unset).toArray = ls at hl ⊢
  have hl : lv_has ls 1 [(0, .int x)] := hl
  refine lv_iload_n hx hb dX10_isModule_0 rfl (lv_at hl 0 rfl) ?_
  refine lv_if_lt (tgt := 13) hx hb dX10_isModule_1 (by decide) (fun k1 => ?_) (fun k1 => ?_)
  · refine lv_iconst (v := 0) hx hb dX10_isModule_13 (by decide) ?_
    obtain ⟨hP, hD⟩ := g_cut (is := []) (w' := []) hP hD (by decide) rfl rfl
    have bk1 := gb_lt_r (k := 0) (by decide) k1
    exact g_iret hx hb hr rfl hlocks hK (fun k => ([] : List Nat).getD k 0) hP hD hS (Or.inr (Or.inr (Or.inr ⟨rfl, by unfold gIn; omega⟩))) (Nat.le_of_ble_eq_true rfl) (Nat.le_of_ble_eq_true rfl) dX10_isModule_14
  · refine lv_iload_n hx hb dX10_isModule_4 rfl (lv_at hl 0 rfl) ?_
    refine lv_iconst (v := 3) hx hb dX10_isModule_5 (by decide) ?_
    refine lv_icmp_ge (tgt := 13) hx hb dX10_isModule_6 (by decide) (fun k2 => ?_) (fun k2 => ?_)
    · refine lv_iconst (v := 0) hx hb dX10_isModule_13 (by decide) ?_
      obtain ⟨hP, hD⟩ := g_cut (is := []) (w' := []) hP hD (by decide) rfl rfl
      have bk1 := gb_nlt_r (k := 0) (by decide) k1
      have bk2 := gb_le_l (k := 3) (by decide) k2
      exact g_iret hx hb hr rfl hlocks hK (fun k => ([] : List Nat).getD k 0) hP hD hS (Or.inr (Or.inr (Or.inr ⟨rfl, by unfold gIn; omega⟩))) (Nat.le_of_ble_eq_true rfl) (Nat.le_of_ble_eq_true rfl) dX10_isModule_14
    · refine lv_iconst (v := 1) hx hb dX10_isModule_9 (by decide) ?_
      refine lv_goto (tgt := 14) hx hb dX10_isModule_10 (by decide) ?_
      obtain ⟨hP, hD⟩ := g_cut (is := []) (w' := []) hP hD (by decide) rfl rfl
      have bk1 := gb_nlt_r (k := 0) (by decide) k1
      have bk2 := gb_nle_l (k := 3) (by decide) k2
      exact g_iret hx hb hr rfl hlocks hK (fun k => ([] : List Nat).getD k 0) hP hD hS (by rcases g_in3 (x := x) (by omega) (by omega) with h | h | h; exact Or.inl ⟨rfl, h⟩; exact Or.inr (Or.inl ⟨rfl, h⟩); exact Or.inr (Or.inr (Or.inl ⟨rfl, h⟩))) (Nat.le_of_ble_eq_true rfl) (Nat.le_of_ble_eq_true rfl) dX10_isModule_14
set_option maxHeartbeats 4000000 in
set_option maxRecDepth 100000 in
theorem c_X10_tell (l : Launch) (D : va_G) (dA : Nat → ClassId) (h0 : Nat) (a0 : Nat) (a1 : Nat) (a2 : Nat) (a3 : Nat) (a4 : Nat) (a5 : Nat) (a6 : Nat) (a7 : Nat) (a8 : Nat) (sz : Nat) : Met l yX10_tell (gws yX10_tell cX10_tell 3 none) (gR 2 0 0) (gPre D dA [.ref h0, .int (-1), .int (-1)] [(h0, .inr (10, [.ref a0, .int 0, .int (-1), .int (-1), .ref a1, .ref a2, .ref a3, .ref a4, .ref a5, .ref a6, .ref a7, .ref a8]))] sz) (va_Qv (fun _ : Nat → Nat => True) (gAt D dA (va_A [(h0, .inr (10, [.ref a0, .int 0, .int (-1), .int (-1), .ref a1, .ref a2, .ref a3, .ref a4, .ref a5, .ref a6, .ref a7, .ref a8]))] sz) (fun ad : Nat → Nat => [(h0, .inr (10, [.ref a0, .int 0, .int (-1), .int (-1), .ref a1, .ref a2, .ref a3, .ref a4, .ref a5, .ref a6, .ref a7, .ref a8]))])) (va_A [(h0, .inr (10, [.ref a0, .int 0, .int (-1), .int (-1), .ref a1, .ref a2, .ref a3, .ref a4, .ref a5, .ref a6, .ref a7, .ref a8]))] sz)) 0 0 (va_A [(h0, .inr (10, [.ref a0, .int 0, .int (-1), .int (-1), .ref a1, .ref a2, .ref a3, .ref a4, .ref a5, .ref a6, .ref a7, .ref a8]))] sz) := by
  refine Met.ofW (cc := cX10_tell) (maxL := 3) (ret := none) (by decide) rfl ?_
  intro p e s m args below meth c s₁ B hml hv
  obtain ⟨rfl, hsz, hP, hK, hD0⟩ := hv
  have hx := B.exec
  have hb := B.bytes
  have hr := B.returns
  have hts := atoms_spec (ws := gws yX10_tell cX10_tell 3 none) B.pre
  have hg : ∀ w ∈ gw, w.before _ s = true := fun w h => hts w (List.mem_cons_of_mem _ h)
  have hown : s.vm.findClass RX10 = some m.cls := findClass_of_methodNamed B.named
  have hlocks := B.notSynchronized
  subst hsz
  have hD := hD0.self (sz := s.heap.size)
  generalize hAe : va_A [(h0, .inr (10, [.ref a0, .int 0, .int (-1), .int (-1), .ref a1, .ref a2, .ref a3, .ref a4, .ref a5, .ref a6, .ref a7, .ref a8]))] s.heap.size = A at hD ⊢
  have hA : ∀ q : Nat, s.heap.size ≤ q → A q := fun q h => by rw [← hAe]; exact Or.inr h
  have hS : va_S A s.heap s.heap [] := va_S.rf
  have hP : va_P D vwC [(h0, .inr (10, [.ref a0, .int 0, .int (-1), .int (-1), .ref a1, .ref a2, .ref a3, .ref a4, .ref a5, .ref a6, .ref a7, .ref a8]))] s.heap := hP
  have hl := lv_entry ([.ref h0, .int (-1), .int (-1)]) (n := 3) (Nat.le_of_ble_eq_true rfl)
  rw [lg_entry_eq]
  generalize (lg_sl ([.ref h0, .int (-1), .int (-1)]) ++ List.replicate (3 - (lg_sl ([.ref h0, .int (-1), .int (-1)])).length) Slot.unset).toArray = ls at hl ⊢
  have hl : lv_has ls 3 [(0, .ref h0), (1, .int (-1)), (2, .int (-1))] := hl
  refine lv_aload_n hx hb dX10_tell_0 rfl (lv_at hl 0 rfl) ?_
  refine lv_iload_n hx hb dX10_tell_1 rfl (lv_at hl 1 rfl) ?_
  refine g_put (w' := [(h0, .inr (10, [.ref a0, .int 0, .int (-1), .int (-1), .ref a1, .ref a2, .ref a3, .ref a4, .ref a5, .ref a6, .ref a7, .ref a8]))]) hx hb hg hown hK hP hD hS 0 rfl rfl inX10 tyX10_ok nmX10 2 (by decide) q608 rfl rfl rfl (Nat.le_of_ble_eq_true rfl) rfl dX10_tell_2 (fun H locs hP hD hS => ?_)
  refine lv_aload_n hx hb dX10_tell_5 rfl (lv_at hl 0 rfl) ?_
  refine lv_iload_n hx hb dX10_tell_6 rfl (lv_at hl 2 rfl) ?_
  refine g_put (w' := [(h0, .inr (10, [.ref a0, .int 0, .int (-1), .int (-1), .ref a1, .ref a2, .ref a3, .ref a4, .ref a5, .ref a6, .ref a7, .ref a8]))]) hx hb hg hown hK hP hD hS 0 rfl rfl inX10 tyX10_ok nmX10 3 (by decide) q609 rfl rfl rfl (Nat.le_of_ble_eq_true rfl) rfl dX10_tell_7 (fun H locs hP hD hS => ?_)
  obtain ⟨hP, hD⟩ := g_cut (is := [0]) (w' := [(h0, .inr (10, [.ref a0, .int 0, .int (-1), .int (-1), .ref a1, .ref a2, .ref a3, .ref a4, .ref a5, .ref a6, .ref a7, .ref a8]))]) hP hD (by decide) rfl rfl
  exact g_vret hx hb hr hlocks hK (fun k => ([] : List Nat).getD k 0) hP hD hS trivial (Nat.le_of_ble_eq_true rfl) (Nat.le_of_ble_eq_true rfl) dX10_tell_10
end
section
theorem dJ7_fill_53178_0 : decode cJ7_fill_53178 0 = .ok (.iconst 0, 1) := by decide +kernel
theorem dJ7_fill_53178_1 : decode cJ7_fill_53178 1 = .ok (.istore_n 2, 1) := by decide +kernel
theorem dJ7_fill_53178_2 : decode cJ7_fill_53178 2 = .ok (.aload_n 0, 1) := by decide +kernel
theorem dJ7_fill_53178_3 : decode cJ7_fill_53178 3 = .ok (.arraylength, 1) := by decide +kernel
theorem dJ7_fill_53178_4 : decode cJ7_fill_53178 4 = .ok (.istore_n 3, 1) := by decide +kernel
theorem dJ7_fill_53178_5 : decode cJ7_fill_53178 5 = .ok (.iload_n 2, 1) := by decide +kernel
theorem dJ7_fill_53178_6 : decode cJ7_fill_53178 6 = .ok (.iload_n 3, 1) := by decide +kernel
theorem dJ7_fill_53178_7 : decode cJ7_fill_53178 7 = .ok (.if_icmp .ge 13, 3) := by decide +kernel
theorem dJ7_fill_53178_10 : decode cJ7_fill_53178 10 = .ok (.aload_n 0, 1) := by decide +kernel
theorem dJ7_fill_53178_11 : decode cJ7_fill_53178 11 = .ok (.iload_n 2, 1) := by decide +kernel
theorem dJ7_fill_53178_12 : decode cJ7_fill_53178 12 = .ok (.iload_n 1, 1) := by decide +kernel
theorem dJ7_fill_53178_13 : decode cJ7_fill_53178 13 = .ok (.iastore, 1) := by decide +kernel
theorem dJ7_fill_53178_14 : decode cJ7_fill_53178 14 = .ok (.iinc 2 1, 3) := by decide +kernel
theorem dJ7_fill_53178_17 : decode cJ7_fill_53178 17 = .ok (.goto (-12), 3) := by decide +kernel
theorem dJ7_fill_53178_20 : decode cJ7_fill_53178 20 = .ok (.return_, 1) := by decide +kernel
set_option maxHeartbeats 4000000 in
theorem lp_fill {p : Program} {l : Launch} {e : Env} {R : Room} {s : State} {m : MethodId} {args : Array Value} {below : List Frame} {meth : Method} {c : Code} {Q : State → Prop} {D : va_G} {dA : Nat → ClassId} {A : Nat → Prop} {h0 n : Nat} (hx : p.tables.exec = Jvm.exec) (hb : c.code = cJ7_fill_53178) (hK : gK D dA s) (hn : n < 2 ^ 31) (hD : va_D A [(h0, .inl (dA 0, n, .inl (fun _ => 0)))])
    (kk : ∀ (H : Heap) (locs : List Loc) (ls : Array Slot), va_P D vwC [(h0, .inl (dA 0, n, .inl (fun _ => 0)))] H → va_S A s.heap H locs → W p l e R s m args below meth c H locs 0 0 Q (F0 m 20 ls [])) :
    ∀ (k i : Nat), i + k = n → ∀ (H : Heap) (locs : List Loc) (ls : Array Slot), va_P D vwC [(h0, .inl (dA 0, n, .inl (fun _ => 0)))] H → va_S A s.heap H locs → lv_has ls 4 [(2, .int (nI i)), (3, .int (nI n)), (0, .ref h0), (1, .int 0)] → W p l e R s m args below meth c H locs 0 0 Q (F0 m 5 ls []) := by
  intro k
  induction k with
  | zero =>
    intro i hi H locs ls hP hS hl
    refine lv_iload_n hx hb dJ7_fill_53178_5 rfl (lv_at hl 0 rfl) ?_
    refine lv_iload_n hx hb dJ7_fill_53178_6 rfl (lv_at hl 1 rfl) ?_
    refine lv_icmp_ge (tgt := 20) hx hb dJ7_fill_53178_7 (by decide) (fun _ => ?_) (fun h => absurd (nI_le (by omega) (by omega)) h)
    exact kk H locs ls hP hS
  | succ k ih =>
    intro i hi H locs ls hP hS hl
    refine lv_iload_n hx hb dJ7_fill_53178_5 rfl (lv_at hl 0 rfl) ?_
    refine lv_iload_n hx hb dJ7_fill_53178_6 rfl (lv_at hl 1 rfl) ?_
    refine lv_icmp_ge (tgt := 20) hx hb dJ7_fill_53178_7 (by decide) (fun h => absurd h (nI_ge (by omega) (by omega))) (fun _ => ?_)
    refine lv_aload_n hx hb dJ7_fill_53178_10 rfl (lv_at hl 2 rfl) ?_
    refine lv_iload_n hx hb dJ7_fill_53178_11 rfl (lv_at hl 0 rfl) ?_
    refine lv_iload_n hx hb dJ7_fill_53178_12 rfl (lv_at hl 3 rfl) ?_
    refine va_iast hx hb hK hP hD hS 0 0 rfl rfl (vp_in_nI (by omega) hn) dJ7_fill_53178_13 (fun H locs hP hD' hS => ?_)
    rw [g_u0] at hP
    have hP : va_P D vwC [(h0, .inl (dA 0, n, .inl (fun _ => 0)))] H := hP
    refine lv_iinc (v := nI (i + 1)) (lv' := [(2, .int (nI (i + 1))), (3, .int (nI n)), (0, .ref h0), (1, .int 0)]) hx hb dJ7_fill_53178_14 hl (k := 0) rfl (nI_1 i) (by decide) rfl (fun ls hl => ?_)
    refine lv_goto (tgt := 5) hx hb dJ7_fill_53178_17 (by decide) ?_
    exact ih (i + 1) (by omega) H locs ls hP hS hl
set_option maxHeartbeats 4000000 in
set_option maxRecDepth 100000 in
theorem c_fill (l : Launch) (D : va_G) (dA : Nat → ClassId) (h0 n : Nat) (hn : n < 2 ^ 31) (sz : Nat) : Met l yJ7_fill_53178 (gws yJ7_fill_53178 cJ7_fill_53178 4 none) (gR 2 0 0) (gPre D dA [.ref h0, .int 0] [(h0, .inl (dA 0, n, .inl (fun _ => 0)))] sz) (va_Qv (fun _ : Nat → Nat => True) (gAt D dA (va_A [(h0, .inl (dA 0, n, .inl (fun _ => 0)))] sz) (fun _ : Nat → Nat => [(h0, .inl (dA 0, n, .inl (fun _ => 0)))])) (va_A [(h0, .inl (dA 0, n, .inl (fun _ => 0)))] sz)) 0 0 (va_A [(h0, .inl (dA 0, n, .inl (fun _ => 0)))] sz) := by
  refine Met.ofW (cc := cJ7_fill_53178) (maxL := 4) (ret := none) (by decide) rfl ?_
  intro p e s m args below meth c s₁ B hml hv
  obtain ⟨rfl, hsz, hP, hK, hD0⟩ := hv
  have hx := B.exec
  have hb := B.bytes
  have hr := B.returns
  have hts := atoms_spec (ws := gws yJ7_fill_53178 cJ7_fill_53178 4 none) B.pre
  have hg : ∀ w ∈ gw, w.before _ s = true := fun w h => hts w (List.mem_cons_of_mem _ h)
  have hown : s.vm.findClass RJ7 = some m.cls := findClass_of_methodNamed B.named
  have hlocks := B.notSynchronized
  subst hsz
  have hD := hD0.self (sz := s.heap.size)
  generalize hAe : va_A [(h0, .inl (dA 0, n, .inl (fun _ => 0)))] s.heap.size = A at hD ⊢
  have hA : ∀ q : Nat, s.heap.size ≤ q → A q := fun q h => by rw [← hAe]; exact Or.inr h
  have hS : va_S A s.heap s.heap [] := va_S.rf
  have hP : va_P D vwC [(h0, .inl (dA 0, n, .inl (fun _ => 0)))] s.heap := hP
  have hl := lv_entry ([.ref h0, .int 0]) (n := 4) (Nat.le_of_ble_eq_true rfl)
  rw [lg_entry_eq]
  generalize (lg_sl ([.ref h0, .int 0]) ++ List.replicate (4 - (lg_sl ([.ref h0, .int 0])).length) Slot.unset).toArray = ls at hl ⊢
  have hl : lv_has ls 4 [(0, .ref h0), (1, .int 0)] := hl
  refine lv_iconst (v := 0) hx hb dJ7_fill_53178_0 (by decide) ?_
  refine lv_istore_n (lv' := [(2, .int 0), (0, .ref h0), (1, .int 0)]) hx hb dJ7_fill_53178_1 rfl hl (by decide) rfl (fun ls hl => ?_)
  refine lv_aload_n hx hb dJ7_fill_53178_2 rfl (lv_at hl 1 rfl) ?_
  refine va_alen (v := nI n) hx hb hK hP 0 0 rfl rfl rfl dJ7_fill_53178_3 ?_
  refine lv_istore_n (lv' := [(3, .int (nI n)), (2, .int 0), (0, .ref h0), (1, .int 0)]) hx hb dJ7_fill_53178_4 rfl hl (by decide) rfl (fun ls hl => ?_)
  refine lp_fill hx hb hK hn hD (fun H locs ls hP hS => ?_) n 0 (by omega) _ _ ls hP hS (by rw [nI_0]; exact lv_sub hl [1, 0, 2, 3] rfl)
  exact g_vret hx hb hr hlocks hK (fun _ => 0) hP hD hS trivial (Nat.le_refl _) (Nat.le_refl _) dJ7_fill_53178_20
end
section
theorem q3 : Cond.selects RX9 yX9_put yX9_put ∈ gw := gw_in (i := 3) (by decide +kernel) rfl
theorem q5 : Cond.selects RX8 yX8_type yX8_type ∈ gw := gw_in (i := 5) (by decide +kernel) rfl
theorem q28 : Cond.selects RX2 yX2_declareAll yX2_declareAll ∈ gw := gw_in (i := 28) (by decide +kernel) rfl
theorem q34 : Cond.selects RX2 yX2_measure yX2_measure ∈ gw := gw_in (i := 34) (by decide +kernel) rfl
theorem q35 : Cond.selects RX2 yX2_growJumps yX2_growJumps ∈ gw := gw_in (i := 35) (by decide +kernel) rfl
theorem q177 : Cond.initialized RJ7 ∈ gw := gw_in (i := 177) (by decide +kernel) rfl
theorem q206 : Cond.fieldLink RX2 33 "SegmentBench$Names" "crowdedAt" "I" ∈ gw := gw_in (i := 206) (by decide +kernel) rfl
theorem q232 : Cond.fieldLink RX8 78 "SegmentBench$Tokens" "type" "[I" ∈ gw := gw_in (i := 232) (by decide +kernel) rfl
theorem q238 : Cond.fieldLink RX8 40 "SegmentBench$Tokens" "size" "I" ∈ gw := gw_in (i := 238) (by decide +kernel) rfl
theorem q272 : Cond.fieldLink RX8 35 "SegmentBench$Draft" "size" "I" ∈ gw := gw_in (i := 272) (by decide +kernel) rfl
theorem q273 : Cond.fieldLink RX2 41 "SegmentBench$Draft" "size" "I" ∈ gw := gw_in (i := 273) (by decide +kernel) rfl
theorem q398 : Cond.fieldLink RX3 36 "SegmentBench$ObjectModule" "there" "Z" ∈ gw := gw_in (i := 398) (by decide +kernel) rfl
theorem q400 : Cond.fieldLink RX2 128 "SegmentBench$ObjectModule" "there" "Z" ∈ gw := gw_in (i := 400) (by decide +kernel) rfl
theorem q795 : Cond.methodLink RX9 29 yX5_clear ∈ gw := gw_in (i := 795) (by decide +kernel) rfl
theorem q796 : Cond.instanceMethod yX5_clear ∈ gw := gw_in (i := 796) (by decide +kernel) rfl
theorem q797 : Cond.selects RX5 yX5_clear yX5_clear ∈ gw := gw_in (i := 797) (by decide +kernel) rfl
theorem q798 : Cond.code yX5_clear cX5_clear 1 none ∈ gw := gw_in (i := 798) (by decide +kernel) rfl
theorem q810 : Cond.methodLink RX9 56 yX9_put ∈ gw := gw_in (i := 810) (by decide +kernel) rfl
theorem q812 : Cond.instanceMethod yX9_put ∈ gw := gw_in (i := 812) (by decide +kernel) rfl
theorem q813 : Cond.code yX9_put cX9_put 4 none ∈ gw := gw_in (i := 813) (by decide +kernel) rfl
theorem q943 : Cond.methodLink RX8 43 yX8_type ∈ gw := gw_in (i := 943) (by decide +kernel) rfl
theorem q945 : Cond.instanceMethod yX8_type ∈ gw := gw_in (i := 945) (by decide +kernel) rfl
theorem q946 : Cond.code yX8_type cX8_type 1 (some .int) ∈ gw := gw_in (i := 946) (by decide +kernel) rfl
theorem q1110 : Cond.methodLink RX2 38 yX2_declareAll ∈ gw := gw_in (i := 1110) (by decide +kernel) rfl
theorem q1112 : Cond.instanceMethod yX2_declareAll ∈ gw := gw_in (i := 1112) (by decide +kernel) rfl
theorem q1113 : Cond.code yX2_declareAll cX2_declareAll 3 none ∈ gw := gw_in (i := 1113) (by decide +kernel) rfl
theorem q1158 : Cond.methodLink RX2 90 yX2_measure ∈ gw := gw_in (i := 1158) (by decide +kernel) rfl
theorem q1160 : Cond.instanceMethod yX2_measure ∈ gw := gw_in (i := 1160) (by decide +kernel) rfl
theorem q1161 : Cond.code yX2_measure cX2_measure 3 none ∈ gw := gw_in (i := 1161) (by decide +kernel) rfl
theorem q1162 : Cond.methodLink RX2 97 yJ7_fill_53178 ∈ gw := gw_in (i := 1162) (by decide +kernel) rfl
theorem q1163 : Cond.static yJ7_fill_53178 ∈ gw := gw_in (i := 1163) (by decide +kernel) rfl
theorem q1164 : Cond.code yJ7_fill_53178 cJ7_fill_53178 4 none ∈ gw := gw_in (i := 1164) (by decide +kernel) rfl
theorem q1169 : Cond.methodLink RX2 93 yX2_growJumps ∈ gw := gw_in (i := 1169) (by decide +kernel) rfl
theorem q1171 : Cond.instanceMethod yX2_growJumps ∈ gw := gw_in (i := 1171) (by decide +kernel) rfl
theorem q1172 : Cond.code yX2_growJumps cX2_growJumps 3 (some .boolean) ∈ gw := gw_in (i := 1172) (by decide +kernel) rfl
theorem q1194 : Cond.methodLink RX2 123 yX6_clear ∈ gw := gw_in (i := 1194) (by decide +kernel) rfl
theorem q1195 : Cond.instanceMethod yX6_clear ∈ gw := gw_in (i := 1195) (by decide +kernel) rfl
theorem q1196 : Cond.selects RX6 yX6_clear yX6_clear ∈ gw := gw_in (i := 1196) (by decide +kernel) rfl
theorem q1197 : Cond.code yX6_clear cX6_clear 1 none ∈ gw := gw_in (i := 1197) (by decide +kernel) rfl
theorem q1198 : Cond.methodLink RX6 66 yJ7_fill_53178 ∈ gw := gw_in (i := 1198) (by decide +kernel) rfl
theorem dX5_clear_0 : decode cX5_clear 0 = .ok (.aload_n 0, 1) := by decide +kernel
theorem dX5_clear_1 : decode cX5_clear 1 = .ok (.iconst 0, 1) := by decide +kernel
theorem dX5_clear_2 : decode cX5_clear 2 = .ok (.putfield 28, 3) := by decide +kernel
theorem dX5_clear_5 : decode cX5_clear 5 = .ok (.aload_n 0, 1) := by decide +kernel
theorem dX5_clear_6 : decode cX5_clear 6 = .ok (.iconst (-1), 1) := by decide +kernel
theorem dX5_clear_7 : decode cX5_clear 7 = .ok (.putfield 32, 3) := by decide +kernel
theorem dX5_clear_10 : decode cX5_clear 10 = .ok (.return_, 1) := by decide +kernel
theorem dX9_put_0 : decode cX9_put 0 = .ok (.aload_n 0, 1) := by decide +kernel
theorem dX9_put_1 : decode cX9_put 1 = .ok (.getfield 21, 3) := by decide +kernel
theorem dX9_put_4 : decode cX9_put 4 = .ok (.aload_n 0, 1) := by decide +kernel
theorem dX9_put_5 : decode cX9_put 5 = .ok (.getfield 9, 3) := by decide +kernel
theorem dX9_put_8 : decode cX9_put 8 = .ok (.arraylength, 1) := by decide +kernel
theorem dX9_put_9 : decode cX9_put 9 = .ok (.if_icmp .ge 43, 3) := by decide +kernel
theorem dX9_put_12 : decode cX9_put 12 = .ok (.aload_n 0, 1) := by decide +kernel
theorem dX9_put_13 : decode cX9_put 13 = .ok (.getfield 9, 3) := by decide +kernel
theorem dX9_put_16 : decode cX9_put 16 = .ok (.aload_n 0, 1) := by decide +kernel
theorem dX9_put_17 : decode cX9_put 17 = .ok (.getfield 21, 3) := by decide +kernel
theorem dX9_put_20 : decode cX9_put 20 = .ok (.iload_n 1, 1) := by decide +kernel
theorem dX9_put_21 : decode cX9_put 21 = .ok (.iastore, 1) := by decide +kernel
theorem dX9_put_22 : decode cX9_put 22 = .ok (.aload_n 0, 1) := by decide +kernel
theorem dX9_put_23 : decode cX9_put 23 = .ok (.getfield 15, 3) := by decide +kernel
theorem dX9_put_26 : decode cX9_put 26 = .ok (.aload_n 0, 1) := by decide +kernel
theorem dX9_put_27 : decode cX9_put 27 = .ok (.getfield 21, 3) := by decide +kernel
theorem dX9_put_30 : decode cX9_put 30 = .ok (.iload_n 2, 1) := by decide +kernel
theorem dX9_put_31 : decode cX9_put 31 = .ok (.iastore, 1) := by decide +kernel
theorem dX9_put_32 : decode cX9_put 32 = .ok (.aload_n 0, 1) := by decide +kernel
theorem dX9_put_33 : decode cX9_put 33 = .ok (.getfield 18, 3) := by decide +kernel
theorem dX9_put_36 : decode cX9_put 36 = .ok (.aload_n 0, 1) := by decide +kernel
theorem dX9_put_37 : decode cX9_put 37 = .ok (.getfield 21, 3) := by decide +kernel
theorem dX9_put_40 : decode cX9_put 40 = .ok (.iload_n 3, 1) := by decide +kernel
theorem dX9_put_41 : decode cX9_put 41 = .ok (.iastore, 1) := by decide +kernel
theorem dX9_put_42 : decode cX9_put 42 = .ok (.aload_n 0, 1) := by decide +kernel
theorem dX9_put_43 : decode cX9_put 43 = .ok (.dup, 1) := by decide +kernel
theorem dX9_put_44 : decode cX9_put 44 = .ok (.getfield 21, 3) := by decide +kernel
theorem dX9_put_47 : decode cX9_put 47 = .ok (.iconst 1, 1) := by decide +kernel
theorem dX9_put_48 : decode cX9_put 48 = .ok (.iadd, 1) := by decide +kernel
theorem dX9_put_49 : decode cX9_put 49 = .ok (.putfield 21, 3) := by decide +kernel
theorem dX9_put_52 : decode cX9_put 52 = .ok (.return_, 1) := by decide +kernel
theorem dX9_read_0 : decode cX9_read 0 = .ok (.aload_n 0, 1) := by decide +kernel
theorem dX9_read_1 : decode cX9_read 1 = .ok (.iconst 0, 1) := by decide +kernel
theorem dX9_read_2 : decode cX9_read 2 = .ok (.putfield 21, 3) := by decide +kernel
theorem dX9_read_5 : decode cX9_read 5 = .ok (.aload_n 0, 1) := by decide +kernel
theorem dX9_read_6 : decode cX9_read 6 = .ok (.getfield 25, 3) := by decide +kernel
theorem dX9_read_9 : decode cX9_read 9 = .ok (.invokevirtual 29, 3) := by decide +kernel
theorem dX9_read_12 : decode cX9_read 12 = .ok (.iconst 0, 1) := by decide +kernel
theorem dX9_read_13 : decode cX9_read 13 = .ok (.istore_n 3, 1) := by decide +kernel
theorem dX9_read_14 : decode cX9_read 14 = .ok (.iconst 0, 1) := by decide +kernel
theorem dX9_read_15 : decode cX9_read 15 = .ok (.istore 4, 2) := by decide +kernel
theorem dX9_read_17 : decode cX9_read 17 = .ok (.iload 4, 2) := by decide +kernel
theorem dX9_read_19 : decode cX9_read 19 = .ok (.iload_n 2, 1) := by decide +kernel
theorem dX9_read_20 : decode cX9_read 20 = .ok (.if_icmp .ge 89, 3) := by decide +kernel
theorem dX9_read_109 : decode cX9_read 109 = .ok (.aload_n 0, 1) := by decide +kernel
theorem dX9_read_110 : decode cX9_read 110 = .ok (.iconst 0, 1) := by decide +kernel
theorem dX9_read_111 : decode cX9_read 111 = .ok (.iconst 0, 1) := by decide +kernel
theorem dX9_read_112 : decode cX9_read 112 = .ok (.iload_n 2, 1) := by decide +kernel
theorem dX9_read_113 : decode cX9_read 113 = .ok (.invokevirtual 56, 3) := by decide +kernel
theorem dX9_read_116 : decode cX9_read 116 = .ok (.return_, 1) := by decide +kernel
theorem dX8_type_0 : decode cX8_type 0 = .ok (.aload_n 0, 1) := by decide +kernel
theorem dX8_type_1 : decode cX8_type 1 = .ok (.getfield 7, 3) := by decide +kernel
theorem dX8_type_4 : decode cX8_type 4 = .ok (.getfield 78, 3) := by decide +kernel
theorem dX8_type_7 : decode cX8_type 7 = .ok (.aload_n 0, 1) := by decide +kernel
theorem dX8_type_8 : decode cX8_type 8 = .ok (.getfield 27, 3) := by decide +kernel
theorem dX8_type_11 : decode cX8_type 11 = .ok (.iaload, 1) := by decide +kernel
theorem dX8_type_12 : decode cX8_type 12 = .ok (.ireturn, 1) := by decide +kernel
theorem dX8_parse_0 : decode cX8_parse 0 = .ok (.aload_n 0, 1) := by decide +kernel
theorem dX8_parse_1 : decode cX8_parse 1 = .ok (.iconst 0, 1) := by decide +kernel
theorem dX8_parse_2 : decode cX8_parse 2 = .ok (.putfield 27, 3) := by decide +kernel
theorem dX8_parse_5 : decode cX8_parse 5 = .ok (.aload_n 0, 1) := by decide +kernel
theorem dX8_parse_6 : decode cX8_parse 6 = .ok (.iconst 0, 1) := by decide +kernel
theorem dX8_parse_7 : decode cX8_parse 7 = .ok (.putfield 31, 3) := by decide +kernel
theorem dX8_parse_10 : decode cX8_parse 10 = .ok (.aload_n 0, 1) := by decide +kernel
theorem dX8_parse_11 : decode cX8_parse 11 = .ok (.getfield 13, 3) := by decide +kernel
theorem dX8_parse_14 : decode cX8_parse 14 = .ok (.iconst 0, 1) := by decide +kernel
theorem dX8_parse_15 : decode cX8_parse 15 = .ok (.putfield 35, 3) := by decide +kernel
theorem dX8_parse_18 : decode cX8_parse 18 = .ok (.iconst 0, 1) := by decide +kernel
theorem dX8_parse_19 : decode cX8_parse 19 = .ok (.istore_n 1, 1) := by decide +kernel
theorem dX8_parse_20 : decode cX8_parse 20 = .ok (.iload_n 1, 1) := by decide +kernel
theorem dX8_parse_21 : decode cX8_parse 21 = .ok (.aload_n 0, 1) := by decide +kernel
theorem dX8_parse_22 : decode cX8_parse 22 = .ok (.getfield 7, 3) := by decide +kernel
theorem dX8_parse_25 : decode cX8_parse 25 = .ok (.getfield 40, 3) := by decide +kernel
theorem dX8_parse_28 : decode cX8_parse 28 = .ok (.if_icmp .ge 137, 3) := by decide +kernel
theorem dX8_parse_31 : decode cX8_parse 31 = .ok (.aload_n 0, 1) := by decide +kernel
theorem dX8_parse_32 : decode cX8_parse 32 = .ok (.invokevirtual 43, 3) := by decide +kernel
theorem dX8_parse_35 : decode cX8_parse 35 = .ok (.ifCond .eq 130, 3) := by decide +kernel
theorem dX8_parse_165 : decode cX8_parse 165 = .ok (.iconst (-1), 1) := by decide +kernel
theorem dX8_parse_166 : decode cX8_parse 166 = .ok (.ireturn, 1) := by decide +kernel
theorem dX2_declareAll_0 : decode cX2_declareAll 0 = .ok (.aload_n 0, 1) := by decide +kernel
theorem dX2_declareAll_1 : decode cX2_declareAll 1 = .ok (.iconst 0, 1) := by decide +kernel
theorem dX2_declareAll_2 : decode cX2_declareAll 2 = .ok (.putfield 26, 3) := by decide +kernel
theorem dX2_declareAll_5 : decode cX2_declareAll 5 = .ok (.iconst (-1), 1) := by decide +kernel
theorem dX2_declareAll_6 : decode cX2_declareAll 6 = .ok (.istore_n 1, 1) := by decide +kernel
theorem dX2_declareAll_7 : decode cX2_declareAll 7 = .ok (.iconst 0, 1) := by decide +kernel
theorem dX2_declareAll_8 : decode cX2_declareAll 8 = .ok (.istore_n 2, 1) := by decide +kernel
theorem dX2_declareAll_9 : decode cX2_declareAll 9 = .ok (.iload_n 2, 1) := by decide +kernel
theorem dX2_declareAll_10 : decode cX2_declareAll 10 = .ok (.aload_n 0, 1) := by decide +kernel
theorem dX2_declareAll_11 : decode cX2_declareAll 11 = .ok (.getfield 9, 3) := by decide +kernel
theorem dX2_declareAll_14 : decode cX2_declareAll 14 = .ok (.getfield 41, 3) := by decide +kernel
theorem dX2_declareAll_17 : decode cX2_declareAll 17 = .ok (.if_icmp .ge 89, 3) := by decide +kernel
theorem dX2_declareAll_106 : decode cX2_declareAll 106 = .ok (.return_, 1) := by decide +kernel
theorem dX2_firstWrong_0 : decode cX2_firstWrong 0 = .ok (.aload_n 0, 1) := by decide +kernel
theorem dX2_firstWrong_1 : decode cX2_firstWrong 1 = .ok (.aload_n 0, 1) := by decide +kernel
theorem dX2_firstWrong_2 : decode cX2_firstWrong 2 = .ok (.getfield 15, 3) := by decide +kernel
theorem dX2_firstWrong_5 : decode cX2_firstWrong 5 = .ok (.getfield 33, 3) := by decide +kernel
theorem dX2_firstWrong_8 : decode cX2_firstWrong 8 = .ok (.putfield 30, 3) := by decide +kernel
theorem dX2_firstWrong_11 : decode cX2_firstWrong 11 = .ok (.aload_n 0, 1) := by decide +kernel
theorem dX2_firstWrong_12 : decode cX2_firstWrong 12 = .ok (.invokevirtual 38, 3) := by decide +kernel
theorem dX2_firstWrong_15 : decode cX2_firstWrong 15 = .ok (.iconst 0, 1) := by decide +kernel
theorem dX2_firstWrong_16 : decode cX2_firstWrong 16 = .ok (.istore_n 1, 1) := by decide +kernel
theorem dX2_firstWrong_17 : decode cX2_firstWrong 17 = .ok (.iload_n 1, 1) := by decide +kernel
theorem dX2_firstWrong_18 : decode cX2_firstWrong 18 = .ok (.aload_n 0, 1) := by decide +kernel
theorem dX2_firstWrong_19 : decode cX2_firstWrong 19 = .ok (.getfield 9, 3) := by decide +kernel
theorem dX2_firstWrong_22 : decode cX2_firstWrong 22 = .ok (.getfield 41, 3) := by decide +kernel
theorem dX2_firstWrong_25 : decode cX2_firstWrong 25 = .ok (.if_icmp .ge 30, 3) := by decide +kernel
theorem dX2_firstWrong_55 : decode cX2_firstWrong 55 = .ok (.aload_n 0, 1) := by decide +kernel
theorem dX2_firstWrong_56 : decode cX2_firstWrong 56 = .ok (.getfield 30, 3) := by decide +kernel
theorem dX2_firstWrong_59 : decode cX2_firstWrong 59 = .ok (.ireturn, 1) := by decide +kernel
theorem dX2_measure_0 : decode cX2_measure 0 = .ok (.aload_n 0, 1) := by decide +kernel
theorem dX2_measure_1 : decode cX2_measure 1 = .ok (.getfield 23, 3) := by decide +kernel
theorem dX2_measure_4 : decode cX2_measure 4 = .ok (.iconst 0, 1) := by decide +kernel
theorem dX2_measure_5 : decode cX2_measure 5 = .ok (.invokestatic 97, 3) := by decide +kernel
theorem dX2_measure_8 : decode cX2_measure 8 = .ok (.iconst 0, 1) := by decide +kernel
theorem dX2_measure_9 : decode cX2_measure 9 = .ok (.istore_n 1, 1) := by decide +kernel
theorem dX2_measure_10 : decode cX2_measure 10 = .ok (.iload_n 1, 1) := by decide +kernel
theorem dX2_measure_11 : decode cX2_measure 11 = .ok (.aload_n 0, 1) := by decide +kernel
theorem dX2_measure_12 : decode cX2_measure 12 = .ok (.getfield 9, 3) := by decide +kernel
theorem dX2_measure_15 : decode cX2_measure 15 = .ok (.getfield 41, 3) := by decide +kernel
theorem dX2_measure_18 : decode cX2_measure 18 = .ok (.if_icmp .ge 94, 3) := by decide +kernel
theorem dX2_measure_112 : decode cX2_measure 112 = .ok (.return_, 1) := by decide +kernel
theorem dX2_growJumps_0 : decode cX2_growJumps 0 = .ok (.iconst 0, 1) := by decide +kernel
theorem dX2_growJumps_1 : decode cX2_growJumps 1 = .ok (.istore_n 1, 1) := by decide +kernel
theorem dX2_growJumps_2 : decode cX2_growJumps 2 = .ok (.iconst 0, 1) := by decide +kernel
theorem dX2_growJumps_3 : decode cX2_growJumps 3 = .ok (.istore_n 2, 1) := by decide +kernel
theorem dX2_growJumps_4 : decode cX2_growJumps 4 = .ok (.iload_n 2, 1) := by decide +kernel
theorem dX2_growJumps_5 : decode cX2_growJumps 5 = .ok (.aload_n 0, 1) := by decide +kernel
theorem dX2_growJumps_6 : decode cX2_growJumps 6 = .ok (.getfield 9, 3) := by decide +kernel
theorem dX2_growJumps_9 : decode cX2_growJumps 9 = .ok (.getfield 41, 3) := by decide +kernel
theorem dX2_growJumps_12 : decode cX2_growJumps 12 = .ok (.if_icmp .ge 67, 3) := by decide +kernel
theorem dX2_growJumps_79 : decode cX2_growJumps 79 = .ok (.iload_n 1, 1) := by decide +kernel
theorem dX2_growJumps_80 : decode cX2_growJumps 80 = .ok (.ireturn, 1) := by decide +kernel
theorem dX2_sizeJumps_0 : decode cX2_sizeJumps 0 = .ok (.iconst 0, 1) := by decide +kernel
theorem dX2_sizeJumps_1 : decode cX2_sizeJumps 1 = .ok (.istore_n 1, 1) := by decide +kernel
theorem dX2_sizeJumps_2 : decode cX2_sizeJumps 2 = .ok (.iload_n 1, 1) := by decide +kernel
theorem dX2_sizeJumps_3 : decode cX2_sizeJumps 3 = .ok (.aload_n 0, 1) := by decide +kernel
theorem dX2_sizeJumps_4 : decode cX2_sizeJumps 4 = .ok (.getfield 9, 3) := by decide +kernel
theorem dX2_sizeJumps_7 : decode cX2_sizeJumps 7 = .ok (.getfield 41, 3) := by decide +kernel
theorem dX2_sizeJumps_10 : decode cX2_sizeJumps 10 = .ok (.if_icmp .gt 23, 3) := by decide +kernel
theorem dX2_sizeJumps_13 : decode cX2_sizeJumps 13 = .ok (.aload_n 0, 1) := by decide +kernel
theorem dX2_sizeJumps_14 : decode cX2_sizeJumps 14 = .ok (.invokevirtual 90, 3) := by decide +kernel
theorem dX2_sizeJumps_17 : decode cX2_sizeJumps 17 = .ok (.aload_n 0, 1) := by decide +kernel
theorem dX2_sizeJumps_18 : decode cX2_sizeJumps 18 = .ok (.invokevirtual 93, 3) := by decide +kernel
theorem dX2_sizeJumps_21 : decode cX2_sizeJumps 21 = .ok (.ifCond .ne 6, 3) := by decide +kernel
theorem dX2_sizeJumps_24 : decode cX2_sizeJumps 24 = .ok (.goto 9, 3) := by decide +kernel
theorem dX2_sizeJumps_33 : decode cX2_sizeJumps 33 = .ok (.iconst 0, 1) := by decide +kernel
theorem dX2_sizeJumps_34 : decode cX2_sizeJumps 34 = .ok (.istore_n 1, 1) := by decide +kernel
theorem dX2_sizeJumps_35 : decode cX2_sizeJumps 35 = .ok (.iconst 0, 1) := by decide +kernel
theorem dX2_sizeJumps_36 : decode cX2_sizeJumps 36 = .ok (.istore_n 2, 1) := by decide +kernel
theorem dX2_sizeJumps_37 : decode cX2_sizeJumps 37 = .ok (.iload_n 2, 1) := by decide +kernel
theorem dX2_sizeJumps_38 : decode cX2_sizeJumps 38 = .ok (.aload_n 0, 1) := by decide +kernel
theorem dX2_sizeJumps_39 : decode cX2_sizeJumps 39 = .ok (.getfield 26, 3) := by decide +kernel
theorem dX2_sizeJumps_42 : decode cX2_sizeJumps 42 = .ok (.if_icmp .ge 18, 3) := by decide +kernel
theorem dX2_sizeJumps_60 : decode cX2_sizeJumps 60 = .ok (.iload_n 1, 1) := by decide +kernel
theorem dX2_sizeJumps_61 : decode cX2_sizeJumps 61 = .ok (.ireturn, 1) := by decide +kernel
theorem dX2_firstTooFar_0 : decode cX2_firstTooFar 0 = .ok (.iconst 0, 1) := by decide +kernel
theorem dX2_firstTooFar_1 : decode cX2_firstTooFar 1 = .ok (.istore_n 1, 1) := by decide +kernel
theorem dX2_firstTooFar_2 : decode cX2_firstTooFar 2 = .ok (.iload_n 1, 1) := by decide +kernel
theorem dX2_firstTooFar_3 : decode cX2_firstTooFar 3 = .ok (.aload_n 0, 1) := by decide +kernel
theorem dX2_firstTooFar_4 : decode cX2_firstTooFar 4 = .ok (.getfield 9, 3) := by decide +kernel
theorem dX2_firstTooFar_7 : decode cX2_firstTooFar 7 = .ok (.getfield 41, 3) := by decide +kernel
theorem dX2_firstTooFar_10 : decode cX2_firstTooFar 10 = .ok (.if_icmp .ge 44, 3) := by decide +kernel
theorem dX2_firstTooFar_54 : decode cX2_firstTooFar 54 = .ok (.iconst (-1), 1) := by decide +kernel
theorem dX2_firstTooFar_55 : decode cX2_firstTooFar 55 = .ok (.ireturn, 1) := by decide +kernel
theorem dX6_clear_0 : decode cX6_clear 0 = .ok (.aload_n 0, 1) := by decide +kernel
theorem dX6_clear_1 : decode cX6_clear 1 = .ok (.iconst 0, 1) := by decide +kernel
theorem dX6_clear_2 : decode cX6_clear 2 = .ok (.putfield 9, 3) := by decide +kernel
theorem dX6_clear_5 : decode cX6_clear 5 = .ok (.aload_n 0, 1) := by decide +kernel
theorem dX6_clear_6 : decode cX6_clear 6 = .ok (.iconst 0, 1) := by decide +kernel
theorem dX6_clear_7 : decode cX6_clear 7 = .ok (.putfield 15, 3) := by decide +kernel
theorem dX6_clear_10 : decode cX6_clear 10 = .ok (.aload_n 0, 1) := by decide +kernel
theorem dX6_clear_11 : decode cX6_clear 11 = .ok (.iconst 0, 1) := by decide +kernel
theorem dX6_clear_12 : decode cX6_clear 12 = .ok (.putfield 36, 3) := by decide +kernel
theorem dX6_clear_15 : decode cX6_clear 15 = .ok (.aload_n 0, 1) := by decide +kernel
theorem dX6_clear_16 : decode cX6_clear 16 = .ok (.iconst 0, 1) := by decide +kernel
theorem dX6_clear_17 : decode cX6_clear 17 = .ok (.putfield 54, 3) := by decide +kernel
theorem dX6_clear_20 : decode cX6_clear 20 = .ok (.aload_n 0, 1) := by decide +kernel
theorem dX6_clear_21 : decode cX6_clear 21 = .ok (.getfield 33, 3) := by decide +kernel
theorem dX6_clear_24 : decode cX6_clear 24 = .ok (.iconst 0, 1) := by decide +kernel
theorem dX6_clear_25 : decode cX6_clear 25 = .ok (.invokestatic 66, 3) := by decide +kernel
theorem dX6_clear_28 : decode cX6_clear 28 = .ok (.return_, 1) := by decide +kernel
theorem dX2_write_0 : decode cX2_write 0 = .ok (.aload_n 1, 1) := by decide +kernel
theorem dX2_write_1 : decode cX2_write 1 = .ok (.invokevirtual 123, 3) := by decide +kernel
theorem dX2_write_4 : decode cX2_write 4 = .ok (.aload_n 1, 1) := by decide +kernel
theorem dX2_write_5 : decode cX2_write 5 = .ok (.iconst 1, 1) := by decide +kernel
theorem dX2_write_6 : decode cX2_write 6 = .ok (.putfield 128, 3) := by decide +kernel
theorem dX2_write_9 : decode cX2_write 9 = .ok (.iconst 0, 1) := by decide +kernel
theorem dX2_write_10 : decode cX2_write 10 = .ok (.istore_n 2, 1) := by decide +kernel
theorem dX2_write_11 : decode cX2_write 11 = .ok (.iload_n 2, 1) := by decide +kernel
theorem dX2_write_12 : decode cX2_write 12 = .ok (.aload_n 0, 1) := by decide +kernel
theorem dX2_write_13 : decode cX2_write 13 = .ok (.getfield 26, 3) := by decide +kernel
theorem dX2_write_16 : decode cX2_write 16 = .ok (.if_icmp .ge 44, 3) := by decide +kernel
theorem dX2_write_60 : decode cX2_write 60 = .ok (.iconst 0, 1) := by decide +kernel
theorem dX2_write_61 : decode cX2_write 61 = .ok (.istore_n 2, 1) := by decide +kernel
theorem dX2_write_62 : decode cX2_write 62 = .ok (.iload_n 2, 1) := by decide +kernel
theorem dX2_write_63 : decode cX2_write 63 = .ok (.aload_n 0, 1) := by decide +kernel
theorem dX2_write_64 : decode cX2_write 64 = .ok (.getfield 9, 3) := by decide +kernel
theorem dX2_write_67 : decode cX2_write 67 = .ok (.getfield 41, 3) := by decide +kernel
theorem dX2_write_70 : decode cX2_write 70 = .ok (.if_icmp .ge 84, 3) := by decide +kernel
theorem dX2_write_154 : decode cX2_write 154 = .ok (.return_, 1) := by decide +kernel
theorem dX3_hasModules_0 : decode cX3_hasModules 0 = .ok (.iconst 0, 1) := by decide +kernel
theorem dX3_hasModules_1 : decode cX3_hasModules 1 = .ok (.istore_n 1, 1) := by decide +kernel
theorem dX3_hasModules_2 : decode cX3_hasModules 2 = .ok (.iload_n 1, 1) := by decide +kernel
theorem dX3_hasModules_3 : decode cX3_hasModules 3 = .ok (.iconst 3, 1) := by decide +kernel
theorem dX3_hasModules_4 : decode cX3_hasModules 4 = .ok (.if_icmp .ge 23, 3) := by decide +kernel
theorem dX3_hasModules_7 : decode cX3_hasModules 7 = .ok (.aload_n 0, 1) := by decide +kernel
theorem dX3_hasModules_8 : decode cX3_hasModules 8 = .ok (.getfield 9, 3) := by decide +kernel
theorem dX3_hasModules_11 : decode cX3_hasModules 11 = .ok (.iload_n 1, 1) := by decide +kernel
theorem dX3_hasModules_12 : decode cX3_hasModules 12 = .ok (.aaload, 1) := by decide +kernel
theorem dX3_hasModules_13 : decode cX3_hasModules 13 = .ok (.getfield 36, 3) := by decide +kernel
theorem dX3_hasModules_16 : decode cX3_hasModules 16 = .ok (.ifCond .eq 5, 3) := by decide +kernel
theorem dX3_hasModules_21 : decode cX3_hasModules 21 = .ok (.iinc 1 1, 3) := by decide +kernel
theorem dX3_hasModules_24 : decode cX3_hasModules 24 = .ok (.goto (-22), 3) := by decide +kernel
theorem dX3_hasModules_27 : decode cX3_hasModules 27 = .ok (.iconst 0, 1) := by decide +kernel
theorem dX3_hasModules_28 : decode cX3_hasModules 28 = .ok (.ireturn, 1) := by decide +kernel
set_option maxHeartbeats 4000000 in
set_option maxRecDepth 100000 in
theorem c_X5_clear (l : Launch) (D : va_G) (dA : Nat → ClassId) (a1 : Nat) (a9 : Nat) (a10 : Nat) (a11 : Nat) (a12 : Nat) (a13 : Nat) (sz : Nat) : Met l yX5_clear (gws yX5_clear cX5_clear 1 none) (gR 2 0 0) (gPre D dA [.ref a1] [(a1, .inr (5, [.ref a9, .ref a10, .ref a11, .ref a12, .ref a13, .int 0, .int (-1)]))] sz) (va_Qv (fun _ : Nat → Nat => True) (gAt D dA (va_A [(a1, .inr (5, [.ref a9, .ref a10, .ref a11, .ref a12, .ref a13, .int 0, .int (-1)]))] sz) (fun ad : Nat → Nat => [(a1, .inr (5, [.ref a9, .ref a10, .ref a11, .ref a12, .ref a13, .int 0, .int (-1)]))])) (va_A [(a1, .inr (5, [.ref a9, .ref a10, .ref a11, .ref a12, .ref a13, .int 0, .int (-1)]))] sz)) 0 0 (va_A [(a1, .inr (5, [.ref a9, .ref a10, .ref a11, .ref a12, .ref a13, .int 0, .int (-1)]))] sz) := by
  refine Met.ofW (cc := cX5_clear) (maxL := 1) (ret := none) (by decide) rfl ?_
  intro p e s m args below meth c s₁ B hml hv
  obtain ⟨rfl, hsz, hP, hK, hD0⟩ := hv
  have hx := B.exec
  have hb := B.bytes
  have hr := B.returns
  have hts := atoms_spec (ws := gws yX5_clear cX5_clear 1 none) B.pre
  have hg : ∀ w ∈ gw, w.before _ s = true := fun w h => hts w (List.mem_cons_of_mem _ h)
  have hown : s.vm.findClass RX5 = some m.cls := findClass_of_methodNamed B.named
  have hlocks := B.notSynchronized
  subst hsz
  have hD := hD0.self (sz := s.heap.size)
  generalize hAe : va_A [(a1, .inr (5, [.ref a9, .ref a10, .ref a11, .ref a12, .ref a13, .int 0, .int (-1)]))] s.heap.size = A at hD ⊢
  have hA : ∀ q : Nat, s.heap.size ≤ q → A q := fun q h => by rw [← hAe]; exact Or.inr h
  have hS : va_S A s.heap s.heap [] := va_S.rf
  have hP : va_P D vwC [(a1, .inr (5, [.ref a9, .ref a10, .ref a11, .ref a12, .ref a13, .int 0, .int (-1)]))] s.heap := hP
  have hl := lv_entry ([.ref a1]) (n := 1) (Nat.le_of_ble_eq_true rfl)
  rw [lg_entry_eq]
  generalize (lg_sl ([.ref a1]) ++ List.replicate (1 - (lg_sl ([.ref a1])).length) Slot.unset).toArray = ls at hl ⊢
  have hl : lv_has ls 1 [(0, .ref a1)] := hl
  refine lv_aload_n hx hb dX5_clear_0 rfl (lv_at hl 0 rfl) ?_
  refine lv_iconst (v := 0) hx hb dX5_clear_1 (by decide) ?_
  refine g_put (w' := [(a1, .inr (5, [.ref a9, .ref a10, .ref a11, .ref a12, .ref a13, .int 0, .int (-1)]))]) hx hb hg hown hK hP hD hS 0 rfl rfl inX5 tyX5_ok nmX5 5 (by decide) q204 rfl rfl rfl (Nat.le_of_ble_eq_true rfl) rfl dX5_clear_2 (fun H locs hP hD hS => ?_)
  refine lv_aload_n hx hb dX5_clear_5 rfl (lv_at hl 0 rfl) ?_
  refine lv_iconst (v := (-1)) hx hb dX5_clear_6 (by decide) ?_
  refine g_put (w' := [(a1, .inr (5, [.ref a9, .ref a10, .ref a11, .ref a12, .ref a13, .int 0, .int (-1)]))]) hx hb hg hown hK hP hD hS 0 rfl rfl inX5 tyX5_ok nmX5 6 (by decide) q205 rfl rfl rfl (Nat.le_of_ble_eq_true rfl) rfl dX5_clear_7 (fun H locs hP hD hS => ?_)
  obtain ⟨hP, hD⟩ := g_cut (is := [0]) (w' := [(a1, .inr (5, [.ref a9, .ref a10, .ref a11, .ref a12, .ref a13, .int 0, .int (-1)]))]) hP hD (by decide) rfl rfl
  exact g_vret hx hb hr hlocks hK (fun k => ([] : List Nat).getD k 0) hP hD hS trivial (Nat.le_of_ble_eq_true rfl) (Nat.le_of_ble_eq_true rfl) dX5_clear_10
set_option maxHeartbeats 4000000 in
set_option maxRecDepth 100000 in
theorem c_X9_put (l : Launch) (D : va_G) (dA : Nat → ClassId) (a2 : Nat) (a14 : Nat) (a15 : Nat) (a16 : Nat) (a1 : Nat) (sz : Nat) : Met l yX9_put (gws yX9_put cX9_put 4 none) (gR 2 0 0) (gPre D dA [.ref a2, .int 0, .int 0, .int 0] [(a2, .inr (9, [.ref a14, .ref a15, .ref a16, .int 0, .ref a1])), (a14, .inl (dA 0, 481, .inl (fun _ => 0))), (a15, .inl (dA 0, 481, .inl (fun _ => 0))), (a16, .inl (dA 0, 481, .inl (fun _ => 0)))] sz) (va_Qv (fun _ : Nat → Nat => True) (gAt D dA (va_A [(a2, .inr (9, [.ref a14, .ref a15, .ref a16, .int 0, .ref a1])), (a14, .inl (dA 0, 481, .inl (fun _ => 0))), (a15, .inl (dA 0, 481, .inl (fun _ => 0))), (a16, .inl (dA 0, 481, .inl (fun _ => 0)))] sz) (fun ad : Nat → Nat => [(a2, .inr (9, [.ref a14, .ref a15, .ref a16, .int 1, .ref a1])), (a14, .inl (dA 0, 481, .inl (fun _ => 0))), (a15, .inl (dA 0, 481, .inl (fun _ => 0))), (a16, .inl (dA 0, 481, .inl (fun _ => 0)))])) (va_A [(a2, .inr (9, [.ref a14, .ref a15, .ref a16, .int 0, .ref a1])), (a14, .inl (dA 0, 481, .inl (fun _ => 0))), (a15, .inl (dA 0, 481, .inl (fun _ => 0))), (a16, .inl (dA 0, 481, .inl (fun _ => 0)))] sz)) 0 0 (va_A [(a2, .inr (9, [.ref a14, .ref a15, .ref a16, .int 0, .ref a1])), (a14, .inl (dA 0, 481, .inl (fun _ => 0))), (a15, .inl (dA 0, 481, .inl (fun _ => 0))), (a16, .inl (dA 0, 481, .inl (fun _ => 0)))] sz) := by
  refine Met.ofW (cc := cX9_put) (maxL := 4) (ret := none) (by decide) rfl ?_
  intro p e s m args below meth c s₁ B hml hv
  obtain ⟨rfl, hsz, hP, hK, hD0⟩ := hv
  have hx := B.exec
  have hb := B.bytes
  have hr := B.returns
  have hts := atoms_spec (ws := gws yX9_put cX9_put 4 none) B.pre
  have hg : ∀ w ∈ gw, w.before _ s = true := fun w h => hts w (List.mem_cons_of_mem _ h)
  have hown : s.vm.findClass RX9 = some m.cls := findClass_of_methodNamed B.named
  have hlocks := B.notSynchronized
  subst hsz
  have hD := hD0.self (sz := s.heap.size)
  generalize hAe : va_A [(a2, .inr (9, [.ref a14, .ref a15, .ref a16, .int 0, .ref a1])), (a14, .inl (dA 0, 481, .inl (fun _ => 0))), (a15, .inl (dA 0, 481, .inl (fun _ => 0))), (a16, .inl (dA 0, 481, .inl (fun _ => 0)))] s.heap.size = A at hD ⊢
  have hA : ∀ q : Nat, s.heap.size ≤ q → A q := fun q h => by rw [← hAe]; exact Or.inr h
  have hS : va_S A s.heap s.heap [] := va_S.rf
  have hP : va_P D vwC [(a2, .inr (9, [.ref a14, .ref a15, .ref a16, .int 0, .ref a1])), (a14, .inl (dA 0, 481, .inl (fun _ => 0))), (a15, .inl (dA 0, 481, .inl (fun _ => 0))), (a16, .inl (dA 0, 481, .inl (fun _ => 0)))] s.heap := hP
  have hl := lv_entry ([.ref a2, .int 0, .int 0, .int 0]) (n := 4) (Nat.le_of_ble_eq_true rfl)
  rw [lg_entry_eq]
  generalize (lg_sl ([.ref a2, .int 0, .int 0, .int 0]) ++ List.replicate (4 - (lg_sl ([.ref a2, .int 0, .int 0, .int 0])).length) Slot.unset).toArray = ls at hl ⊢
  have hl : lv_has ls 4 [(0, .ref a2), (1, .int 0), (2, .int 0), (3, .int 0)] := hl
  refine lv_aload_n hx hb dX9_put_0 rfl (lv_at hl 0 rfl) ?_
  refine g_get hx hb hg hown hK hP 0 rfl rfl inX9 3 (by decide) q237 rfl dX9_put_1 ?_
  refine lv_aload_n hx hb dX9_put_4 rfl (lv_at hl 0 rfl) ?_
  refine g_get hx hb hg hown hK hP 0 rfl rfl inX9 0 (by decide) q231 rfl dX9_put_5 ?_
  refine va_alen (v := 481) hx hb hK hP 1 0 rfl rfl (by decide) dX9_put_8 ?_
  refine lv_icmp_ge (tgt := 52) hx hb dX9_put_9 (by decide) (fun h => absurd h (by decide)) (fun _ => ?_)
  refine lv_aload_n hx hb dX9_put_12 rfl (lv_at hl 0 rfl) ?_
  refine g_get hx hb hg hown hK hP 0 rfl rfl inX9 0 (by decide) q231 rfl dX9_put_13 ?_
  refine lv_aload_n hx hb dX9_put_16 rfl (lv_at hl 0 rfl) ?_
  refine g_get hx hb hg hown hK hP 0 rfl rfl inX9 3 (by decide) q237 rfl dX9_put_17 ?_
  refine lv_iload_n hx hb dX9_put_20 rfl (lv_at hl 1 rfl) ?_
  refine va_iast hx hb hK hP hD hS 1 0 rfl rfl (by unfold vp_in; decide) dX9_put_21 (fun H locs hP hD hS => ?_)
  rw [g_u0] at hP hD
  have hP : va_P D vwC [(a2, .inr (9, [.ref a14, .ref a15, .ref a16, .int 0, .ref a1])), (a14, .inl (dA 0, 481, .inl (fun _ => 0))), (a15, .inl (dA 0, 481, .inl (fun _ => 0))), (a16, .inl (dA 0, 481, .inl (fun _ => 0)))] H := hP
  have hD : va_D A [(a2, .inr (9, [.ref a14, .ref a15, .ref a16, .int 0, .ref a1])), (a14, .inl (dA 0, 481, .inl (fun _ => 0))), (a15, .inl (dA 0, 481, .inl (fun _ => 0))), (a16, .inl (dA 0, 481, .inl (fun _ => 0)))] := hD
  refine lv_aload_n hx hb dX9_put_22 rfl (lv_at hl 0 rfl) ?_
  refine g_get hx hb hg hown hK hP 0 rfl rfl inX9 1 (by decide) q233 rfl dX9_put_23 ?_
  refine lv_aload_n hx hb dX9_put_26 rfl (lv_at hl 0 rfl) ?_
  refine g_get hx hb hg hown hK hP 0 rfl rfl inX9 3 (by decide) q237 rfl dX9_put_27 ?_
  refine lv_iload_n hx hb dX9_put_30 rfl (lv_at hl 2 rfl) ?_
  refine va_iast hx hb hK hP hD hS 2 0 rfl rfl (by unfold vp_in; decide) dX9_put_31 (fun H locs hP hD hS => ?_)
  rw [g_u0] at hP hD
  have hP : va_P D vwC [(a2, .inr (9, [.ref a14, .ref a15, .ref a16, .int 0, .ref a1])), (a14, .inl (dA 0, 481, .inl (fun _ => 0))), (a15, .inl (dA 0, 481, .inl (fun _ => 0))), (a16, .inl (dA 0, 481, .inl (fun _ => 0)))] H := hP
  have hD : va_D A [(a2, .inr (9, [.ref a14, .ref a15, .ref a16, .int 0, .ref a1])), (a14, .inl (dA 0, 481, .inl (fun _ => 0))), (a15, .inl (dA 0, 481, .inl (fun _ => 0))), (a16, .inl (dA 0, 481, .inl (fun _ => 0)))] := hD
  refine lv_aload_n hx hb dX9_put_32 rfl (lv_at hl 0 rfl) ?_
  refine g_get hx hb hg hown hK hP 0 rfl rfl inX9 2 (by decide) q235 rfl dX9_put_33 ?_
  refine lv_aload_n hx hb dX9_put_36 rfl (lv_at hl 0 rfl) ?_
  refine g_get hx hb hg hown hK hP 0 rfl rfl inX9 3 (by decide) q237 rfl dX9_put_37 ?_
  refine lv_iload_n hx hb dX9_put_40 rfl (lv_at hl 3 rfl) ?_
  refine va_iast hx hb hK hP hD hS 3 0 rfl rfl (by unfold vp_in; decide) dX9_put_41 (fun H locs hP hD hS => ?_)
  rw [g_u0] at hP hD
  have hP : va_P D vwC [(a2, .inr (9, [.ref a14, .ref a15, .ref a16, .int 0, .ref a1])), (a14, .inl (dA 0, 481, .inl (fun _ => 0))), (a15, .inl (dA 0, 481, .inl (fun _ => 0))), (a16, .inl (dA 0, 481, .inl (fun _ => 0)))] H := hP
  have hD : va_D A [(a2, .inr (9, [.ref a14, .ref a15, .ref a16, .int 0, .ref a1])), (a14, .inl (dA 0, 481, .inl (fun _ => 0))), (a15, .inl (dA 0, 481, .inl (fun _ => 0))), (a16, .inl (dA 0, 481, .inl (fun _ => 0)))] := hD
  refine lv_aload_n hx hb dX9_put_42 rfl (lv_at hl 0 rfl) ?_
  refine lv_dup hx hb dX9_put_43 rfl ?_
  refine g_get hx hb hg hown hK hP 0 rfl rfl inX9 3 (by decide) q237 rfl dX9_put_44 ?_
  refine lv_iconst (v := 1) hx hb dX9_put_47 (by decide) ?_
  refine lv_iadd hx hb dX9_put_48 ?_
  refine g_nrm (y := 1) (by decide) ?_
  refine g_put (w' := [(a2, .inr (9, [.ref a14, .ref a15, .ref a16, .int 1, .ref a1])), (a14, .inl (dA 0, 481, .inl (fun _ => 0))), (a15, .inl (dA 0, 481, .inl (fun _ => 0))), (a16, .inl (dA 0, 481, .inl (fun _ => 0)))]) hx hb hg hown hK hP hD hS 0 rfl rfl inX9 tyX9_ok nmX9 3 (by decide) q237 rfl rfl rfl (Nat.le_of_ble_eq_true rfl) rfl dX9_put_49 (fun H locs hP hD hS => ?_)
  obtain ⟨hP, hD⟩ := g_cut (is := [0, 1, 2, 3]) (w' := [(a2, .inr (9, [.ref a14, .ref a15, .ref a16, .int 1, .ref a1])), (a14, .inl (dA 0, 481, .inl (fun _ => 0))), (a15, .inl (dA 0, 481, .inl (fun _ => 0))), (a16, .inl (dA 0, 481, .inl (fun _ => 0)))]) hP hD (by decide) rfl rfl
  exact g_vret hx hb hr hlocks hK (fun k => ([] : List Nat).getD k 0) hP hD hS trivial (Nat.le_of_ble_eq_true rfl) (Nat.le_of_ble_eq_true rfl) dX9_put_52
set_option maxHeartbeats 4000000 in
set_option maxRecDepth 100000 in
theorem c_X9_read (l : Launch) (D : va_G) (dA : Nat → ClassId) (a2 : Nat) (a0 : Nat) (a14 : Nat) (a15 : Nat) (a16 : Nat) (a1 : Nat) (a9 : Nat) (a10 : Nat) (a11 : Nat) (a12 : Nat) (a13 : Nat) (sz : Nat) : Met l yX9_read (gws yX9_read cX9_read 6 none) (gR 4 0 0) (gPre D dA [.ref a2, .ref a0, .int 0] [(a2, .inr (9, [.ref a14, .ref a15, .ref a16, .int 0, .ref a1])), (a1, .inr (5, [.ref a9, .ref a10, .ref a11, .ref a12, .ref a13, .int 0, .int (-1)])), (a14, .inl (dA 0, 481, .inl (fun _ => 0))), (a15, .inl (dA 0, 481, .inl (fun _ => 0))), (a16, .inl (dA 0, 481, .inl (fun _ => 0)))] sz) (va_Qv (fun _ : Nat → Nat => True) (gAt D dA (va_A [(a2, .inr (9, [.ref a14, .ref a15, .ref a16, .int 0, .ref a1])), (a1, .inr (5, [.ref a9, .ref a10, .ref a11, .ref a12, .ref a13, .int 0, .int (-1)])), (a14, .inl (dA 0, 481, .inl (fun _ => 0))), (a15, .inl (dA 0, 481, .inl (fun _ => 0))), (a16, .inl (dA 0, 481, .inl (fun _ => 0)))] sz) (fun ad : Nat → Nat => [(a2, .inr (9, [.ref a14, .ref a15, .ref a16, .int 1, .ref a1])), (a1, .inr (5, [.ref a9, .ref a10, .ref a11, .ref a12, .ref a13, .int 0, .int (-1)])), (a14, .inl (dA 0, 481, .inl (fun _ => 0))), (a15, .inl (dA 0, 481, .inl (fun _ => 0))), (a16, .inl (dA 0, 481, .inl (fun _ => 0)))])) (va_A [(a2, .inr (9, [.ref a14, .ref a15, .ref a16, .int 0, .ref a1])), (a1, .inr (5, [.ref a9, .ref a10, .ref a11, .ref a12, .ref a13, .int 0, .int (-1)])), (a14, .inl (dA 0, 481, .inl (fun _ => 0))), (a15, .inl (dA 0, 481, .inl (fun _ => 0))), (a16, .inl (dA 0, 481, .inl (fun _ => 0)))] sz)) 0 0 (va_A [(a2, .inr (9, [.ref a14, .ref a15, .ref a16, .int 0, .ref a1])), (a1, .inr (5, [.ref a9, .ref a10, .ref a11, .ref a12, .ref a13, .int 0, .int (-1)])), (a14, .inl (dA 0, 481, .inl (fun _ => 0))), (a15, .inl (dA 0, 481, .inl (fun _ => 0))), (a16, .inl (dA 0, 481, .inl (fun _ => 0)))] sz) := by
  refine Met.ofW (cc := cX9_read) (maxL := 6) (ret := none) (by decide) rfl ?_
  intro p e s m args below meth c s₁ B hml hv
  obtain ⟨rfl, hsz, hP, hK, hD0⟩ := hv
  have hx := B.exec
  have hb := B.bytes
  have hr := B.returns
  have hts := atoms_spec (ws := gws yX9_read cX9_read 6 none) B.pre
  have hg : ∀ w ∈ gw, w.before _ s = true := fun w h => hts w (List.mem_cons_of_mem _ h)
  have hown : s.vm.findClass RX9 = some m.cls := findClass_of_methodNamed B.named
  have hlocks := B.notSynchronized
  subst hsz
  have hD := hD0.self (sz := s.heap.size)
  generalize hAe : va_A [(a2, .inr (9, [.ref a14, .ref a15, .ref a16, .int 0, .ref a1])), (a1, .inr (5, [.ref a9, .ref a10, .ref a11, .ref a12, .ref a13, .int 0, .int (-1)])), (a14, .inl (dA 0, 481, .inl (fun _ => 0))), (a15, .inl (dA 0, 481, .inl (fun _ => 0))), (a16, .inl (dA 0, 481, .inl (fun _ => 0)))] s.heap.size = A at hD ⊢
  have hA : ∀ q : Nat, s.heap.size ≤ q → A q := fun q h => by rw [← hAe]; exact Or.inr h
  have hS : va_S A s.heap s.heap [] := va_S.rf
  have hP : va_P D vwC [(a2, .inr (9, [.ref a14, .ref a15, .ref a16, .int 0, .ref a1])), (a1, .inr (5, [.ref a9, .ref a10, .ref a11, .ref a12, .ref a13, .int 0, .int (-1)])), (a14, .inl (dA 0, 481, .inl (fun _ => 0))), (a15, .inl (dA 0, 481, .inl (fun _ => 0))), (a16, .inl (dA 0, 481, .inl (fun _ => 0)))] s.heap := hP
  have hl := lv_entry ([.ref a2, .ref a0, .int 0]) (n := 6) (Nat.le_of_ble_eq_true rfl)
  rw [lg_entry_eq]
  generalize (lg_sl ([.ref a2, .ref a0, .int 0]) ++ List.replicate (6 - (lg_sl ([.ref a2, .ref a0, .int 0])).length) Slot.unset).toArray = ls at hl ⊢
  have hl : lv_has ls 6 [(0, .ref a2), (1, .ref a0), (2, .int 0)] := hl
  refine lv_aload_n hx hb dX9_read_0 rfl (lv_at hl 0 rfl) ?_
  refine lv_iconst (v := 0) hx hb dX9_read_1 (by decide) ?_
  refine g_put (w' := [(a2, .inr (9, [.ref a14, .ref a15, .ref a16, .int 0, .ref a1])), (a1, .inr (5, [.ref a9, .ref a10, .ref a11, .ref a12, .ref a13, .int 0, .int (-1)])), (a14, .inl (dA 0, 481, .inl (fun _ => 0))), (a15, .inl (dA 0, 481, .inl (fun _ => 0))), (a16, .inl (dA 0, 481, .inl (fun _ => 0)))]) hx hb hg hown hK hP hD hS 0 rfl rfl inX9 tyX9_ok nmX9 3 (by decide) q237 rfl rfl rfl (Nat.le_of_ble_eq_true rfl) rfl dX9_read_2 (fun H locs hP hD hS => ?_)
  refine lv_aload_n hx hb dX9_read_5 rfl (lv_at hl 0 rfl) ?_
  refine g_get hx hb hg hown hK hP 0 rfl rfl inX9 4 (by decide) q239 rfl dX9_read_6 ?_
  refine g_Vv (n := 0) (As := []) (rest := []) (wr := [(a2, .inr (9, [.ref a14, .ref a15, .ref a16, .int 0, .ref a1])), (a14, .inl (dA 0, 481, .inl (fun _ => 0))), (a15, .inl (dA 0, 481, .inl (fun _ => 0))), (a16, .inl (dA 0, 481, .inl (fun _ => 0)))]) hx hb hml hg hown hK hP hD hS hA (c_X5_clear l D dA a1 a9 a10 a11 a12 a13 _) [1] [0, 2, 3, 4] rfl (by decide) rfl (by decide) (by decide) 0 rfl rfl q798 q150 q795 q796 q797 (by decide +kernel) ⟨(Nat.le_of_ble_eq_true rfl), (Nat.le_of_ble_eq_true rfl)⟩ rfl hl.1 rfl (Nat.le_of_ble_eq_true rfl) dX9_read_9 ⟨(Nat.le_of_ble_eq_true rfl), (Nat.le_of_ble_eq_true rfl)⟩ (fun u1 H locs w3 hP hD hS => ?_)
  refine W.widen (k := 0) (n := 0) (Nat.le_of_ble_eq_true rfl) (Nat.le_of_ble_eq_true rfl) ?_
  have hP : va_P D vwC [(a2, .inr (9, [.ref a14, .ref a15, .ref a16, .int 0, .ref a1])), (a14, .inl (dA 0, 481, .inl (fun _ => 0))), (a15, .inl (dA 0, 481, .inl (fun _ => 0))), (a16, .inl (dA 0, 481, .inl (fun _ => 0))), (a1, .inr (5, [.ref a9, .ref a10, .ref a11, .ref a12, .ref a13, .int 0, .int (-1)]))] H := hP
  have hD : va_D A [(a2, .inr (9, [.ref a14, .ref a15, .ref a16, .int 0, .ref a1])), (a14, .inl (dA 0, 481, .inl (fun _ => 0))), (a15, .inl (dA 0, 481, .inl (fun _ => 0))), (a16, .inl (dA 0, 481, .inl (fun _ => 0))), (a1, .inr (5, [.ref a9, .ref a10, .ref a11, .ref a12, .ref a13, .int 0, .int (-1)]))] := hD
  refine lv_iconst (v := 0) hx hb dX9_read_12 (by decide) ?_
  refine lv_istore_n (lv' := [(3, .int 0), (0, .ref a2), (1, .ref a0), (2, .int 0)]) hx hb dX9_read_13 rfl hl (by decide) rfl (fun ls hl => ?_)
  refine lv_iconst (v := 0) hx hb dX9_read_14 (by decide) ?_
  refine lv_istore (lv' := [(4, .int 0), (3, .int 0), (0, .ref a2), (1, .ref a0), (2, .int 0)]) hx hb dX9_read_15 hl (by decide) rfl (fun ls hl => ?_)
  refine lv_iload hx hb dX9_read_17 (lv_at hl 0 rfl) ?_
  refine lv_iload_n hx hb dX9_read_19 rfl (lv_at hl 4 rfl) ?_
  refine lv_icmp_ge (tgt := 109) hx hb dX9_read_20 (by decide) (fun _ => ?_) (fun h => absurd (by decide) h)
  refine lv_aload_n hx hb dX9_read_109 rfl (lv_at hl 2 rfl) ?_
  refine lv_iconst (v := 0) hx hb dX9_read_110 (by decide) ?_
  refine lv_iconst (v := 0) hx hb dX9_read_111 (by decide) ?_
  refine lv_iload_n hx hb dX9_read_112 rfl (lv_at hl 4 rfl) ?_
  refine g_Vv (n := 3) (As := [.int 0, .int 0, .int 0]) (rest := []) (wr := [(a1, .inr (5, [.ref a9, .ref a10, .ref a11, .ref a12, .ref a13, .int 0, .int (-1)]))]) hx hb hml hg hown hK hP hD hS hA (c_X9_put l D dA a2 a14 a15 a16 a1 _) [0, 1, 2, 3] [4] rfl (by decide) rfl (by decide) (by decide) 0 rfl rfl q813 q151 q810 q812 q3 (by decide +kernel) ⟨(Nat.le_of_ble_eq_true rfl), (Nat.le_of_ble_eq_true rfl)⟩ rfl hl.1 rfl (Nat.le_of_ble_eq_true rfl) dX9_read_113 ⟨(Nat.le_of_ble_eq_true rfl), (Nat.le_of_ble_eq_true rfl)⟩ (fun u4 H locs w6 hP hD hS => ?_)
  refine W.widen (k := 0) (n := 0) (Nat.le_of_ble_eq_true rfl) (Nat.le_of_ble_eq_true rfl) ?_
  have hP : va_P D vwC [(a1, .inr (5, [.ref a9, .ref a10, .ref a11, .ref a12, .ref a13, .int 0, .int (-1)])), (a2, .inr (9, [.ref a14, .ref a15, .ref a16, .int 1, .ref a1])), (a14, .inl (dA 0, 481, .inl (fun _ => 0))), (a15, .inl (dA 0, 481, .inl (fun _ => 0))), (a16, .inl (dA 0, 481, .inl (fun _ => 0)))] H := hP
  have hD : va_D A [(a1, .inr (5, [.ref a9, .ref a10, .ref a11, .ref a12, .ref a13, .int 0, .int (-1)])), (a2, .inr (9, [.ref a14, .ref a15, .ref a16, .int 1, .ref a1])), (a14, .inl (dA 0, 481, .inl (fun _ => 0))), (a15, .inl (dA 0, 481, .inl (fun _ => 0))), (a16, .inl (dA 0, 481, .inl (fun _ => 0)))] := hD
  obtain ⟨hP, hD⟩ := g_cut (is := [1, 0, 2, 3, 4]) (w' := [(a2, .inr (9, [.ref a14, .ref a15, .ref a16, .int 1, .ref a1])), (a1, .inr (5, [.ref a9, .ref a10, .ref a11, .ref a12, .ref a13, .int 0, .int (-1)])), (a14, .inl (dA 0, 481, .inl (fun _ => 0))), (a15, .inl (dA 0, 481, .inl (fun _ => 0))), (a16, .inl (dA 0, 481, .inl (fun _ => 0)))]) hP hD (by decide) rfl rfl
  exact g_vret hx hb hr hlocks hK (fun k => ([] : List Nat).getD k 0) hP hD hS trivial (Nat.le_of_ble_eq_true rfl) (Nat.le_of_ble_eq_true rfl) dX9_read_116
set_option maxHeartbeats 4000000 in
set_option maxRecDepth 100000 in
theorem c_X8_type (l : Launch) (D : va_G) (dA : Nat → ClassId) (a3 : Nat) (a2 : Nat) (a17 : Nat) (a18 : Nat) (a19 : Nat) (a14 : Nat) (a15 : Nat) (a16 : Nat) (a1 : Nat) (sz : Nat) : Met l yX8_type (gws yX8_type cX8_type 1 (some .int)) (gR 2 0 0) (gPre D dA [.ref a3] [(a3, .inr (8, [.ref a2, .ref a17, .ref a18, .ref a19, .int 0, .int 0])), (a2, .inr (9, [.ref a14, .ref a15, .ref a16, .int 1, .ref a1])), (a14, .inl (dA 0, 481, .inl (fun _ => 0)))] sz) (va_Qi (fun (r : Int32) (_ : Nat → Nat) => r = 0) (gAt D dA (va_A [(a3, .inr (8, [.ref a2, .ref a17, .ref a18, .ref a19, .int 0, .int 0])), (a2, .inr (9, [.ref a14, .ref a15, .ref a16, .int 1, .ref a1])), (a14, .inl (dA 0, 481, .inl (fun _ => 0)))] sz) (fun ad : Nat → Nat => [(a3, .inr (8, [.ref a2, .ref a17, .ref a18, .ref a19, .int 0, .int 0])), (a2, .inr (9, [.ref a14, .ref a15, .ref a16, .int 1, .ref a1])), (a14, .inl (dA 0, 481, .inl (fun _ => 0)))])) (va_A [(a3, .inr (8, [.ref a2, .ref a17, .ref a18, .ref a19, .int 0, .int 0])), (a2, .inr (9, [.ref a14, .ref a15, .ref a16, .int 1, .ref a1])), (a14, .inl (dA 0, 481, .inl (fun _ => 0)))] sz)) 0 0 (va_A [(a3, .inr (8, [.ref a2, .ref a17, .ref a18, .ref a19, .int 0, .int 0])), (a2, .inr (9, [.ref a14, .ref a15, .ref a16, .int 1, .ref a1])), (a14, .inl (dA 0, 481, .inl (fun _ => 0)))] sz) := by
  refine Met.ofW (cc := cX8_type) (maxL := 1) (ret := (some .int)) (by decide) rfl ?_
  intro p e s m args below meth c s₁ B hml hv
  obtain ⟨rfl, hsz, hP, hK, hD0⟩ := hv
  have hx := B.exec
  have hb := B.bytes
  have hr := B.returns
  have hts := atoms_spec (ws := gws yX8_type cX8_type 1 (some .int)) B.pre
  have hg : ∀ w ∈ gw, w.before _ s = true := fun w h => hts w (List.mem_cons_of_mem _ h)
  have hown : s.vm.findClass RX8 = some m.cls := findClass_of_methodNamed B.named
  have hlocks := B.notSynchronized
  subst hsz
  have hD := hD0.self (sz := s.heap.size)
  generalize hAe : va_A [(a3, .inr (8, [.ref a2, .ref a17, .ref a18, .ref a19, .int 0, .int 0])), (a2, .inr (9, [.ref a14, .ref a15, .ref a16, .int 1, .ref a1])), (a14, .inl (dA 0, 481, .inl (fun _ => 0)))] s.heap.size = A at hD ⊢
  have hA : ∀ q : Nat, s.heap.size ≤ q → A q := fun q h => by rw [← hAe]; exact Or.inr h
  have hS : va_S A s.heap s.heap [] := va_S.rf
  have hP : va_P D vwC [(a3, .inr (8, [.ref a2, .ref a17, .ref a18, .ref a19, .int 0, .int 0])), (a2, .inr (9, [.ref a14, .ref a15, .ref a16, .int 1, .ref a1])), (a14, .inl (dA 0, 481, .inl (fun _ => 0)))] s.heap := hP
  have hl := lv_entry ([.ref a3]) (n := 1) (Nat.le_of_ble_eq_true rfl)
  rw [lg_entry_eq]
  generalize (lg_sl ([.ref a3]) ++ List.replicate (1 - (lg_sl ([.ref a3])).length) Slot.unset).toArray = ls at hl ⊢
  have hl : lv_has ls 1 [(0, .ref a3)] := hl
  refine lv_aload_n hx hb dX8_type_0 rfl (lv_at hl 0 rfl) ?_
  refine g_get hx hb hg hown hK hP 0 rfl rfl inX8 0 (by decide) q346 rfl dX8_type_1 ?_
  refine g_get hx hb hg hown hK hP 1 rfl rfl inX9 0 (by decide) q232 rfl dX8_type_4 ?_
  refine lv_aload_n hx hb dX8_type_7 rfl (lv_at hl 0 rfl) ?_
  refine g_get hx hb hg hown hK hP 0 rfl rfl inX8 4 (by decide) q350 rfl dX8_type_8 ?_
  refine va_iald hx hb hK hP 2 0 rfl rfl (by unfold vp_in; decide) dX8_type_11 ?_
  refine g_nrm (y := 0) (by first | rfl | decide) ?_
  obtain ⟨hP, hD⟩ := g_cut (is := [0, 1, 2]) (w' := [(a3, .inr (8, [.ref a2, .ref a17, .ref a18, .ref a19, .int 0, .int 0])), (a2, .inr (9, [.ref a14, .ref a15, .ref a16, .int 1, .ref a1])), (a14, .inl (dA 0, 481, .inl (fun _ => 0)))]) hP hD (by decide) rfl rfl
  exact g_iret hx hb hr rfl hlocks hK (fun k => ([] : List Nat).getD k 0) hP hD hS rfl (Nat.le_of_ble_eq_true rfl) (Nat.le_of_ble_eq_true rfl) dX8_type_12
set_option maxHeartbeats 4000000 in
set_option maxRecDepth 100000 in
theorem c_X8_parse (l : Launch) (D : va_G) (dA : Nat → ClassId) (a3 : Nat) (a2 : Nat) (a17 : Nat) (a18 : Nat) (a19 : Nat) (a14 : Nat) (a15 : Nat) (a16 : Nat) (a1 : Nat) (a20 : Nat) (a21 : Nat) (a22 : Nat) (a23 : Nat) (a24 : Nat) (a25 : Nat) (a26 : Nat) (sz : Nat) : Met l yX8_parse (gws yX8_parse cX8_parse 4 (some .int)) (gR 4 0 0) (gPre D dA [.ref a3] [(a3, .inr (8, [.ref a2, .ref a17, .ref a18, .ref a19, .int 0, .int 0])), (a2, .inr (9, [.ref a14, .ref a15, .ref a16, .int 1, .ref a1])), (a14, .inl (dA 0, 481, .inl (fun _ => 0))), (a17, .inr (0, [.ref a20, .ref a21, .ref a22, .ref a23, .ref a24, .ref a25, .ref a26, .int 0]))] sz) (va_Qi (fun (r : Int32) (_ : Nat → Nat) => r = -1) (gAt D dA (va_A [(a3, .inr (8, [.ref a2, .ref a17, .ref a18, .ref a19, .int 0, .int 0])), (a2, .inr (9, [.ref a14, .ref a15, .ref a16, .int 1, .ref a1])), (a14, .inl (dA 0, 481, .inl (fun _ => 0))), (a17, .inr (0, [.ref a20, .ref a21, .ref a22, .ref a23, .ref a24, .ref a25, .ref a26, .int 0]))] sz) (fun ad : Nat → Nat => [(a3, .inr (8, [.ref a2, .ref a17, .ref a18, .ref a19, .int 0, .int 0])), (a2, .inr (9, [.ref a14, .ref a15, .ref a16, .int 1, .ref a1])), (a14, .inl (dA 0, 481, .inl (fun _ => 0))), (a17, .inr (0, [.ref a20, .ref a21, .ref a22, .ref a23, .ref a24, .ref a25, .ref a26, .int 0]))])) (va_A [(a3, .inr (8, [.ref a2, .ref a17, .ref a18, .ref a19, .int 0, .int 0])), (a2, .inr (9, [.ref a14, .ref a15, .ref a16, .int 1, .ref a1])), (a14, .inl (dA 0, 481, .inl (fun _ => 0))), (a17, .inr (0, [.ref a20, .ref a21, .ref a22, .ref a23, .ref a24, .ref a25, .ref a26, .int 0]))] sz)) 0 0 (va_A [(a3, .inr (8, [.ref a2, .ref a17, .ref a18, .ref a19, .int 0, .int 0])), (a2, .inr (9, [.ref a14, .ref a15, .ref a16, .int 1, .ref a1])), (a14, .inl (dA 0, 481, .inl (fun _ => 0))), (a17, .inr (0, [.ref a20, .ref a21, .ref a22, .ref a23, .ref a24, .ref a25, .ref a26, .int 0]))] sz) := by
  refine Met.ofW (cc := cX8_parse) (maxL := 4) (ret := (some .int)) (by decide) rfl ?_
  intro p e s m args below meth c s₁ B hml hv
  obtain ⟨rfl, hsz, hP, hK, hD0⟩ := hv
  have hx := B.exec
  have hb := B.bytes
  have hr := B.returns
  have hts := atoms_spec (ws := gws yX8_parse cX8_parse 4 (some .int)) B.pre
  have hg : ∀ w ∈ gw, w.before _ s = true := fun w h => hts w (List.mem_cons_of_mem _ h)
  have hown : s.vm.findClass RX8 = some m.cls := findClass_of_methodNamed B.named
  have hlocks := B.notSynchronized
  subst hsz
  have hD := hD0.self (sz := s.heap.size)
  generalize hAe : va_A [(a3, .inr (8, [.ref a2, .ref a17, .ref a18, .ref a19, .int 0, .int 0])), (a2, .inr (9, [.ref a14, .ref a15, .ref a16, .int 1, .ref a1])), (a14, .inl (dA 0, 481, .inl (fun _ => 0))), (a17, .inr (0, [.ref a20, .ref a21, .ref a22, .ref a23, .ref a24, .ref a25, .ref a26, .int 0]))] s.heap.size = A at hD ⊢
  have hA : ∀ q : Nat, s.heap.size ≤ q → A q := fun q h => by rw [← hAe]; exact Or.inr h
  have hS : va_S A s.heap s.heap [] := va_S.rf
  have hP : va_P D vwC [(a3, .inr (8, [.ref a2, .ref a17, .ref a18, .ref a19, .int 0, .int 0])), (a2, .inr (9, [.ref a14, .ref a15, .ref a16, .int 1, .ref a1])), (a14, .inl (dA 0, 481, .inl (fun _ => 0))), (a17, .inr (0, [.ref a20, .ref a21, .ref a22, .ref a23, .ref a24, .ref a25, .ref a26, .int 0]))] s.heap := hP
  have hl := lv_entry ([.ref a3]) (n := 4) (Nat.le_of_ble_eq_true rfl)
  rw [lg_entry_eq]
  generalize (lg_sl ([.ref a3]) ++ List.replicate (4 - (lg_sl ([.ref a3])).length) Slot.unset).toArray = ls at hl ⊢
  have hl : lv_has ls 4 [(0, .ref a3)] := hl
  refine lv_aload_n hx hb dX8_parse_0 rfl (lv_at hl 0 rfl) ?_
  refine lv_iconst (v := 0) hx hb dX8_parse_1 (by decide) ?_
  refine g_put (w' := [(a3, .inr (8, [.ref a2, .ref a17, .ref a18, .ref a19, .int 0, .int 0])), (a2, .inr (9, [.ref a14, .ref a15, .ref a16, .int 1, .ref a1])), (a14, .inl (dA 0, 481, .inl (fun _ => 0))), (a17, .inr (0, [.ref a20, .ref a21, .ref a22, .ref a23, .ref a24, .ref a25, .ref a26, .int 0]))]) hx hb hg hown hK hP hD hS 0 rfl rfl inX8 tyX8_ok nmX8 4 (by decide) q350 rfl rfl rfl (Nat.le_of_ble_eq_true rfl) rfl dX8_parse_2 (fun H locs hP hD hS => ?_)
  refine lv_aload_n hx hb dX8_parse_5 rfl (lv_at hl 0 rfl) ?_
  refine lv_iconst (v := 0) hx hb dX8_parse_6 (by decide) ?_
  refine g_put (w' := [(a3, .inr (8, [.ref a2, .ref a17, .ref a18, .ref a19, .int 0, .int 0])), (a2, .inr (9, [.ref a14, .ref a15, .ref a16, .int 1, .ref a1])), (a14, .inl (dA 0, 481, .inl (fun _ => 0))), (a17, .inr (0, [.ref a20, .ref a21, .ref a22, .ref a23, .ref a24, .ref a25, .ref a26, .int 0]))]) hx hb hg hown hK hP hD hS 0 rfl rfl inX8 tyX8_ok nmX8 5 (by decide) q351 rfl rfl rfl (Nat.le_of_ble_eq_true rfl) rfl dX8_parse_7 (fun H locs hP hD hS => ?_)
  refine lv_aload_n hx hb dX8_parse_10 rfl (lv_at hl 0 rfl) ?_
  refine g_get hx hb hg hown hK hP 0 rfl rfl inX8 1 (by decide) q347 rfl dX8_parse_11 ?_
  refine lv_iconst (v := 0) hx hb dX8_parse_14 (by decide) ?_
  refine g_put (w' := [(a3, .inr (8, [.ref a2, .ref a17, .ref a18, .ref a19, .int 0, .int 0])), (a2, .inr (9, [.ref a14, .ref a15, .ref a16, .int 1, .ref a1])), (a14, .inl (dA 0, 481, .inl (fun _ => 0))), (a17, .inr (0, [.ref a20, .ref a21, .ref a22, .ref a23, .ref a24, .ref a25, .ref a26, .int 0]))]) hx hb hg hown hK hP hD hS 3 rfl rfl inX0 tyX0_ok nmX0 7 (by decide) q272 rfl rfl rfl (Nat.le_of_ble_eq_true rfl) rfl dX8_parse_15 (fun H locs hP hD hS => ?_)
  refine lv_iconst (v := 0) hx hb dX8_parse_18 (by decide) ?_
  refine lv_istore_n (lv' := [(1, .int 0), (0, .ref a3)]) hx hb dX8_parse_19 rfl hl (by decide) rfl (fun ls hl => ?_)
  refine lv_iload_n hx hb dX8_parse_20 rfl (lv_at hl 0 rfl) ?_
  refine lv_aload_n hx hb dX8_parse_21 rfl (lv_at hl 1 rfl) ?_
  refine g_get hx hb hg hown hK hP 0 rfl rfl inX8 0 (by decide) q346 rfl dX8_parse_22 ?_
  refine g_get hx hb hg hown hK hP 1 rfl rfl inX9 3 (by decide) q238 rfl dX8_parse_25 ?_
  refine lv_icmp_ge (tgt := 165) hx hb dX8_parse_28 (by decide) (fun h => absurd h (by decide)) (fun _ => ?_)
  refine lv_aload_n hx hb dX8_parse_31 rfl (lv_at hl 1 rfl) ?_
  refine g_Vi (n := 0) (As := []) (rest := []) (wr := [(a17, .inr (0, [.ref a20, .ref a21, .ref a22, .ref a23, .ref a24, .ref a25, .ref a26, .int 0]))]) hx hb hml hg hown hK hP hD hS hA (c_X8_type l D dA a3 a2 a17 a18 a19 a14 a15 a16 a1 _) [0, 1, 2] [3] rfl (by decide) rfl (by decide) (by decide) 0 rfl rfl q946 q153 q943 q945 q5 (by decide +kernel) ⟨(Nat.le_of_ble_eq_true rfl), (Nat.le_of_ble_eq_true rfl)⟩ rfl hl.1 rfl (Nat.le_of_ble_eq_true rfl) dX8_parse_32 ⟨(Nat.le_of_ble_eq_true rfl), (Nat.le_of_ble_eq_true rfl)⟩ (fun r2 u1 H locs w3 hP hD hS => ?_)
  refine W.widen (k := 0) (n := 0) (Nat.le_of_ble_eq_true rfl) (Nat.le_of_ble_eq_true rfl) ?_
  have hP : va_P D vwC [(a17, .inr (0, [.ref a20, .ref a21, .ref a22, .ref a23, .ref a24, .ref a25, .ref a26, .int 0])), (a3, .inr (8, [.ref a2, .ref a17, .ref a18, .ref a19, .int 0, .int 0])), (a2, .inr (9, [.ref a14, .ref a15, .ref a16, .int 1, .ref a1])), (a14, .inl (dA 0, 481, .inl (fun _ => 0)))] H := hP
  have hD : va_D A [(a17, .inr (0, [.ref a20, .ref a21, .ref a22, .ref a23, .ref a24, .ref a25, .ref a26, .int 0])), (a3, .inr (8, [.ref a2, .ref a17, .ref a18, .ref a19, .int 0, .int 0])), (a2, .inr (9, [.ref a14, .ref a15, .ref a16, .int 1, .ref a1])), (a14, .inl (dA 0, 481, .inl (fun _ => 0)))] := hD
  obtain rfl : r2 = 0 := w3
  refine lv_if_eq (tgt := 165) hx hb dX8_parse_35 (by decide) (fun _ => ?_) (fun h => absurd (by decide) h)
  refine lv_iconst (v := (-1)) hx hb dX8_parse_165 (by decide) ?_
  obtain ⟨hP, hD⟩ := g_cut (is := [1, 2, 3, 0]) (w' := [(a3, .inr (8, [.ref a2, .ref a17, .ref a18, .ref a19, .int 0, .int 0])), (a2, .inr (9, [.ref a14, .ref a15, .ref a16, .int 1, .ref a1])), (a14, .inl (dA 0, 481, .inl (fun _ => 0))), (a17, .inr (0, [.ref a20, .ref a21, .ref a22, .ref a23, .ref a24, .ref a25, .ref a26, .int 0]))]) hP hD (by decide) rfl rfl
  exact g_iret hx hb hr rfl hlocks hK (fun k => ([] : List Nat).getD k 0) hP hD hS rfl (Nat.le_of_ble_eq_true rfl) (Nat.le_of_ble_eq_true rfl) dX8_parse_166
set_option maxHeartbeats 4000000 in
set_option maxRecDepth 100000 in
theorem c_X2_declareAll (l : Launch) (D : va_G) (dA : Nat → ClassId) (a4 : Nat) (a17 : Nat) (a1 : Nat) (a27 : Nat) (a28 : Nat) (a20 : Nat) (a21 : Nat) (a22 : Nat) (a23 : Nat) (a24 : Nat) (a25 : Nat) (a26 : Nat) (sz : Nat) : Met l yX2_declareAll (gws yX2_declareAll cX2_declareAll 3 none) (gR 2 0 0) (gPre D dA [.ref a4] [(a4, .inr (2, [.ref a17, .ref a1, .ref a27, .ref a28, .int 0, .int (-1)])), (a17, .inr (0, [.ref a20, .ref a21, .ref a22, .ref a23, .ref a24, .ref a25, .ref a26, .int 0]))] sz) (va_Qv (fun _ : Nat → Nat => True) (gAt D dA (va_A [(a4, .inr (2, [.ref a17, .ref a1, .ref a27, .ref a28, .int 0, .int (-1)])), (a17, .inr (0, [.ref a20, .ref a21, .ref a22, .ref a23, .ref a24, .ref a25, .ref a26, .int 0]))] sz) (fun ad : Nat → Nat => [(a4, .inr (2, [.ref a17, .ref a1, .ref a27, .ref a28, .int 0, .int (-1)])), (a17, .inr (0, [.ref a20, .ref a21, .ref a22, .ref a23, .ref a24, .ref a25, .ref a26, .int 0]))])) (va_A [(a4, .inr (2, [.ref a17, .ref a1, .ref a27, .ref a28, .int 0, .int (-1)])), (a17, .inr (0, [.ref a20, .ref a21, .ref a22, .ref a23, .ref a24, .ref a25, .ref a26, .int 0]))] sz)) 0 0 (va_A [(a4, .inr (2, [.ref a17, .ref a1, .ref a27, .ref a28, .int 0, .int (-1)])), (a17, .inr (0, [.ref a20, .ref a21, .ref a22, .ref a23, .ref a24, .ref a25, .ref a26, .int 0]))] sz) := by
  refine Met.ofW (cc := cX2_declareAll) (maxL := 3) (ret := none) (by decide) rfl ?_
  intro p e s m args below meth c s₁ B hml hv
  obtain ⟨rfl, hsz, hP, hK, hD0⟩ := hv
  have hx := B.exec
  have hb := B.bytes
  have hr := B.returns
  have hts := atoms_spec (ws := gws yX2_declareAll cX2_declareAll 3 none) B.pre
  have hg : ∀ w ∈ gw, w.before _ s = true := fun w h => hts w (List.mem_cons_of_mem _ h)
  have hown : s.vm.findClass RX2 = some m.cls := findClass_of_methodNamed B.named
  have hlocks := B.notSynchronized
  subst hsz
  have hD := hD0.self (sz := s.heap.size)
  generalize hAe : va_A [(a4, .inr (2, [.ref a17, .ref a1, .ref a27, .ref a28, .int 0, .int (-1)])), (a17, .inr (0, [.ref a20, .ref a21, .ref a22, .ref a23, .ref a24, .ref a25, .ref a26, .int 0]))] s.heap.size = A at hD ⊢
  have hA : ∀ q : Nat, s.heap.size ≤ q → A q := fun q h => by rw [← hAe]; exact Or.inr h
  have hS : va_S A s.heap s.heap [] := va_S.rf
  have hP : va_P D vwC [(a4, .inr (2, [.ref a17, .ref a1, .ref a27, .ref a28, .int 0, .int (-1)])), (a17, .inr (0, [.ref a20, .ref a21, .ref a22, .ref a23, .ref a24, .ref a25, .ref a26, .int 0]))] s.heap := hP
  have hl := lv_entry ([.ref a4]) (n := 3) (Nat.le_of_ble_eq_true rfl)
  rw [lg_entry_eq]
  generalize (lg_sl ([.ref a4]) ++ List.replicate (3 - (lg_sl ([.ref a4])).length) Slot.unset).toArray = ls at hl ⊢
  have hl : lv_has ls 3 [(0, .ref a4)] := hl
  refine lv_aload_n hx hb dX2_declareAll_0 rfl (lv_at hl 0 rfl) ?_
  refine lv_iconst (v := 0) hx hb dX2_declareAll_1 (by decide) ?_
  refine g_put (w' := [(a4, .inr (2, [.ref a17, .ref a1, .ref a27, .ref a28, .int 0, .int (-1)])), (a17, .inr (0, [.ref a20, .ref a21, .ref a22, .ref a23, .ref a24, .ref a25, .ref a26, .int 0]))]) hx hb hg hown hK hP hD hS 0 rfl rfl inX2 tyX2_ok nmX2 4 (by decide) q375 rfl rfl rfl (Nat.le_of_ble_eq_true rfl) rfl dX2_declareAll_2 (fun H locs hP hD hS => ?_)
  refine lv_iconst (v := (-1)) hx hb dX2_declareAll_5 (by decide) ?_
  refine lv_istore_n (lv' := [(1, .int (-1)), (0, .ref a4)]) hx hb dX2_declareAll_6 rfl hl (by decide) rfl (fun ls hl => ?_)
  refine lv_iconst (v := 0) hx hb dX2_declareAll_7 (by decide) ?_
  refine lv_istore_n (lv' := [(2, .int 0), (1, .int (-1)), (0, .ref a4)]) hx hb dX2_declareAll_8 rfl hl (by decide) rfl (fun ls hl => ?_)
  refine lv_iload_n hx hb dX2_declareAll_9 rfl (lv_at hl 0 rfl) ?_
  refine lv_aload_n hx hb dX2_declareAll_10 rfl (lv_at hl 2 rfl) ?_
  refine g_get hx hb hg hown hK hP 0 rfl rfl inX2 0 (by decide) q371 rfl dX2_declareAll_11 ?_
  refine g_get hx hb hg hown hK hP 1 rfl rfl inX0 7 (by decide) q273 rfl dX2_declareAll_14 ?_
  refine lv_icmp_ge (tgt := 106) hx hb dX2_declareAll_17 (by decide) (fun _ => ?_) (fun h => absurd (by decide) h)
  obtain ⟨hP, hD⟩ := g_cut (is := [0, 1]) (w' := [(a4, .inr (2, [.ref a17, .ref a1, .ref a27, .ref a28, .int 0, .int (-1)])), (a17, .inr (0, [.ref a20, .ref a21, .ref a22, .ref a23, .ref a24, .ref a25, .ref a26, .int 0]))]) hP hD (by decide) rfl rfl
  exact g_vret hx hb hr hlocks hK (fun k => ([] : List Nat).getD k 0) hP hD hS trivial (Nat.le_of_ble_eq_true rfl) (Nat.le_of_ble_eq_true rfl) dX2_declareAll_106
set_option maxHeartbeats 4000000 in
set_option maxRecDepth 100000 in
theorem c_X2_firstWrong (l : Launch) (D : va_G) (dA : Nat → ClassId) (a4 : Nat) (a17 : Nat) (a1 : Nat) (a27 : Nat) (a28 : Nat) (a20 : Nat) (a21 : Nat) (a22 : Nat) (a23 : Nat) (a24 : Nat) (a25 : Nat) (a26 : Nat) (a9 : Nat) (a10 : Nat) (a11 : Nat) (a12 : Nat) (a13 : Nat) (sz : Nat) : Met l yX2_firstWrong (gws yX2_firstWrong cX2_firstWrong 2 (some .int)) (gR 4 0 0) (gPre D dA [.ref a4] [(a4, .inr (2, [.ref a17, .ref a1, .ref a27, .ref a28, .int 0, .int (-1)])), (a17, .inr (0, [.ref a20, .ref a21, .ref a22, .ref a23, .ref a24, .ref a25, .ref a26, .int 0])), (a1, .inr (5, [.ref a9, .ref a10, .ref a11, .ref a12, .ref a13, .int 0, .int (-1)]))] sz) (va_Qi (fun (r : Int32) (_ : Nat → Nat) => r = -1) (gAt D dA (va_A [(a4, .inr (2, [.ref a17, .ref a1, .ref a27, .ref a28, .int 0, .int (-1)])), (a17, .inr (0, [.ref a20, .ref a21, .ref a22, .ref a23, .ref a24, .ref a25, .ref a26, .int 0])), (a1, .inr (5, [.ref a9, .ref a10, .ref a11, .ref a12, .ref a13, .int 0, .int (-1)]))] sz) (fun ad : Nat → Nat => [(a4, .inr (2, [.ref a17, .ref a1, .ref a27, .ref a28, .int 0, .int (-1)])), (a17, .inr (0, [.ref a20, .ref a21, .ref a22, .ref a23, .ref a24, .ref a25, .ref a26, .int 0])), (a1, .inr (5, [.ref a9, .ref a10, .ref a11, .ref a12, .ref a13, .int 0, .int (-1)]))])) (va_A [(a4, .inr (2, [.ref a17, .ref a1, .ref a27, .ref a28, .int 0, .int (-1)])), (a17, .inr (0, [.ref a20, .ref a21, .ref a22, .ref a23, .ref a24, .ref a25, .ref a26, .int 0])), (a1, .inr (5, [.ref a9, .ref a10, .ref a11, .ref a12, .ref a13, .int 0, .int (-1)]))] sz)) 0 0 (va_A [(a4, .inr (2, [.ref a17, .ref a1, .ref a27, .ref a28, .int 0, .int (-1)])), (a17, .inr (0, [.ref a20, .ref a21, .ref a22, .ref a23, .ref a24, .ref a25, .ref a26, .int 0])), (a1, .inr (5, [.ref a9, .ref a10, .ref a11, .ref a12, .ref a13, .int 0, .int (-1)]))] sz) := by
  refine Met.ofW (cc := cX2_firstWrong) (maxL := 2) (ret := (some .int)) (by decide) rfl ?_
  intro p e s m args below meth c s₁ B hml hv
  obtain ⟨rfl, hsz, hP, hK, hD0⟩ := hv
  have hx := B.exec
  have hb := B.bytes
  have hr := B.returns
  have hts := atoms_spec (ws := gws yX2_firstWrong cX2_firstWrong 2 (some .int)) B.pre
  have hg : ∀ w ∈ gw, w.before _ s = true := fun w h => hts w (List.mem_cons_of_mem _ h)
  have hown : s.vm.findClass RX2 = some m.cls := findClass_of_methodNamed B.named
  have hlocks := B.notSynchronized
  subst hsz
  have hD := hD0.self (sz := s.heap.size)
  generalize hAe : va_A [(a4, .inr (2, [.ref a17, .ref a1, .ref a27, .ref a28, .int 0, .int (-1)])), (a17, .inr (0, [.ref a20, .ref a21, .ref a22, .ref a23, .ref a24, .ref a25, .ref a26, .int 0])), (a1, .inr (5, [.ref a9, .ref a10, .ref a11, .ref a12, .ref a13, .int 0, .int (-1)]))] s.heap.size = A at hD ⊢
  have hA : ∀ q : Nat, s.heap.size ≤ q → A q := fun q h => by rw [← hAe]; exact Or.inr h
  have hS : va_S A s.heap s.heap [] := va_S.rf
  have hP : va_P D vwC [(a4, .inr (2, [.ref a17, .ref a1, .ref a27, .ref a28, .int 0, .int (-1)])), (a17, .inr (0, [.ref a20, .ref a21, .ref a22, .ref a23, .ref a24, .ref a25, .ref a26, .int 0])), (a1, .inr (5, [.ref a9, .ref a10, .ref a11, .ref a12, .ref a13, .int 0, .int (-1)]))] s.heap := hP
  have hl := lv_entry ([.ref a4]) (n := 2) (Nat.le_of_ble_eq_true rfl)
  rw [lg_entry_eq]
  generalize (lg_sl ([.ref a4]) ++ List.replicate (2 - (lg_sl ([.ref a4])).length) Slot.unset).toArray = ls at hl ⊢
  have hl : lv_has ls 2 [(0, .ref a4)] := hl
  refine lv_aload_n hx hb dX2_firstWrong_0 rfl (lv_at hl 0 rfl) ?_
  refine lv_aload_n hx hb dX2_firstWrong_1 rfl (lv_at hl 0 rfl) ?_
  refine g_get hx hb hg hown hK hP 0 rfl rfl inX2 1 (by decide) q372 rfl dX2_firstWrong_2 ?_
  refine g_get hx hb hg hown hK hP 2 rfl rfl inX5 6 (by decide) q206 rfl dX2_firstWrong_5 ?_
  refine g_put (w' := [(a4, .inr (2, [.ref a17, .ref a1, .ref a27, .ref a28, .int 0, .int (-1)])), (a17, .inr (0, [.ref a20, .ref a21, .ref a22, .ref a23, .ref a24, .ref a25, .ref a26, .int 0])), (a1, .inr (5, [.ref a9, .ref a10, .ref a11, .ref a12, .ref a13, .int 0, .int (-1)]))]) hx hb hg hown hK hP hD hS 0 rfl rfl inX2 tyX2_ok nmX2 5 (by decide) q376 rfl rfl rfl (Nat.le_of_ble_eq_true rfl) rfl dX2_firstWrong_8 (fun H locs hP hD hS => ?_)
  refine lv_aload_n hx hb dX2_firstWrong_11 rfl (lv_at hl 0 rfl) ?_
  refine g_Vv (n := 0) (As := []) (rest := []) (wr := [(a1, .inr (5, [.ref a9, .ref a10, .ref a11, .ref a12, .ref a13, .int 0, .int (-1)]))]) hx hb hml hg hown hK hP hD hS hA (c_X2_declareAll l D dA a4 a17 a1 a27 a28 a20 a21 a22 a23 a24 a25 a26 _) [0, 1] [2] rfl (by decide) rfl (by decide) (by decide) 0 rfl rfl q1113 q155 q1110 q1112 q28 (by decide +kernel) ⟨(Nat.le_of_ble_eq_true rfl), (Nat.le_of_ble_eq_true rfl)⟩ rfl hl.1 rfl (Nat.le_of_ble_eq_true rfl) dX2_firstWrong_12 ⟨(Nat.le_of_ble_eq_true rfl), (Nat.le_of_ble_eq_true rfl)⟩ (fun u1 H locs w3 hP hD hS => ?_)
  refine W.widen (k := 0) (n := 0) (Nat.le_of_ble_eq_true rfl) (Nat.le_of_ble_eq_true rfl) ?_
  have hP : va_P D vwC [(a1, .inr (5, [.ref a9, .ref a10, .ref a11, .ref a12, .ref a13, .int 0, .int (-1)])), (a4, .inr (2, [.ref a17, .ref a1, .ref a27, .ref a28, .int 0, .int (-1)])), (a17, .inr (0, [.ref a20, .ref a21, .ref a22, .ref a23, .ref a24, .ref a25, .ref a26, .int 0]))] H := hP
  have hD : va_D A [(a1, .inr (5, [.ref a9, .ref a10, .ref a11, .ref a12, .ref a13, .int 0, .int (-1)])), (a4, .inr (2, [.ref a17, .ref a1, .ref a27, .ref a28, .int 0, .int (-1)])), (a17, .inr (0, [.ref a20, .ref a21, .ref a22, .ref a23, .ref a24, .ref a25, .ref a26, .int 0]))] := hD
  refine lv_iconst (v := 0) hx hb dX2_firstWrong_15 (by decide) ?_
  refine lv_istore_n (lv' := [(1, .int 0), (0, .ref a4)]) hx hb dX2_firstWrong_16 rfl hl (by decide) rfl (fun ls hl => ?_)
  refine lv_iload_n hx hb dX2_firstWrong_17 rfl (lv_at hl 0 rfl) ?_
  refine lv_aload_n hx hb dX2_firstWrong_18 rfl (lv_at hl 1 rfl) ?_
  refine g_get hx hb hg hown hK hP 1 rfl rfl inX2 0 (by decide) q371 rfl dX2_firstWrong_19 ?_
  refine g_get hx hb hg hown hK hP 2 rfl rfl inX0 7 (by decide) q273 rfl dX2_firstWrong_22 ?_
  refine lv_icmp_ge (tgt := 55) hx hb dX2_firstWrong_25 (by decide) (fun _ => ?_) (fun h => absurd (by decide) h)
  refine lv_aload_n hx hb dX2_firstWrong_55 rfl (lv_at hl 1 rfl) ?_
  refine g_get hx hb hg hown hK hP 1 rfl rfl inX2 5 (by decide) q376 rfl dX2_firstWrong_56 ?_
  obtain ⟨hP, hD⟩ := g_cut (is := [1, 2, 0]) (w' := [(a4, .inr (2, [.ref a17, .ref a1, .ref a27, .ref a28, .int 0, .int (-1)])), (a17, .inr (0, [.ref a20, .ref a21, .ref a22, .ref a23, .ref a24, .ref a25, .ref a26, .int 0])), (a1, .inr (5, [.ref a9, .ref a10, .ref a11, .ref a12, .ref a13, .int 0, .int (-1)]))]) hP hD (by decide) rfl rfl
  exact g_iret hx hb hr rfl hlocks hK (fun k => ([] : List Nat).getD k 0) hP hD hS rfl (Nat.le_of_ble_eq_true rfl) (Nat.le_of_ble_eq_true rfl) dX2_firstWrong_59
set_option maxHeartbeats 4000000 in
set_option maxRecDepth 100000 in
theorem c_X2_measure (l : Launch) (D : va_G) (dA : Nat → ClassId) (a4 : Nat) (a17 : Nat) (a1 : Nat) (a27 : Nat) (a28 : Nat) (a20 : Nat) (a21 : Nat) (a22 : Nat) (a23 : Nat) (a24 : Nat) (a25 : Nat) (a26 : Nat) (sz : Nat) : Met l yX2_measure (gws yX2_measure cX2_measure 3 none) (gR 4 0 0) (gPre D dA [.ref a4] [(a4, .inr (2, [.ref a17, .ref a1, .ref a27, .ref a28, .int 0, .int (-1)])), (a17, .inr (0, [.ref a20, .ref a21, .ref a22, .ref a23, .ref a24, .ref a25, .ref a26, .int 0])), (a28, .inl (dA 0, 60, .inl (fun _ => 0)))] sz) (va_Qv (fun _ : Nat → Nat => True) (gAt D dA (va_A [(a4, .inr (2, [.ref a17, .ref a1, .ref a27, .ref a28, .int 0, .int (-1)])), (a17, .inr (0, [.ref a20, .ref a21, .ref a22, .ref a23, .ref a24, .ref a25, .ref a26, .int 0])), (a28, .inl (dA 0, 60, .inl (fun _ => 0)))] sz) (fun ad : Nat → Nat => [(a4, .inr (2, [.ref a17, .ref a1, .ref a27, .ref a28, .int 0, .int (-1)])), (a17, .inr (0, [.ref a20, .ref a21, .ref a22, .ref a23, .ref a24, .ref a25, .ref a26, .int 0])), (a28, .inl (dA 0, 60, .inl (fun _ => 0)))])) (va_A [(a4, .inr (2, [.ref a17, .ref a1, .ref a27, .ref a28, .int 0, .int (-1)])), (a17, .inr (0, [.ref a20, .ref a21, .ref a22, .ref a23, .ref a24, .ref a25, .ref a26, .int 0])), (a28, .inl (dA 0, 60, .inl (fun _ => 0)))] sz)) 0 0 (va_A [(a4, .inr (2, [.ref a17, .ref a1, .ref a27, .ref a28, .int 0, .int (-1)])), (a17, .inr (0, [.ref a20, .ref a21, .ref a22, .ref a23, .ref a24, .ref a25, .ref a26, .int 0])), (a28, .inl (dA 0, 60, .inl (fun _ => 0)))] sz) := by
  refine Met.ofW (cc := cX2_measure) (maxL := 3) (ret := none) (by decide) rfl ?_
  intro p e s m args below meth c s₁ B hml hv
  obtain ⟨rfl, hsz, hP, hK, hD0⟩ := hv
  have hx := B.exec
  have hb := B.bytes
  have hr := B.returns
  have hts := atoms_spec (ws := gws yX2_measure cX2_measure 3 none) B.pre
  have hg : ∀ w ∈ gw, w.before _ s = true := fun w h => hts w (List.mem_cons_of_mem _ h)
  have hown : s.vm.findClass RX2 = some m.cls := findClass_of_methodNamed B.named
  have hlocks := B.notSynchronized
  subst hsz
  have hD := hD0.self (sz := s.heap.size)
  generalize hAe : va_A [(a4, .inr (2, [.ref a17, .ref a1, .ref a27, .ref a28, .int 0, .int (-1)])), (a17, .inr (0, [.ref a20, .ref a21, .ref a22, .ref a23, .ref a24, .ref a25, .ref a26, .int 0])), (a28, .inl (dA 0, 60, .inl (fun _ => 0)))] s.heap.size = A at hD ⊢
  have hA : ∀ q : Nat, s.heap.size ≤ q → A q := fun q h => by rw [← hAe]; exact Or.inr h
  have hS : va_S A s.heap s.heap [] := va_S.rf
  have hP : va_P D vwC [(a4, .inr (2, [.ref a17, .ref a1, .ref a27, .ref a28, .int 0, .int (-1)])), (a17, .inr (0, [.ref a20, .ref a21, .ref a22, .ref a23, .ref a24, .ref a25, .ref a26, .int 0])), (a28, .inl (dA 0, 60, .inl (fun _ => 0)))] s.heap := hP
  have hl := lv_entry ([.ref a4]) (n := 3) (Nat.le_of_ble_eq_true rfl)
  rw [lg_entry_eq]
  generalize (lg_sl ([.ref a4]) ++ List.replicate (3 - (lg_sl ([.ref a4])).length) Slot.unset).toArray = ls at hl ⊢
  have hl : lv_has ls 3 [(0, .ref a4)] := hl
  refine lv_aload_n hx hb dX2_measure_0 rfl (lv_at hl 0 rfl) ?_
  refine g_get hx hb hg hown hK hP 0 rfl rfl inX2 3 (by decide) q374 rfl dX2_measure_1 ?_
  refine lv_iconst (v := 0) hx hb dX2_measure_4 (by decide) ?_
  refine g_Sv (n := 2) (As := [.ref a28, .int 0]) (rest := []) (wr := [(a4, .inr (2, [.ref a17, .ref a1, .ref a27, .ref a28, .int 0, .int (-1)])), (a17, .inr (0, [.ref a20, .ref a21, .ref a22, .ref a23, .ref a24, .ref a25, .ref a26, .int 0]))]) hx hb hml hg hown hK hP hD hS hA (c_fill l D dA a28 60 (by decide) _) [2] [0, 1] rfl (by decide) rfl (by decide) (by decide) q1164 q177 q1162 q1163 (by decide +kernel) ⟨(Nat.le_of_ble_eq_true rfl), (Nat.le_of_ble_eq_true rfl)⟩ rfl hl.1 rfl (Nat.le_of_ble_eq_true rfl) dX2_measure_5 ⟨(Nat.le_of_ble_eq_true rfl), (Nat.le_of_ble_eq_true rfl)⟩ (fun u1 H locs w3 hP hD hS => ?_)
  refine W.widen (k := 0) (n := 0) (Nat.le_of_ble_eq_true rfl) (Nat.le_of_ble_eq_true rfl) ?_
  have hP : va_P D vwC [(a4, .inr (2, [.ref a17, .ref a1, .ref a27, .ref a28, .int 0, .int (-1)])), (a17, .inr (0, [.ref a20, .ref a21, .ref a22, .ref a23, .ref a24, .ref a25, .ref a26, .int 0])), (a28, .inl (dA 0, 60, .inl (fun _ => 0)))] H := hP
  have hD : va_D A [(a4, .inr (2, [.ref a17, .ref a1, .ref a27, .ref a28, .int 0, .int (-1)])), (a17, .inr (0, [.ref a20, .ref a21, .ref a22, .ref a23, .ref a24, .ref a25, .ref a26, .int 0])), (a28, .inl (dA 0, 60, .inl (fun _ => 0)))] := hD
  refine lv_iconst (v := 0) hx hb dX2_measure_8 (by decide) ?_
  refine lv_istore_n (lv' := [(1, .int 0), (0, .ref a4)]) hx hb dX2_measure_9 rfl hl (by decide) rfl (fun ls hl => ?_)
  refine lv_iload_n hx hb dX2_measure_10 rfl (lv_at hl 0 rfl) ?_
  refine lv_aload_n hx hb dX2_measure_11 rfl (lv_at hl 1 rfl) ?_
  refine g_get hx hb hg hown hK hP 0 rfl rfl inX2 0 (by decide) q371 rfl dX2_measure_12 ?_
  refine g_get hx hb hg hown hK hP 1 rfl rfl inX0 7 (by decide) q273 rfl dX2_measure_15 ?_
  refine lv_icmp_ge (tgt := 112) hx hb dX2_measure_18 (by decide) (fun _ => ?_) (fun h => absurd (by decide) h)
  obtain ⟨hP, hD⟩ := g_cut (is := [0, 1, 2]) (w' := [(a4, .inr (2, [.ref a17, .ref a1, .ref a27, .ref a28, .int 0, .int (-1)])), (a17, .inr (0, [.ref a20, .ref a21, .ref a22, .ref a23, .ref a24, .ref a25, .ref a26, .int 0])), (a28, .inl (dA 0, 60, .inl (fun _ => 0)))]) hP hD (by decide) rfl rfl
  exact g_vret hx hb hr hlocks hK (fun k => ([] : List Nat).getD k 0) hP hD hS trivial (Nat.le_of_ble_eq_true rfl) (Nat.le_of_ble_eq_true rfl) dX2_measure_112
set_option maxHeartbeats 4000000 in
set_option maxRecDepth 100000 in
theorem c_X2_growJumps (l : Launch) (D : va_G) (dA : Nat → ClassId) (a4 : Nat) (a17 : Nat) (a1 : Nat) (a27 : Nat) (a28 : Nat) (a20 : Nat) (a21 : Nat) (a22 : Nat) (a23 : Nat) (a24 : Nat) (a25 : Nat) (a26 : Nat) (sz : Nat) : Met l yX2_growJumps (gws yX2_growJumps cX2_growJumps 3 (some .boolean)) (gR 2 0 0) (gPre D dA [.ref a4] [(a4, .inr (2, [.ref a17, .ref a1, .ref a27, .ref a28, .int 0, .int (-1)])), (a17, .inr (0, [.ref a20, .ref a21, .ref a22, .ref a23, .ref a24, .ref a25, .ref a26, .int 0]))] sz) (va_Qi (fun (r : Int32) (_ : Nat → Nat) => r = 0) (gAt D dA (va_A [(a4, .inr (2, [.ref a17, .ref a1, .ref a27, .ref a28, .int 0, .int (-1)])), (a17, .inr (0, [.ref a20, .ref a21, .ref a22, .ref a23, .ref a24, .ref a25, .ref a26, .int 0]))] sz) (fun ad : Nat → Nat => [(a4, .inr (2, [.ref a17, .ref a1, .ref a27, .ref a28, .int 0, .int (-1)])), (a17, .inr (0, [.ref a20, .ref a21, .ref a22, .ref a23, .ref a24, .ref a25, .ref a26, .int 0]))])) (va_A [(a4, .inr (2, [.ref a17, .ref a1, .ref a27, .ref a28, .int 0, .int (-1)])), (a17, .inr (0, [.ref a20, .ref a21, .ref a22, .ref a23, .ref a24, .ref a25, .ref a26, .int 0]))] sz)) 0 0 (va_A [(a4, .inr (2, [.ref a17, .ref a1, .ref a27, .ref a28, .int 0, .int (-1)])), (a17, .inr (0, [.ref a20, .ref a21, .ref a22, .ref a23, .ref a24, .ref a25, .ref a26, .int 0]))] sz) := by
  refine Met.ofW (cc := cX2_growJumps) (maxL := 3) (ret := (some .boolean)) (by decide) rfl ?_
  intro p e s m args below meth c s₁ B hml hv
  obtain ⟨rfl, hsz, hP, hK, hD0⟩ := hv
  have hx := B.exec
  have hb := B.bytes
  have hr := B.returns
  have hts := atoms_spec (ws := gws yX2_growJumps cX2_growJumps 3 (some .boolean)) B.pre
  have hg : ∀ w ∈ gw, w.before _ s = true := fun w h => hts w (List.mem_cons_of_mem _ h)
  have hown : s.vm.findClass RX2 = some m.cls := findClass_of_methodNamed B.named
  have hlocks := B.notSynchronized
  subst hsz
  have hD := hD0.self (sz := s.heap.size)
  generalize hAe : va_A [(a4, .inr (2, [.ref a17, .ref a1, .ref a27, .ref a28, .int 0, .int (-1)])), (a17, .inr (0, [.ref a20, .ref a21, .ref a22, .ref a23, .ref a24, .ref a25, .ref a26, .int 0]))] s.heap.size = A at hD ⊢
  have hA : ∀ q : Nat, s.heap.size ≤ q → A q := fun q h => by rw [← hAe]; exact Or.inr h
  have hS : va_S A s.heap s.heap [] := va_S.rf
  have hP : va_P D vwC [(a4, .inr (2, [.ref a17, .ref a1, .ref a27, .ref a28, .int 0, .int (-1)])), (a17, .inr (0, [.ref a20, .ref a21, .ref a22, .ref a23, .ref a24, .ref a25, .ref a26, .int 0]))] s.heap := hP
  have hl := lv_entry ([.ref a4]) (n := 3) (Nat.le_of_ble_eq_true rfl)
  rw [lg_entry_eq]
  generalize (lg_sl ([.ref a4]) ++ List.replicate (3 - (lg_sl ([.ref a4])).length) Slot.unset).toArray = ls at hl ⊢
  have hl : lv_has ls 3 [(0, .ref a4)] := hl
  refine lv_iconst (v := 0) hx hb dX2_growJumps_0 (by decide) ?_
  refine lv_istore_n (lv' := [(1, .int 0), (0, .ref a4)]) hx hb dX2_growJumps_1 rfl hl (by decide) rfl (fun ls hl => ?_)
  refine lv_iconst (v := 0) hx hb dX2_growJumps_2 (by decide) ?_
  refine lv_istore_n (lv' := [(2, .int 0), (1, .int 0), (0, .ref a4)]) hx hb dX2_growJumps_3 rfl hl (by decide) rfl (fun ls hl => ?_)
  refine lv_iload_n hx hb dX2_growJumps_4 rfl (lv_at hl 0 rfl) ?_
  refine lv_aload_n hx hb dX2_growJumps_5 rfl (lv_at hl 2 rfl) ?_
  refine g_get hx hb hg hown hK hP 0 rfl rfl inX2 0 (by decide) q371 rfl dX2_growJumps_6 ?_
  refine g_get hx hb hg hown hK hP 1 rfl rfl inX0 7 (by decide) q273 rfl dX2_growJumps_9 ?_
  refine lv_icmp_ge (tgt := 79) hx hb dX2_growJumps_12 (by decide) (fun _ => ?_) (fun h => absurd (by decide) h)
  refine lv_iload_n hx hb dX2_growJumps_79 rfl (lv_at hl 1 rfl) ?_
  obtain ⟨hP, hD⟩ := g_cut (is := [0, 1]) (w' := [(a4, .inr (2, [.ref a17, .ref a1, .ref a27, .ref a28, .int 0, .int (-1)])), (a17, .inr (0, [.ref a20, .ref a21, .ref a22, .ref a23, .ref a24, .ref a25, .ref a26, .int 0]))]) hP hD (by decide) rfl rfl
  exact g_iret hx hb hr rfl hlocks hK (fun k => ([] : List Nat).getD k 0) hP hD hS rfl (Nat.le_of_ble_eq_true rfl) (Nat.le_of_ble_eq_true rfl) dX2_growJumps_80
set_option maxHeartbeats 4000000 in
set_option maxRecDepth 100000 in
theorem c_X2_sizeJumps (l : Launch) (D : va_G) (dA : Nat → ClassId) (a4 : Nat) (a17 : Nat) (a1 : Nat) (a27 : Nat) (a28 : Nat) (a20 : Nat) (a21 : Nat) (a22 : Nat) (a23 : Nat) (a24 : Nat) (a25 : Nat) (a26 : Nat) (sz : Nat) : Met l yX2_sizeJumps (gws yX2_sizeJumps cX2_sizeJumps 3 (some .int)) (gR 6 0 0) (gPre D dA [.ref a4] [(a4, .inr (2, [.ref a17, .ref a1, .ref a27, .ref a28, .int 0, .int (-1)])), (a17, .inr (0, [.ref a20, .ref a21, .ref a22, .ref a23, .ref a24, .ref a25, .ref a26, .int 0])), (a28, .inl (dA 0, 60, .inl (fun _ => 0)))] sz) (va_Qi (fun (r : Int32) (_ : Nat → Nat) => r = 0) (gAt D dA (va_A [(a4, .inr (2, [.ref a17, .ref a1, .ref a27, .ref a28, .int 0, .int (-1)])), (a17, .inr (0, [.ref a20, .ref a21, .ref a22, .ref a23, .ref a24, .ref a25, .ref a26, .int 0])), (a28, .inl (dA 0, 60, .inl (fun _ => 0)))] sz) (fun ad : Nat → Nat => [(a4, .inr (2, [.ref a17, .ref a1, .ref a27, .ref a28, .int 0, .int (-1)])), (a17, .inr (0, [.ref a20, .ref a21, .ref a22, .ref a23, .ref a24, .ref a25, .ref a26, .int 0])), (a28, .inl (dA 0, 60, .inl (fun _ => 0)))])) (va_A [(a4, .inr (2, [.ref a17, .ref a1, .ref a27, .ref a28, .int 0, .int (-1)])), (a17, .inr (0, [.ref a20, .ref a21, .ref a22, .ref a23, .ref a24, .ref a25, .ref a26, .int 0])), (a28, .inl (dA 0, 60, .inl (fun _ => 0)))] sz)) 0 0 (va_A [(a4, .inr (2, [.ref a17, .ref a1, .ref a27, .ref a28, .int 0, .int (-1)])), (a17, .inr (0, [.ref a20, .ref a21, .ref a22, .ref a23, .ref a24, .ref a25, .ref a26, .int 0])), (a28, .inl (dA 0, 60, .inl (fun _ => 0)))] sz) := by
  refine Met.ofW (cc := cX2_sizeJumps) (maxL := 3) (ret := (some .int)) (by decide) rfl ?_
  intro p e s m args below meth c s₁ B hml hv
  obtain ⟨rfl, hsz, hP, hK, hD0⟩ := hv
  have hx := B.exec
  have hb := B.bytes
  have hr := B.returns
  have hts := atoms_spec (ws := gws yX2_sizeJumps cX2_sizeJumps 3 (some .int)) B.pre
  have hg : ∀ w ∈ gw, w.before _ s = true := fun w h => hts w (List.mem_cons_of_mem _ h)
  have hown : s.vm.findClass RX2 = some m.cls := findClass_of_methodNamed B.named
  have hlocks := B.notSynchronized
  subst hsz
  have hD := hD0.self (sz := s.heap.size)
  generalize hAe : va_A [(a4, .inr (2, [.ref a17, .ref a1, .ref a27, .ref a28, .int 0, .int (-1)])), (a17, .inr (0, [.ref a20, .ref a21, .ref a22, .ref a23, .ref a24, .ref a25, .ref a26, .int 0])), (a28, .inl (dA 0, 60, .inl (fun _ => 0)))] s.heap.size = A at hD ⊢
  have hA : ∀ q : Nat, s.heap.size ≤ q → A q := fun q h => by rw [← hAe]; exact Or.inr h
  have hS : va_S A s.heap s.heap [] := va_S.rf
  have hP : va_P D vwC [(a4, .inr (2, [.ref a17, .ref a1, .ref a27, .ref a28, .int 0, .int (-1)])), (a17, .inr (0, [.ref a20, .ref a21, .ref a22, .ref a23, .ref a24, .ref a25, .ref a26, .int 0])), (a28, .inl (dA 0, 60, .inl (fun _ => 0)))] s.heap := hP
  have hl := lv_entry ([.ref a4]) (n := 3) (Nat.le_of_ble_eq_true rfl)
  rw [lg_entry_eq]
  generalize (lg_sl ([.ref a4]) ++ List.replicate (3 - (lg_sl ([.ref a4])).length) Slot.unset).toArray = ls at hl ⊢
  have hl : lv_has ls 3 [(0, .ref a4)] := hl
  refine lv_iconst (v := 0) hx hb dX2_sizeJumps_0 (by decide) ?_
  refine lv_istore_n (lv' := [(1, .int 0), (0, .ref a4)]) hx hb dX2_sizeJumps_1 rfl hl (by decide) rfl (fun ls hl => ?_)
  refine lv_iload_n hx hb dX2_sizeJumps_2 rfl (lv_at hl 0 rfl) ?_
  refine lv_aload_n hx hb dX2_sizeJumps_3 rfl (lv_at hl 1 rfl) ?_
  refine g_get hx hb hg hown hK hP 0 rfl rfl inX2 0 (by decide) q371 rfl dX2_sizeJumps_4 ?_
  refine g_get hx hb hg hown hK hP 1 rfl rfl inX0 7 (by decide) q273 rfl dX2_sizeJumps_7 ?_
  refine lv_icmp_gt (tgt := 33) hx hb dX2_sizeJumps_10 (by decide) (fun h => absurd h (by decide)) (fun _ => ?_)
  refine lv_aload_n hx hb dX2_sizeJumps_13 rfl (lv_at hl 1 rfl) ?_
  refine g_Vv (n := 0) (As := []) (rest := []) (wr := []) hx hb hml hg hown hK hP hD hS hA (c_X2_measure l D dA a4 a17 a1 a27 a28 a20 a21 a22 a23 a24 a25 a26 _) [0, 1, 2] [] rfl (by decide) rfl (by decide) (by decide) 0 rfl rfl q1161 q155 q1158 q1160 q34 (by decide +kernel) ⟨(Nat.le_of_ble_eq_true rfl), (Nat.le_of_ble_eq_true rfl)⟩ rfl hl.1 rfl (Nat.le_of_ble_eq_true rfl) dX2_sizeJumps_14 ⟨(Nat.le_of_ble_eq_true rfl), (Nat.le_of_ble_eq_true rfl)⟩ (fun u1 H locs w3 hP hD hS => ?_)
  refine W.widen (k := 0) (n := 0) (Nat.le_of_ble_eq_true rfl) (Nat.le_of_ble_eq_true rfl) ?_
  have hP : va_P D vwC [(a4, .inr (2, [.ref a17, .ref a1, .ref a27, .ref a28, .int 0, .int (-1)])), (a17, .inr (0, [.ref a20, .ref a21, .ref a22, .ref a23, .ref a24, .ref a25, .ref a26, .int 0])), (a28, .inl (dA 0, 60, .inl (fun _ => 0)))] H := hP
  have hD : va_D A [(a4, .inr (2, [.ref a17, .ref a1, .ref a27, .ref a28, .int 0, .int (-1)])), (a17, .inr (0, [.ref a20, .ref a21, .ref a22, .ref a23, .ref a24, .ref a25, .ref a26, .int 0])), (a28, .inl (dA 0, 60, .inl (fun _ => 0)))] := hD
  refine lv_aload_n hx hb dX2_sizeJumps_17 rfl (lv_at hl 1 rfl) ?_
  refine g_Vi (n := 0) (As := []) (rest := []) (wr := [(a28, .inl (dA 0, 60, .inl (fun _ => 0)))]) hx hb hml hg hown hK hP hD hS hA (c_X2_growJumps l D dA a4 a17 a1 a27 a28 a20 a21 a22 a23 a24 a25 a26 _) [0, 1] [2] rfl (by decide) rfl (by decide) (by decide) 0 rfl rfl q1172 q155 q1169 q1171 q35 (by decide +kernel) ⟨(Nat.le_of_ble_eq_true rfl), (Nat.le_of_ble_eq_true rfl)⟩ rfl hl.1 rfl (Nat.le_of_ble_eq_true rfl) dX2_sizeJumps_18 ⟨(Nat.le_of_ble_eq_true rfl), (Nat.le_of_ble_eq_true rfl)⟩ (fun r5 u4 H locs w6 hP hD hS => ?_)
  refine W.widen (k := 0) (n := 0) (Nat.le_of_ble_eq_true rfl) (Nat.le_of_ble_eq_true rfl) ?_
  have hP : va_P D vwC [(a28, .inl (dA 0, 60, .inl (fun _ => 0))), (a4, .inr (2, [.ref a17, .ref a1, .ref a27, .ref a28, .int 0, .int (-1)])), (a17, .inr (0, [.ref a20, .ref a21, .ref a22, .ref a23, .ref a24, .ref a25, .ref a26, .int 0]))] H := hP
  have hD : va_D A [(a28, .inl (dA 0, 60, .inl (fun _ => 0))), (a4, .inr (2, [.ref a17, .ref a1, .ref a27, .ref a28, .int 0, .int (-1)])), (a17, .inr (0, [.ref a20, .ref a21, .ref a22, .ref a23, .ref a24, .ref a25, .ref a26, .int 0]))] := hD
  obtain rfl : r5 = 0 := w6
  refine lv_if_ne (tgt := 27) hx hb dX2_sizeJumps_21 (by decide) (fun h => absurd h (by decide)) (fun _ => ?_)
  refine lv_goto (tgt := 33) hx hb dX2_sizeJumps_24 (by decide) ?_
  refine lv_iconst (v := 0) hx hb dX2_sizeJumps_33 (by decide) ?_
  refine lv_istore_n (lv' := [(1, .int 0), (0, .ref a4)]) hx hb dX2_sizeJumps_34 rfl hl (by decide) rfl (fun ls hl => ?_)
  refine lv_iconst (v := 0) hx hb dX2_sizeJumps_35 (by decide) ?_
  refine lv_istore_n (lv' := [(2, .int 0), (1, .int 0), (0, .ref a4)]) hx hb dX2_sizeJumps_36 rfl hl (by decide) rfl (fun ls hl => ?_)
  refine lv_iload_n hx hb dX2_sizeJumps_37 rfl (lv_at hl 0 rfl) ?_
  refine lv_aload_n hx hb dX2_sizeJumps_38 rfl (lv_at hl 2 rfl) ?_
  refine g_get hx hb hg hown hK hP 1 rfl rfl inX2 4 (by decide) q375 rfl dX2_sizeJumps_39 ?_
  refine lv_icmp_ge (tgt := 60) hx hb dX2_sizeJumps_42 (by decide) (fun _ => ?_) (fun h => absurd (by decide) h)
  refine lv_iload_n hx hb dX2_sizeJumps_60 rfl (lv_at hl 1 rfl) ?_
  obtain ⟨hP, hD⟩ := g_cut (is := [1, 2, 0]) (w' := [(a4, .inr (2, [.ref a17, .ref a1, .ref a27, .ref a28, .int 0, .int (-1)])), (a17, .inr (0, [.ref a20, .ref a21, .ref a22, .ref a23, .ref a24, .ref a25, .ref a26, .int 0])), (a28, .inl (dA 0, 60, .inl (fun _ => 0)))]) hP hD (by decide) rfl rfl
  exact g_iret hx hb hr rfl hlocks hK (fun k => ([] : List Nat).getD k 0) hP hD hS rfl (Nat.le_of_ble_eq_true rfl) (Nat.le_of_ble_eq_true rfl) dX2_sizeJumps_61
set_option maxHeartbeats 4000000 in
set_option maxRecDepth 100000 in
theorem c_X2_firstTooFar (l : Launch) (D : va_G) (dA : Nat → ClassId) (a4 : Nat) (a17 : Nat) (a1 : Nat) (a27 : Nat) (a28 : Nat) (a20 : Nat) (a21 : Nat) (a22 : Nat) (a23 : Nat) (a24 : Nat) (a25 : Nat) (a26 : Nat) (sz : Nat) : Met l yX2_firstTooFar (gws yX2_firstTooFar cX2_firstTooFar 2 (some .int)) (gR 2 0 0) (gPre D dA [.ref a4] [(a4, .inr (2, [.ref a17, .ref a1, .ref a27, .ref a28, .int 0, .int (-1)])), (a17, .inr (0, [.ref a20, .ref a21, .ref a22, .ref a23, .ref a24, .ref a25, .ref a26, .int 0]))] sz) (va_Qi (fun (r : Int32) (_ : Nat → Nat) => r = -1) (gAt D dA (va_A [(a4, .inr (2, [.ref a17, .ref a1, .ref a27, .ref a28, .int 0, .int (-1)])), (a17, .inr (0, [.ref a20, .ref a21, .ref a22, .ref a23, .ref a24, .ref a25, .ref a26, .int 0]))] sz) (fun ad : Nat → Nat => [(a4, .inr (2, [.ref a17, .ref a1, .ref a27, .ref a28, .int 0, .int (-1)])), (a17, .inr (0, [.ref a20, .ref a21, .ref a22, .ref a23, .ref a24, .ref a25, .ref a26, .int 0]))])) (va_A [(a4, .inr (2, [.ref a17, .ref a1, .ref a27, .ref a28, .int 0, .int (-1)])), (a17, .inr (0, [.ref a20, .ref a21, .ref a22, .ref a23, .ref a24, .ref a25, .ref a26, .int 0]))] sz)) 0 0 (va_A [(a4, .inr (2, [.ref a17, .ref a1, .ref a27, .ref a28, .int 0, .int (-1)])), (a17, .inr (0, [.ref a20, .ref a21, .ref a22, .ref a23, .ref a24, .ref a25, .ref a26, .int 0]))] sz) := by
  refine Met.ofW (cc := cX2_firstTooFar) (maxL := 2) (ret := (some .int)) (by decide) rfl ?_
  intro p e s m args below meth c s₁ B hml hv
  obtain ⟨rfl, hsz, hP, hK, hD0⟩ := hv
  have hx := B.exec
  have hb := B.bytes
  have hr := B.returns
  have hts := atoms_spec (ws := gws yX2_firstTooFar cX2_firstTooFar 2 (some .int)) B.pre
  have hg : ∀ w ∈ gw, w.before _ s = true := fun w h => hts w (List.mem_cons_of_mem _ h)
  have hown : s.vm.findClass RX2 = some m.cls := findClass_of_methodNamed B.named
  have hlocks := B.notSynchronized
  subst hsz
  have hD := hD0.self (sz := s.heap.size)
  generalize hAe : va_A [(a4, .inr (2, [.ref a17, .ref a1, .ref a27, .ref a28, .int 0, .int (-1)])), (a17, .inr (0, [.ref a20, .ref a21, .ref a22, .ref a23, .ref a24, .ref a25, .ref a26, .int 0]))] s.heap.size = A at hD ⊢
  have hA : ∀ q : Nat, s.heap.size ≤ q → A q := fun q h => by rw [← hAe]; exact Or.inr h
  have hS : va_S A s.heap s.heap [] := va_S.rf
  have hP : va_P D vwC [(a4, .inr (2, [.ref a17, .ref a1, .ref a27, .ref a28, .int 0, .int (-1)])), (a17, .inr (0, [.ref a20, .ref a21, .ref a22, .ref a23, .ref a24, .ref a25, .ref a26, .int 0]))] s.heap := hP
  have hl := lv_entry ([.ref a4]) (n := 2) (Nat.le_of_ble_eq_true rfl)
  rw [lg_entry_eq]
  generalize (lg_sl ([.ref a4]) ++ List.replicate (2 - (lg_sl ([.ref a4])).length) Slot.unset).toArray = ls at hl ⊢
  have hl : lv_has ls 2 [(0, .ref a4)] := hl
  refine lv_iconst (v := 0) hx hb dX2_firstTooFar_0 (by decide) ?_
  refine lv_istore_n (lv' := [(1, .int 0), (0, .ref a4)]) hx hb dX2_firstTooFar_1 rfl hl (by decide) rfl (fun ls hl => ?_)
  refine lv_iload_n hx hb dX2_firstTooFar_2 rfl (lv_at hl 0 rfl) ?_
  refine lv_aload_n hx hb dX2_firstTooFar_3 rfl (lv_at hl 1 rfl) ?_
  refine g_get hx hb hg hown hK hP 0 rfl rfl inX2 0 (by decide) q371 rfl dX2_firstTooFar_4 ?_
  refine g_get hx hb hg hown hK hP 1 rfl rfl inX0 7 (by decide) q273 rfl dX2_firstTooFar_7 ?_
  refine lv_icmp_ge (tgt := 54) hx hb dX2_firstTooFar_10 (by decide) (fun _ => ?_) (fun h => absurd (by decide) h)
  refine lv_iconst (v := (-1)) hx hb dX2_firstTooFar_54 (by decide) ?_
  obtain ⟨hP, hD⟩ := g_cut (is := [0, 1]) (w' := [(a4, .inr (2, [.ref a17, .ref a1, .ref a27, .ref a28, .int 0, .int (-1)])), (a17, .inr (0, [.ref a20, .ref a21, .ref a22, .ref a23, .ref a24, .ref a25, .ref a26, .int 0]))]) hP hD (by decide) rfl rfl
  exact g_iret hx hb hr rfl hlocks hK (fun k => ([] : List Nat).getD k 0) hP hD hS rfl (Nat.le_of_ble_eq_true rfl) (Nat.le_of_ble_eq_true rfl) dX2_firstTooFar_55
set_option maxHeartbeats 4000000 in
set_option maxRecDepth 100000 in
theorem c_X6_clear (l : Launch) (D : va_G) (dA : Nat → ClassId) (a29 : Nat) (a32 : Nat) (a33 : Nat) (a34 : Nat) (a35 : Nat) (a36 : Nat) (a37 : Nat) (a38 : Nat) (a39 : Nat) (a40 : Nat) (a41 : Nat) (a42 : Nat) (a43 : Nat) (a44 : Nat) (sz : Nat) : Met l yX6_clear (gws yX6_clear cX6_clear 1 none) (gR 4 0 0) (gPre D dA [.ref a29] [(a29, .inr (6, [.int 0, .int 0, .ref a32, .ref a33, .ref a34, .ref a35, .ref a36, .int 0, .ref a37, .ref a38, .ref a39, .ref a40, .ref a41, .int 0, .ref a42, .ref a43, .ref a44])), (a36, .inl (dA 0, 400, .inl (fun _ => 0)))] sz) (va_Qv (fun _ : Nat → Nat => True) (gAt D dA (va_A [(a29, .inr (6, [.int 0, .int 0, .ref a32, .ref a33, .ref a34, .ref a35, .ref a36, .int 0, .ref a37, .ref a38, .ref a39, .ref a40, .ref a41, .int 0, .ref a42, .ref a43, .ref a44])), (a36, .inl (dA 0, 400, .inl (fun _ => 0)))] sz) (fun ad : Nat → Nat => [(a29, .inr (6, [.int 0, .int 0, .ref a32, .ref a33, .ref a34, .ref a35, .ref a36, .int 0, .ref a37, .ref a38, .ref a39, .ref a40, .ref a41, .int 0, .ref a42, .ref a43, .ref a44])), (a36, .inl (dA 0, 400, .inl (fun _ => 0)))])) (va_A [(a29, .inr (6, [.int 0, .int 0, .ref a32, .ref a33, .ref a34, .ref a35, .ref a36, .int 0, .ref a37, .ref a38, .ref a39, .ref a40, .ref a41, .int 0, .ref a42, .ref a43, .ref a44])), (a36, .inl (dA 0, 400, .inl (fun _ => 0)))] sz)) 0 0 (va_A [(a29, .inr (6, [.int 0, .int 0, .ref a32, .ref a33, .ref a34, .ref a35, .ref a36, .int 0, .ref a37, .ref a38, .ref a39, .ref a40, .ref a41, .int 0, .ref a42, .ref a43, .ref a44])), (a36, .inl (dA 0, 400, .inl (fun _ => 0)))] sz) := by
  refine Met.ofW (cc := cX6_clear) (maxL := 1) (ret := none) (by decide) rfl ?_
  intro p e s m args below meth c s₁ B hml hv
  obtain ⟨rfl, hsz, hP, hK, hD0⟩ := hv
  have hx := B.exec
  have hb := B.bytes
  have hr := B.returns
  have hts := atoms_spec (ws := gws yX6_clear cX6_clear 1 none) B.pre
  have hg : ∀ w ∈ gw, w.before _ s = true := fun w h => hts w (List.mem_cons_of_mem _ h)
  have hown : s.vm.findClass RX6 = some m.cls := findClass_of_methodNamed B.named
  have hlocks := B.notSynchronized
  subst hsz
  have hD := hD0.self (sz := s.heap.size)
  generalize hAe : va_A [(a29, .inr (6, [.int 0, .int 0, .ref a32, .ref a33, .ref a34, .ref a35, .ref a36, .int 0, .ref a37, .ref a38, .ref a39, .ref a40, .ref a41, .int 0, .ref a42, .ref a43, .ref a44])), (a36, .inl (dA 0, 400, .inl (fun _ => 0)))] s.heap.size = A at hD ⊢
  have hA : ∀ q : Nat, s.heap.size ≤ q → A q := fun q h => by rw [← hAe]; exact Or.inr h
  have hS : va_S A s.heap s.heap [] := va_S.rf
  have hP : va_P D vwC [(a29, .inr (6, [.int 0, .int 0, .ref a32, .ref a33, .ref a34, .ref a35, .ref a36, .int 0, .ref a37, .ref a38, .ref a39, .ref a40, .ref a41, .int 0, .ref a42, .ref a43, .ref a44])), (a36, .inl (dA 0, 400, .inl (fun _ => 0)))] s.heap := hP
  have hl := lv_entry ([.ref a29]) (n := 1) (Nat.le_of_ble_eq_true rfl)
  rw [lg_entry_eq]
  generalize (lg_sl ([.ref a29]) ++ List.replicate (1 - (lg_sl ([.ref a29])).length) Slot.unset).toArray = ls at hl ⊢
  have hl : lv_has ls 1 [(0, .ref a29)] := hl
  refine lv_aload_n hx hb dX6_clear_0 rfl (lv_at hl 0 rfl) ?_
  refine lv_iconst (v := 0) hx hb dX6_clear_1 (by decide) ?_
  refine g_put (w' := [(a29, .inr (6, [.int 0, .int 0, .ref a32, .ref a33, .ref a34, .ref a35, .ref a36, .int 0, .ref a37, .ref a38, .ref a39, .ref a40, .ref a41, .int 0, .ref a42, .ref a43, .ref a44])), (a36, .inl (dA 0, 400, .inl (fun _ => 0)))]) hx hb hg hown hK hP hD hS 0 rfl rfl inX6 tyX6_ok nmX6 0 (by decide) q397 rfl rfl rfl (Nat.le_of_ble_eq_true rfl) rfl dX6_clear_2 (fun H locs hP hD hS => ?_)
  refine lv_aload_n hx hb dX6_clear_5 rfl (lv_at hl 0 rfl) ?_
  refine lv_iconst (v := 0) hx hb dX6_clear_6 (by decide) ?_
  refine g_put (w' := [(a29, .inr (6, [.int 0, .int 0, .ref a32, .ref a33, .ref a34, .ref a35, .ref a36, .int 0, .ref a37, .ref a38, .ref a39, .ref a40, .ref a41, .int 0, .ref a42, .ref a43, .ref a44])), (a36, .inl (dA 0, 400, .inl (fun _ => 0)))]) hx hb hg hown hK hP hD hS 0 rfl rfl inX6 tyX6_ok nmX6 1 (by decide) q401 rfl rfl rfl (Nat.le_of_ble_eq_true rfl) rfl dX6_clear_7 (fun H locs hP hD hS => ?_)
  refine lv_aload_n hx hb dX6_clear_10 rfl (lv_at hl 0 rfl) ?_
  refine lv_iconst (v := 0) hx hb dX6_clear_11 (by decide) ?_
  refine g_put (w' := [(a29, .inr (6, [.int 0, .int 0, .ref a32, .ref a33, .ref a34, .ref a35, .ref a36, .int 0, .ref a37, .ref a38, .ref a39, .ref a40, .ref a41, .int 0, .ref a42, .ref a43, .ref a44])), (a36, .inl (dA 0, 400, .inl (fun _ => 0)))]) hx hb hg hown hK hP hD hS 0 rfl rfl inX6 tyX6_ok nmX6 7 (by decide) q417 rfl rfl rfl (Nat.le_of_ble_eq_true rfl) rfl dX6_clear_12 (fun H locs hP hD hS => ?_)
  refine lv_aload_n hx hb dX6_clear_15 rfl (lv_at hl 0 rfl) ?_
  refine lv_iconst (v := 0) hx hb dX6_clear_16 (by decide) ?_
  refine g_put (w' := [(a29, .inr (6, [.int 0, .int 0, .ref a32, .ref a33, .ref a34, .ref a35, .ref a36, .int 0, .ref a37, .ref a38, .ref a39, .ref a40, .ref a41, .int 0, .ref a42, .ref a43, .ref a44])), (a36, .inl (dA 0, 400, .inl (fun _ => 0)))]) hx hb hg hown hK hP hD hS 0 rfl rfl inX6 tyX6_ok nmX6 13 (by decide) q434 rfl rfl rfl (Nat.le_of_ble_eq_true rfl) rfl dX6_clear_17 (fun H locs hP hD hS => ?_)
  refine lv_aload_n hx hb dX6_clear_20 rfl (lv_at hl 0 rfl) ?_
  refine g_get hx hb hg hown hK hP 0 rfl rfl inX6 6 (by decide) q414 rfl dX6_clear_21 ?_
  refine lv_iconst (v := 0) hx hb dX6_clear_24 (by decide) ?_
  refine g_Sv (n := 2) (As := [.ref a36, .int 0]) (rest := []) (wr := [(a29, .inr (6, [.int 0, .int 0, .ref a32, .ref a33, .ref a34, .ref a35, .ref a36, .int 0, .ref a37, .ref a38, .ref a39, .ref a40, .ref a41, .int 0, .ref a42, .ref a43, .ref a44]))]) hx hb hml hg hown hK hP hD hS hA (c_fill l D dA a36 400 (by decide) _) [1] [0] rfl (by decide) rfl (by decide) (by decide) q1164 q177 q1198 q1163 (by decide +kernel) ⟨(Nat.le_of_ble_eq_true rfl), (Nat.le_of_ble_eq_true rfl)⟩ rfl hl.1 rfl (Nat.le_of_ble_eq_true rfl) dX6_clear_25 ⟨(Nat.le_of_ble_eq_true rfl), (Nat.le_of_ble_eq_true rfl)⟩ (fun u1 H locs w3 hP hD hS => ?_)
  refine W.widen (k := 0) (n := 0) (Nat.le_of_ble_eq_true rfl) (Nat.le_of_ble_eq_true rfl) ?_
  have hP : va_P D vwC [(a29, .inr (6, [.int 0, .int 0, .ref a32, .ref a33, .ref a34, .ref a35, .ref a36, .int 0, .ref a37, .ref a38, .ref a39, .ref a40, .ref a41, .int 0, .ref a42, .ref a43, .ref a44])), (a36, .inl (dA 0, 400, .inl (fun _ => 0)))] H := hP
  have hD : va_D A [(a29, .inr (6, [.int 0, .int 0, .ref a32, .ref a33, .ref a34, .ref a35, .ref a36, .int 0, .ref a37, .ref a38, .ref a39, .ref a40, .ref a41, .int 0, .ref a42, .ref a43, .ref a44])), (a36, .inl (dA 0, 400, .inl (fun _ => 0)))] := hD
  obtain ⟨hP, hD⟩ := g_cut (is := [0, 1]) (w' := [(a29, .inr (6, [.int 0, .int 0, .ref a32, .ref a33, .ref a34, .ref a35, .ref a36, .int 0, .ref a37, .ref a38, .ref a39, .ref a40, .ref a41, .int 0, .ref a42, .ref a43, .ref a44])), (a36, .inl (dA 0, 400, .inl (fun _ => 0)))]) hP hD (by decide) rfl rfl
  exact g_vret hx hb hr hlocks hK (fun k => ([] : List Nat).getD k 0) hP hD hS trivial (Nat.le_of_ble_eq_true rfl) (Nat.le_of_ble_eq_true rfl) dX6_clear_28
set_option maxHeartbeats 4000000 in
set_option maxRecDepth 100000 in
theorem c_X2_write (l : Launch) (D : va_G) (dA : Nat → ClassId) (a4 : Nat) (a29 : Nat) (a17 : Nat) (a1 : Nat) (a27 : Nat) (a28 : Nat) (a20 : Nat) (a21 : Nat) (a22 : Nat) (a23 : Nat) (a24 : Nat) (a25 : Nat) (a26 : Nat) (a32 : Nat) (a33 : Nat) (a34 : Nat) (a35 : Nat) (a36 : Nat) (a37 : Nat) (a38 : Nat) (a39 : Nat) (a40 : Nat) (a41 : Nat) (a42 : Nat) (a43 : Nat) (a44 : Nat) (sz : Nat) : Met l yX2_write (gws yX2_write cX2_write 4 none) (gR 6 0 0) (gPre D dA [.ref a4, .ref a29] [(a4, .inr (2, [.ref a17, .ref a1, .ref a27, .ref a28, .int 0, .int (-1)])), (a17, .inr (0, [.ref a20, .ref a21, .ref a22, .ref a23, .ref a24, .ref a25, .ref a26, .int 0])), (a29, .inr (6, [.int 0, .int 0, .ref a32, .ref a33, .ref a34, .ref a35, .ref a36, .int 0, .ref a37, .ref a38, .ref a39, .ref a40, .ref a41, .int 0, .ref a42, .ref a43, .ref a44])), (a36, .inl (dA 0, 400, .inl (fun _ => 0)))] sz) (va_Qv (fun _ : Nat → Nat => True) (gAt D dA (va_A [(a4, .inr (2, [.ref a17, .ref a1, .ref a27, .ref a28, .int 0, .int (-1)])), (a17, .inr (0, [.ref a20, .ref a21, .ref a22, .ref a23, .ref a24, .ref a25, .ref a26, .int 0])), (a29, .inr (6, [.int 0, .int 0, .ref a32, .ref a33, .ref a34, .ref a35, .ref a36, .int 0, .ref a37, .ref a38, .ref a39, .ref a40, .ref a41, .int 0, .ref a42, .ref a43, .ref a44])), (a36, .inl (dA 0, 400, .inl (fun _ => 0)))] sz) (fun ad : Nat → Nat => [(a4, .inr (2, [.ref a17, .ref a1, .ref a27, .ref a28, .int 0, .int (-1)])), (a17, .inr (0, [.ref a20, .ref a21, .ref a22, .ref a23, .ref a24, .ref a25, .ref a26, .int 0])), (a29, .inr (6, [.int 1, .int 0, .ref a32, .ref a33, .ref a34, .ref a35, .ref a36, .int 0, .ref a37, .ref a38, .ref a39, .ref a40, .ref a41, .int 0, .ref a42, .ref a43, .ref a44])), (a36, .inl (dA 0, 400, .inl (fun _ => 0)))])) (va_A [(a4, .inr (2, [.ref a17, .ref a1, .ref a27, .ref a28, .int 0, .int (-1)])), (a17, .inr (0, [.ref a20, .ref a21, .ref a22, .ref a23, .ref a24, .ref a25, .ref a26, .int 0])), (a29, .inr (6, [.int 0, .int 0, .ref a32, .ref a33, .ref a34, .ref a35, .ref a36, .int 0, .ref a37, .ref a38, .ref a39, .ref a40, .ref a41, .int 0, .ref a42, .ref a43, .ref a44])), (a36, .inl (dA 0, 400, .inl (fun _ => 0)))] sz)) 0 0 (va_A [(a4, .inr (2, [.ref a17, .ref a1, .ref a27, .ref a28, .int 0, .int (-1)])), (a17, .inr (0, [.ref a20, .ref a21, .ref a22, .ref a23, .ref a24, .ref a25, .ref a26, .int 0])), (a29, .inr (6, [.int 0, .int 0, .ref a32, .ref a33, .ref a34, .ref a35, .ref a36, .int 0, .ref a37, .ref a38, .ref a39, .ref a40, .ref a41, .int 0, .ref a42, .ref a43, .ref a44])), (a36, .inl (dA 0, 400, .inl (fun _ => 0)))] sz) := by
  refine Met.ofW (cc := cX2_write) (maxL := 4) (ret := none) (by decide) rfl ?_
  intro p e s m args below meth c s₁ B hml hv
  obtain ⟨rfl, hsz, hP, hK, hD0⟩ := hv
  have hx := B.exec
  have hb := B.bytes
  have hr := B.returns
  have hts := atoms_spec (ws := gws yX2_write cX2_write 4 none) B.pre
  have hg : ∀ w ∈ gw, w.before _ s = true := fun w h => hts w (List.mem_cons_of_mem _ h)
  have hown : s.vm.findClass RX2 = some m.cls := findClass_of_methodNamed B.named
  have hlocks := B.notSynchronized
  subst hsz
  have hD := hD0.self (sz := s.heap.size)
  generalize hAe : va_A [(a4, .inr (2, [.ref a17, .ref a1, .ref a27, .ref a28, .int 0, .int (-1)])), (a17, .inr (0, [.ref a20, .ref a21, .ref a22, .ref a23, .ref a24, .ref a25, .ref a26, .int 0])), (a29, .inr (6, [.int 0, .int 0, .ref a32, .ref a33, .ref a34, .ref a35, .ref a36, .int 0, .ref a37, .ref a38, .ref a39, .ref a40, .ref a41, .int 0, .ref a42, .ref a43, .ref a44])), (a36, .inl (dA 0, 400, .inl (fun _ => 0)))] s.heap.size = A at hD ⊢
  have hA : ∀ q : Nat, s.heap.size ≤ q → A q := fun q h => by rw [← hAe]; exact Or.inr h
  have hS : va_S A s.heap s.heap [] := va_S.rf
  have hP : va_P D vwC [(a4, .inr (2, [.ref a17, .ref a1, .ref a27, .ref a28, .int 0, .int (-1)])), (a17, .inr (0, [.ref a20, .ref a21, .ref a22, .ref a23, .ref a24, .ref a25, .ref a26, .int 0])), (a29, .inr (6, [.int 0, .int 0, .ref a32, .ref a33, .ref a34, .ref a35, .ref a36, .int 0, .ref a37, .ref a38, .ref a39, .ref a40, .ref a41, .int 0, .ref a42, .ref a43, .ref a44])), (a36, .inl (dA 0, 400, .inl (fun _ => 0)))] s.heap := hP
  have hl := lv_entry ([.ref a4, .ref a29]) (n := 4) (Nat.le_of_ble_eq_true rfl)
  rw [lg_entry_eq]
  generalize (lg_sl ([.ref a4, .ref a29]) ++ List.replicate (4 - (lg_sl ([.ref a4, .ref a29])).length) Slot.unset).toArray = ls at hl ⊢
  have hl : lv_has ls 4 [(0, .ref a4), (1, .ref a29)] := hl
  refine lv_aload_n hx hb dX2_write_0 rfl (lv_at hl 1 rfl) ?_
  refine g_Vv (n := 0) (As := []) (rest := []) (wr := [(a4, .inr (2, [.ref a17, .ref a1, .ref a27, .ref a28, .int 0, .int (-1)])), (a17, .inr (0, [.ref a20, .ref a21, .ref a22, .ref a23, .ref a24, .ref a25, .ref a26, .int 0]))]) hx hb hml hg hown hK hP hD hS hA (c_X6_clear l D dA a29 a32 a33 a34 a35 a36 a37 a38 a39 a40 a41 a42 a43 a44 _) [2, 3] [0, 1] rfl (by decide) rfl (by decide) (by decide) 0 rfl rfl q1197 q156 q1194 q1195 q1196 (by decide +kernel) ⟨(Nat.le_of_ble_eq_true rfl), (Nat.le_of_ble_eq_true rfl)⟩ rfl hl.1 rfl (Nat.le_of_ble_eq_true rfl) dX2_write_1 ⟨(Nat.le_of_ble_eq_true rfl), (Nat.le_of_ble_eq_true rfl)⟩ (fun u1 H locs w3 hP hD hS => ?_)
  refine W.widen (k := 0) (n := 0) (Nat.le_of_ble_eq_true rfl) (Nat.le_of_ble_eq_true rfl) ?_
  have hP : va_P D vwC [(a4, .inr (2, [.ref a17, .ref a1, .ref a27, .ref a28, .int 0, .int (-1)])), (a17, .inr (0, [.ref a20, .ref a21, .ref a22, .ref a23, .ref a24, .ref a25, .ref a26, .int 0])), (a29, .inr (6, [.int 0, .int 0, .ref a32, .ref a33, .ref a34, .ref a35, .ref a36, .int 0, .ref a37, .ref a38, .ref a39, .ref a40, .ref a41, .int 0, .ref a42, .ref a43, .ref a44])), (a36, .inl (dA 0, 400, .inl (fun _ => 0)))] H := hP
  have hD : va_D A [(a4, .inr (2, [.ref a17, .ref a1, .ref a27, .ref a28, .int 0, .int (-1)])), (a17, .inr (0, [.ref a20, .ref a21, .ref a22, .ref a23, .ref a24, .ref a25, .ref a26, .int 0])), (a29, .inr (6, [.int 0, .int 0, .ref a32, .ref a33, .ref a34, .ref a35, .ref a36, .int 0, .ref a37, .ref a38, .ref a39, .ref a40, .ref a41, .int 0, .ref a42, .ref a43, .ref a44])), (a36, .inl (dA 0, 400, .inl (fun _ => 0)))] := hD
  refine lv_aload_n hx hb dX2_write_4 rfl (lv_at hl 1 rfl) ?_
  refine lv_iconst (v := 1) hx hb dX2_write_5 (by decide) ?_
  refine g_put (w' := [(a4, .inr (2, [.ref a17, .ref a1, .ref a27, .ref a28, .int 0, .int (-1)])), (a17, .inr (0, [.ref a20, .ref a21, .ref a22, .ref a23, .ref a24, .ref a25, .ref a26, .int 0])), (a29, .inr (6, [.int 1, .int 0, .ref a32, .ref a33, .ref a34, .ref a35, .ref a36, .int 0, .ref a37, .ref a38, .ref a39, .ref a40, .ref a41, .int 0, .ref a42, .ref a43, .ref a44])), (a36, .inl (dA 0, 400, .inl (fun _ => 0)))]) hx hb hg hown hK hP hD hS 2 rfl rfl inX6 tyX6_ok nmX6 0 (by decide) q400 rfl rfl rfl (Nat.le_of_ble_eq_true rfl) rfl dX2_write_6 (fun H locs hP hD hS => ?_)
  refine lv_iconst (v := 0) hx hb dX2_write_9 (by decide) ?_
  refine lv_istore_n (lv' := [(2, .int 0), (0, .ref a4), (1, .ref a29)]) hx hb dX2_write_10 rfl hl (by decide) rfl (fun ls hl => ?_)
  refine lv_iload_n hx hb dX2_write_11 rfl (lv_at hl 0 rfl) ?_
  refine lv_aload_n hx hb dX2_write_12 rfl (lv_at hl 1 rfl) ?_
  refine g_get hx hb hg hown hK hP 0 rfl rfl inX2 4 (by decide) q375 rfl dX2_write_13 ?_
  refine lv_icmp_ge (tgt := 60) hx hb dX2_write_16 (by decide) (fun _ => ?_) (fun h => absurd (by decide) h)
  refine lv_iconst (v := 0) hx hb dX2_write_60 (by decide) ?_
  refine lv_istore_n (lv' := [(2, .int 0), (0, .ref a4), (1, .ref a29)]) hx hb dX2_write_61 rfl hl (by decide) rfl (fun ls hl => ?_)
  refine lv_iload_n hx hb dX2_write_62 rfl (lv_at hl 0 rfl) ?_
  refine lv_aload_n hx hb dX2_write_63 rfl (lv_at hl 1 rfl) ?_
  refine g_get hx hb hg hown hK hP 0 rfl rfl inX2 0 (by decide) q371 rfl dX2_write_64 ?_
  refine g_get hx hb hg hown hK hP 1 rfl rfl inX0 7 (by decide) q273 rfl dX2_write_67 ?_
  refine lv_icmp_ge (tgt := 154) hx hb dX2_write_70 (by decide) (fun _ => ?_) (fun h => absurd (by decide) h)
  obtain ⟨hP, hD⟩ := g_cut (is := [0, 1, 2, 3]) (w' := [(a4, .inr (2, [.ref a17, .ref a1, .ref a27, .ref a28, .int 0, .int (-1)])), (a17, .inr (0, [.ref a20, .ref a21, .ref a22, .ref a23, .ref a24, .ref a25, .ref a26, .int 0])), (a29, .inr (6, [.int 1, .int 0, .ref a32, .ref a33, .ref a34, .ref a35, .ref a36, .int 0, .ref a37, .ref a38, .ref a39, .ref a40, .ref a41, .int 0, .ref a42, .ref a43, .ref a44])), (a36, .inl (dA 0, 400, .inl (fun _ => 0)))]) hP hD (by decide) rfl rfl
  exact g_vret hx hb hr hlocks hK (fun k => ([] : List Nat).getD k 0) hP hD hS trivial (Nat.le_of_ble_eq_true rfl) (Nat.le_of_ble_eq_true rfl) dX2_write_154
set_option maxHeartbeats 4000000 in
set_option maxRecDepth 100000 in
theorem c_X3_hasModules (l : Launch) (D : va_G) (dA : Nat → ClassId) (a6 : Nat) (a5 : Nat) (a71 : Nat) (a72 : Nat) (a73 : Nat) (a74 : Nat) (a75 : Nat) (a29 : Nat) (a30 : Nat) (a31 : Nat) (a32 : Nat) (a33 : Nat) (a34 : Nat) (a35 : Nat) (a36 : Nat) (a37 : Nat) (a38 : Nat) (a39 : Nat) (a40 : Nat) (a41 : Nat) (a42 : Nat) (a43 : Nat) (a44 : Nat) (a45 : Nat) (a46 : Nat) (a47 : Nat) (a48 : Nat) (a49 : Nat) (a50 : Nat) (a51 : Nat) (a52 : Nat) (a53 : Nat) (a54 : Nat) (a55 : Nat) (a56 : Nat) (a57 : Nat) (a58 : Nat) (a59 : Nat) (a60 : Nat) (a61 : Nat) (a62 : Nat) (a63 : Nat) (a64 : Nat) (a65 : Nat) (a66 : Nat) (a67 : Nat) (a68 : Nat) (a69 : Nat) (a70 : Nat) (sz : Nat) : Met l yX3_hasModules (gws yX3_hasModules cX3_hasModules 2 (some .boolean)) (gR 2 0 0) (gPre D dA [.ref a6] [(a6, .inr (3, [.ref a5, .ref a71, .ref a72, .ref a73, .int 0, .ref a74, .ref a75])), (a5, .inl (dA 4, 3, .inr (.inr (.inr (.inr (gM a29 a30 a31)))))), (a29, .inr (6, [.int 0, .int 0, .ref a32, .ref a33, .ref a34, .ref a35, .ref a36, .int 0, .ref a37, .ref a38, .ref a39, .ref a40, .ref a41, .int 0, .ref a42, .ref a43, .ref a44])), (a30, .inr (6, [.int 0, .int 0, .ref a45, .ref a46, .ref a47, .ref a48, .ref a49, .int 0, .ref a50, .ref a51, .ref a52, .ref a53, .ref a54, .int 0, .ref a55, .ref a56, .ref a57])), (a31, .inr (6, [.int 0, .int 0, .ref a58, .ref a59, .ref a60, .ref a61, .ref a62, .int 0, .ref a63, .ref a64, .ref a65, .ref a66, .ref a67, .int 0, .ref a68, .ref a69, .ref a70]))] sz) (va_Qi (fun (r : Int32) (_ : Nat → Nat) => r = 0) (gAt D dA (va_A [(a6, .inr (3, [.ref a5, .ref a71, .ref a72, .ref a73, .int 0, .ref a74, .ref a75])), (a5, .inl (dA 4, 3, .inr (.inr (.inr (.inr (gM a29 a30 a31)))))), (a29, .inr (6, [.int 0, .int 0, .ref a32, .ref a33, .ref a34, .ref a35, .ref a36, .int 0, .ref a37, .ref a38, .ref a39, .ref a40, .ref a41, .int 0, .ref a42, .ref a43, .ref a44])), (a30, .inr (6, [.int 0, .int 0, .ref a45, .ref a46, .ref a47, .ref a48, .ref a49, .int 0, .ref a50, .ref a51, .ref a52, .ref a53, .ref a54, .int 0, .ref a55, .ref a56, .ref a57])), (a31, .inr (6, [.int 0, .int 0, .ref a58, .ref a59, .ref a60, .ref a61, .ref a62, .int 0, .ref a63, .ref a64, .ref a65, .ref a66, .ref a67, .int 0, .ref a68, .ref a69, .ref a70]))] sz) (fun ad : Nat → Nat => [(a6, .inr (3, [.ref a5, .ref a71, .ref a72, .ref a73, .int 0, .ref a74, .ref a75])), (a5, .inl (dA 4, 3, .inr (.inr (.inr (.inr (gM a29 a30 a31)))))), (a29, .inr (6, [.int 0, .int 0, .ref a32, .ref a33, .ref a34, .ref a35, .ref a36, .int 0, .ref a37, .ref a38, .ref a39, .ref a40, .ref a41, .int 0, .ref a42, .ref a43, .ref a44])), (a30, .inr (6, [.int 0, .int 0, .ref a45, .ref a46, .ref a47, .ref a48, .ref a49, .int 0, .ref a50, .ref a51, .ref a52, .ref a53, .ref a54, .int 0, .ref a55, .ref a56, .ref a57])), (a31, .inr (6, [.int 0, .int 0, .ref a58, .ref a59, .ref a60, .ref a61, .ref a62, .int 0, .ref a63, .ref a64, .ref a65, .ref a66, .ref a67, .int 0, .ref a68, .ref a69, .ref a70]))])) (va_A [(a6, .inr (3, [.ref a5, .ref a71, .ref a72, .ref a73, .int 0, .ref a74, .ref a75])), (a5, .inl (dA 4, 3, .inr (.inr (.inr (.inr (gM a29 a30 a31)))))), (a29, .inr (6, [.int 0, .int 0, .ref a32, .ref a33, .ref a34, .ref a35, .ref a36, .int 0, .ref a37, .ref a38, .ref a39, .ref a40, .ref a41, .int 0, .ref a42, .ref a43, .ref a44])), (a30, .inr (6, [.int 0, .int 0, .ref a45, .ref a46, .ref a47, .ref a48, .ref a49, .int 0, .ref a50, .ref a51, .ref a52, .ref a53, .ref a54, .int 0, .ref a55, .ref a56, .ref a57])), (a31, .inr (6, [.int 0, .int 0, .ref a58, .ref a59, .ref a60, .ref a61, .ref a62, .int 0, .ref a63, .ref a64, .ref a65, .ref a66, .ref a67, .int 0, .ref a68, .ref a69, .ref a70]))] sz)) 0 0 (va_A [(a6, .inr (3, [.ref a5, .ref a71, .ref a72, .ref a73, .int 0, .ref a74, .ref a75])), (a5, .inl (dA 4, 3, .inr (.inr (.inr (.inr (gM a29 a30 a31)))))), (a29, .inr (6, [.int 0, .int 0, .ref a32, .ref a33, .ref a34, .ref a35, .ref a36, .int 0, .ref a37, .ref a38, .ref a39, .ref a40, .ref a41, .int 0, .ref a42, .ref a43, .ref a44])), (a30, .inr (6, [.int 0, .int 0, .ref a45, .ref a46, .ref a47, .ref a48, .ref a49, .int 0, .ref a50, .ref a51, .ref a52, .ref a53, .ref a54, .int 0, .ref a55, .ref a56, .ref a57])), (a31, .inr (6, [.int 0, .int 0, .ref a58, .ref a59, .ref a60, .ref a61, .ref a62, .int 0, .ref a63, .ref a64, .ref a65, .ref a66, .ref a67, .int 0, .ref a68, .ref a69, .ref a70]))] sz) := by
  refine Met.ofW (cc := cX3_hasModules) (maxL := 2) (ret := (some .boolean)) (by decide) rfl ?_
  intro p e s m args below meth c s₁ B hml hv
  obtain ⟨rfl, hsz, hP, hK, hD0⟩ := hv
  have hx := B.exec
  have hb := B.bytes
  have hr := B.returns
  have hts := atoms_spec (ws := gws yX3_hasModules cX3_hasModules 2 (some .boolean)) B.pre
  have hg : ∀ w ∈ gw, w.before _ s = true := fun w h => hts w (List.mem_cons_of_mem _ h)
  have hown : s.vm.findClass RX3 = some m.cls := findClass_of_methodNamed B.named
  have hlocks := B.notSynchronized
  subst hsz
  have hD := hD0.self (sz := s.heap.size)
  generalize hAe : va_A [(a6, .inr (3, [.ref a5, .ref a71, .ref a72, .ref a73, .int 0, .ref a74, .ref a75])), (a5, .inl (dA 4, 3, .inr (.inr (.inr (.inr (gM a29 a30 a31)))))), (a29, .inr (6, [.int 0, .int 0, .ref a32, .ref a33, .ref a34, .ref a35, .ref a36, .int 0, .ref a37, .ref a38, .ref a39, .ref a40, .ref a41, .int 0, .ref a42, .ref a43, .ref a44])), (a30, .inr (6, [.int 0, .int 0, .ref a45, .ref a46, .ref a47, .ref a48, .ref a49, .int 0, .ref a50, .ref a51, .ref a52, .ref a53, .ref a54, .int 0, .ref a55, .ref a56, .ref a57])), (a31, .inr (6, [.int 0, .int 0, .ref a58, .ref a59, .ref a60, .ref a61, .ref a62, .int 0, .ref a63, .ref a64, .ref a65, .ref a66, .ref a67, .int 0, .ref a68, .ref a69, .ref a70]))] s.heap.size = A at hD ⊢
  have hA : ∀ q : Nat, s.heap.size ≤ q → A q := fun q h => by rw [← hAe]; exact Or.inr h
  have hS : va_S A s.heap s.heap [] := va_S.rf
  have hP : va_P D vwC [(a6, .inr (3, [.ref a5, .ref a71, .ref a72, .ref a73, .int 0, .ref a74, .ref a75])), (a5, .inl (dA 4, 3, .inr (.inr (.inr (.inr (gM a29 a30 a31)))))), (a29, .inr (6, [.int 0, .int 0, .ref a32, .ref a33, .ref a34, .ref a35, .ref a36, .int 0, .ref a37, .ref a38, .ref a39, .ref a40, .ref a41, .int 0, .ref a42, .ref a43, .ref a44])), (a30, .inr (6, [.int 0, .int 0, .ref a45, .ref a46, .ref a47, .ref a48, .ref a49, .int 0, .ref a50, .ref a51, .ref a52, .ref a53, .ref a54, .int 0, .ref a55, .ref a56, .ref a57])), (a31, .inr (6, [.int 0, .int 0, .ref a58, .ref a59, .ref a60, .ref a61, .ref a62, .int 0, .ref a63, .ref a64, .ref a65, .ref a66, .ref a67, .int 0, .ref a68, .ref a69, .ref a70]))] s.heap := hP
  have hl := lv_entry ([.ref a6]) (n := 2) (Nat.le_of_ble_eq_true rfl)
  rw [lg_entry_eq]
  generalize (lg_sl ([.ref a6]) ++ List.replicate (2 - (lg_sl ([.ref a6])).length) Slot.unset).toArray = ls at hl ⊢
  have hl : lv_has ls 2 [(0, .ref a6)] := hl
  refine lv_iconst (v := 0) hx hb dX3_hasModules_0 (by decide) ?_
  refine lv_istore_n (lv' := [(1, .int 0), (0, .ref a6)]) hx hb dX3_hasModules_1 rfl hl (by decide) rfl (fun ls hl => ?_)
  refine lv_iload_n hx hb dX3_hasModules_2 rfl (lv_at hl 0 rfl) ?_
  refine lv_iconst (v := 3) hx hb dX3_hasModules_3 (by decide) ?_
  refine lv_icmp_ge (tgt := 27) hx hb dX3_hasModules_4 (by decide) (fun h => absurd h (by decide)) (fun _ => ?_)
  refine lv_aload_n hx hb dX3_hasModules_7 rfl (lv_at hl 1 rfl) ?_
  refine g_get hx hb hg hown hK hP 0 rfl rfl inX3 0 (by decide) q483 rfl dX3_hasModules_8 ?_
  refine lv_iload_n hx hb dX3_hasModules_11 rfl (lv_at hl 0 rfl) ?_
  refine va_aldq hx hb hK hP 1 4 rfl rfl (by unfold vp_in; decide) dX3_hasModules_12 ?_
  refine g_topv (gM_0 _ _ _) ?_
  refine g_get hx hb hg hown hK hP 2 rfl rfl inX6 0 (by decide) q398 rfl dX3_hasModules_13 ?_
  refine lv_if_eq (tgt := 21) hx hb dX3_hasModules_16 (by decide) (fun _ => ?_) (fun h => absurd (by decide) h)
  refine lv_iinc (v := 1) (lv' := [(1, .int 1), (0, .ref a6)]) hx hb dX3_hasModules_21 hl (k := 0) rfl (by decide) (by decide) rfl (fun ls hl => ?_)
  refine lv_goto (tgt := 2) hx hb dX3_hasModules_24 (by decide) ?_
  refine lv_iload_n hx hb dX3_hasModules_2 rfl (lv_at hl 0 rfl) ?_
  refine lv_iconst (v := 3) hx hb dX3_hasModules_3 (by decide) ?_
  refine lv_icmp_ge (tgt := 27) hx hb dX3_hasModules_4 (by decide) (fun h => absurd h (by decide)) (fun _ => ?_)
  refine lv_aload_n hx hb dX3_hasModules_7 rfl (lv_at hl 1 rfl) ?_
  refine g_get hx hb hg hown hK hP 0 rfl rfl inX3 0 (by decide) q483 rfl dX3_hasModules_8 ?_
  refine lv_iload_n hx hb dX3_hasModules_11 rfl (lv_at hl 0 rfl) ?_
  refine va_aldq hx hb hK hP 1 4 rfl rfl (by unfold vp_in; decide) dX3_hasModules_12 ?_
  refine g_topv (gM_1 _ _ _) ?_
  refine g_get hx hb hg hown hK hP 3 rfl rfl inX6 0 (by decide) q398 rfl dX3_hasModules_13 ?_
  refine lv_if_eq (tgt := 21) hx hb dX3_hasModules_16 (by decide) (fun _ => ?_) (fun h => absurd (by decide) h)
  refine lv_iinc (v := 2) (lv' := [(1, .int 2), (0, .ref a6)]) hx hb dX3_hasModules_21 hl (k := 0) rfl (by decide) (by decide) rfl (fun ls hl => ?_)
  refine lv_goto (tgt := 2) hx hb dX3_hasModules_24 (by decide) ?_
  refine lv_iload_n hx hb dX3_hasModules_2 rfl (lv_at hl 0 rfl) ?_
  refine lv_iconst (v := 3) hx hb dX3_hasModules_3 (by decide) ?_
  refine lv_icmp_ge (tgt := 27) hx hb dX3_hasModules_4 (by decide) (fun h => absurd h (by decide)) (fun _ => ?_)
  refine lv_aload_n hx hb dX3_hasModules_7 rfl (lv_at hl 1 rfl) ?_
  refine g_get hx hb hg hown hK hP 0 rfl rfl inX3 0 (by decide) q483 rfl dX3_hasModules_8 ?_
  refine lv_iload_n hx hb dX3_hasModules_11 rfl (lv_at hl 0 rfl) ?_
  refine va_aldq hx hb hK hP 1 4 rfl rfl (by unfold vp_in; decide) dX3_hasModules_12 ?_
  refine g_topv (gM_2 _ _ _) ?_
  refine g_get hx hb hg hown hK hP 4 rfl rfl inX6 0 (by decide) q398 rfl dX3_hasModules_13 ?_
  refine lv_if_eq (tgt := 21) hx hb dX3_hasModules_16 (by decide) (fun _ => ?_) (fun h => absurd (by decide) h)
  refine lv_iinc (v := 3) (lv' := [(1, .int 3), (0, .ref a6)]) hx hb dX3_hasModules_21 hl (k := 0) rfl (by decide) (by decide) rfl (fun ls hl => ?_)
  refine lv_goto (tgt := 2) hx hb dX3_hasModules_24 (by decide) ?_
  refine lv_iload_n hx hb dX3_hasModules_2 rfl (lv_at hl 0 rfl) ?_
  refine lv_iconst (v := 3) hx hb dX3_hasModules_3 (by decide) ?_
  refine lv_icmp_ge (tgt := 27) hx hb dX3_hasModules_4 (by decide) (fun _ => ?_) (fun h => absurd (by decide) h)
  refine lv_iconst (v := 0) hx hb dX3_hasModules_27 (by decide) ?_
  obtain ⟨hP, hD⟩ := g_cut (is := [0, 1, 2, 3, 4]) (w' := [(a6, .inr (3, [.ref a5, .ref a71, .ref a72, .ref a73, .int 0, .ref a74, .ref a75])), (a5, .inl (dA 4, 3, .inr (.inr (.inr (.inr (gM a29 a30 a31)))))), (a29, .inr (6, [.int 0, .int 0, .ref a32, .ref a33, .ref a34, .ref a35, .ref a36, .int 0, .ref a37, .ref a38, .ref a39, .ref a40, .ref a41, .int 0, .ref a42, .ref a43, .ref a44])), (a30, .inr (6, [.int 0, .int 0, .ref a45, .ref a46, .ref a47, .ref a48, .ref a49, .int 0, .ref a50, .ref a51, .ref a52, .ref a53, .ref a54, .int 0, .ref a55, .ref a56, .ref a57])), (a31, .inr (6, [.int 0, .int 0, .ref a58, .ref a59, .ref a60, .ref a61, .ref a62, .int 0, .ref a63, .ref a64, .ref a65, .ref a66, .ref a67, .int 0, .ref a68, .ref a69, .ref a70]))]) hP hD (by decide) rfl rfl
  exact g_iret hx hb hr rfl hlocks hK (fun k => ([] : List Nat).getD k 0) hP hD hS rfl (Nat.le_of_ble_eq_true rfl) (Nat.le_of_ble_eq_true rfl) dX3_hasModules_28
end
