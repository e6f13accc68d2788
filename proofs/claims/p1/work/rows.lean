section
-- ===== PART A: goes FIRST, ahead of the names: the tables' words, and 'selects' of the private methods out of them =====
/-- a private method of a class that the tables say can be made, by its rows of tables_1 -/
def lw_okq (q : MethodName × Nat) : Prop := (q.1.cls ≠ "java/lang/invoke/MethodHandle" ∧ q.1.cls ≠ "java/lang/invoke/VarHandle") ∧ Cond.instantiable q.1.cls q.2 ∈ tables_1 ∧ Cond.privateMethod q.1 ∈ tables_1 ∧ Cond.instanceMethod q.1 ∈ tables_1
theorem lw_p0 : lw_okq (⟨"PocketCompiler$Tokens", "behindBlanks", "(I)I"⟩, 10) := ⟨⟨by decide +kernel, by decide +kernel⟩, List.mem_of_getElem? (i := 186) (by decide +kernel), List.mem_of_getElem? (i := 460) (by decide +kernel), List.mem_of_getElem? (i := 461) (by decide +kernel)⟩
theorem lw_p1 : lw_okq (⟨"PocketCompiler$Tokens", "scanOne", "(I)I"⟩, 10) := ⟨⟨by decide +kernel, by decide +kernel⟩, List.mem_of_getElem? (i := 186) (by decide +kernel), List.mem_of_getElem? (i := 468) (by decide +kernel), List.mem_of_getElem? (i := 469) (by decide +kernel)⟩
theorem lw_p2 : lw_okq (⟨"PocketCompiler$Tokens", "add", "(IIII)I"⟩, 10) := ⟨⟨by decide +kernel, by decide +kernel⟩, List.mem_of_getElem? (i := 186) (by decide +kernel), List.mem_of_getElem? (i := 472) (by decide +kernel), List.mem_of_getElem? (i := 473) (by decide +kernel)⟩
theorem lw_p3 : lw_okq (⟨"PocketCompiler$Tokens", "scanName", "(I)I"⟩, 10) := ⟨⟨by decide +kernel, by decide +kernel⟩, List.mem_of_getElem? (i := 186) (by decide +kernel), List.mem_of_getElem? (i := 479) (by decide +kernel), List.mem_of_getElem? (i := 480) (by decide +kernel)⟩
theorem lw_p4 : lw_okq (⟨"PocketCompiler$Tokens", "spelled", "(Ljava/lang/String;III)I"⟩, 10) := ⟨⟨by decide +kernel, by decide +kernel⟩, List.mem_of_getElem? (i := 186) (by decide +kernel), List.mem_of_getElem? (i := 501) (by decide +kernel), List.mem_of_getElem? (i := 502) (by decide +kernel)⟩
theorem lw_p5 : lw_okq (⟨"PocketCompiler$Tokens", "firstAlike", "(II)I"⟩, 10) := ⟨⟨by decide +kernel, by decide +kernel⟩, List.mem_of_getElem? (i := 186) (by decide +kernel), List.mem_of_getElem? (i := 543) (by decide +kernel), List.mem_of_getElem? (i := 544) (by decide +kernel)⟩
theorem lw_p6 : lw_okq (⟨"PocketCompiler$Tokens", "isAlike", "(III)Z"⟩, 10) := ⟨⟨by decide +kernel, by decide +kernel⟩, List.mem_of_getElem? (i := 186) (by decide +kernel), List.mem_of_getElem? (i := 547) (by decide +kernel), List.mem_of_getElem? (i := 548) (by decide +kernel)⟩
theorem lw_p7 : lw_okq (⟨"PocketCompiler$Tokens", "scanNumber", "(I)I"⟩, 10) := ⟨⟨by decide +kernel, by decide +kernel⟩, List.mem_of_getElem? (i := 186) (by decide +kernel), List.mem_of_getElem? (i := 555) (by decide +kernel), List.mem_of_getElem? (i := 556) (by decide +kernel)⟩
theorem lw_p8 : lw_okq (⟨"PocketCompiler$Tokens", "scanCharacter", "(I)I"⟩, 10) := ⟨⟨by decide +kernel, by decide +kernel⟩, List.mem_of_getElem? (i := 186) (by decide +kernel), List.mem_of_getElem? (i := 563) (by decide +kernel), List.mem_of_getElem? (i := 564) (by decide +kernel)⟩
theorem lw_p9 : lw_okq (⟨"PocketCompiler$Tokens", "scanSign", "(I)I"⟩, 10) := ⟨⟨by decide +kernel, by decide +kernel⟩, List.mem_of_getElem? (i := 186) (by decide +kernel), List.mem_of_getElem? (i := 567) (by decide +kernel), List.mem_of_getElem? (i := 568) (by decide +kernel)⟩
theorem lw_p10 : lw_okq (⟨"PocketCompiler$Parser", "headOfItem", "()I"⟩, 7) := ⟨⟨by decide +kernel, by decide +kernel⟩, List.mem_of_getElem? (i := 180) (by decide +kernel), List.mem_of_getElem? (i := 588) (by decide +kernel), List.mem_of_getElem? (i := 589) (by decide +kernel)⟩
theorem lw_p11 : lw_okq (⟨"java/lang/Throwable", "fillInStackTrace", "(I)Ljava/lang/Throwable;"⟩, 6) := ⟨⟨by decide +kernel, by decide +kernel⟩, List.mem_of_getElem? (i := 647) (by decide +kernel), List.mem_of_getElem? (i := 645) (by decide +kernel), List.mem_of_getElem? (i := 646) (by decide +kernel)⟩
theorem lw_p12 : lw_okq (⟨"PocketCompiler$Tokens", "isTooMuch", "()Z"⟩, 10) := ⟨⟨by decide +kernel, by decide +kernel⟩, List.mem_of_getElem? (i := 186) (by decide +kernel), List.mem_of_getElem? (i := 676) (by decide +kernel), List.mem_of_getElem? (i := 677) (by decide +kernel)⟩
theorem lw_p13 : lw_okq (⟨"PocketCompiler$Parser", "functionItem", "()V"⟩, 7) := ⟨⟨by decide +kernel, by decide +kernel⟩, List.mem_of_getElem? (i := 180) (by decide +kernel), List.mem_of_getElem? (i := 710) (by decide +kernel), List.mem_of_getElem? (i := 711) (by decide +kernel)⟩
theorem lw_p14 : lw_okq (⟨"PocketCompiler$Parser", "parameters", "()V"⟩, 7) := ⟨⟨by decide +kernel, by decide +kernel⟩, List.mem_of_getElem? (i := 180) (by decide +kernel), List.mem_of_getElem? (i := 726) (by decide +kernel), List.mem_of_getElem? (i := 727) (by decide +kernel)⟩
theorem lw_p15 : lw_okq (⟨"PocketCompiler$Parser", "parameter", "()V"⟩, 7) := ⟨⟨by decide +kernel, by decide +kernel⟩, List.mem_of_getElem? (i := 180) (by decide +kernel), List.mem_of_getElem? (i := 734) (by decide +kernel), List.mem_of_getElem? (i := 735) (by decide +kernel)⟩
def lw_privs_1 : List (MethodName × Nat) := [(⟨"PocketCompiler$Tokens", "behindBlanks", "(I)I"⟩, 10), (⟨"PocketCompiler$Tokens", "scanOne", "(I)I"⟩, 10), (⟨"PocketCompiler$Tokens", "add", "(IIII)I"⟩, 10), (⟨"PocketCompiler$Tokens", "scanName", "(I)I"⟩, 10), (⟨"PocketCompiler$Tokens", "spelled", "(Ljava/lang/String;III)I"⟩, 10), (⟨"PocketCompiler$Tokens", "firstAlike", "(II)I"⟩, 10), (⟨"PocketCompiler$Tokens", "isAlike", "(III)Z"⟩, 10), (⟨"PocketCompiler$Tokens", "scanNumber", "(I)I"⟩, 10), (⟨"PocketCompiler$Tokens", "scanCharacter", "(I)I"⟩, 10), (⟨"PocketCompiler$Tokens", "scanSign", "(I)I"⟩, 10), (⟨"PocketCompiler$Parser", "headOfItem", "()I"⟩, 7), (⟨"java/lang/Throwable", "fillInStackTrace", "(I)Ljava/lang/Throwable;"⟩, 6), (⟨"PocketCompiler$Tokens", "isTooMuch", "()Z"⟩, 10), (⟨"PocketCompiler$Parser", "functionItem", "()V"⟩, 7), (⟨"PocketCompiler$Parser", "parameters", "()V"⟩, 7), (⟨"PocketCompiler$Parser", "parameter", "()V"⟩, 7)]
theorem lw_r1 : ∀ q ∈ lw_privs_1, lw_okq q := List.forall_mem_cons.mpr ⟨lw_p0, List.forall_mem_cons.mpr ⟨lw_p1, List.forall_mem_cons.mpr ⟨lw_p2, List.forall_mem_cons.mpr ⟨lw_p3, List.forall_mem_cons.mpr ⟨lw_p4, List.forall_mem_cons.mpr ⟨lw_p5, List.forall_mem_cons.mpr ⟨lw_p6, List.forall_mem_cons.mpr ⟨lw_p7, List.forall_mem_cons.mpr ⟨lw_p8, List.forall_mem_cons.mpr ⟨lw_p9, List.forall_mem_cons.mpr ⟨lw_p10, List.forall_mem_cons.mpr ⟨lw_p11, List.forall_mem_cons.mpr ⟨lw_p12, List.forall_mem_cons.mpr ⟨lw_p13, List.forall_mem_cons.mpr ⟨lw_p14, List.forall_mem_cons.mpr ⟨lw_p15, fun _ h => absurd h List.not_mem_nil⟩⟩⟩⟩⟩⟩⟩⟩⟩⟩⟩⟩⟩⟩⟩⟩
theorem lw_p16 : lw_okq (⟨"PocketCompiler$Parser", "newName", "()I"⟩, 7) := ⟨⟨by decide +kernel, by decide +kernel⟩, List.mem_of_getElem? (i := 180) (by decide +kernel), List.mem_of_getElem? (i := 738) (by decide +kernel), List.mem_of_getElem? (i := 739) (by decide +kernel)⟩
theorem lw_p17 : lw_okq (⟨"PocketCompiler$Parser", "wantSlot", "()V"⟩, 7) := ⟨⟨by decide +kernel, by decide +kernel⟩, List.mem_of_getElem? (i := 180) (by decide +kernel), List.mem_of_getElem? (i := 753) (by decide +kernel), List.mem_of_getElem? (i := 754) (by decide +kernel)⟩
theorem lw_p18 : lw_okq (⟨"PocketCompiler$Parser", "stats", "()V"⟩, 7) := ⟨⟨by decide +kernel, by decide +kernel⟩, List.mem_of_getElem? (i := 180) (by decide +kernel), List.mem_of_getElem? (i := 780) (by decide +kernel), List.mem_of_getElem? (i := 781) (by decide +kernel)⟩
theorem lw_p19 : lw_okq (⟨"PocketCompiler$Parser", "stat", "()V"⟩, 7) := ⟨⟨by decide +kernel, by decide +kernel⟩, List.mem_of_getElem? (i := 180) (by decide +kernel), List.mem_of_getElem? (i := 784) (by decide +kernel), List.mem_of_getElem? (i := 785) (by decide +kernel)⟩
theorem lw_p20 : lw_okq (⟨"PocketCompiler$Parser", "block", "()V"⟩, 7) := ⟨⟨by decide +kernel, by decide +kernel⟩, List.mem_of_getElem? (i := 180) (by decide +kernel), List.mem_of_getElem? (i := 788) (by decide +kernel), List.mem_of_getElem? (i := 789) (by decide +kernel)⟩
theorem lw_p21 : lw_okq (⟨"PocketCompiler$Parser", "local", "()V"⟩, 7) := ⟨⟨by decide +kernel, by decide +kernel⟩, List.mem_of_getElem? (i := 180) (by decide +kernel), List.mem_of_getElem? (i := 792) (by decide +kernel), List.mem_of_getElem? (i := 793) (by decide +kernel)⟩
theorem lw_p22 : lw_okq (⟨"PocketCompiler$Expressions", "operand", "(Z)Z"⟩, 5) := ⟨⟨by decide +kernel, by decide +kernel⟩, List.mem_of_getElem? (i := 273) (by decide +kernel), List.mem_of_getElem? (i := 804) (by decide +kernel), List.mem_of_getElem? (i := 805) (by decide +kernel)⟩
theorem lw_p23 : lw_okq (⟨"PocketCompiler$Expressions", "unary", "(I)V"⟩, 5) := ⟨⟨by decide +kernel, by decide +kernel⟩, List.mem_of_getElem? (i := 273) (by decide +kernel), List.mem_of_getElem? (i := 809) (by decide +kernel), List.mem_of_getElem? (i := 810) (by decide +kernel)⟩
theorem lw_p24 : lw_okq (⟨"PocketCompiler$Expressions", "named", "(Z)Z"⟩, 5) := ⟨⟨by decide +kernel, by decide +kernel⟩, List.mem_of_getElem? (i := 273) (by decide +kernel), List.mem_of_getElem? (i := 823) (by decide +kernel), List.mem_of_getElem? (i := 824) (by decide +kernel)⟩
theorem lw_p25 : lw_okq (⟨"PocketCompiler$Expressions", "callFunction", "()V"⟩, 5) := ⟨⟨by decide +kernel, by decide +kernel⟩, List.mem_of_getElem? (i := 273) (by decide +kernel), List.mem_of_getElem? (i := 830) (by decide +kernel), List.mem_of_getElem? (i := 831) (by decide +kernel)⟩
theorem lw_p26 : lw_okq (⟨"PocketCompiler$Expressions", "argument", "(II)V"⟩, 5) := ⟨⟨by decide +kernel, by decide +kernel⟩, List.mem_of_getElem? (i := 273) (by decide +kernel), List.mem_of_getElem? (i := 839) (by decide +kernel), List.mem_of_getElem? (i := 840) (by decide +kernel)⟩
theorem lw_p27 : lw_okq (⟨"PocketCompiler$Expressions", "index", "(I)V"⟩, 5) := ⟨⟨by decide +kernel, by decide +kernel⟩, List.mem_of_getElem? (i := 273) (by decide +kernel), List.mem_of_getElem? (i := 853) (by decide +kernel), List.mem_of_getElem? (i := 854) (by decide +kernel)⟩
theorem lw_p28 : lw_okq (⟨"PocketCompiler$Expressions", "change", "(IIZ)V"⟩, 5) := ⟨⟨by decide +kernel, by decide +kernel⟩, List.mem_of_getElem? (i := 273) (by decide +kernel), List.mem_of_getElem? (i := 860) (by decide +kernel), List.mem_of_getElem? (i := 861) (by decide +kernel)⟩
theorem lw_p29 : lw_okq (⟨"PocketCompiler$Expressions", "changeBy", "(IIIZ)V"⟩, 5) := ⟨⟨by decide +kernel, by decide +kernel⟩, List.mem_of_getElem? (i := 273) (by decide +kernel), List.mem_of_getElem? (i := 864) (by decide +kernel), List.mem_of_getElem? (i := 865) (by decide +kernel)⟩
theorem lw_p30 : lw_okq (⟨"PocketCompiler$Expressions", "read", "(II)V"⟩, 5) := ⟨⟨by decide +kernel, by decide +kernel⟩, List.mem_of_getElem? (i := 273) (by decide +kernel), List.mem_of_getElem? (i := 868) (by decide +kernel), List.mem_of_getElem? (i := 869) (by decide +kernel)⟩
theorem lw_p31 : lw_okq (⟨"PocketCompiler$Expressions", "finishSigns", "(II)V"⟩, 5) := ⟨⟨by decide +kernel, by decide +kernel⟩, List.mem_of_getElem? (i := 273) (by decide +kernel), List.mem_of_getElem? (i := 881) (by decide +kernel), List.mem_of_getElem? (i := 882) (by decide +kernel)⟩
def lw_privs_2 : List (MethodName × Nat) := [(⟨"PocketCompiler$Parser", "newName", "()I"⟩, 7), (⟨"PocketCompiler$Parser", "wantSlot", "()V"⟩, 7), (⟨"PocketCompiler$Parser", "stats", "()V"⟩, 7), (⟨"PocketCompiler$Parser", "stat", "()V"⟩, 7), (⟨"PocketCompiler$Parser", "block", "()V"⟩, 7), (⟨"PocketCompiler$Parser", "local", "()V"⟩, 7), (⟨"PocketCompiler$Expressions", "operand", "(Z)Z"⟩, 5), (⟨"PocketCompiler$Expressions", "unary", "(I)V"⟩, 5), (⟨"PocketCompiler$Expressions", "named", "(Z)Z"⟩, 5), (⟨"PocketCompiler$Expressions", "callFunction", "()V"⟩, 5), (⟨"PocketCompiler$Expressions", "argument", "(II)V"⟩, 5), (⟨"PocketCompiler$Expressions", "index", "(I)V"⟩, 5), (⟨"PocketCompiler$Expressions", "change", "(IIZ)V"⟩, 5), (⟨"PocketCompiler$Expressions", "changeBy", "(IIIZ)V"⟩, 5), (⟨"PocketCompiler$Expressions", "read", "(II)V"⟩, 5), (⟨"PocketCompiler$Expressions", "finishSigns", "(II)V"⟩, 5)]
theorem lw_r2 : ∀ q ∈ lw_privs_2, lw_okq q := List.forall_mem_cons.mpr ⟨lw_p16, List.forall_mem_cons.mpr ⟨lw_p17, List.forall_mem_cons.mpr ⟨lw_p18, List.forall_mem_cons.mpr ⟨lw_p19, List.forall_mem_cons.mpr ⟨lw_p20, List.forall_mem_cons.mpr ⟨lw_p21, List.forall_mem_cons.mpr ⟨lw_p22, List.forall_mem_cons.mpr ⟨lw_p23, List.forall_mem_cons.mpr ⟨lw_p24, List.forall_mem_cons.mpr ⟨lw_p25, List.forall_mem_cons.mpr ⟨lw_p26, List.forall_mem_cons.mpr ⟨lw_p27, List.forall_mem_cons.mpr ⟨lw_p28, List.forall_mem_cons.mpr ⟨lw_p29, List.forall_mem_cons.mpr ⟨lw_p30, List.forall_mem_cons.mpr ⟨lw_p31, fun _ h => absurd h List.not_mem_nil⟩⟩⟩⟩⟩⟩⟩⟩⟩⟩⟩⟩⟩⟩⟩⟩
theorem lw_p32 : lw_okq (⟨"PocketCompiler$Expressions", "beginSign", "(I)V"⟩, 5) := ⟨⟨by decide +kernel, by decide +kernel⟩, List.mem_of_getElem? (i := 273) (by decide +kernel), List.mem_of_getElem? (i := 889) (by decide +kernel), List.mem_of_getElem? (i := 890) (by decide +kernel)⟩
theorem lw_p33 : lw_okq (⟨"PocketCompiler$Expressions", "push", "(II)V"⟩, 5) := ⟨⟨by decide +kernel, by decide +kernel⟩, List.mem_of_getElem? (i := 273) (by decide +kernel), List.mem_of_getElem? (i := 894) (by decide +kernel), List.mem_of_getElem? (i := 895) (by decide +kernel)⟩
theorem lw_p34 : lw_okq (⟨"PocketCompiler$Expressions", "choice", "()V"⟩, 5) := ⟨⟨by decide +kernel, by decide +kernel⟩, List.mem_of_getElem? (i := 273) (by decide +kernel), List.mem_of_getElem? (i := 898) (by decide +kernel), List.mem_of_getElem? (i := 899) (by decide +kernel)⟩
theorem lw_p35 : lw_okq (⟨"PocketCompiler$Parser", "ifStat", "()V"⟩, 7) := ⟨⟨by decide +kernel, by decide +kernel⟩, List.mem_of_getElem? (i := 180) (by decide +kernel), List.mem_of_getElem? (i := 902) (by decide +kernel), List.mem_of_getElem? (i := 903) (by decide +kernel)⟩
theorem lw_p36 : lw_okq (⟨"PocketCompiler$Parser", "condition", "()V"⟩, 7) := ⟨⟨by decide +kernel, by decide +kernel⟩, List.mem_of_getElem? (i := 180) (by decide +kernel), List.mem_of_getElem? (i := 906) (by decide +kernel), List.mem_of_getElem? (i := 907) (by decide +kernel)⟩
theorem lw_p37 : lw_okq (⟨"PocketCompiler$Parser", "innerStat", "()V"⟩, 7) := ⟨⟨by decide +kernel, by decide +kernel⟩, List.mem_of_getElem? (i := 180) (by decide +kernel), List.mem_of_getElem? (i := 910) (by decide +kernel), List.mem_of_getElem? (i := 911) (by decide +kernel)⟩
theorem lw_p38 : lw_okq (⟨"PocketCompiler$Parser", "loopStat", "(I)V"⟩, 7) := ⟨⟨by decide +kernel, by decide +kernel⟩, List.mem_of_getElem? (i := 180) (by decide +kernel), List.mem_of_getElem? (i := 915) (by decide +kernel), List.mem_of_getElem? (i := 916) (by decide +kernel)⟩
theorem lw_p39 : lw_okq (⟨"PocketCompiler$Parser", "whileRest", "()V"⟩, 7) := ⟨⟨by decide +kernel, by decide +kernel⟩, List.mem_of_getElem? (i := 180) (by decide +kernel), List.mem_of_getElem? (i := 919) (by decide +kernel), List.mem_of_getElem? (i := 920) (by decide +kernel)⟩
theorem lw_p40 : lw_okq (⟨"PocketCompiler$Parser", "doRest", "()V"⟩, 7) := ⟨⟨by decide +kernel, by decide +kernel⟩, List.mem_of_getElem? (i := 180) (by decide +kernel), List.mem_of_getElem? (i := 923) (by decide +kernel), List.mem_of_getElem? (i := 924) (by decide +kernel)⟩
theorem lw_p41 : lw_okq (⟨"PocketCompiler$Parser", "forRest", "()V"⟩, 7) := ⟨⟨by decide +kernel, by decide +kernel⟩, List.mem_of_getElem? (i := 180) (by decide +kernel), List.mem_of_getElem? (i := 927) (by decide +kernel), List.mem_of_getElem? (i := 928) (by decide +kernel)⟩
theorem lw_p42 : lw_okq (⟨"PocketCompiler$Parser", "optional", "(I)Z"⟩, 7) := ⟨⟨by decide +kernel, by decide +kernel⟩, List.mem_of_getElem? (i := 180) (by decide +kernel), List.mem_of_getElem? (i := 931) (by decide +kernel), List.mem_of_getElem? (i := 932) (by decide +kernel)⟩
theorem lw_p43 : lw_okq (⟨"PocketCompiler$Parser", "jumpStat", "(I)V"⟩, 7) := ⟨⟨by decide +kernel, by decide +kernel⟩, List.mem_of_getElem? (i := 180) (by decide +kernel), List.mem_of_getElem? (i := 935) (by decide +kernel), List.mem_of_getElem? (i := 936) (by decide +kernel)⟩
theorem lw_p44 : lw_okq (⟨"PocketCompiler$Parser", "returnStat", "()V"⟩, 7) := ⟨⟨by decide +kernel, by decide +kernel⟩, List.mem_of_getElem? (i := 180) (by decide +kernel), List.mem_of_getElem? (i := 939) (by decide +kernel), List.mem_of_getElem? (i := 940) (by decide +kernel)⟩
theorem lw_p45 : lw_okq (⟨"PocketCompiler$Parser", "globalItem", "(I)V"⟩, 7) := ⟨⟨by decide +kernel, by decide +kernel⟩, List.mem_of_getElem? (i := 180) (by decide +kernel), List.mem_of_getElem? (i := 947) (by decide +kernel), List.mem_of_getElem? (i := 948) (by decide +kernel)⟩
theorem lw_p46 : lw_okq (⟨"PocketCompiler$Parser", "rowSize", "()I"⟩, 7) := ⟨⟨by decide +kernel, by decide +kernel⟩, List.mem_of_getElem? (i := 180) (by decide +kernel), List.mem_of_getElem? (i := 955) (by decide +kernel), List.mem_of_getElem? (i := 956) (by decide +kernel)⟩
theorem lw_p47 : lw_okq (⟨"PocketCompiler$Parser", "checkCalls", "()V"⟩, 7) := ⟨⟨by decide +kernel, by decide +kernel⟩, List.mem_of_getElem? (i := 180) (by decide +kernel), List.mem_of_getElem? (i := 959) (by decide +kernel), List.mem_of_getElem? (i := 960) (by decide +kernel)⟩
def lw_privs_3 : List (MethodName × Nat) := [(⟨"PocketCompiler$Expressions", "beginSign", "(I)V"⟩, 5), (⟨"PocketCompiler$Expressions", "push", "(II)V"⟩, 5), (⟨"PocketCompiler$Expressions", "choice", "()V"⟩, 5), (⟨"PocketCompiler$Parser", "ifStat", "()V"⟩, 7), (⟨"PocketCompiler$Parser", "condition", "()V"⟩, 7), (⟨"PocketCompiler$Parser", "innerStat", "()V"⟩, 7), (⟨"PocketCompiler$Parser", "loopStat", "(I)V"⟩, 7), (⟨"PocketCompiler$Parser", "whileRest", "()V"⟩, 7), (⟨"PocketCompiler$Parser", "doRest", "()V"⟩, 7), (⟨"PocketCompiler$Parser", "forRest", "()V"⟩, 7), (⟨"PocketCompiler$Parser", "optional", "(I)Z"⟩, 7), (⟨"PocketCompiler$Parser", "jumpStat", "(I)V"⟩, 7), (⟨"PocketCompiler$Parser", "returnStat", "()V"⟩, 7), (⟨"PocketCompiler$Parser", "globalItem", "(I)V"⟩, 7), (⟨"PocketCompiler$Parser", "rowSize", "()I"⟩, 7), (⟨"PocketCompiler$Parser", "checkCalls", "()V"⟩, 7)]
theorem lw_r3 : ∀ q ∈ lw_privs_3, lw_okq q := List.forall_mem_cons.mpr ⟨lw_p32, List.forall_mem_cons.mpr ⟨lw_p33, List.forall_mem_cons.mpr ⟨lw_p34, List.forall_mem_cons.mpr ⟨lw_p35, List.forall_mem_cons.mpr ⟨lw_p36, List.forall_mem_cons.mpr ⟨lw_p37, List.forall_mem_cons.mpr ⟨lw_p38, List.forall_mem_cons.mpr ⟨lw_p39, List.forall_mem_cons.mpr ⟨lw_p40, List.forall_mem_cons.mpr ⟨lw_p41, List.forall_mem_cons.mpr ⟨lw_p42, List.forall_mem_cons.mpr ⟨lw_p43, List.forall_mem_cons.mpr ⟨lw_p44, List.forall_mem_cons.mpr ⟨lw_p45, List.forall_mem_cons.mpr ⟨lw_p46, List.forall_mem_cons.mpr ⟨lw_p47, fun _ h => absurd h List.not_mem_nil⟩⟩⟩⟩⟩⟩⟩⟩⟩⟩⟩⟩⟩⟩⟩⟩
theorem lw_p48 : lw_okq (⟨"PocketCompiler$Assembler", "layAll", "()V"⟩, 9) := ⟨⟨by decide +kernel, by decide +kernel⟩, List.mem_of_getElem? (i := 318) (by decide +kernel), List.mem_of_getElem? (i := 986) (by decide +kernel), List.mem_of_getElem? (i := 987) (by decide +kernel)⟩
theorem lw_p49 : lw_okq (⟨"PocketCompiler$Assembler", "immediate", "(IIII)V"⟩, 9) := ⟨⟨by decide +kernel, by decide +kernel⟩, List.mem_of_getElem? (i := 318) (by decide +kernel), List.mem_of_getElem? (i := 990) (by decide +kernel), List.mem_of_getElem? (i := 991) (by decide +kernel)⟩
theorem lw_p50 : lw_okq (⟨"PocketCompiler$Assembler", "emit", "(I)V"⟩, 9) := ⟨⟨by decide +kernel, by decide +kernel⟩, List.mem_of_getElem? (i := 318) (by decide +kernel), List.mem_of_getElem? (i := 994) (by decide +kernel), List.mem_of_getElem? (i := 995) (by decide +kernel)⟩
theorem lw_p51 : lw_okq (⟨"PocketCompiler$Assembler", "lay", "(III)V"⟩, 9) := ⟨⟨by decide +kernel, by decide +kernel⟩, List.mem_of_getElem? (i := 318) (by decide +kernel), List.mem_of_getElem? (i := 999) (by decide +kernel), List.mem_of_getElem? (i := 1000) (by decide +kernel)⟩
theorem lw_p52 : lw_okq (⟨"PocketCompiler$Assembler", "layEnter", "(I)V"⟩, 9) := ⟨⟨by decide +kernel, by decide +kernel⟩, List.mem_of_getElem? (i := 318) (by decide +kernel), List.mem_of_getElem? (i := 1003) (by decide +kernel), List.mem_of_getElem? (i := 1004) (by decide +kernel)⟩
theorem lw_p53 : lw_okq (⟨"PocketCompiler$Assembler", "upper", "(II)V"⟩, 9) := ⟨⟨by decide +kernel, by decide +kernel⟩, List.mem_of_getElem? (i := 318) (by decide +kernel), List.mem_of_getElem? (i := 1009) (by decide +kernel), List.mem_of_getElem? (i := 1010) (by decide +kernel)⟩
theorem lw_p54 : lw_okq (⟨"PocketCompiler$Assembler", "branch", "(IIII)V"⟩, 9) := ⟨⟨by decide +kernel, by decide +kernel⟩, List.mem_of_getElem? (i := 318) (by decide +kernel), List.mem_of_getElem? (i := 1019) (by decide +kernel), List.mem_of_getElem? (i := 1020) (by decide +kernel)⟩
theorem lw_p55 : lw_okq (⟨"PocketCompiler$Assembler", "halt", "(I)V"⟩, 9) := ⟨⟨by decide +kernel, by decide +kernel⟩, List.mem_of_getElem? (i := 318) (by decide +kernel), List.mem_of_getElem? (i := 1023) (by decide +kernel), List.mem_of_getElem? (i := 1024) (by decide +kernel)⟩
theorem lw_p56 : lw_okq (⟨"PocketCompiler$Assembler", "storeWord", "(III)V"⟩, 9) := ⟨⟨by decide +kernel, by decide +kernel⟩, List.mem_of_getElem? (i := 318) (by decide +kernel), List.mem_of_getElem? (i := 1027) (by decide +kernel), List.mem_of_getElem? (i := 1028) (by decide +kernel)⟩
theorem lw_p57 : lw_okq (⟨"PocketCompiler$Assembler", "layLeave", "()V"⟩, 9) := ⟨⟨by decide +kernel, by decide +kernel⟩, List.mem_of_getElem? (i := 318) (by decide +kernel), List.mem_of_getElem? (i := 1034) (by decide +kernel), List.mem_of_getElem? (i := 1035) (by decide +kernel)⟩
theorem lw_p58 : lw_okq (⟨"PocketCompiler$Assembler", "layNumber", "(I)V"⟩, 9) := ⟨⟨by decide +kernel, by decide +kernel⟩, List.mem_of_getElem? (i := 318) (by decide +kernel), List.mem_of_getElem? (i := 1038) (by decide +kernel), List.mem_of_getElem? (i := 1039) (by decide +kernel)⟩
theorem lw_p59 : lw_okq (⟨"PocketCompiler$Assembler", "loadSlot", "(II)V"⟩, 9) := ⟨⟨by decide +kernel, by decide +kernel⟩, List.mem_of_getElem? (i := 318) (by decide +kernel), List.mem_of_getElem? (i := 1042) (by decide +kernel), List.mem_of_getElem? (i := 1043) (by decide +kernel)⟩
theorem lw_p60 : lw_okq (⟨"PocketCompiler$Assembler", "storeSlot", "(I)V"⟩, 9) := ⟨⟨by decide +kernel, by decide +kernel⟩, List.mem_of_getElem? (i := 318) (by decide +kernel), List.mem_of_getElem? (i := 1046) (by decide +kernel), List.mem_of_getElem? (i := 1047) (by decide +kernel)⟩
theorem lw_p61 : lw_okq (⟨"PocketCompiler$Assembler", "three", "(IIII)V"⟩, 9) := ⟨⟨by decide +kernel, by decide +kernel⟩, List.mem_of_getElem? (i := 318) (by decide +kernel), List.mem_of_getElem? (i := 1051) (by decide +kernel), List.mem_of_getElem? (i := 1052) (by decide +kernel)⟩
theorem lw_p62 : lw_okq (⟨"PocketCompiler$Assembler", "laySign", "(I)V"⟩, 9) := ⟨⟨by decide +kernel, by decide +kernel⟩, List.mem_of_getElem? (i := 318) (by decide +kernel), List.mem_of_getElem? (i := 1055) (by decide +kernel), List.mem_of_getElem? (i := 1056) (by decide +kernel)⟩
theorem lw_p63 : lw_okq (⟨"PocketCompiler$Assembler", "jump", "(II)V"⟩, 9) := ⟨⟨by decide +kernel, by decide +kernel⟩, List.mem_of_getElem? (i := 318) (by decide +kernel), List.mem_of_getElem? (i := 1060) (by decide +kernel), List.mem_of_getElem? (i := 1061) (by decide +kernel)⟩
def lw_privs_4 : List (MethodName × Nat) := [(⟨"PocketCompiler$Assembler", "layAll", "()V"⟩, 9), (⟨"PocketCompiler$Assembler", "immediate", "(IIII)V"⟩, 9), (⟨"PocketCompiler$Assembler", "emit", "(I)V"⟩, 9), (⟨"PocketCompiler$Assembler", "lay", "(III)V"⟩, 9), (⟨"PocketCompiler$Assembler", "layEnter", "(I)V"⟩, 9), (⟨"PocketCompiler$Assembler", "upper", "(II)V"⟩, 9), (⟨"PocketCompiler$Assembler", "branch", "(IIII)V"⟩, 9), (⟨"PocketCompiler$Assembler", "halt", "(I)V"⟩, 9), (⟨"PocketCompiler$Assembler", "storeWord", "(III)V"⟩, 9), (⟨"PocketCompiler$Assembler", "layLeave", "()V"⟩, 9), (⟨"PocketCompiler$Assembler", "layNumber", "(I)V"⟩, 9), (⟨"PocketCompiler$Assembler", "loadSlot", "(II)V"⟩, 9), (⟨"PocketCompiler$Assembler", "storeSlot", "(I)V"⟩, 9), (⟨"PocketCompiler$Assembler", "three", "(IIII)V"⟩, 9), (⟨"PocketCompiler$Assembler", "laySign", "(I)V"⟩, 9), (⟨"PocketCompiler$Assembler", "jump", "(II)V"⟩, 9)]
theorem lw_r4 : ∀ q ∈ lw_privs_4, lw_okq q := List.forall_mem_cons.mpr ⟨lw_p48, List.forall_mem_cons.mpr ⟨lw_p49, List.forall_mem_cons.mpr ⟨lw_p50, List.forall_mem_cons.mpr ⟨lw_p51, List.forall_mem_cons.mpr ⟨lw_p52, List.forall_mem_cons.mpr ⟨lw_p53, List.forall_mem_cons.mpr ⟨lw_p54, List.forall_mem_cons.mpr ⟨lw_p55, List.forall_mem_cons.mpr ⟨lw_p56, List.forall_mem_cons.mpr ⟨lw_p57, List.forall_mem_cons.mpr ⟨lw_p58, List.forall_mem_cons.mpr ⟨lw_p59, List.forall_mem_cons.mpr ⟨lw_p60, List.forall_mem_cons.mpr ⟨lw_p61, List.forall_mem_cons.mpr ⟨lw_p62, List.forall_mem_cons.mpr ⟨lw_p63, fun _ h => absurd h List.not_mem_nil⟩⟩⟩⟩⟩⟩⟩⟩⟩⟩⟩⟩⟩⟩⟩⟩
theorem lw_p64 : lw_okq (⟨"PocketCompiler$Assembler", "layComparison", "(I)V"⟩, 9) := ⟨⟨by decide +kernel, by decide +kernel⟩, List.mem_of_getElem? (i := 318) (by decide +kernel), List.mem_of_getElem? (i := 1064) (by decide +kernel), List.mem_of_getElem? (i := 1065) (by decide +kernel)⟩
theorem lw_p65 : lw_okq (⟨"PocketCompiler$Assembler", "layCall", "(II)V"⟩, 9) := ⟨⟨by decide +kernel, by decide +kernel⟩, List.mem_of_getElem? (i := 318) (by decide +kernel), List.mem_of_getElem? (i := 1068) (by decide +kernel), List.mem_of_getElem? (i := 1069) (by decide +kernel)⟩
theorem lw_p66 : lw_okq (⟨"PocketCompiler$Assembler", "outside", "(I)V"⟩, 9) := ⟨⟨by decide +kernel, by decide +kernel⟩, List.mem_of_getElem? (i := 318) (by decide +kernel), List.mem_of_getElem? (i := 1072) (by decide +kernel), List.mem_of_getElem? (i := 1073) (by decide +kernel)⟩
theorem lw_p67 : lw_okq (⟨"PocketCompiler$Assembler", "layJump", "(II)V"⟩, 9) := ⟨⟨by decide +kernel, by decide +kernel⟩, List.mem_of_getElem? (i := 318) (by decide +kernel), List.mem_of_getElem? (i := 1076) (by decide +kernel), List.mem_of_getElem? (i := 1077) (by decide +kernel)⟩
theorem lw_p68 : lw_okq (⟨"PocketCompiler$Assembler", "addressOfDeed", "(I)I"⟩, 9) := ⟨⟨by decide +kernel, by decide +kernel⟩, List.mem_of_getElem? (i := 318) (by decide +kernel), List.mem_of_getElem? (i := 1080) (by decide +kernel), List.mem_of_getElem? (i := 1081) (by decide +kernel)⟩
theorem lw_p69 : lw_okq (⟨"PocketCompiler$Assembler", "layPlace", "(III)V"⟩, 9) := ⟨⟨by decide +kernel, by decide +kernel⟩, List.mem_of_getElem? (i := 318) (by decide +kernel), List.mem_of_getElem? (i := 1084) (by decide +kernel), List.mem_of_getElem? (i := 1085) (by decide +kernel)⟩
theorem lw_p70 : lw_okq (⟨"PocketCompiler$Assembler", "addressOfGlobal", "(I)I"⟩, 9) := ⟨⟨by decide +kernel, by decide +kernel⟩, List.mem_of_getElem? (i := 318) (by decide +kernel), List.mem_of_getElem? (i := 1088) (by decide +kernel), List.mem_of_getElem? (i := 1089) (by decide +kernel)⟩
theorem lw_p71 : lw_okq (⟨"PocketCompiler$Assembler", "layIndex", "(II)V"⟩, 9) := ⟨⟨by decide +kernel, by decide +kernel⟩, List.mem_of_getElem? (i := 318) (by decide +kernel), List.mem_of_getElem? (i := 1093) (by decide +kernel), List.mem_of_getElem? (i := 1094) (by decide +kernel)⟩
theorem lw_p72 : lw_okq (⟨"PocketCompiler$Assembler", "layTimes", "()V"⟩, 9) := ⟨⟨by decide +kernel, by decide +kernel⟩, List.mem_of_getElem? (i := 318) (by decide +kernel), List.mem_of_getElem? (i := 1097) (by decide +kernel), List.mem_of_getElem? (i := 1098) (by decide +kernel)⟩
theorem lw_p73 : lw_okq (⟨"PocketCompiler$Assembler", "layOver", "()V"⟩, 9) := ⟨⟨by decide +kernel, by decide +kernel⟩, List.mem_of_getElem? (i := 318) (by decide +kernel), List.mem_of_getElem? (i := 1101) (by decide +kernel), List.mem_of_getElem? (i := 1102) (by decide +kernel)⟩
theorem lw_p74 : lw_okq (⟨"PocketCompiler$Assembler", "placeGlobals", "()V"⟩, 9) := ⟨⟨by decide +kernel, by decide +kernel⟩, List.mem_of_getElem? (i := 318) (by decide +kernel), List.mem_of_getElem? (i := 1105) (by decide +kernel), List.mem_of_getElem? (i := 1106) (by decide +kernel)⟩
theorem lw_p75 : lw_okq (⟨"PocketCompiler", "tapeNumber", "(I)V"⟩, 12) := ⟨⟨by decide +kernel, by decide +kernel⟩, List.mem_of_getElem? (i := 36) (by decide +kernel), List.mem_of_getElem? (i := 1151) (by decide +kernel), List.mem_of_getElem? (i := 1152) (by decide +kernel)⟩
theorem lw_p76 : lw_okq (⟨"PocketCompiler$Processor", "write", "(II)V"⟩, 9) := ⟨⟨by decide +kernel, by decide +kernel⟩, List.mem_of_getElem? (i := 352) (by decide +kernel), List.mem_of_getElem? (i := 1224) (by decide +kernel), List.mem_of_getElem? (i := 1225) (by decide +kernel)⟩
theorem lw_p77 : lw_okq (⟨"PocketCompiler$Processor", "perform", "(II)V"⟩, 9) := ⟨⟨by decide +kernel, by decide +kernel⟩, List.mem_of_getElem? (i := 352) (by decide +kernel), List.mem_of_getElem? (i := 1268) (by decide +kernel), List.mem_of_getElem? (i := 1269) (by decide +kernel)⟩
theorem lw_p78 : lw_okq (⟨"PocketCompiler$Processor", "jump", "(II)V"⟩, 9) := ⟨⟨by decide +kernel, by decide +kernel⟩, List.mem_of_getElem? (i := 352) (by decide +kernel), List.mem_of_getElem? (i := 1289) (by decide +kernel), List.mem_of_getElem? (i := 1290) (by decide +kernel)⟩
theorem lw_p79 : lw_okq (⟨"PocketCompiler$Processor", "branch", "(ZI)V"⟩, 9) := ⟨⟨by decide +kernel, by decide +kernel⟩, List.mem_of_getElem? (i := 352) (by decide +kernel), List.mem_of_getElem? (i := 1293) (by decide +kernel), List.mem_of_getElem? (i := 1294) (by decide +kernel)⟩
def lw_privs_5 : List (MethodName × Nat) := [(⟨"PocketCompiler$Assembler", "layComparison", "(I)V"⟩, 9), (⟨"PocketCompiler$Assembler", "layCall", "(II)V"⟩, 9), (⟨"PocketCompiler$Assembler", "outside", "(I)V"⟩, 9), (⟨"PocketCompiler$Assembler", "layJump", "(II)V"⟩, 9), (⟨"PocketCompiler$Assembler", "addressOfDeed", "(I)I"⟩, 9), (⟨"PocketCompiler$Assembler", "layPlace", "(III)V"⟩, 9), (⟨"PocketCompiler$Assembler", "addressOfGlobal", "(I)I"⟩, 9), (⟨"PocketCompiler$Assembler", "layIndex", "(II)V"⟩, 9), (⟨"PocketCompiler$Assembler", "layTimes", "()V"⟩, 9), (⟨"PocketCompiler$Assembler", "layOver", "()V"⟩, 9), (⟨"PocketCompiler$Assembler", "placeGlobals", "()V"⟩, 9), (⟨"PocketCompiler", "tapeNumber", "(I)V"⟩, 12), (⟨"PocketCompiler$Processor", "write", "(II)V"⟩, 9), (⟨"PocketCompiler$Processor", "perform", "(II)V"⟩, 9), (⟨"PocketCompiler$Processor", "jump", "(II)V"⟩, 9), (⟨"PocketCompiler$Processor", "branch", "(ZI)V"⟩, 9)]
theorem lw_r5 : ∀ q ∈ lw_privs_5, lw_okq q := List.forall_mem_cons.mpr ⟨lw_p64, List.forall_mem_cons.mpr ⟨lw_p65, List.forall_mem_cons.mpr ⟨lw_p66, List.forall_mem_cons.mpr ⟨lw_p67, List.forall_mem_cons.mpr ⟨lw_p68, List.forall_mem_cons.mpr ⟨lw_p69, List.forall_mem_cons.mpr ⟨lw_p70, List.forall_mem_cons.mpr ⟨lw_p71, List.forall_mem_cons.mpr ⟨lw_p72, List.forall_mem_cons.mpr ⟨lw_p73, List.forall_mem_cons.mpr ⟨lw_p74, List.forall_mem_cons.mpr ⟨lw_p75, List.forall_mem_cons.mpr ⟨lw_p76, List.forall_mem_cons.mpr ⟨lw_p77, List.forall_mem_cons.mpr ⟨lw_p78, List.forall_mem_cons.mpr ⟨lw_p79, fun _ h => absurd h List.not_mem_nil⟩⟩⟩⟩⟩⟩⟩⟩⟩⟩⟩⟩⟩⟩⟩⟩
theorem lw_p80 : lw_okq (⟨"PocketCompiler$Processor", "fetch", "(III)V"⟩, 9) := ⟨⟨by decide +kernel, by decide +kernel⟩, List.mem_of_getElem? (i := 352) (by decide +kernel), List.mem_of_getElem? (i := 1310) (by decide +kernel), List.mem_of_getElem? (i := 1311) (by decide +kernel)⟩
theorem lw_p81 : lw_okq (⟨"PocketCompiler$Processor", "isReached", "(II)Z"⟩, 9) := ⟨⟨by decide +kernel, by decide +kernel⟩, List.mem_of_getElem? (i := 352) (by decide +kernel), List.mem_of_getElem? (i := 1317) (by decide +kernel), List.mem_of_getElem? (i := 1318) (by decide +kernel)⟩
theorem lw_p82 : lw_okq (⟨"PocketCompiler$Processor", "store", "(III)V"⟩, 9) := ⟨⟨by decide +kernel, by decide +kernel⟩, List.mem_of_getElem? (i := 352) (by decide +kernel), List.mem_of_getElem? (i := 1322) (by decide +kernel), List.mem_of_getElem? (i := 1323) (by decide +kernel)⟩
theorem lw_p83 : lw_okq (⟨"PocketCompiler$Processor", "service", "()V"⟩, 9) := ⟨⟨by decide +kernel, by decide +kernel⟩, List.mem_of_getElem? (i := 352) (by decide +kernel), List.mem_of_getElem? (i := 1332) (by decide +kernel), List.mem_of_getElem? (i := 1333) (by decide +kernel)⟩
theorem lw_p84 : lw_okq (⟨"PocketCompiler$Shower", "addName", "(I)V"⟩, 1) := ⟨⟨by decide +kernel, by decide +kernel⟩, List.mem_of_getElem? (i := 62) (by decide +kernel), List.mem_of_getElem? (i := 1621) (by decide +kernel), List.mem_of_getElem? (i := 1622) (by decide +kernel)⟩
theorem lw_p85 : lw_okq (⟨"PocketCompiler$Shower", "addHex", "(I)V"⟩, 1) := ⟨⟨by decide +kernel, by decide +kernel⟩, List.mem_of_getElem? (i := 62) (by decide +kernel), List.mem_of_getElem? (i := 1641) (by decide +kernel), List.mem_of_getElem? (i := 1642) (by decide +kernel)⟩
theorem lw_p86 : lw_okq (⟨"PocketCompiler$Shower", "addOperands", "(II)V"⟩, 1) := ⟨⟨by decide +kernel, by decide +kernel⟩, List.mem_of_getElem? (i := 62) (by decide +kernel), List.mem_of_getElem? (i := 1648) (by decide +kernel), List.mem_of_getElem? (i := 1649) (by decide +kernel)⟩
theorem lw_p87 : lw_okq (⟨"PocketCompiler$Shower", "addPair", "(II)V"⟩, 1) := ⟨⟨by decide +kernel, by decide +kernel⟩, List.mem_of_getElem? (i := 62) (by decide +kernel), List.mem_of_getElem? (i := 1656) (by decide +kernel), List.mem_of_getElem? (i := 1657) (by decide +kernel)⟩
theorem lw_p88 : lw_okq (⟨"PocketCompiler$Shower", "addRegister", "(I)V"⟩, 1) := ⟨⟨by decide +kernel, by decide +kernel⟩, List.mem_of_getElem? (i := 62) (by decide +kernel), List.mem_of_getElem? (i := 1660) (by decide +kernel), List.mem_of_getElem? (i := 1661) (by decide +kernel)⟩
theorem lw_p89 : lw_okq (⟨"PocketCompiler$Shower", "addReach", "(III)V"⟩, 1) := ⟨⟨by decide +kernel, by decide +kernel⟩, List.mem_of_getElem? (i := 62) (by decide +kernel), List.mem_of_getElem? (i := 1666) (by decide +kernel), List.mem_of_getElem? (i := 1667) (by decide +kernel)⟩
theorem lw_p90 : lw_okq (⟨"PocketCompiler", "checkAddress", "(I)V"⟩, 12) := ⟨⟨by decide +kernel, by decide +kernel⟩, List.mem_of_getElem? (i := 36) (by decide +kernel), List.mem_of_getElem? (i := 1786) (by decide +kernel), List.mem_of_getElem? (i := 1787) (by decide +kernel)⟩
theorem lw_p91 : lw_okq (⟨"PocketCompiler$Worker", "enter", "(II)V"⟩, 17) := ⟨⟨by decide +kernel, by decide +kernel⟩, List.mem_of_getElem? (i := 391) (by decide +kernel), List.mem_of_getElem? (i := 1845) (by decide +kernel), List.mem_of_getElem? (i := 1846) (by decide +kernel)⟩
theorem lw_p92 : lw_okq (⟨"PocketCompiler$Worker", "takeTurn", "()V"⟩, 17) := ⟨⟨by decide +kernel, by decide +kernel⟩, List.mem_of_getElem? (i := 391) (by decide +kernel), List.mem_of_getElem? (i := 1849) (by decide +kernel), List.mem_of_getElem? (i := 1850) (by decide +kernel)⟩
theorem lw_p93 : lw_okq (⟨"PocketCompiler$Worker", "changeFrameWord", "(II)V"⟩, 17) := ⟨⟨by decide +kernel, by decide +kernel⟩, List.mem_of_getElem? (i := 391) (by decide +kernel), List.mem_of_getElem? (i := 1853) (by decide +kernel), List.mem_of_getElem? (i := 1854) (by decide +kernel)⟩
theorem lw_p94 : lw_okq (⟨"PocketCompiler$Worker", "changeSlot", "(II)V"⟩, 17) := ⟨⟨by decide +kernel, by decide +kernel⟩, List.mem_of_getElem? (i := 391) (by decide +kernel), List.mem_of_getElem? (i := 1858) (by decide +kernel), List.mem_of_getElem? (i := 1859) (by decide +kernel)⟩
theorem lw_p95 : lw_okq (⟨"PocketCompiler$Worker", "placeOfSlot", "(I)I"⟩, 17) := ⟨⟨by decide +kernel, by decide +kernel⟩, List.mem_of_getElem? (i := 391) (by decide +kernel), List.mem_of_getElem? (i := 1862) (by decide +kernel), List.mem_of_getElem? (i := 1863) (by decide +kernel)⟩
def lw_privs_6 : List (MethodName × Nat) := [(⟨"PocketCompiler$Processor", "fetch", "(III)V"⟩, 9), (⟨"PocketCompiler$Processor", "isReached", "(II)Z"⟩, 9), (⟨"PocketCompiler$Processor", "store", "(III)V"⟩, 9), (⟨"PocketCompiler$Processor", "service", "()V"⟩, 9), (⟨"PocketCompiler$Shower", "addName", "(I)V"⟩, 1), (⟨"PocketCompiler$Shower", "addHex", "(I)V"⟩, 1), (⟨"PocketCompiler$Shower", "addOperands", "(II)V"⟩, 1), (⟨"PocketCompiler$Shower", "addPair", "(II)V"⟩, 1), (⟨"PocketCompiler$Shower", "addRegister", "(I)V"⟩, 1), (⟨"PocketCompiler$Shower", "addReach", "(III)V"⟩, 1), (⟨"PocketCompiler", "checkAddress", "(I)V"⟩, 12), (⟨"PocketCompiler$Worker", "enter", "(II)V"⟩, 17), (⟨"PocketCompiler$Worker", "takeTurn", "()V"⟩, 17), (⟨"PocketCompiler$Worker", "changeFrameWord", "(II)V"⟩, 17), (⟨"PocketCompiler$Worker", "changeSlot", "(II)V"⟩, 17), (⟨"PocketCompiler$Worker", "placeOfSlot", "(I)I"⟩, 17)]
theorem lw_r6 : ∀ q ∈ lw_privs_6, lw_okq q := List.forall_mem_cons.mpr ⟨lw_p80, List.forall_mem_cons.mpr ⟨lw_p81, List.forall_mem_cons.mpr ⟨lw_p82, List.forall_mem_cons.mpr ⟨lw_p83, List.forall_mem_cons.mpr ⟨lw_p84, List.forall_mem_cons.mpr ⟨lw_p85, List.forall_mem_cons.mpr ⟨lw_p86, List.forall_mem_cons.mpr ⟨lw_p87, List.forall_mem_cons.mpr ⟨lw_p88, List.forall_mem_cons.mpr ⟨lw_p89, List.forall_mem_cons.mpr ⟨lw_p90, List.forall_mem_cons.mpr ⟨lw_p91, List.forall_mem_cons.mpr ⟨lw_p92, List.forall_mem_cons.mpr ⟨lw_p93, List.forall_mem_cons.mpr ⟨lw_p94, List.forall_mem_cons.mpr ⟨lw_p95, fun _ h => absurd h List.not_mem_nil⟩⟩⟩⟩⟩⟩⟩⟩⟩⟩⟩⟩⟩⟩⟩⟩
theorem lw_p96 : lw_okq (⟨"PocketCompiler$Worker", "doDeed", "()V"⟩, 17) := ⟨⟨by decide +kernel, by decide +kernel⟩, List.mem_of_getElem? (i := 391) (by decide +kernel), List.mem_of_getElem? (i := 1867) (by decide +kernel), List.mem_of_getElem? (i := 1868) (by decide +kernel)⟩
theorem lw_p97 : lw_okq (⟨"PocketCompiler$Worker", "leaveFunction", "()V"⟩, 17) := ⟨⟨by decide +kernel, by decide +kernel⟩, List.mem_of_getElem? (i := 391) (by decide +kernel), List.mem_of_getElem? (i := 1871) (by decide +kernel), List.mem_of_getElem? (i := 1872) (by decide +kernel)⟩
theorem lw_p98 : lw_okq (⟨"PocketCompiler$Worker", "frameWord", "(I)I"⟩, 17) := ⟨⟨by decide +kernel, by decide +kernel⟩, List.mem_of_getElem? (i := 391) (by decide +kernel), List.mem_of_getElem? (i := 1875) (by decide +kernel), List.mem_of_getElem? (i := 1876) (by decide +kernel)⟩
theorem lw_p99 : lw_okq (⟨"PocketCompiler$Worker", "slotAt", "(I)I"⟩, 17) := ⟨⟨by decide +kernel, by decide +kernel⟩, List.mem_of_getElem? (i := 391) (by decide +kernel), List.mem_of_getElem? (i := 1879) (by decide +kernel), List.mem_of_getElem? (i := 1880) (by decide +kernel)⟩
theorem lw_p100 : lw_okq (⟨"PocketCompiler$Worker", "join", "(II)V"⟩, 17) := ⟨⟨by decide +kernel, by decide +kernel⟩, List.mem_of_getElem? (i := 391) (by decide +kernel), List.mem_of_getElem? (i := 1883) (by decide +kernel), List.mem_of_getElem? (i := 1884) (by decide +kernel)⟩
theorem lw_p101 : lw_okq (⟨"PocketCompiler$Worker", "divide", "(ZI)V"⟩, 17) := ⟨⟨by decide +kernel, by decide +kernel⟩, List.mem_of_getElem? (i := 391) (by decide +kernel), List.mem_of_getElem? (i := 1887) (by decide +kernel), List.mem_of_getElem? (i := 1888) (by decide +kernel)⟩
theorem lw_p102 : lw_okq (⟨"PocketCompiler$Worker", "callFunction", "(II)V"⟩, 17) := ⟨⟨by decide +kernel, by decide +kernel⟩, List.mem_of_getElem? (i := 391) (by decide +kernel), List.mem_of_getElem? (i := 1894) (by decide +kernel), List.mem_of_getElem? (i := 1895) (by decide +kernel)⟩
theorem lw_p103 : lw_okq (⟨"PocketCompiler$Worker", "putHand", "()V"⟩, 17) := ⟨⟨by decide +kernel, by decide +kernel⟩, List.mem_of_getElem? (i := 391) (by decide +kernel), List.mem_of_getElem? (i := 1898) (by decide +kernel), List.mem_of_getElem? (i := 1899) (by decide +kernel)⟩
theorem lw_p104 : lw_okq (⟨"PocketCompiler$Worker", "doJump", "(II)V"⟩, 17) := ⟨⟨by decide +kernel, by decide +kernel⟩, List.mem_of_getElem? (i := 391) (by decide +kernel), List.mem_of_getElem? (i := 1903) (by decide +kernel), List.mem_of_getElem? (i := 1904) (by decide +kernel)⟩
theorem lw_p105 : lw_okq (⟨"PocketCompiler$Worker", "doPlace", "(III)V"⟩, 17) := ⟨⟨by decide +kernel, by decide +kernel⟩, List.mem_of_getElem? (i := 391) (by decide +kernel), List.mem_of_getElem? (i := 1907) (by decide +kernel), List.mem_of_getElem? (i := 1908) (by decide +kernel)⟩
theorem lw_p106 : lw_okq (⟨"PocketCompiler$Worker", "changeCell", "(II)V"⟩, 17) := ⟨⟨by decide +kernel, by decide +kernel⟩, List.mem_of_getElem? (i := 391) (by decide +kernel), List.mem_of_getElem? (i := 1919) (by decide +kernel), List.mem_of_getElem? (i := 1920) (by decide +kernel)⟩
theorem lw_p107 : lw_okq (⟨"PocketCompiler$Worker", "index", "(I)V"⟩, 17) := ⟨⟨by decide +kernel, by decide +kernel⟩, List.mem_of_getElem? (i := 391) (by decide +kernel), List.mem_of_getElem? (i := 1923) (by decide +kernel), List.mem_of_getElem? (i := 1924) (by decide +kernel)⟩
theorem lw_p108 : lw_okq (⟨"PocketCompilerModel", "four", "(I)V"⟩, 124) := ⟨⟨by decide +kernel, by decide +kernel⟩, List.mem_of_getElem? (i := 1955) (by decide +kernel), List.mem_of_getElem? (i := 1953) (by decide +kernel), List.mem_of_getElem? (i := 1954) (by decide +kernel)⟩
theorem lw_p109 : lw_okq (⟨"PocketCompilerModel", "cut", "()V"⟩, 124) := ⟨⟨by decide +kernel, by decide +kernel⟩, List.mem_of_getElem? (i := 1955) (by decide +kernel), List.mem_of_getElem? (i := 1992) (by decide +kernel), List.mem_of_getElem? (i := 1993) (by decide +kernel)⟩
theorem lw_p110 : lw_okq (⟨"PocketCompilerModel", "at", "(I)I"⟩, 124) := ⟨⟨by decide +kernel, by decide +kernel⟩, List.mem_of_getElem? (i := 1955) (by decide +kernel), List.mem_of_getElem? (i := 1999) (by decide +kernel), List.mem_of_getElem? (i := 2000) (by decide +kernel)⟩
theorem lw_p111 : lw_okq (⟨"PocketCompilerModel", "token", "(I)I"⟩, 124) := ⟨⟨by decide +kernel, by decide +kernel⟩, List.mem_of_getElem? (i := 1955) (by decide +kernel), List.mem_of_getElem? (i := 2003) (by decide +kernel), List.mem_of_getElem? (i := 2004) (by decide +kernel)⟩
def lw_privs_7 : List (MethodName × Nat) := [(⟨"PocketCompiler$Worker", "doDeed", "()V"⟩, 17), (⟨"PocketCompiler$Worker", "leaveFunction", "()V"⟩, 17), (⟨"PocketCompiler$Worker", "frameWord", "(I)I"⟩, 17), (⟨"PocketCompiler$Worker", "slotAt", "(I)I"⟩, 17), (⟨"PocketCompiler$Worker", "join", "(II)V"⟩, 17), (⟨"PocketCompiler$Worker", "divide", "(ZI)V"⟩, 17), (⟨"PocketCompiler$Worker", "callFunction", "(II)V"⟩, 17), (⟨"PocketCompiler$Worker", "putHand", "()V"⟩, 17), (⟨"PocketCompiler$Worker", "doJump", "(II)V"⟩, 17), (⟨"PocketCompiler$Worker", "doPlace", "(III)V"⟩, 17), (⟨"PocketCompiler$Worker", "changeCell", "(II)V"⟩, 17), (⟨"PocketCompiler$Worker", "index", "(I)V"⟩, 17), (⟨"PocketCompilerModel", "four", "(I)V"⟩, 124), (⟨"PocketCompilerModel", "cut", "()V"⟩, 124), (⟨"PocketCompilerModel", "at", "(I)I"⟩, 124), (⟨"PocketCompilerModel", "token", "(I)I"⟩, 124)]
theorem lw_r7 : ∀ q ∈ lw_privs_7, lw_okq q := List.forall_mem_cons.mpr ⟨lw_p96, List.forall_mem_cons.mpr ⟨lw_p97, List.forall_mem_cons.mpr ⟨lw_p98, List.forall_mem_cons.mpr ⟨lw_p99, List.forall_mem_cons.mpr ⟨lw_p100, List.forall_mem_cons.mpr ⟨lw_p101, List.forall_mem_cons.mpr ⟨lw_p102, List.forall_mem_cons.mpr ⟨lw_p103, List.forall_mem_cons.mpr ⟨lw_p104, List.forall_mem_cons.mpr ⟨lw_p105, List.forall_mem_cons.mpr ⟨lw_p106, List.forall_mem_cons.mpr ⟨lw_p107, List.forall_mem_cons.mpr ⟨lw_p108, List.forall_mem_cons.mpr ⟨lw_p109, List.forall_mem_cons.mpr ⟨lw_p110, List.forall_mem_cons.mpr ⟨lw_p111, fun _ h => absurd h List.not_mem_nil⟩⟩⟩⟩⟩⟩⟩⟩⟩⟩⟩⟩⟩⟩⟩⟩
theorem lw_p112 : lw_okq (⟨"PocketCompilerModel", "number", "(I)I"⟩, 124) := ⟨⟨by decide +kernel, by decide +kernel⟩, List.mem_of_getElem? (i := 1955) (by decide +kernel), List.mem_of_getElem? (i := 2010) (by decide +kernel), List.mem_of_getElem? (i := 2011) (by decide +kernel)⟩
theorem lw_p113 : lw_okq (⟨"PocketCompilerModel", "wordOf", "(Ljava/lang/String;II)I"⟩, 124) := ⟨⟨by decide +kernel, by decide +kernel⟩, List.mem_of_getElem? (i := 1955) (by decide +kernel), List.mem_of_getElem? (i := 2024) (by decide +kernel), List.mem_of_getElem? (i := 2025) (by decide +kernel)⟩
theorem lw_p114 : lw_okq (⟨"PocketCompilerModel", "sign", "(I)I"⟩, 124) := ⟨⟨by decide +kernel, by decide +kernel⟩, List.mem_of_getElem? (i := 1955) (by decide +kernel), List.mem_of_getElem? (i := 2030) (by decide +kernel), List.mem_of_getElem? (i := 2031) (by decide +kernel)⟩
theorem lw_p115 : lw_okq (⟨"PocketCompilerModel", "walk", "()V"⟩, 124) := ⟨⟨by decide +kernel, by decide +kernel⟩, List.mem_of_getElem? (i := 1955) (by decide +kernel), List.mem_of_getElem? (i := 2035) (by decide +kernel), List.mem_of_getElem? (i := 2036) (by decide +kernel)⟩
theorem lw_p116 : lw_okq (⟨"PocketCompilerModel", "emit", "(I)I"⟩, 124) := ⟨⟨by decide +kernel, by decide +kernel⟩, List.mem_of_getElem? (i := 1955) (by decide +kernel), List.mem_of_getElem? (i := 2045) (by decide +kernel), List.mem_of_getElem? (i := 2046) (by decide +kernel)⟩
theorem lw_p117 : lw_okq (⟨"PocketCompilerModel", "item", "()V"⟩, 124) := ⟨⟨by decide +kernel, by decide +kernel⟩, List.mem_of_getElem? (i := 1955) (by decide +kernel), List.mem_of_getElem? (i := 2050) (by decide +kernel), List.mem_of_getElem? (i := 2051) (by decide +kernel)⟩
theorem lw_p118 : lw_okq (⟨"PocketCompilerModel", "isKey", "(I)Z"⟩, 124) := ⟨⟨by decide +kernel, by decide +kernel⟩, List.mem_of_getElem? (i := 1955) (by decide +kernel), List.mem_of_getElem? (i := 2054) (by decide +kernel), List.mem_of_getElem? (i := 2055) (by decide +kernel)⟩
theorem lw_p119 : lw_okq (⟨"PocketCompilerModel", "bad", "()LPocketCompilerModel$Halt;"⟩, 124) := ⟨⟨by decide +kernel, by decide +kernel⟩, List.mem_of_getElem? (i := 1955) (by decide +kernel), List.mem_of_getElem? (i := 2058) (by decide +kernel), List.mem_of_getElem? (i := 2059) (by decide +kernel)⟩
theorem lw_p120 : lw_okq (⟨"PocketCompilerModel", "fail", "(II)LPocketCompilerModel$Halt;"⟩, 124) := ⟨⟨by decide +kernel, by decide +kernel⟩, List.mem_of_getElem? (i := 1955) (by decide +kernel), List.mem_of_getElem? (i := 2062) (by decide +kernel), List.mem_of_getElem? (i := 2063) (by decide +kernel)⟩
theorem lw_p121 : lw_okq (⟨"PocketCompilerModel", "take", "()V"⟩, 124) := ⟨⟨by decide +kernel, by decide +kernel⟩, List.mem_of_getElem? (i := 1955) (by decide +kernel), List.mem_of_getElem? (i := 2066) (by decide +kernel), List.mem_of_getElem? (i := 2067) (by decide +kernel)⟩
theorem lw_p122 : lw_okq (⟨"PocketCompilerModel", "globalOf", "(I)I"⟩, 124) := ⟨⟨by decide +kernel, by decide +kernel⟩, List.mem_of_getElem? (i := 1955) (by decide +kernel), List.mem_of_getElem? (i := 2070) (by decide +kernel), List.mem_of_getElem? (i := 2071) (by decide +kernel)⟩
theorem lw_p123 : lw_okq (⟨"PocketCompilerModel", "isSame", "(II)Z"⟩, 124) := ⟨⟨by decide +kernel, by decide +kernel⟩, List.mem_of_getElem? (i := 1955) (by decide +kernel), List.mem_of_getElem? (i := 2074) (by decide +kernel), List.mem_of_getElem? (i := 2075) (by decide +kernel)⟩
theorem lw_p124 : lw_okq (⟨"PocketCompilerModel", "functionOf", "(I)I"⟩, 124) := ⟨⟨by decide +kernel, by decide +kernel⟩, List.mem_of_getElem? (i := 1955) (by decide +kernel), List.mem_of_getElem? (i := 2078) (by decide +kernel), List.mem_of_getElem? (i := 2079) (by decide +kernel)⟩
theorem lw_p125 : lw_okq (⟨"PocketCompilerModel", "isSign", "(II)Z"⟩, 124) := ⟨⟨by decide +kernel, by decide +kernel⟩, List.mem_of_getElem? (i := 1955) (by decide +kernel), List.mem_of_getElem? (i := 2082) (by decide +kernel), List.mem_of_getElem? (i := 2083) (by decide +kernel)⟩
theorem lw_p126 : lw_okq (⟨"PocketCompilerModel", "function0", "(I)V"⟩, 124) := ⟨⟨by decide +kernel, by decide +kernel⟩, List.mem_of_getElem? (i := 1955) (by decide +kernel), List.mem_of_getElem? (i := 2086) (by decide +kernel), List.mem_of_getElem? (i := 2087) (by decide +kernel)⟩
theorem lw_p127 : lw_okq (⟨"PocketCompilerModel", "open", "(I)V"⟩, 124) := ⟨⟨by decide +kernel, by decide +kernel⟩, List.mem_of_getElem? (i := 1955) (by decide +kernel), List.mem_of_getElem? (i := 2090) (by decide +kernel), List.mem_of_getElem? (i := 2091) (by decide +kernel)⟩
def lw_privs_8 : List (MethodName × Nat) := [(⟨"PocketCompilerModel", "number", "(I)I"⟩, 124), (⟨"PocketCompilerModel", "wordOf", "(Ljava/lang/String;II)I"⟩, 124), (⟨"PocketCompilerModel", "sign", "(I)I"⟩, 124), (⟨"PocketCompilerModel", "walk", "()V"⟩, 124), (⟨"PocketCompilerModel", "emit", "(I)I"⟩, 124), (⟨"PocketCompilerModel", "item", "()V"⟩, 124), (⟨"PocketCompilerModel", "isKey", "(I)Z"⟩, 124), (⟨"PocketCompilerModel", "bad", "()LPocketCompilerModel$Halt;"⟩, 124), (⟨"PocketCompilerModel", "fail", "(II)LPocketCompilerModel$Halt;"⟩, 124), (⟨"PocketCompilerModel", "take", "()V"⟩, 124), (⟨"PocketCompilerModel", "globalOf", "(I)I"⟩, 124), (⟨"PocketCompilerModel", "isSame", "(II)Z"⟩, 124), (⟨"PocketCompilerModel", "functionOf", "(I)I"⟩, 124), (⟨"PocketCompilerModel", "isSign", "(II)Z"⟩, 124), (⟨"PocketCompilerModel", "function0", "(I)V"⟩, 124), (⟨"PocketCompilerModel", "open", "(I)V"⟩, 124)]
theorem lw_r8 : ∀ q ∈ lw_privs_8, lw_okq q := List.forall_mem_cons.mpr ⟨lw_p112, List.forall_mem_cons.mpr ⟨lw_p113, List.forall_mem_cons.mpr ⟨lw_p114, List.forall_mem_cons.mpr ⟨lw_p115, List.forall_mem_cons.mpr ⟨lw_p116, List.forall_mem_cons.mpr ⟨lw_p117, List.forall_mem_cons.mpr ⟨lw_p118, List.forall_mem_cons.mpr ⟨lw_p119, List.forall_mem_cons.mpr ⟨lw_p120, List.forall_mem_cons.mpr ⟨lw_p121, List.forall_mem_cons.mpr ⟨lw_p122, List.forall_mem_cons.mpr ⟨lw_p123, List.forall_mem_cons.mpr ⟨lw_p124, List.forall_mem_cons.mpr ⟨lw_p125, List.forall_mem_cons.mpr ⟨lw_p126, List.forall_mem_cons.mpr ⟨lw_p127, fun _ h => absurd h List.not_mem_nil⟩⟩⟩⟩⟩⟩⟩⟩⟩⟩⟩⟩⟩⟩⟩⟩
theorem lw_p128 : lw_okq (⟨"PocketCompilerModel", "is", "(I)Z"⟩, 124) := ⟨⟨by decide +kernel, by decide +kernel⟩, List.mem_of_getElem? (i := 1955) (by decide +kernel), List.mem_of_getElem? (i := 2094) (by decide +kernel), List.mem_of_getElem? (i := 2095) (by decide +kernel)⟩
theorem lw_p129 : lw_okq (⟨"PocketCompilerModel", "opens", "()V"⟩, 124) := ⟨⟨by decide +kernel, by decide +kernel⟩, List.mem_of_getElem? (i := 1955) (by decide +kernel), List.mem_of_getElem? (i := 2098) (by decide +kernel), List.mem_of_getElem? (i := 2099) (by decide +kernel)⟩
theorem lw_p130 : lw_okq (⟨"PocketCompilerModel", "local", "(I)I"⟩, 124) := ⟨⟨by decide +kernel, by decide +kernel⟩, List.mem_of_getElem? (i := 1955) (by decide +kernel), List.mem_of_getElem? (i := 2102) (by decide +kernel), List.mem_of_getElem? (i := 2103) (by decide +kernel)⟩
theorem lw_p131 : lw_okq (⟨"PocketCompilerModel", "slots", "(I)I"⟩, 124) := ⟨⟨by decide +kernel, by decide +kernel⟩, List.mem_of_getElem? (i := 1955) (by decide +kernel), List.mem_of_getElem? (i := 2106) (by decide +kernel), List.mem_of_getElem? (i := 2107) (by decide +kernel)⟩
theorem lw_p132 : lw_okq (⟨"PocketCompilerModel", "close", "(I)V"⟩, 124) := ⟨⟨by decide +kernel, by decide +kernel⟩, List.mem_of_getElem? (i := 1955) (by decide +kernel), List.mem_of_getElem? (i := 2110) (by decide +kernel), List.mem_of_getElem? (i := 2111) (by decide +kernel)⟩
theorem lw_p133 : lw_okq (⟨"PocketCompilerModel", "need", "(I)V"⟩, 124) := ⟨⟨by decide +kernel, by decide +kernel⟩, List.mem_of_getElem? (i := 1955) (by decide +kernel), List.mem_of_getElem? (i := 2114) (by decide +kernel), List.mem_of_getElem? (i := 2115) (by decide +kernel)⟩
theorem lw_p134 : lw_okq (⟨"PocketCompilerModel", "body0", "()V"⟩, 124) := ⟨⟨by decide +kernel, by decide +kernel⟩, List.mem_of_getElem? (i := 1955) (by decide +kernel), List.mem_of_getElem? (i := 2127) (by decide +kernel), List.mem_of_getElem? (i := 2128) (by decide +kernel)⟩
theorem lw_p135 : lw_okq (⟨"PocketCompilerModel", "statement", "()V"⟩, 124) := ⟨⟨by decide +kernel, by decide +kernel⟩, List.mem_of_getElem? (i := 1955) (by decide +kernel), List.mem_of_getElem? (i := 2131) (by decide +kernel), List.mem_of_getElem? (i := 2132) (by decide +kernel)⟩
theorem lw_p136 : lw_okq (⟨"PocketCompilerModel", "block", "()V"⟩, 124) := ⟨⟨by decide +kernel, by decide +kernel⟩, List.mem_of_getElem? (i := 1955) (by decide +kernel), List.mem_of_getElem? (i := 2135) (by decide +kernel), List.mem_of_getElem? (i := 2136) (by decide +kernel)⟩
theorem lw_p137 : lw_okq (⟨"PocketCompilerModel", "declared", "()V"⟩, 124) := ⟨⟨by decide +kernel, by decide +kernel⟩, List.mem_of_getElem? (i := 1955) (by decide +kernel), List.mem_of_getElem? (i := 2139) (by decide +kernel), List.mem_of_getElem? (i := 2140) (by decide +kernel)⟩
theorem lw_p138 : lw_okq (⟨"PocketCompilerModel", "expression", "()V"⟩, 124) := ⟨⟨by decide +kernel, by decide +kernel⟩, List.mem_of_getElem? (i := 1955) (by decide +kernel), List.mem_of_getElem? (i := 2143) (by decide +kernel), List.mem_of_getElem? (i := 2144) (by decide +kernel)⟩
theorem lw_p139 : lw_okq (⟨"PocketCompilerModel", "named", "(Z)V"⟩, 124) := ⟨⟨by decide +kernel, by decide +kernel⟩, List.mem_of_getElem? (i := 1955) (by decide +kernel), List.mem_of_getElem? (i := 2147) (by decide +kernel), List.mem_of_getElem? (i := 2148) (by decide +kernel)⟩
theorem lw_p140 : lw_okq (⟨"PocketCompilerModel", "index", "(I)V"⟩, 124) := ⟨⟨by decide +kernel, by decide +kernel⟩, List.mem_of_getElem? (i := 1955) (by decide +kernel), List.mem_of_getElem? (i := 2151) (by decide +kernel), List.mem_of_getElem? (i := 2152) (by decide +kernel)⟩
theorem lw_p141 : lw_okq (⟨"PocketCompilerModel", "fix", "(III)V"⟩, 124) := ⟨⟨by decide +kernel, by decide +kernel⟩, List.mem_of_getElem? (i := 1955) (by decide +kernel), List.mem_of_getElem? (i := 2167) (by decide +kernel), List.mem_of_getElem? (i := 2168) (by decide +kernel)⟩
theorem lw_p142 : lw_okq (⟨"PocketCompilerModel", "say", "(II)I"⟩, 124) := ⟨⟨by decide +kernel, by decide +kernel⟩, List.mem_of_getElem? (i := 1955) (by decide +kernel), List.mem_of_getElem? (i := 2174) (by decide +kernel), List.mem_of_getElem? (i := 2175) (by decide +kernel)⟩
theorem lw_p143 : lw_okq (⟨"PocketCompilerModel", "setting", "()I"⟩, 124) := ⟨⟨by decide +kernel, by decide +kernel⟩, List.mem_of_getElem? (i := 1955) (by decide +kernel), List.mem_of_getElem? (i := 2178) (by decide +kernel), List.mem_of_getElem? (i := 2179) (by decide +kernel)⟩
def lw_privs_9 : List (MethodName × Nat) := [(⟨"PocketCompilerModel", "is", "(I)Z"⟩, 124), (⟨"PocketCompilerModel", "opens", "()V"⟩, 124), (⟨"PocketCompilerModel", "local", "(I)I"⟩, 124), (⟨"PocketCompilerModel", "slots", "(I)I"⟩, 124), (⟨"PocketCompilerModel", "close", "(I)V"⟩, 124), (⟨"PocketCompilerModel", "need", "(I)V"⟩, 124), (⟨"PocketCompilerModel", "body0", "()V"⟩, 124), (⟨"PocketCompilerModel", "statement", "()V"⟩, 124), (⟨"PocketCompilerModel", "block", "()V"⟩, 124), (⟨"PocketCompilerModel", "declared", "()V"⟩, 124), (⟨"PocketCompilerModel", "expression", "()V"⟩, 124), (⟨"PocketCompilerModel", "named", "(Z)V"⟩, 124), (⟨"PocketCompilerModel", "index", "(I)V"⟩, 124), (⟨"PocketCompilerModel", "fix", "(III)V"⟩, 124), (⟨"PocketCompilerModel", "say", "(II)I"⟩, 124), (⟨"PocketCompilerModel", "setting", "()I"⟩, 124)]
theorem lw_r9 : ∀ q ∈ lw_privs_9, lw_okq q := List.forall_mem_cons.mpr ⟨lw_p128, List.forall_mem_cons.mpr ⟨lw_p129, List.forall_mem_cons.mpr ⟨lw_p130, List.forall_mem_cons.mpr ⟨lw_p131, List.forall_mem_cons.mpr ⟨lw_p132, List.forall_mem_cons.mpr ⟨lw_p133, List.forall_mem_cons.mpr ⟨lw_p134, List.forall_mem_cons.mpr ⟨lw_p135, List.forall_mem_cons.mpr ⟨lw_p136, List.forall_mem_cons.mpr ⟨lw_p137, List.forall_mem_cons.mpr ⟨lw_p138, List.forall_mem_cons.mpr ⟨lw_p139, List.forall_mem_cons.mpr ⟨lw_p140, List.forall_mem_cons.mpr ⟨lw_p141, List.forall_mem_cons.mpr ⟨lw_p142, List.forall_mem_cons.mpr ⟨lw_p143, fun _ h => absurd h List.not_mem_nil⟩⟩⟩⟩⟩⟩⟩⟩⟩⟩⟩⟩⟩⟩⟩⟩
theorem lw_p144 : lw_okq (⟨"PocketCompilerModel", "sets", "(IIZI)V"⟩, 124) := ⟨⟨by decide +kernel, by decide +kernel⟩, List.mem_of_getElem? (i := 1955) (by decide +kernel), List.mem_of_getElem? (i := 2185) (by decide +kernel), List.mem_of_getElem? (i := 2186) (by decide +kernel)⟩
theorem lw_p145 : lw_okq (⟨"PocketCompilerModel", "remember", "(I)V"⟩, 124) := ⟨⟨by decide +kernel, by decide +kernel⟩, List.mem_of_getElem? (i := 1955) (by decide +kernel), List.mem_of_getElem? (i := 2189) (by decide +kernel), List.mem_of_getElem? (i := 2190) (by decide +kernel)⟩
theorem lw_p146 : lw_okq (⟨"PocketCompilerModel", "fetch", "(II)V"⟩, 124) := ⟨⟨by decide +kernel, by decide +kernel⟩, List.mem_of_getElem? (i := 1955) (by decide +kernel), List.mem_of_getElem? (i := 2193) (by decide +kernel), List.mem_of_getElem? (i := 2194) (by decide +kernel)⟩
theorem lw_p147 : lw_okq (⟨"PocketCompilerModel", "operate", "(I)V"⟩, 124) := ⟨⟨by decide +kernel, by decide +kernel⟩, List.mem_of_getElem? (i := 1955) (by decide +kernel), List.mem_of_getElem? (i := 2197) (by decide +kernel), List.mem_of_getElem? (i := 2198) (by decide +kernel)⟩
theorem lw_p148 : lw_okq (⟨"PocketCompilerModel", "store", "(II)V"⟩, 124) := ⟨⟨by decide +kernel, by decide +kernel⟩, List.mem_of_getElem? (i := 1955) (by decide +kernel), List.mem_of_getElem? (i := 2201) (by decide +kernel), List.mem_of_getElem? (i := 2202) (by decide +kernel)⟩
theorem lw_p149 : lw_okq (⟨"PocketCompilerModel", "choice", "(Z)V"⟩, 124) := ⟨⟨by decide +kernel, by decide +kernel⟩, List.mem_of_getElem? (i := 1955) (by decide +kernel), List.mem_of_getElem? (i := 2205) (by decide +kernel), List.mem_of_getElem? (i := 2206) (by decide +kernel)⟩
theorem lw_p150 : lw_okq (⟨"PocketCompilerModel", "joined", "(IZ)V"⟩, 124) := ⟨⟨by decide +kernel, by decide +kernel⟩, List.mem_of_getElem? (i := 1955) (by decide +kernel), List.mem_of_getElem? (i := 2209) (by decide +kernel), List.mem_of_getElem? (i := 2210) (by decide +kernel)⟩
theorem lw_p151 : lw_okq (⟨"PocketCompilerModel", "operand", "()V"⟩, 124) := ⟨⟨by decide +kernel, by decide +kernel⟩, List.mem_of_getElem? (i := 1955) (by decide +kernel), List.mem_of_getElem? (i := 2213) (by decide +kernel), List.mem_of_getElem? (i := 2214) (by decide +kernel)⟩
theorem lw_p152 : lw_okq (⟨"PocketCompilerModel", "loads", "(I)V"⟩, 124) := ⟨⟨by decide +kernel, by decide +kernel⟩, List.mem_of_getElem? (i := 1955) (by decide +kernel), List.mem_of_getElem? (i := 2218) (by decide +kernel), List.mem_of_getElem? (i := 2219) (by decide +kernel)⟩
theorem lw_p153 : lw_okq (⟨"PocketCompilerModel", "call", "()V"⟩, 124) := ⟨⟨by decide +kernel, by decide +kernel⟩, List.mem_of_getElem? (i := 1955) (by decide +kernel), List.mem_of_getElem? (i := 2222) (by decide +kernel), List.mem_of_getElem? (i := 2223) (by decide +kernel)⟩
theorem lw_p154 : lw_okq (⟨"PocketCompilerModel", "strength", "()I"⟩, 124) := ⟨⟨by decide +kernel, by decide +kernel⟩, List.mem_of_getElem? (i := 1955) (by decide +kernel), List.mem_of_getElem? (i := 2226) (by decide +kernel), List.mem_of_getElem? (i := 2227) (by decide +kernel)⟩
theorem lw_p155 : lw_okq (⟨"PocketCompilerModel", "both", "(ZI)V"⟩, 124) := ⟨⟨by decide +kernel, by decide +kernel⟩, List.mem_of_getElem? (i := 1955) (by decide +kernel), List.mem_of_getElem? (i := 2230) (by decide +kernel), List.mem_of_getElem? (i := 2231) (by decide +kernel)⟩
theorem lw_p156 : lw_okq (⟨"PocketCompilerModel", "wait", "(I)I"⟩, 124) := ⟨⟨by decide +kernel, by decide +kernel⟩, List.mem_of_getElem? (i := 1955) (by decide +kernel), List.mem_of_getElem? (i := 2234) (by decide +kernel), List.mem_of_getElem? (i := 2235) (by decide +kernel)⟩
theorem lw_p157 : lw_okq (⟨"PocketCompilerModel", "jump", "(III)V"⟩, 124) := ⟨⟨by decide +kernel, by decide +kernel⟩, List.mem_of_getElem? (i := 1955) (by decide +kernel), List.mem_of_getElem? (i := 2238) (by decide +kernel), List.mem_of_getElem? (i := 2239) (by decide +kernel)⟩
theorem lw_p158 : lw_okq (⟨"PocketCompilerModel", "choices", "()V"⟩, 124) := ⟨⟨by decide +kernel, by decide +kernel⟩, List.mem_of_getElem? (i := 1955) (by decide +kernel), List.mem_of_getElem? (i := 2245) (by decide +kernel), List.mem_of_getElem? (i := 2246) (by decide +kernel)⟩
theorem lw_p159 : lw_okq (⟨"PocketCompilerModel", "condition", "()I"⟩, 124) := ⟨⟨by decide +kernel, by decide +kernel⟩, List.mem_of_getElem? (i := 1955) (by decide +kernel), List.mem_of_getElem? (i := 2249) (by decide +kernel), List.mem_of_getElem? (i := 2250) (by decide +kernel)⟩
def lw_privs_10 : List (MethodName × Nat) := [(⟨"PocketCompilerModel", "sets", "(IIZI)V"⟩, 124), (⟨"PocketCompilerModel", "remember", "(I)V"⟩, 124), (⟨"PocketCompilerModel", "fetch", "(II)V"⟩, 124), (⟨"PocketCompilerModel", "operate", "(I)V"⟩, 124), (⟨"PocketCompilerModel", "store", "(II)V"⟩, 124), (⟨"PocketCompilerModel", "choice", "(Z)V"⟩, 124), (⟨"PocketCompilerModel", "joined", "(IZ)V"⟩, 124), (⟨"PocketCompilerModel", "operand", "()V"⟩, 124), (⟨"PocketCompilerModel", "loads", "(I)V"⟩, 124), (⟨"PocketCompilerModel", "call", "()V"⟩, 124), (⟨"PocketCompilerModel", "strength", "()I"⟩, 124), (⟨"PocketCompilerModel", "both", "(ZI)V"⟩, 124), (⟨"PocketCompilerModel", "wait", "(I)I"⟩, 124), (⟨"PocketCompilerModel", "jump", "(III)V"⟩, 124), (⟨"PocketCompilerModel", "choices", "()V"⟩, 124), (⟨"PocketCompilerModel", "condition", "()I"⟩, 124)]
theorem lw_r10 : ∀ q ∈ lw_privs_10, lw_okq q := List.forall_mem_cons.mpr ⟨lw_p144, List.forall_mem_cons.mpr ⟨lw_p145, List.forall_mem_cons.mpr ⟨lw_p146, List.forall_mem_cons.mpr ⟨lw_p147, List.forall_mem_cons.mpr ⟨lw_p148, List.forall_mem_cons.mpr ⟨lw_p149, List.forall_mem_cons.mpr ⟨lw_p150, List.forall_mem_cons.mpr ⟨lw_p151, List.forall_mem_cons.mpr ⟨lw_p152, List.forall_mem_cons.mpr ⟨lw_p153, List.forall_mem_cons.mpr ⟨lw_p154, List.forall_mem_cons.mpr ⟨lw_p155, List.forall_mem_cons.mpr ⟨lw_p156, List.forall_mem_cons.mpr ⟨lw_p157, List.forall_mem_cons.mpr ⟨lw_p158, List.forall_mem_cons.mpr ⟨lw_p159, fun _ h => absurd h List.not_mem_nil⟩⟩⟩⟩⟩⟩⟩⟩⟩⟩⟩⟩⟩⟩⟩⟩
theorem lw_p160 : lw_okq (⟨"PocketCompilerModel", "unlessTrue", "()I"⟩, 124) := ⟨⟨by decide +kernel, by decide +kernel⟩, List.mem_of_getElem? (i := 1955) (by decide +kernel), List.mem_of_getElem? (i := 2253) (by decide +kernel), List.mem_of_getElem? (i := 2254) (by decide +kernel)⟩
theorem lw_p161 : lw_okq (⟨"PocketCompilerModel", "part", "()V"⟩, 124) := ⟨⟨by decide +kernel, by decide +kernel⟩, List.mem_of_getElem? (i := 1955) (by decide +kernel), List.mem_of_getElem? (i := 2257) (by decide +kernel), List.mem_of_getElem? (i := 2258) (by decide +kernel)⟩
theorem lw_p162 : lw_okq (⟨"PocketCompilerModel", "rounds", "()V"⟩, 124) := ⟨⟨by decide +kernel, by decide +kernel⟩, List.mem_of_getElem? (i := 1955) (by decide +kernel), List.mem_of_getElem? (i := 2261) (by decide +kernel), List.mem_of_getElem? (i := 2262) (by decide +kernel)⟩
theorem lw_p163 : lw_okq (⟨"PocketCompilerModel", "body", "(II)V"⟩, 124) := ⟨⟨by decide +kernel, by decide +kernel⟩, List.mem_of_getElem? (i := 1955) (by decide +kernel), List.mem_of_getElem? (i := 2265) (by decide +kernel), List.mem_of_getElem? (i := 2266) (by decide +kernel)⟩
theorem lw_p164 : lw_okq (⟨"PocketCompilerModel", "ends", "()V"⟩, 124) := ⟨⟨by decide +kernel, by decide +kernel⟩, List.mem_of_getElem? (i := 1955) (by decide +kernel), List.mem_of_getElem? (i := 2269) (by decide +kernel), List.mem_of_getElem? (i := 2270) (by decide +kernel)⟩
theorem lw_p165 : lw_okq (⟨"PocketCompilerModel", "land", "(II)V"⟩, 124) := ⟨⟨by decide +kernel, by decide +kernel⟩, List.mem_of_getElem? (i := 1955) (by decide +kernel), List.mem_of_getElem? (i := 2273) (by decide +kernel), List.mem_of_getElem? (i := 2274) (by decide +kernel)⟩
theorem lw_p166 : lw_okq (⟨"PocketCompilerModel", "arrive", "(II)V"⟩, 124) := ⟨⟨by decide +kernel, by decide +kernel⟩, List.mem_of_getElem? (i := 1955) (by decide +kernel), List.mem_of_getElem? (i := 2277) (by decide +kernel), List.mem_of_getElem? (i := 2278) (by decide +kernel)⟩
theorem lw_p167 : lw_okq (⟨"PocketCompilerModel", "doing", "()V"⟩, 124) := ⟨⟨by decide +kernel, by decide +kernel⟩, List.mem_of_getElem? (i := 1955) (by decide +kernel), List.mem_of_getElem? (i := 2281) (by decide +kernel), List.mem_of_getElem? (i := 2282) (by decide +kernel)⟩
theorem lw_p168 : lw_okq (⟨"PocketCompilerModel", "counting", "()V"⟩, 124) := ⟨⟨by decide +kernel, by decide +kernel⟩, List.mem_of_getElem? (i := 1955) (by decide +kernel), List.mem_of_getElem? (i := 2285) (by decide +kernel), List.mem_of_getElem? (i := 2286) (by decide +kernel)⟩
theorem lw_p169 : lw_okq (⟨"PocketCompilerModel", "leaving", "()V"⟩, 124) := ⟨⟨by decide +kernel, by decide +kernel⟩, List.mem_of_getElem? (i := 1955) (by decide +kernel), List.mem_of_getElem? (i := 2289) (by decide +kernel), List.mem_of_getElem? (i := 2290) (by decide +kernel)⟩
theorem lw_p170 : lw_okq (⟨"PocketCompilerModel", "returning", "()V"⟩, 124) := ⟨⟨by decide +kernel, by decide +kernel⟩, List.mem_of_getElem? (i := 1955) (by decide +kernel), List.mem_of_getElem? (i := 2293) (by decide +kernel), List.mem_of_getElem? (i := 2294) (by decide +kernel)⟩
theorem lw_p171 : lw_okq (⟨"PocketCompilerModel", "plain", "()V"⟩, 124) := ⟨⟨by decide +kernel, by decide +kernel⟩, List.mem_of_getElem? (i := 1955) (by decide +kernel), List.mem_of_getElem? (i := 2297) (by decide +kernel), List.mem_of_getElem? (i := 2298) (by decide +kernel)⟩
theorem lw_p172 : lw_okq (⟨"PocketCompilerModel", "multiplying", "()V"⟩, 124) := ⟨⟨by decide +kernel, by decide +kernel⟩, List.mem_of_getElem? (i := 1955) (by decide +kernel), List.mem_of_getElem? (i := 2302) (by decide +kernel), List.mem_of_getElem? (i := 2303) (by decide +kernel)⟩
theorem lw_p173 : lw_okq (⟨"PocketCompilerModel", "dividing", "()V"⟩, 124) := ⟨⟨by decide +kernel, by decide +kernel⟩, List.mem_of_getElem? (i := 1955) (by decide +kernel), List.mem_of_getElem? (i := 2306) (by decide +kernel), List.mem_of_getElem? (i := 2307) (by decide +kernel)⟩
theorem lw_p174 : lw_okq (⟨"PocketCompilerModel", "addresses", "()V"⟩, 124) := ⟨⟨by decide +kernel, by decide +kernel⟩, List.mem_of_getElem? (i := 1955) (by decide +kernel), List.mem_of_getElem? (i := 2310) (by decide +kernel), List.mem_of_getElem? (i := 2311) (by decide +kernel)⟩
theorem lw_p175 : lw_okq (⟨"PocketCompilerModel", "accept", "()V"⟩, 124) := ⟨⟨by decide +kernel, by decide +kernel⟩, List.mem_of_getElem? (i := 1955) (by decide +kernel), List.mem_of_getElem? (i := 2314) (by decide +kernel), List.mem_of_getElem? (i := 2315) (by decide +kernel)⟩
def lw_privs_11 : List (MethodName × Nat) := [(⟨"PocketCompilerModel", "unlessTrue", "()I"⟩, 124), (⟨"PocketCompilerModel", "part", "()V"⟩, 124), (⟨"PocketCompilerModel", "rounds", "()V"⟩, 124), (⟨"PocketCompilerModel", "body", "(II)V"⟩, 124), (⟨"PocketCompilerModel", "ends", "()V"⟩, 124), (⟨"PocketCompilerModel", "land", "(II)V"⟩, 124), (⟨"PocketCompilerModel", "arrive", "(II)V"⟩, 124), (⟨"PocketCompilerModel", "doing", "()V"⟩, 124), (⟨"PocketCompilerModel", "counting", "()V"⟩, 124), (⟨"PocketCompilerModel", "leaving", "()V"⟩, 124), (⟨"PocketCompilerModel", "returning", "()V"⟩, 124), (⟨"PocketCompilerModel", "plain", "()V"⟩, 124), (⟨"PocketCompilerModel", "multiplying", "()V"⟩, 124), (⟨"PocketCompilerModel", "dividing", "()V"⟩, 124), (⟨"PocketCompilerModel", "addresses", "()V"⟩, 124), (⟨"PocketCompilerModel", "accept", "()V"⟩, 124)]
theorem lw_r11 : ∀ q ∈ lw_privs_11, lw_okq q := List.forall_mem_cons.mpr ⟨lw_p160, List.forall_mem_cons.mpr ⟨lw_p161, List.forall_mem_cons.mpr ⟨lw_p162, List.forall_mem_cons.mpr ⟨lw_p163, List.forall_mem_cons.mpr ⟨lw_p164, List.forall_mem_cons.mpr ⟨lw_p165, List.forall_mem_cons.mpr ⟨lw_p166, List.forall_mem_cons.mpr ⟨lw_p167, List.forall_mem_cons.mpr ⟨lw_p168, List.forall_mem_cons.mpr ⟨lw_p169, List.forall_mem_cons.mpr ⟨lw_p170, List.forall_mem_cons.mpr ⟨lw_p171, List.forall_mem_cons.mpr ⟨lw_p172, List.forall_mem_cons.mpr ⟨lw_p173, List.forall_mem_cons.mpr ⟨lw_p174, List.forall_mem_cons.mpr ⟨lw_p175, fun _ h => absurd h List.not_mem_nil⟩⟩⟩⟩⟩⟩⟩⟩⟩⟩⟩⟩⟩⟩⟩⟩
theorem lw_p176 : lw_okq (⟨"PocketCompilerModel", "isTape", "(II)Z"⟩, 124) := ⟨⟨by decide +kernel, by decide +kernel⟩, List.mem_of_getElem? (i := 1955) (by decide +kernel), List.mem_of_getElem? (i := 2715) (by decide +kernel), List.mem_of_getElem? (i := 2716) (by decide +kernel)⟩
theorem lw_p177 : lw_okq (⟨"PocketCompilerModel", "doStep", "()V"⟩, 124) := ⟨⟨by decide +kernel, by decide +kernel⟩, List.mem_of_getElem? (i := 1955) (by decide +kernel), List.mem_of_getElem? (i := 2735) (by decide +kernel), List.mem_of_getElem? (i := 2736) (by decide +kernel)⟩
theorem lw_p178 : lw_okq (⟨"PocketCompilerModel", "isIn", "(II)Z"⟩, 124) := ⟨⟨by decide +kernel, by decide +kernel⟩, List.mem_of_getElem? (i := 1955) (by decide +kernel), List.mem_of_getElem? (i := 2739) (by decide +kernel), List.mem_of_getElem? (i := 2740) (by decide +kernel)⟩
theorem lw_p179 : lw_okq (⟨"PocketCompilerModel", "goes", "(II)V"⟩, 124) := ⟨⟨by decide +kernel, by decide +kernel⟩, List.mem_of_getElem? (i := 1955) (by decide +kernel), List.mem_of_getElem? (i := 2745) (by decide +kernel), List.mem_of_getElem? (i := 2746) (by decide +kernel)⟩
theorem lw_p180 : lw_okq (⟨"PocketCompilerModel", "jumps", "(II)V"⟩, 124) := ⟨⟨by decide +kernel, by decide +kernel⟩, List.mem_of_getElem? (i := 1955) (by decide +kernel), List.mem_of_getElem? (i := 2752) (by decide +kernel), List.mem_of_getElem? (i := 2753) (by decide +kernel)⟩
theorem lw_p181 : lw_okq (⟨"PocketCompilerModel", "branches", "(IIII)V"⟩, 124) := ⟨⟨by decide +kernel, by decide +kernel⟩, List.mem_of_getElem? (i := 1955) (by decide +kernel), List.mem_of_getElem? (i := 2756) (by decide +kernel), List.mem_of_getElem? (i := 2757) (by decide +kernel)⟩
theorem lw_p182 : lw_okq (⟨"PocketCompilerModel", "reads", "(IIII)V"⟩, 124) := ⟨⟨by decide +kernel, by decide +kernel⟩, List.mem_of_getElem? (i := 1955) (by decide +kernel), List.mem_of_getElem? (i := 2764) (by decide +kernel), List.mem_of_getElem? (i := 2765) (by decide +kernel)⟩
theorem lw_p183 : lw_okq (⟨"PocketCompilerModel", "byteAt", "(I)I"⟩, 124) := ⟨⟨by decide +kernel, by decide +kernel⟩, List.mem_of_getElem? (i := 1955) (by decide +kernel), List.mem_of_getElem? (i := 2768) (by decide +kernel), List.mem_of_getElem? (i := 2769) (by decide +kernel)⟩
theorem lw_p184 : lw_okq (⟨"PocketCompilerModel", "writes", "(III)V"⟩, 124) := ⟨⟨by decide +kernel, by decide +kernel⟩, List.mem_of_getElem? (i := 1955) (by decide +kernel), List.mem_of_getElem? (i := 2772) (by decide +kernel), List.mem_of_getElem? (i := 2773) (by decide +kernel)⟩
theorem lw_p185 : lw_okq (⟨"PocketCompilerModel", "setByte", "(II)V"⟩, 124) := ⟨⟨by decide +kernel, by decide +kernel⟩, List.mem_of_getElem? (i := 1955) (by decide +kernel), List.mem_of_getElem? (i := 2776) (by decide +kernel), List.mem_of_getElem? (i := 2777) (by decide +kernel)⟩
theorem lw_p186 : lw_okq (⟨"PocketCompilerModel", "byNumber", "(IIII)V"⟩, 124) := ⟨⟨by decide +kernel, by decide +kernel⟩, List.mem_of_getElem? (i := 1955) (by decide +kernel), List.mem_of_getElem? (i := 2780) (by decide +kernel), List.mem_of_getElem? (i := 2781) (by decide +kernel)⟩
theorem lw_p187 : lw_okq (⟨"PocketCompilerModel", "byRegister", "(IIIII)V"⟩, 124) := ⟨⟨by decide +kernel, by decide +kernel⟩, List.mem_of_getElem? (i := 1955) (by decide +kernel), List.mem_of_getElem? (i := 2787) (by decide +kernel), List.mem_of_getElem? (i := 2788) (by decide +kernel)⟩
theorem lw_p188 : lw_okq (⟨"PocketCompilerModel", "calls", "(I)V"⟩, 124) := ⟨⟨by decide +kernel, by decide +kernel⟩, List.mem_of_getElem? (i := 1955) (by decide +kernel), List.mem_of_getElem? (i := 2791) (by decide +kernel), List.mem_of_getElem? (i := 2792) (by decide +kernel)⟩
theorem lw_p189 : lw_okq (⟨"PocketCompilerModel", "words", "(Ljava/lang/String;)V"⟩, 124) := ⟨⟨by decide +kernel, by decide +kernel⟩, List.mem_of_getElem? (i := 1955) (by decide +kernel), List.mem_of_getElem? (i := 2874) (by decide +kernel), List.mem_of_getElem? (i := 2875) (by decide +kernel)⟩
theorem lw_p190 : lw_okq (⟨"PocketCompilerModel", "sign0", "(I)V"⟩, 124) := ⟨⟨by decide +kernel, by decide +kernel⟩, List.mem_of_getElem? (i := 1955) (by decide +kernel), List.mem_of_getElem? (i := 2878) (by decide +kernel), List.mem_of_getElem? (i := 2879) (by decide +kernel)⟩
theorem lw_p191 : lw_okq (⟨"PocketCompilerModel", "named", "(I)V"⟩, 124) := ⟨⟨by decide +kernel, by decide +kernel⟩, List.mem_of_getElem? (i := 1955) (by decide +kernel), List.mem_of_getElem? (i := 2883) (by decide +kernel), List.mem_of_getElem? (i := 2884) (by decide +kernel)⟩
def lw_privs_12 : List (MethodName × Nat) := [(⟨"PocketCompilerModel", "isTape", "(II)Z"⟩, 124), (⟨"PocketCompilerModel", "doStep", "()V"⟩, 124), (⟨"PocketCompilerModel", "isIn", "(II)Z"⟩, 124), (⟨"PocketCompilerModel", "goes", "(II)V"⟩, 124), (⟨"PocketCompilerModel", "jumps", "(II)V"⟩, 124), (⟨"PocketCompilerModel", "branches", "(IIII)V"⟩, 124), (⟨"PocketCompilerModel", "reads", "(IIII)V"⟩, 124), (⟨"PocketCompilerModel", "byteAt", "(I)I"⟩, 124), (⟨"PocketCompilerModel", "writes", "(III)V"⟩, 124), (⟨"PocketCompilerModel", "setByte", "(II)V"⟩, 124), (⟨"PocketCompilerModel", "byNumber", "(IIII)V"⟩, 124), (⟨"PocketCompilerModel", "byRegister", "(IIIII)V"⟩, 124), (⟨"PocketCompilerModel", "calls", "(I)V"⟩, 124), (⟨"PocketCompilerModel", "words", "(Ljava/lang/String;)V"⟩, 124), (⟨"PocketCompilerModel", "sign0", "(I)V"⟩, 124), (⟨"PocketCompilerModel", "named", "(I)V"⟩, 124)]
theorem lw_r12 : ∀ q ∈ lw_privs_12, lw_okq q := List.forall_mem_cons.mpr ⟨lw_p176, List.forall_mem_cons.mpr ⟨lw_p177, List.forall_mem_cons.mpr ⟨lw_p178, List.forall_mem_cons.mpr ⟨lw_p179, List.forall_mem_cons.mpr ⟨lw_p180, List.forall_mem_cons.mpr ⟨lw_p181, List.forall_mem_cons.mpr ⟨lw_p182, List.forall_mem_cons.mpr ⟨lw_p183, List.forall_mem_cons.mpr ⟨lw_p184, List.forall_mem_cons.mpr ⟨lw_p185, List.forall_mem_cons.mpr ⟨lw_p186, List.forall_mem_cons.mpr ⟨lw_p187, List.forall_mem_cons.mpr ⟨lw_p188, List.forall_mem_cons.mpr ⟨lw_p189, List.forall_mem_cons.mpr ⟨lw_p190, List.forall_mem_cons.mpr ⟨lw_p191, fun _ h => absurd h List.not_mem_nil⟩⟩⟩⟩⟩⟩⟩⟩⟩⟩⟩⟩⟩⟩⟩⟩
theorem lw_p192 : lw_okq (⟨"PocketCompilerModel", "decimal", "(I)V"⟩, 124) := ⟨⟨by decide +kernel, by decide +kernel⟩, List.mem_of_getElem? (i := 1955) (by decide +kernel), List.mem_of_getElem? (i := 2887) (by decide +kernel), List.mem_of_getElem? (i := 2888) (by decide +kernel)⟩
theorem lw_p193 : lw_okq (⟨"PocketCompilerModel", "comma", "()V"⟩, 124) := ⟨⟨by decide +kernel, by decide +kernel⟩, List.mem_of_getElem? (i := 1955) (by decide +kernel), List.mem_of_getElem? (i := 2891) (by decide +kernel), List.mem_of_getElem? (i := 2892) (by decide +kernel)⟩
theorem lw_p194 : lw_okq (⟨"PocketCompilerModel", "at", "(II)V"⟩, 124) := ⟨⟨by decide +kernel, by decide +kernel⟩, List.mem_of_getElem? (i := 1955) (by decide +kernel), List.mem_of_getElem? (i := 2895) (by decide +kernel), List.mem_of_getElem? (i := 2896) (by decide +kernel)⟩
theorem lw_p195 : lw_okq (⟨"PocketCompilerModel", "three", "(II)V"⟩, 124) := ⟨⟨by decide +kernel, by decide +kernel⟩, List.mem_of_getElem? (i := 1955) (by decide +kernel), List.mem_of_getElem? (i := 2899) (by decide +kernel), List.mem_of_getElem? (i := 2900) (by decide +kernel)⟩
theorem lw_p196 : lw_okq (⟨"PocketCompilerModel", "push", "(I)V"⟩, 124) := ⟨⟨by decide +kernel, by decide +kernel⟩, List.mem_of_getElem? (i := 1955) (by decide +kernel), List.mem_of_getElem? (i := 2911) (by decide +kernel), List.mem_of_getElem? (i := 2912) (by decide +kernel)⟩
theorem lw_p197 : lw_okq (⟨"PocketCompilerModel", "enter", "(I)I"⟩, 124) := ⟨⟨by decide +kernel, by decide +kernel⟩, List.mem_of_getElem? (i := 1955) (by decide +kernel), List.mem_of_getElem? (i := 2915) (by decide +kernel), List.mem_of_getElem? (i := 2916) (by decide +kernel)⟩
theorem lw_p198 : lw_okq (⟨"PocketCompilerModel", "turn", "()I"⟩, 124) := ⟨⟨by decide +kernel, by decide +kernel⟩, List.mem_of_getElem? (i := 1955) (by decide +kernel), List.mem_of_getElem? (i := 2919) (by decide +kernel), List.mem_of_getElem? (i := 2920) (by decide +kernel)⟩
theorem lw_p199 : lw_okq (⟨"PocketCompilerModel", "obey", "()I"⟩, 124) := ⟨⟨by decide +kernel, by decide +kernel⟩, List.mem_of_getElem? (i := 1955) (by decide +kernel), List.mem_of_getElem? (i := 2923) (by decide +kernel), List.mem_of_getElem? (i := 2924) (by decide +kernel)⟩
theorem lw_p200 : lw_okq (⟨"PocketCompilerModel", "pop", "()I"⟩, 124) := ⟨⟨by decide +kernel, by decide +kernel⟩, List.mem_of_getElem? (i := 1955) (by decide +kernel), List.mem_of_getElem? (i := 2927) (by decide +kernel), List.mem_of_getElem? (i := 2928) (by decide +kernel)⟩
theorem lw_p201 : lw_okq (⟨"PocketCompilerModel", "leave", "()I"⟩, 124) := ⟨⟨by decide +kernel, by decide +kernel⟩, List.mem_of_getElem? (i := 1955) (by decide +kernel), List.mem_of_getElem? (i := 2931) (by decide +kernel), List.mem_of_getElem? (i := 2932) (by decide +kernel)⟩
theorem lw_p202 : lw_okq (⟨"PocketCompilerModel", "operates", "(I)I"⟩, 124) := ⟨⟨by decide +kernel, by decide +kernel⟩, List.mem_of_getElem? (i := 1955) (by decide +kernel), List.mem_of_getElem? (i := 2935) (by decide +kernel), List.mem_of_getElem? (i := 2936) (by decide +kernel)⟩
theorem lw_p203 : lw_okq (⟨"PocketCompilerModel", "others", "(II)V"⟩, 124) := ⟨⟨by decide +kernel, by decide +kernel⟩, List.mem_of_getElem? (i := 1955) (by decide +kernel), List.mem_of_getElem? (i := 2942) (by decide +kernel), List.mem_of_getElem? (i := 2943) (by decide +kernel)⟩
def lw_privs_13 : List (MethodName × Nat) := [(⟨"PocketCompilerModel", "decimal", "(I)V"⟩, 124), (⟨"PocketCompilerModel", "comma", "()V"⟩, 124), (⟨"PocketCompilerModel", "at", "(II)V"⟩, 124), (⟨"PocketCompilerModel", "three", "(II)V"⟩, 124), (⟨"PocketCompilerModel", "push", "(I)V"⟩, 124), (⟨"PocketCompilerModel", "enter", "(I)I"⟩, 124), (⟨"PocketCompilerModel", "turn", "()I"⟩, 124), (⟨"PocketCompilerModel", "obey", "()I"⟩, 124), (⟨"PocketCompilerModel", "pop", "()I"⟩, 124), (⟨"PocketCompilerModel", "leave", "()I"⟩, 124), (⟨"PocketCompilerModel", "operates", "(I)I"⟩, 124), (⟨"PocketCompilerModel", "others", "(II)V"⟩, 124)]
theorem lw_r13 : ∀ q ∈ lw_privs_13, lw_okq q := List.forall_mem_cons.mpr ⟨lw_p192, List.forall_mem_cons.mpr ⟨lw_p193, List.forall_mem_cons.mpr ⟨lw_p194, List.forall_mem_cons.mpr ⟨lw_p195, List.forall_mem_cons.mpr ⟨lw_p196, List.forall_mem_cons.mpr ⟨lw_p197, List.forall_mem_cons.mpr ⟨lw_p198, List.forall_mem_cons.mpr ⟨lw_p199, List.forall_mem_cons.mpr ⟨lw_p200, List.forall_mem_cons.mpr ⟨lw_p201, List.forall_mem_cons.mpr ⟨lw_p202, List.forall_mem_cons.mpr ⟨lw_p203, fun _ h => absurd h List.not_mem_nil⟩⟩⟩⟩⟩⟩⟩⟩⟩⟩⟩⟩
def lw_privs : List (MethodName × Nat) := lw_privs_1 ++ (lw_privs_2 ++ (lw_privs_3 ++ (lw_privs_4 ++ (lw_privs_5 ++ (lw_privs_6 ++ (lw_privs_7 ++ (lw_privs_8 ++ (lw_privs_9 ++ (lw_privs_10 ++ (lw_privs_11 ++ (lw_privs_12 ++ (lw_privs_13))))))))))))
def lw_tbl : List Cond := k2_sels lw_privs ++ tables_1
theorem lw_privs_ok : ∀ q ∈ lw_privs, lw_okq q := by
  show ∀ q ∈ lw_privs_1 ++ (lw_privs_2 ++ (lw_privs_3 ++ (lw_privs_4 ++ (lw_privs_5 ++ (lw_privs_6 ++ (lw_privs_7 ++ (lw_privs_8 ++ (lw_privs_9 ++ (lw_privs_10 ++ (lw_privs_11 ++ (lw_privs_12 ++ (lw_privs_13)))))))))))), lw_okq q
  exact List.forall_mem_append.mpr ⟨lw_r1, List.forall_mem_append.mpr ⟨lw_r2, List.forall_mem_append.mpr ⟨lw_r3, List.forall_mem_append.mpr ⟨lw_r4, List.forall_mem_append.mpr ⟨lw_r5, List.forall_mem_append.mpr ⟨lw_r6, List.forall_mem_append.mpr ⟨lw_r7, List.forall_mem_append.mpr ⟨lw_r8, List.forall_mem_append.mpr ⟨lw_r9, List.forall_mem_append.mpr ⟨lw_r10, List.forall_mem_append.mpr ⟨lw_r11, List.forall_mem_append.mpr ⟨lw_r12, lw_r13⟩⟩⟩⟩⟩⟩⟩⟩⟩⟩⟩⟩
-- ===== end of PART A; then your names; then what follows =====
end
section
/-! the word 'somebody has made an array of arrays of this type', kept under calls (my own; the printed rows below ask for it) -/
def va_AOA (ty : FieldType) (U : State) : Prop := (Cond.arrayOver (.array ty)).before #[] U = true
theorem va_AOA.of {ty : FieldType} {A : Array Value} {U : State} (h : (Cond.arrayOver (.array ty)).before A U = true) : va_AOA ty U := h
theorem va_AOA.use {ty : FieldType} {A : Array Value} {U : State} (h : va_AOA ty U) : (Cond.arrayOver (.array ty)).before A U = true := h
theorem va_AOA.moved {ty : FieldType} {u U : State} (hvm : u.vm.Alike U.vm) (h : va_AOA ty u) : va_AOA ty U := arrayOver_alikeB (s := u) hvm h
/-! ===== BEGIN words of one list among another's, by their places ===== -/
theorem goodIn_r {big : List Cond} (ws : List Cond) (ps : List Nat) (hp : ws = ps.filterMap (fun i => big[i]?)) (h : ws.all goodWord = true) : GoodIn big ws := by
  intro w hw
  have h1 := List.all_eq_true.mp h w hw
  rw [hp] at hw
  obtain ⟨i, -, hi⟩ := List.mem_filterMap.mp hw
  have hm : w ∈ big := by first | exact List.mem_of_getElem? hi | exact List.getElem?_mem hi
  exact ⟨hm, good_of_word h1⟩
theorem goodIn_app {big a b : List Cond} (ha : GoodIn big a) (hb : GoodIn big b) : GoodIn big (a ++ b) := fun w h => (List.mem_append.mp h).elim (ha w) (hb w)
theorem goodIn_ca {big a b : List Cond} {c : Cond} (ha : GoodIn big (c :: a)) (hb : GoodIn big b) : GoodIn big (c :: (a ++ b)) := fun w h => (List.mem_cons.mp h).elim (fun e => ha w (List.mem_cons.mpr (Or.inl e))) (fun h => (List.mem_append.mp h).elim (fun h => ha w (List.mem_cons.mpr (Or.inr h))) (hb w))
theorem goodIn_sub {big ws : List Cond} (hm : ∀ w ∈ ws, w ∈ big) (h : ws.all goodWord = true) : GoodIn big ws := fun w hw => ⟨hm w hw, good_of_word (List.all_eq_true.mp h w hw)⟩
/-! ===== END ===== -/

/-! ===== BEGIN new T[n][m]: the outer array a place, the inner ones among the pooled ===== -/
/-- f, but v at every address of l -/
def vr_up {α : Type} (f : Nat → α) (l : List Nat) (v : α) : Nat → α := fun a => if a ∈ l then v else f a
theorem vr_up_in {α : Type} {f : Nat → α} {l : List Nat} {v : α} {a : Nat} (h : a ∈ l) : vr_up f l v a = v := if_pos h
theorem vr_up_ne {α : Type} {f : Nat → α} {l : List Nat} {v : α} {a : Nat} (h : a ∉ l) : vr_up f l v a = f a := if_neg h
theorem vr_rows {L l : List Nat} {f : Nat → va_E} {e : va_E} (h : ∀ a, a ∈ l → a ∉ L) : va_pl L f ++ l.map (fun a => (a, e)) = va_pl (L ++ l) (vr_up f l e) := by
  unfold va_pl
  rw [List.map_append]
  congr 1
  · apply List.map_congr_left
    intro a ha
    rw [vr_up_ne (fun q => h a q ha)]
  · apply List.map_congr_left
    intro a ha
    rw [vr_up_in ha]
theorem vr_lay {X rows : va_W} {x : Nat × va_E} {pl : va_W} {D : va_G} {cl : List vw_C} {H : Heap} (hP : va_P D cl (((X ++ pl) ++ [x]) ++ rows) H) : va_P D cl ((X ++ [x]) ++ (pl ++ rows)) H := by
  rw [List.append_assoc (X ++ pl)] at hP
  have h := va_P.swap hP
  rw [← List.append_assoc X] at h
  have h2 := va_P.swap h
  rw [List.append_assoc (X ++ [x])] at h2
  exact h2
theorem vr_layD {X rows : va_W} {x : Nat × va_E} {pl : va_W} {A : Nat → Prop} (hD : va_D A (((X ++ pl) ++ [x]) ++ rows)) : va_D A ((X ++ [x]) ++ (pl ++ rows)) := by
  rw [List.append_assoc (X ++ pl)] at hD
  have h := va_D.swap hD
  rw [← List.append_assoc X] at h
  have h2 := va_D.swap h
  rw [List.append_assoc (X ++ [x])] at h2
  exact h2
theorem vr_outer (c : ClassId) (N h0 : Nat) : ∀ i : Nat, Jvm.Free.Multi.outerC c N h0 i = arrV c N (fun j => va_rf (if j < i then some (h0 + 1 + j) else none))
  | 0 => by
    show ({ cls := c, slots := Array.replicate N .null, vm := .none } : Cell) = _
    rw [arrV_new]
    refine congrArg (arrV c N) (funext fun j => ?_)
    simp [va_rf]
  | i + 1 => by
    show (Jvm.Free.Multi.outerC c N h0 i).setSlot i (.ref (h0 + 1 + i)) = _
    rw [vr_outer c N h0 i, arrV_store]
    refine congrArg (arrV c N) (funext fun j => ?_)
    by_cases e : j = i
    · subst e
      simp [updV, va_rf]
    · by_cases h : j < i
      · simp [updV, e, h, Nat.lt_succ_of_lt h]
      · simp [updV, e, h, show ¬ j < i + 1 by omega]
section VGM
variable {p : Program} {l : Launch} {e : Env} {R : Room} {s : State} {m : MethodId} {args : Array Value} {below : List Frame} {meth : Method} {c : Code} {H : Heap} {locs : List Loc} {cells slots : Nat} {Q : State → Prop}
variable {cc : ByteArray} {pc : Nat} {ls : Array Slot} {rest : List Value} {D : va_G} {cl : List vw_C} {A : Nat → Prop} {a : Nat} {tys : List (ClassId × FieldType)} {ws : va_W} {H0 : Heap}
theorem va_mna {X : va_W} {L : List Nat} {f : Nat → va_E} {cc : ByteArray} (hexec : p.tables.exec = Jvm.exec) (hb : c.code = cc) {own : String} {index : Nat} {ty : FieldType} {cy : ClassId} (hown : s.vm.findClass own = some m.cls) (hclink : (Cond.classLink own index ("[" ++ (FieldType.array ty).toString)).before args s = true) (hover : va_AOA ty s) (harr : (Cond.arrayClass ty).before args s = true) (hcy : s.vm.findClass (FieldType.array ty).toString = some cy)
    (hK : va_K D cl tys s) (hP : va_P D cl (X ++ va_pl L f) H) (hD : va_D A (X ++ va_pl L f)) (hS : va_S A H0 H locs) (hA : ∀ q, H0.size ≤ q → A q) {n k : Int32} {N' K' : Nat} {z : vp_A} (hn : ¬ n < 0) (hk : ¬ k < 0) (hN : n.toNatClampNeg = N') (hM : k.toNatClampNeg = K')
    (hb1 : N' * 4 ≤ 536870912) (hb2 : K' * componentBytes ty ≤ 536870912) (hb3 : K' ≤ 536870912) (hdf : fits ty (defaultValue ty) = true) (hdd : (defaultValue ty).isDefault = true) (hcells : cells + (1 + N') ≤ R.cells) (hslots : slots + (N' + N' * K') ≤ R.slots) (hz : ∀ c : ClassId, Jvm.Free.Multi.innerC c K' (defaultValue ty) = vp_cell c z) (hdg : decode cc pc = .ok (.multianewarray index 2, 4))
    (kk : ∀ (q : Nat) (r : Nat → Nat) (cA : ClassId) (H1 : Heap), (∀ i j : Nat, i < N' → j < N' → r i = r j → i = j) → (∀ i : Nat, i < N' → r i ∉ L) → va_K D cl (tys ++ [(cA, .array ty)]) s →
      va_P D cl ((X ++ [(q, .inl (cA, N', .inr (.inr (.inr (.inr (fun i => if i < N' then some (r i) else none))))))]) ++ va_pl (L ++ (List.range N').map r) (vr_up f ((List.range N').map r) (.inl (cy, z)))) H1 → va_D A ((X ++ [(q, .inl (cA, N', .inr (.inr (.inr (.inr (fun i => if i < N' then some (r i) else none))))))]) ++ va_pl (L ++ (List.range N').map r) (vr_up f ((List.range N').map r) (.inl (cy, z)))) → va_S A H0 H1 locs →
      W p l e R s m args below meth c H1 locs (cells + 1 + N') (slots + N' + N' * K') Q (F0 m (pc + 4) ls (.ref q :: rest))) : W p l e R s m args below meth c H locs cells slots Q (F0 m pc ls (.int k :: .int n :: rest)) := by
  subst hN
  subst hM
  intro T hT Xs
  obtain ⟨vm₁, cA, comp, -, fA, fC, hO, -, X', step⟩ := Xs.multianewarray2F hexec hown hclink (va_AOA.use hover) harr (g := F0 m pc ls (.int k :: .int n :: rest)) rfl (by rw [hb]; exact hdg) rfl hn hk hb1 hb2 hb3 hdf hdd hcells hslots
  have ec : some cy = some comp := hcy.symm.trans fC
  cases ec
  generalize hF : Jvm.Free.Multi.fill (T.setVm vm₁) cA cy n.toNatClampNeg k.toNatClampNeg (defaultValue ty) n.toNatClampNeg = F at X' step
  have hTh : (T.setVm vm₁).heap = H := hT
  obtain ⟨f1, f2, -, -⟩ := Jvm.Free.Multi.fill_facts (T.setVm vm₁) cA cy n.toNatClampNeg k.toNatClampNeg (defaultValue ty) n.toNatClampNeg
  rw [hF, hTh] at f1 f2
  have hold : ∀ x : Nat, x < H.size → F.heap[x]? = H[x]? := fun x hx => by
    have := Jvm.Free.Multi.fill_old (T.setVm vm₁) cA cy n.toNatClampNeg k.toNatClampNeg (defaultValue ty) (a := x) (by rw [hTh]; exact hx) n.toNatClampNeg
    rw [hF, hTh] at this
    exact this
  have hrow : ∀ j : Nat, j < n.toNatClampNeg → F.heap[H.size + 1 + j]? = some (vp_cell cy z) := fun j hj => by
    have := Jvm.Free.Multi.fill_inner (T.setVm vm₁) cA cy n.toNatClampNeg k.toNatClampNeg (defaultValue ty) n.toNatClampNeg j hj
    rw [hF, hTh, hz] at this
    exact this
  have hout : Jvm.Free.Multi.outerC cA n.toNatClampNeg H.size n.toNatClampNeg = vp_cell cA (n.toNatClampNeg, .inr (.inr (.inr (.inr (fun i => if i < n.toNatClampNeg then some (H.size + 1 + i) else none))))) := by
    rw [vp_cell_q]
    exact vr_outer cA n.toNatClampNeg H.size n.toNatClampNeg
  rw [hout] at f2
  have hlt : ∀ a, a ∈ L → a < H.size := fun a ha => by
    obtain ⟨k9, hk9⟩ := va_pl_get (X := X) (f := f) ha
    exact (hP k9 _ hk9).lt
  have hnl : ∀ i : Nat, i < n.toNatClampNeg → H.size + 1 + i ∉ L := fun i _ h => by
    have := hlt _ h
    omega
  have hnm : ∀ a, a ∈ (List.range n.toNatClampNeg).map (fun i => H.size + 1 + i) → a ∉ L := fun a ha h => by
    obtain ⟨i, -, rfl⟩ := List.mem_map.mp ha
    have := hlt _ h
    omega
  have hP0 : va_P D cl (X ++ va_pl L f) F.heap := hP.kept (fun k9 x hx => hold x.1 ((hP k9 x hx).lt))
  have hP1 : va_P D cl ((X ++ va_pl L f) ++ [(H.size, .inl (cA, n.toNatClampNeg, .inr (.inr (.inr (.inr (fun i => if i < n.toNatClampNeg then some (H.size + 1 + i) else none))))))]) F.heap := hP0.app (fun k9 x hx => by
    have h0 : k9 < 1 := (List.getElem?_eq_some_iff.mp hx).1
    rw [show k9 = 0 by omega] at hx
    cases hx
    exact f2)
  have hP2 : va_P D cl (((X ++ va_pl L f) ++ [(H.size, .inl (cA, n.toNatClampNeg, .inr (.inr (.inr (.inr (fun i => if i < n.toNatClampNeg then some (H.size + 1 + i) else none))))))]) ++ ((List.range n.toNatClampNeg).map (fun i => H.size + 1 + i)).map (fun a => (a, .inl (cy, z)))) F.heap := hP1.app (fun k9 x hx => by
    obtain ⟨a, ha, rfl⟩ := List.mem_map.mp (List.mem_of_getElem? hx)
    obtain ⟨i, hi, rfl⟩ := List.mem_map.mp ha
    exact hrow i (List.mem_range.mp hi))
  have hD2 : va_D A (((X ++ va_pl L f) ++ [(H.size, .inl (cA, n.toNatClampNeg, .inr (.inr (.inr (.inr (fun i => if i < n.toNatClampNeg then some (H.size + 1 + i) else none))))))]) ++ ((List.range n.toNatClampNeg).map (fun i => H.size + 1 + i)).map (fun a => (a, .inl (cy, z)))) := by
    have hD1 := hD.push (e := .inl (cA, n.toNatClampNeg, .inr (.inr (.inr (.inr (fun i => if i < n.toNatClampNeg then some (H.size + 1 + i) else none)))))) hP rfl (hA _ hS.1)
    generalize hW1 : (X ++ va_pl L f) ++ [(H.size, .inl (cA, n.toNatClampNeg, .inr (.inr (.inr (.inr (fun i => if i < n.toNatClampNeg then some (H.size + 1 + i) else none))))))] = W1 at hD1 hP1 ⊢
    have hle : ∀ (k9 : Nat) (x : Nat × va_E), W1[k9]? = some x → x.1 ≤ H.size := fun k9 x hx => by
      rw [← hW1] at hx
      by_cases hl : k9 < (X ++ va_pl L f).length
      · rw [List.getElem?_append_left hl] at hx
        exact Nat.le_of_lt ((hP k9 x hx).lt)
      · rw [List.getElem?_append_right (by omega)] at hx
        have h0 : k9 - (X ++ va_pl L f).length < 1 := (List.getElem?_eq_some_iff.mp hx).1
        rw [show k9 - (X ++ va_pl L f).length = 0 by omega] at hx
        cases hx
        exact Nat.le_refl _
    have hr : ∀ (k9 : Nat) (x : Nat × va_E), (((List.range n.toNatClampNeg).map (fun i => H.size + 1 + i)).map (fun a => ((a, .inl (cy, z)) : Nat × va_E)))[k9]? = some x → x.1 = H.size + 1 + k9 := fun k9 x hx => by
      rw [List.getElem?_map, List.getElem?_map] at hx
      by_cases h9 : k9 < n.toNatClampNeg
      · rw [List.getElem?_range h9] at hx
        cases hx
        rfl
      · have hn0 : (List.range n.toNatClampNeg)[k9]? = none := List.getElem?_eq_none (by rw [List.length_range]; omega)
        rw [hn0] at hx
        cases hx
    refine ⟨fun i j x y hi hj hxy => ?_, fun k9 x hx => ?_⟩
    · by_cases h1 : i < W1.length <;> by_cases h2 : j < W1.length
      · rw [List.getElem?_append_left h1] at hi
        rw [List.getElem?_append_left h2] at hj
        exact hD1.1 i j x y hi hj hxy
      · rw [List.getElem?_append_left h1] at hi
        rw [List.getElem?_append_right (by omega)] at hj
        have := hle _ _ hi
        have := hr _ _ hj
        omega
      · rw [List.getElem?_append_right (by omega)] at hi
        rw [List.getElem?_append_left h2] at hj
        have := hle _ _ hj
        have := hr _ _ hi
        omega
      · rw [List.getElem?_append_right (by omega)] at hi hj
        have := hr _ _ hi
        have := hr _ _ hj
        omega
    · by_cases h1 : k9 < W1.length
      · rw [List.getElem?_append_left h1] at hx
        exact hD1.2 k9 x hx
      · rw [List.getElem?_append_right (by omega)] at hx
        have := hr _ _ hx
        exact hA _ (by have := hS.1; omega)
  have hAr : ArrOfT s cA (.array ty) := fun N9 z9 => by
    obtain ⟨-, k9, hk9, cm9, hkk9⟩ := (hO 0 0 0).1
    exact ⟨(fun q hq => by cases hq), k9, hk9, cm9, hkk9⟩
  have hK2 : va_K D cl (tys ++ [(cA, .array ty)]) s := ⟨hK.1, fun k9 x hx => by
    by_cases hl : k9 < tys.length
    · rw [List.getElem?_append_left hl] at hx
      exact hK.2 k9 x hx
    · rw [List.getElem?_append_right (by omega)] at hx
      have h0 : k9 - tys.length < 1 := (List.getElem?_eq_some_iff.mp hx).1
      rw [show k9 - tys.length = 0 by omega] at hx
      cases hx
      exact ⟨hAr, fA⟩⟩
  obtain ⟨t, a1, b1⟩ := kk H.size (fun i => H.size + 1 + i) cA F.heap (fun i j _ _ h => by have h9 : H.size + 1 + i = H.size + 1 + j := h; omega) hnl hK2 (by rw [← vr_rows hnm]; exact vr_lay hP2) (by rw [← vr_rows hnm]; exact vr_layD hD2) ⟨by rw [f1]; have := hS.1; omega, fun x h1 h2 => (hold x (Nat.lt_of_lt_of_le h1 hS.1)).trans (hS.2.1 x h1 h2), hS.2.2⟩ F rfl X'
  refine ⟨t, step t ?_, b1⟩
  have e : T.heap.size = H.size := by rw [hT]
  rw [e]
  exact a1
end VGM
/-! ===== END ===== -/
end
section
/-! ===== BEGIN printed: names, fields, word lists, decode rows ===== -/
def RX0 : String := "PocketCompiler$Assembler"
def TX0 : u_T := fun k => match k with
  | 0 => ("PocketCompiler$Assembler", "program", "LPocketCompiler$Program;", false)
  | 1 => ("PocketCompiler$Assembler", "memoryBytes", "I", true)
  | 2 => ("PocketCompiler$Assembler", "addresses", "[I", true)
  | 3 => ("PocketCompiler$Assembler", "size", "I", false)
  | 4 => ("PocketCompiler$Assembler", "isWriting", "Z", false)
  | 5 => ("PocketCompiler$Assembler", "hasTimes", "Z", false)
  | 6 => ("PocketCompiler$Assembler", "hasOver", "Z", false)
  | 7 => ("PocketCompiler$Assembler", "timesAddress", "I", false)
  | _ => ("PocketCompiler$Assembler", "overAddress", "I", false)
def tyX0 : Nat → FieldType := fun k => match k with
  | 0 => .object "PocketCompiler$Program"
  | 1 => .int
  | 2 => .array .int
  | 3 => .int
  | 4 => .boolean
  | 5 => .boolean
  | 6 => .boolean
  | 7 => .int
  | _ => .int
abbrev wsX00 : List Cond := u_ws RX0 TX0 9
theorem nmX0 : ∀ a, a < 9 → ∀ b, b < 9 → a ≠ b → (TX0 a).2.1 ≠ (TX0 b).2.1 := by decide +kernel
theorem tyX0_ok : ∀ k, k < 9 → parseFieldDescriptor (TX0 k).2.2.1 = some (tyX0 k) := by decide +kernel
abbrev cX0_init : ByteArray := prog_2_method_1_code
def yX0_init : MethodName := ⟨RX0, "<init>", "(LPocketCompiler$Program;I)V"⟩
abbrev cX0_assemble : ByteArray := prog_2_method_2_code
def yX0_assemble : MethodName := ⟨RX0, "assemble", "(LPocketCompiler$Program;)Z"⟩
abbrev cX0_layAll : ByteArray := prog_2_method_3_code
def yX0_layAll : MethodName := ⟨RX0, "layAll", "()V"⟩
abbrev cX0_placeGlobals : ByteArray := prog_2_method_4_code
def yX0_placeGlobals : MethodName := ⟨RX0, "placeGlobals", "()V"⟩
abbrev cX0_emit : ByteArray := prog_2_method_5_code
def yX0_emit : MethodName := ⟨RX0, "emit", "(I)V"⟩
abbrev cX0_immediate : ByteArray := prog_2_method_6_code
def yX0_immediate : MethodName := ⟨RX0, "immediate", "(IIII)V"⟩
abbrev cX0_three : ByteArray := prog_2_method_7_code
def yX0_three : MethodName := ⟨RX0, "three", "(IIII)V"⟩
abbrev cX0_storeWord : ByteArray := prog_2_method_8_code
def yX0_storeWord : MethodName := ⟨RX0, "storeWord", "(III)V"⟩
abbrev cX0_branch : ByteArray := prog_2_method_9_code
def yX0_branch : MethodName := ⟨RX0, "branch", "(IIII)V"⟩
abbrev cX0_upper : ByteArray := prog_2_method_10_code
def yX0_upper : MethodName := ⟨RX0, "upper", "(II)V"⟩
abbrev cX0_jump : ByteArray := prog_2_method_11_code
def yX0_jump : MethodName := ⟨RX0, "jump", "(II)V"⟩
abbrev cX0_halt : ByteArray := prog_2_method_12_code
def yX0_halt : MethodName := ⟨RX0, "halt", "(I)V"⟩
abbrev cX0_outside : ByteArray := prog_2_method_13_code
def yX0_outside : MethodName := ⟨RX0, "outside", "(I)V"⟩
abbrev cX0_high : ByteArray := prog_2_method_14_code
def yX0_high : MethodName := ⟨RX0, "high", "(I)I"⟩
abbrev cX0_low : ByteArray := prog_2_method_15_code
def yX0_low : MethodName := ⟨RX0, "low", "(I)I"⟩
abbrev cX0_fromFrame : ByteArray := prog_2_method_16_code
def yX0_fromFrame : MethodName := ⟨RX0, "fromFrame", "(I)I"⟩
abbrev cX0_loadSlot : ByteArray := prog_2_method_17_code
def yX0_loadSlot : MethodName := ⟨RX0, "loadSlot", "(II)V"⟩
abbrev cX0_storeSlot : ByteArray := prog_2_method_18_code
def yX0_storeSlot : MethodName := ⟨RX0, "storeSlot", "(I)V"⟩
abbrev cX0_addressOfGlobal : ByteArray := prog_2_method_19_code
def yX0_addressOfGlobal : MethodName := ⟨RX0, "addressOfGlobal", "(I)I"⟩
abbrev cX0_addressOfDeed : ByteArray := prog_2_method_20_code
def yX0_addressOfDeed : MethodName := ⟨RX0, "addressOfDeed", "(I)I"⟩
abbrev cX0_lay : ByteArray := prog_2_method_21_code
def yX0_lay : MethodName := ⟨RX0, "lay", "(III)V"⟩
abbrev cX0_layEnter : ByteArray := prog_2_method_22_code
def yX0_layEnter : MethodName := ⟨RX0, "layEnter", "(I)V"⟩
abbrev cX0_layLeave : ByteArray := prog_2_method_23_code
def yX0_layLeave : MethodName := ⟨RX0, "layLeave", "()V"⟩
abbrev cX0_layNumber : ByteArray := prog_2_method_24_code
def yX0_layNumber : MethodName := ⟨RX0, "layNumber", "(I)V"⟩
abbrev cX0_layPlace : ByteArray := prog_2_method_25_code
def yX0_layPlace : MethodName := ⟨RX0, "layPlace", "(III)V"⟩
abbrev cX0_layIndex : ByteArray := prog_2_method_26_code
def yX0_layIndex : MethodName := ⟨RX0, "layIndex", "(II)V"⟩
abbrev cX0_layJump : ByteArray := prog_2_method_27_code
def yX0_layJump : MethodName := ⟨RX0, "layJump", "(II)V"⟩
abbrev cX0_layCall : ByteArray := prog_2_method_28_code
def yX0_layCall : MethodName := ⟨RX0, "layCall", "(II)V"⟩
abbrev cX0_laySign : ByteArray := prog_2_method_29_code
def yX0_laySign : MethodName := ⟨RX0, "laySign", "(I)V"⟩
abbrev cX0_layComparison : ByteArray := prog_2_method_30_code
def yX0_layComparison : MethodName := ⟨RX0, "layComparison", "(I)V"⟩
abbrev cX0_layTimes : ByteArray := prog_2_method_31_code
def yX0_layTimes : MethodName := ⟨RX0, "layTimes", "()V"⟩
abbrev cX0_layOver : ByteArray := prog_2_method_32_code
def yX0_layOver : MethodName := ⟨RX0, "layOver", "()V"⟩
def RX1 : String := "PocketCompiler$Builder"
def TX1 : u_T := fun k => match k with
  | 0 => ("PocketCompiler$Builder", "program", "LPocketCompiler$Program;", false)
  | 1 => ("PocketCompiler$Builder", "known", "[I", true)
  | 2 => ("PocketCompiler$Builder", "knownCount", "I", false)
  | 3 => ("PocketCompiler$Builder", "blockStart", "I", false)
  | 4 => ("PocketCompiler$Builder", "putBy", "I", false)
  | 5 => ("PocketCompiler$Builder", "mostSlots", "I", false)
  | 6 => ("PocketCompiler$Builder", "labels", "[I", true)
  | 7 => ("PocketCompiler$Builder", "labelCount", "I", false)
  | 8 => ("PocketCompiler$Builder", "callNames", "[I", true)
  | 9 => ("PocketCompiler$Builder", "callPlaces", "[I", true)
  | 10 => ("PocketCompiler$Builder", "callArguments", "[I", true)
  | _ => ("PocketCompiler$Builder", "callCount", "I", false)
def tyX1 : Nat → FieldType := fun k => match k with
  | 0 => .object "PocketCompiler$Program"
  | 1 => .array .int
  | 2 => .int
  | 3 => .int
  | 4 => .int
  | 5 => .int
  | 6 => .array .int
  | 7 => .int
  | 8 => .array .int
  | 9 => .array .int
  | 10 => .array .int
  | _ => .int
abbrev wsX10 : List Cond := u_ws RX1 TX1 12
theorem nmX1 : ∀ a, a < 12 → ∀ b, b < 12 → a ≠ b → (TX1 a).2.1 ≠ (TX1 b).2.1 := by decide +kernel
theorem tyX1_ok : ∀ k, k < 12 → parseFieldDescriptor (TX1 k).2.2.1 = some (tyX1 k) := by decide +kernel
abbrev cX1_init : ByteArray := prog_3_method_1_code
def yX1_init : MethodName := ⟨RX1, "<init>", "(LPocketCompiler$Program;)V"⟩
abbrev cX1_begin : ByteArray := prog_3_method_2_code
def yX1_begin : MethodName := ⟨RX1, "begin", "(LPocketCompiler$Program;)V"⟩
abbrev cX1_beginFunction : ByteArray := prog_3_method_3_code
def yX1_beginFunction : MethodName := ⟨RX1, "beginFunction", "()V"⟩
abbrev cX1_frame : ByteArray := prog_3_method_4_code
def yX1_frame : MethodName := ⟨RX1, "frame", "()I"⟩
abbrev cX1_isToldInBlock : ByteArray := prog_3_method_5_code
def yX1_isToldInBlock : MethodName := ⟨RX1, "isToldInBlock", "(I)Z"⟩
abbrev cX1_slotNamed : ByteArray := prog_3_method_6_code
def yX1_slotNamed : MethodName := ⟨RX1, "slotNamed", "(I)I"⟩
abbrev cX1_learn : ByteArray := prog_3_method_7_code
def yX1_learn : MethodName := ⟨RX1, "learn", "(I)V"⟩
abbrev cX1_nextSlot : ByteArray := prog_3_method_8_code
def yX1_nextSlot : MethodName := ⟨RX1, "nextSlot", "()I"⟩
abbrev cX1_wantSlots : ByteArray := prog_3_method_9_code
def yX1_wantSlots : MethodName := ⟨RX1, "wantSlots", "(I)Z"⟩
abbrev cX1_add : ByteArray := prog_3_method_10_code
def yX1_add : MethodName := ⟨RX1, "add", "(III)V"⟩
abbrev cX1_newLabel : ByteArray := prog_3_method_11_code
def yX1_newLabel : MethodName := ⟨RX1, "newLabel", "()I"⟩
abbrev cX1_setLabel : ByteArray := prog_3_method_12_code
def yX1_setLabel : MethodName := ⟨RX1, "setLabel", "(I)V"⟩
abbrev cX1_addCall : ByteArray := prog_3_method_13_code
def yX1_addCall : MethodName := ⟨RX1, "addCall", "(II)I"⟩
abbrev cX1_addArgument : ByteArray := prog_3_method_14_code
def yX1_addArgument : MethodName := ⟨RX1, "addArgument", "(I)V"⟩
abbrev cX1_functionOfCall : ByteArray := prog_3_method_15_code
def yX1_functionOfCall : MethodName := ⟨RX1, "functionOfCall", "(I)I"⟩
abbrev cX1_hasItsArguments : ByteArray := prog_3_method_16_code
def yX1_hasItsArguments : MethodName := ⟨RX1, "hasItsArguments", "(I)Z"⟩
abbrev cX1_placeOfCall : ByteArray := prog_3_method_17_code
def yX1_placeOfCall : MethodName := ⟨RX1, "placeOfCall", "(I)I"⟩
abbrev cX1_link : ByteArray := prog_3_method_18_code
def yX1_link : MethodName := ⟨RX1, "link", "()V"⟩
def RX2 : String := "PocketCompiler$Expressions"
def TX2 : u_T := fun k => match k with
  | 0 => ("PocketCompiler$Expressions", "tokens", "LPocketCompiler$Tokens;", true)
  | 1 => ("PocketCompiler$Expressions", "builder", "LPocketCompiler$Builder;", true)
  | 2 => ("PocketCompiler$Expressions", "signs", "[I", true)
  | 3 => ("PocketCompiler$Expressions", "marks", "[I", true)
  | _ => ("PocketCompiler$Expressions", "top", "I", false)
def tyX2 : Nat → FieldType := fun k => match k with
  | 0 => .object "PocketCompiler$Tokens"
  | 1 => .object "PocketCompiler$Builder"
  | 2 => .array .int
  | 3 => .array .int
  | _ => .int
abbrev wsX20 : List Cond := u_ws RX2 TX2 5
theorem nmX2 : ∀ a, a < 5 → ∀ b, b < 5 → a ≠ b → (TX2 a).2.1 ≠ (TX2 b).2.1 := by decide +kernel
theorem tyX2_ok : ∀ k, k < 5 → parseFieldDescriptor (TX2 k).2.2.1 = some (tyX2 k) := by decide +kernel
abbrev cX2_init : ByteArray := prog_4_method_1_code
def yX2_init : MethodName := ⟨RX2, "<init>", "(LPocketCompiler$Tokens;LPocketCompiler$Builder;)V"⟩
abbrev cX2_begin : ByteArray := prog_4_method_2_code
def yX2_begin : MethodName := ⟨RX2, "begin", "()V"⟩
abbrev cX2_expression : ByteArray := prog_4_method_3_code
def yX2_expression : MethodName := ⟨RX2, "expression", "(Z)V"⟩
abbrev cX2_beginSign : ByteArray := prog_4_method_4_code
def yX2_beginSign : MethodName := ⟨RX2, "beginSign", "(I)V"⟩
abbrev cX2_push : ByteArray := prog_4_method_5_code
def yX2_push : MethodName := ⟨RX2, "push", "(II)V"⟩
abbrev cX2_finishSigns : ByteArray := prog_4_method_6_code
def yX2_finishSigns : MethodName := ⟨RX2, "finishSigns", "(II)V"⟩
abbrev cX2_choice : ByteArray := prog_4_method_7_code
def yX2_choice : MethodName := ⟨RX2, "choice", "()V"⟩
abbrev cX2_operand : ByteArray := prog_4_method_8_code
def yX2_operand : MethodName := ⟨RX2, "operand", "(Z)Z"⟩
abbrev cX2_unary : ByteArray := prog_4_method_9_code
def yX2_unary : MethodName := ⟨RX2, "unary", "(I)V"⟩
abbrev cX2_named : ByteArray := prog_4_method_10_code
def yX2_named : MethodName := ⟨RX2, "named", "(Z)Z"⟩
abbrev cX2_index : ByteArray := prog_4_method_11_code
def yX2_index : MethodName := ⟨RX2, "index", "(I)V"⟩
abbrev cX2_read : ByteArray := prog_4_method_12_code
def yX2_read : MethodName := ⟨RX2, "read", "(II)V"⟩
abbrev cX2_change : ByteArray := prog_4_method_13_code
def yX2_change : MethodName := ⟨RX2, "change", "(IIZ)V"⟩
abbrev cX2_changeBy : ByteArray := prog_4_method_14_code
def yX2_changeBy : MethodName := ⟨RX2, "changeBy", "(IIIZ)V"⟩
abbrev cX2_callFunction : ByteArray := prog_4_method_15_code
def yX2_callFunction : MethodName := ⟨RX2, "callFunction", "()V"⟩
abbrev cX2_argument : ByteArray := prog_4_method_16_code
def yX2_argument : MethodName := ⟨RX2, "argument", "(II)V"⟩
def RX3 : String := "PocketCompiler$Gifts"
def TX3 : u_T := fun k => match k with
  | 0 => ("PocketCompiler$Gifts", "numbers", "[I", true)
  | 1 => ("PocketCompiler$Gifts", "size", "I", false)
  | _ => ("PocketCompiler$Gifts", "used", "I", false)
def tyX3 : Nat → FieldType := fun k => match k with
  | 0 => .array .int
  | 1 => .int
  | _ => .int
abbrev wsX30 : List Cond := u_ws RX3 TX3 3
theorem nmX3 : ∀ a, a < 3 → ∀ b, b < 3 → a ≠ b → (TX3 a).2.1 ≠ (TX3 b).2.1 := by decide +kernel
theorem tyX3_ok : ∀ k, k < 3 → parseFieldDescriptor (TX3 k).2.2.1 = some (tyX3 k) := by decide +kernel
abbrev cX3_init : ByteArray := prog_5_method_1_code
def yX3_init : MethodName := ⟨RX3, "<init>", "()V"⟩
abbrev cX3_add : ByteArray := prog_5_method_2_code
def yX3_add : MethodName := ⟨RX3, "add", "(I)I"⟩
abbrev cX3_clear : ByteArray := prog_5_method_3_code
def yX3_clear : MethodName := ⟨RX3, "clear", "()I"⟩
abbrev cX3_beginAnew : ByteArray := prog_5_method_4_code
def yX3_beginAnew : MethodName := ⟨RX3, "beginAnew", "()V"⟩
abbrev cX3_next : ByteArray := prog_5_method_5_code
def yX3_next : MethodName := ⟨RX3, "next", "()I"⟩
abbrev cX3_numberAt : ByteArray := prog_5_method_6_code
def yX3_numberAt : MethodName := ⟨RX3, "numberAt", "(I)I"⟩
def RX4 : String := "PocketCompiler$Instruction"
def TX4 : u_T := fun k => match k with
  | _ => ("", "", "", false)
def tyX4 : Nat → FieldType := fun k => match k with
  | _ => .int
abbrev wsX40 : List Cond := u_ws RX4 TX4 0
theorem nmX4 : ∀ a, a < 0 → ∀ b, b < 0 → a ≠ b → (TX4 a).2.1 ≠ (TX4 b).2.1 := by decide +kernel
theorem tyX4_ok : ∀ k, k < 0 → parseFieldDescriptor (TX4 k).2.2.1 = some (tyX4 k) := by decide +kernel
abbrev cX4_kindOf : ByteArray := prog_6_method_2_code
def yX4_kindOf : MethodName := ⟨RX4, "kindOf", "(I)I"⟩
abbrev cX4_numberedKind : ByteArray := prog_6_method_3_code
def yX4_numberedKind : MethodName := ⟨RX4, "numberedKind", "(II)I"⟩
abbrev cX4_plainKind : ByteArray := prog_6_method_4_code
def yX4_plainKind : MethodName := ⟨RX4, "plainKind", "(II)I"⟩
abbrev cX4_target : ByteArray := prog_6_method_5_code
def yX4_target : MethodName := ⟨RX4, "target", "(I)I"⟩
abbrev cX4_first : ByteArray := prog_6_method_6_code
def yX4_first : MethodName := ⟨RX4, "first", "(I)I"⟩
abbrev cX4_second : ByteArray := prog_6_method_7_code
def yX4_second : MethodName := ⟨RX4, "second", "(I)I"⟩
abbrev cX4_number : ByteArray := prog_6_method_8_code
def yX4_number : MethodName := ⟨RX4, "number", "(II)I"⟩
def RX5 : String := "PocketCompiler$Parser"
def TX5 : u_T := fun k => match k with
  | 0 => ("PocketCompiler$Parser", "program", "LPocketCompiler$Program;", false)
  | 1 => ("PocketCompiler$Parser", "tokens", "LPocketCompiler$Tokens;", true)
  | 2 => ("PocketCompiler$Parser", "builder", "LPocketCompiler$Builder;", true)
  | 3 => ("PocketCompiler$Parser", "expressions", "LPocketCompiler$Expressions;", true)
  | 4 => ("PocketCompiler$Parser", "breakTo", "I", false)
  | 5 => ("PocketCompiler$Parser", "continueTo", "I", false)
  | _ => ("PocketCompiler$Parser", "returnTo", "I", false)
def tyX5 : Nat → FieldType := fun k => match k with
  | 0 => .object "PocketCompiler$Program"
  | 1 => .object "PocketCompiler$Tokens"
  | 2 => .object "PocketCompiler$Builder"
  | 3 => .object "PocketCompiler$Expressions"
  | 4 => .int
  | 5 => .int
  | _ => .int
abbrev wsX50 : List Cond := u_ws RX5 TX5 7
theorem nmX5 : ∀ a, a < 7 → ∀ b, b < 7 → a ≠ b → (TX5 a).2.1 ≠ (TX5 b).2.1 := by decide +kernel
theorem tyX5_ok : ∀ k, k < 7 → parseFieldDescriptor (TX5 k).2.2.1 = some (tyX5 k) := by decide +kernel
abbrev cX5_init : ByteArray := prog_7_method_1_code
def yX5_init : MethodName := ⟨RX5, "<init>", "(LPocketCompiler$Program;)V"⟩
abbrev cX5_readText : ByteArray := prog_7_method_2_code
def yX5_readText : MethodName := ⟨RX5, "readText", "(LPocketCompiler$Program;)V"⟩
abbrev cX5_checkCalls : ByteArray := prog_7_method_3_code
def yX5_checkCalls : MethodName := ⟨RX5, "checkCalls", "()V"⟩
abbrev cX5_headOfItem : ByteArray := prog_7_method_4_code
def yX5_headOfItem : MethodName := ⟨RX5, "headOfItem", "()I"⟩
abbrev cX5_globalItem : ByteArray := prog_7_method_5_code
def yX5_globalItem : MethodName := ⟨RX5, "globalItem", "(I)V"⟩
abbrev cX5_rowSize : ByteArray := prog_7_method_6_code
def yX5_rowSize : MethodName := ⟨RX5, "rowSize", "()I"⟩
abbrev cX5_functionItem : ByteArray := prog_7_method_7_code
def yX5_functionItem : MethodName := ⟨RX5, "functionItem", "()V"⟩
abbrev cX5_parameters : ByteArray := prog_7_method_8_code
def yX5_parameters : MethodName := ⟨RX5, "parameters", "()V"⟩
abbrev cX5_parameter : ByteArray := prog_7_method_9_code
def yX5_parameter : MethodName := ⟨RX5, "parameter", "()V"⟩
abbrev cX5_newName : ByteArray := prog_7_method_10_code
def yX5_newName : MethodName := ⟨RX5, "newName", "()I"⟩
abbrev cX5_wantSlot : ByteArray := prog_7_method_11_code
def yX5_wantSlot : MethodName := ⟨RX5, "wantSlot", "()V"⟩
abbrev cX5_stats : ByteArray := prog_7_method_12_code
def yX5_stats : MethodName := ⟨RX5, "stats", "()V"⟩
abbrev cX5_stat : ByteArray := prog_7_method_13_code
def yX5_stat : MethodName := ⟨RX5, "stat", "()V"⟩
abbrev cX5_block : ByteArray := prog_7_method_14_code
def yX5_block : MethodName := ⟨RX5, "block", "()V"⟩
abbrev cX5_innerStat : ByteArray := prog_7_method_15_code
def yX5_innerStat : MethodName := ⟨RX5, "innerStat", "()V"⟩
abbrev cX5_local : ByteArray := prog_7_method_16_code
def yX5_local : MethodName := ⟨RX5, "local", "()V"⟩
abbrev cX5_condition : ByteArray := prog_7_method_17_code
def yX5_condition : MethodName := ⟨RX5, "condition", "()V"⟩
abbrev cX5_ifStat : ByteArray := prog_7_method_18_code
def yX5_ifStat : MethodName := ⟨RX5, "ifStat", "()V"⟩
abbrev cX5_loopStat : ByteArray := prog_7_method_19_code
def yX5_loopStat : MethodName := ⟨RX5, "loopStat", "(I)V"⟩
abbrev cX5_whileRest : ByteArray := prog_7_method_20_code
def yX5_whileRest : MethodName := ⟨RX5, "whileRest", "()V"⟩
abbrev cX5_doRest : ByteArray := prog_7_method_21_code
def yX5_doRest : MethodName := ⟨RX5, "doRest", "()V"⟩
abbrev cX5_forRest : ByteArray := prog_7_method_22_code
def yX5_forRest : MethodName := ⟨RX5, "forRest", "()V"⟩
abbrev cX5_optional : ByteArray := prog_7_method_23_code
def yX5_optional : MethodName := ⟨RX5, "optional", "(I)Z"⟩
abbrev cX5_jumpStat : ByteArray := prog_7_method_24_code
def yX5_jumpStat : MethodName := ⟨RX5, "jumpStat", "(I)V"⟩
abbrev cX5_returnStat : ByteArray := prog_7_method_25_code
def yX5_returnStat : MethodName := ⟨RX5, "returnStat", "()V"⟩
def RX6 : String := "PocketCompiler$Processor"
def TX6 : u_T := fun k => match k with
  | 0 => ("PocketCompiler$Processor", "memory", "[I", true)
  | 1 => ("PocketCompiler$Processor", "registers", "[I", true)
  | 2 => ("PocketCompiler$Processor", "pc", "I", false)
  | 3 => ("PocketCompiler$Processor", "next", "I", false)
  | 4 => ("PocketCompiler$Processor", "status", "I", false)
  | 5 => ("PocketCompiler$Processor", "steps", "I", false)
  | 6 => ("PocketCompiler$Processor", "puts", "[I", true)
  | 7 => ("PocketCompiler$Processor", "putCount", "I", false)
  | _ => ("PocketCompiler$Processor", "gifts", "LPocketCompiler$Gifts;", true)
def tyX6 : Nat → FieldType := fun k => match k with
  | 0 => .array .int
  | 1 => .array .int
  | 2 => .int
  | 3 => .int
  | 4 => .int
  | 5 => .int
  | 6 => .array .int
  | 7 => .int
  | _ => .object "PocketCompiler$Gifts"
abbrev wsX60 : List Cond := u_ws RX6 TX6 9
theorem nmX6 : ∀ a, a < 9 → ∀ b, b < 9 → a ≠ b → (TX6 a).2.1 ≠ (TX6 b).2.1 := by decide +kernel
theorem tyX6_ok : ∀ k, k < 9 → parseFieldDescriptor (TX6 k).2.2.1 = some (tyX6 k) := by decide +kernel
abbrev cX6_init : ByteArray := prog_8_method_1_code
def yX6_init : MethodName := ⟨RX6, "<init>", "(ILPocketCompiler$Gifts;)V"⟩
abbrev cX6_size : ByteArray := prog_8_method_2_code
def yX6_size : MethodName := ⟨RX6, "size", "()I"⟩
abbrev cX6_valueOf : ByteArray := prog_8_method_3_code
def yX6_valueOf : MethodName := ⟨RX6, "valueOf", "(I)I"⟩
abbrev cX6_change : ByteArray := prog_8_method_4_code
def yX6_change : MethodName := ⟨RX6, "change", "(II)V"⟩
abbrev cX6_write : ByteArray := prog_8_method_5_code
def yX6_write : MethodName := ⟨RX6, "write", "(II)V"⟩
abbrev cX6_hasWord : ByteArray := prog_8_method_6_code
def yX6_hasWord : MethodName := ⟨RX6, "hasWord", "(I)Z"⟩
abbrev cX6_wordAt : ByteArray := prog_8_method_7_code
def yX6_wordAt : MethodName := ⟨RX6, "wordAt", "(I)I"⟩
abbrev cX6_layWord : ByteArray := prog_8_method_8_code
def yX6_layWord : MethodName := ⟨RX6, "layWord", "(II)V"⟩
abbrev cX6_begin : ByteArray := prog_8_method_9_code
def yX6_begin : MethodName := ⟨RX6, "begin", "(LPocketCompiler$Program;III)V"⟩
abbrev cX6_ticks : ByteArray := prog_8_method_10_code
def yX6_ticks : MethodName := ⟨RX6, "ticks", "(I)I"⟩
abbrev cX6_tick : ByteArray := prog_8_method_11_code
def yX6_tick : MethodName := ⟨RX6, "tick", "()V"⟩
abbrev cX6_perform : ByteArray := prog_8_method_12_code
def yX6_perform : MethodName := ⟨RX6, "perform", "(II)V"⟩
abbrev cX6_jump : ByteArray := prog_8_method_13_code
def yX6_jump : MethodName := ⟨RX6, "jump", "(II)V"⟩
abbrev cX6_branch : ByteArray := prog_8_method_14_code
def yX6_branch : MethodName := ⟨RX6, "branch", "(ZI)V"⟩
abbrev cX6_isTaken : ByteArray := prog_8_method_15_code
def yX6_isTaken : MethodName := ⟨RX6, "isTaken", "(III)Z"⟩
abbrev cX6_isBelow : ByteArray := prog_8_method_16_code
def yX6_isBelow : MethodName := ⟨RX6, "isBelow", "(II)Z"⟩
abbrev cX6_bytesOf : ByteArray := prog_8_method_17_code
def yX6_bytesOf : MethodName := ⟨RX6, "bytesOf", "(I)I"⟩
abbrev cX6_isReached : ByteArray := prog_8_method_18_code
def yX6_isReached : MethodName := ⟨RX6, "isReached", "(II)Z"⟩
abbrev cX6_fetch : ByteArray := prog_8_method_19_code
def yX6_fetch : MethodName := ⟨RX6, "fetch", "(III)V"⟩
abbrev cX6_store : ByteArray := prog_8_method_20_code
def yX6_store : MethodName := ⟨RX6, "store", "(III)V"⟩
abbrev cX6_numbered : ByteArray := prog_8_method_21_code
def yX6_numbered : MethodName := ⟨RX6, "numbered", "(III)I"⟩
abbrev cX6_joined : ByteArray := prog_8_method_22_code
def yX6_joined : MethodName := ⟨RX6, "joined", "(III)I"⟩
abbrev cX6_service : ByteArray := prog_8_method_23_code
def yX6_service : MethodName := ⟨RX6, "service", "()V"⟩
def RX7 : String := "PocketCompiler$Program"
def TX7 : u_T := fun k => match k with
  | 0 => ("PocketCompiler$Program", "text", "[I", true)
  | 1 => ("PocketCompiler$Program", "length", "I", false)
  | 2 => ("PocketCompiler$Program", "functions", "[[I", true)
  | 3 => ("PocketCompiler$Program", "functionCount", "I", false)
  | 4 => ("PocketCompiler$Program", "globals", "[[I", true)
  | 5 => ("PocketCompiler$Program", "globalCount", "I", false)
  | 6 => ("PocketCompiler$Program", "deeds", "[I", true)
  | 7 => ("PocketCompiler$Program", "xs", "[I", true)
  | 8 => ("PocketCompiler$Program", "ys", "[I", true)
  | 9 => ("PocketCompiler$Program", "deedCount", "I", false)
  | 10 => ("PocketCompiler$Program", "words", "[I", true)
  | 11 => ("PocketCompiler$Program", "wordCount", "I", false)
  | _ => ("PocketCompiler$Program", "limit", "I", false)
def tyX7 : Nat → FieldType := fun k => match k with
  | 0 => .array .int
  | 1 => .int
  | 2 => .array (.array .int)
  | 3 => .int
  | 4 => .array (.array .int)
  | 5 => .int
  | 6 => .array .int
  | 7 => .array .int
  | 8 => .array .int
  | 9 => .int
  | 10 => .array .int
  | 11 => .int
  | _ => .int
abbrev wsX70 : List Cond := u_ws RX7 TX7 13
theorem nmX7 : ∀ a, a < 13 → ∀ b, b < 13 → a ≠ b → (TX7 a).2.1 ≠ (TX7 b).2.1 := by decide +kernel
theorem tyX7_ok : ∀ k, k < 13 → parseFieldDescriptor (TX7 k).2.2.1 = some (tyX7 k) := by decide +kernel
abbrev cX7_init : ByteArray := prog_9_method_1_code
def yX7_init : MethodName := ⟨RX7, "<init>", "(I)V"⟩
abbrev cX7_copyText : ByteArray := prog_9_method_2_code
def yX7_copyText : MethodName := ⟨RX7, "copyText", "([II)V"⟩
abbrev cX7_clear : ByteArray := prog_9_method_3_code
def yX7_clear : MethodName := ⟨RX7, "clear", "()V"⟩
abbrev cX7_byteAt : ByteArray := prog_9_method_4_code
def yX7_byteAt : MethodName := ⟨RX7, "byteAt", "(I)I"⟩
abbrev cX7_nameBytes : ByteArray := prog_9_method_5_code
def yX7_nameBytes : MethodName := ⟨RX7, "nameBytes", "(I)I"⟩
abbrev cX7_isNameAt : ByteArray := prog_9_method_6_code
def yX7_isNameAt : MethodName := ⟨RX7, "isNameAt", "(I[II)Z"⟩
abbrev cX7_functionFact : ByteArray := prog_9_method_7_code
def yX7_functionFact : MethodName := ⟨RX7, "functionFact", "(II)I"⟩
abbrev cX7_globalFact : ByteArray := prog_9_method_8_code
def yX7_globalFact : MethodName := ⟨RX7, "globalFact", "(II)I"⟩
abbrev cX7_changeFunction : ByteArray := prog_9_method_9_code
def yX7_changeFunction : MethodName := ⟨RX7, "changeFunction", "(III)V"⟩
abbrev cX7_changeGlobal : ByteArray := prog_9_method_10_code
def yX7_changeGlobal : MethodName := ⟨RX7, "changeGlobal", "(III)V"⟩
abbrev cX7_functionNamed : ByteArray := prog_9_method_11_code
def yX7_functionNamed : MethodName := ⟨RX7, "functionNamed", "(I)I"⟩
abbrev cX7_globalNamed : ByteArray := prog_9_method_12_code
def yX7_globalNamed : MethodName := ⟨RX7, "globalNamed", "(I)I"⟩
abbrev cX7_firstCell : ByteArray := prog_9_method_13_code
def yX7_firstCell : MethodName := ⟨RX7, "firstCell", "(I)I"⟩
abbrev cX7_wordAt : ByteArray := prog_9_method_14_code
def yX7_wordAt : MethodName := ⟨RX7, "wordAt", "(I)I"⟩
def RX8 : String := "PocketCompiler$Shower"
def TX8 : u_T := fun k => match k with
  | _ => ("PocketCompiler$Shower", "text", "Ljava/lang/StringBuilder;", true)
def tyX8 : Nat → FieldType := fun k => match k with
  | _ => .object "java/lang/StringBuilder"
abbrev wsX80 : List Cond := u_ws RX8 TX8 1
theorem nmX8 : ∀ a, a < 1 → ∀ b, b < 1 → a ≠ b → (TX8 a).2.1 ≠ (TX8 b).2.1 := by decide +kernel
theorem tyX8_ok : ∀ k, k < 1 → parseFieldDescriptor (TX8 k).2.2.1 = some (tyX8 k) := by decide +kernel
abbrev cX8_init : ByteArray := prog_10_method_1_code
def yX8_init : MethodName := ⟨RX8, "<init>", "()V"⟩
abbrev cX8_byteAt : ByteArray := prog_10_method_2_code
def yX8_byteAt : MethodName := ⟨RX8, "byteAt", "(I)I"⟩
abbrev cX8_spell : ByteArray := prog_10_method_3_code
def yX8_spell : MethodName := ⟨RX8, "spell", "(I)I"⟩
abbrev cX8_addName : ByteArray := prog_10_method_4_code
def yX8_addName : MethodName := ⟨RX8, "addName", "(I)V"⟩
abbrev cX8_addHex : ByteArray := prog_10_method_5_code
def yX8_addHex : MethodName := ⟨RX8, "addHex", "(I)V"⟩
abbrev cX8_addOperands : ByteArray := prog_10_method_6_code
def yX8_addOperands : MethodName := ⟨RX8, "addOperands", "(II)V"⟩
abbrev cX8_addRegister : ByteArray := prog_10_method_7_code
def yX8_addRegister : MethodName := ⟨RX8, "addRegister", "(I)V"⟩
abbrev cX8_addPair : ByteArray := prog_10_method_8_code
def yX8_addPair : MethodName := ⟨RX8, "addPair", "(II)V"⟩
abbrev cX8_addReach : ByteArray := prog_10_method_9_code
def yX8_addReach : MethodName := ⟨RX8, "addReach", "(III)V"⟩
def RX9 : String := "PocketCompiler$Tokens"
def TX9 : u_T := fun k => match k with
  | 0 => ("PocketCompiler$Tokens", "source", "LPocketCompiler$Program;", false)
  | 1 => ("PocketCompiler$Tokens", "kinds", "[I", true)
  | 2 => ("PocketCompiler$Tokens", "places", "[I", true)
  | 3 => ("PocketCompiler$Tokens", "values", "[I", true)
  | 4 => ("PocketCompiler$Tokens", "size", "I", false)
  | 5 => ("PocketCompiler$Tokens", "at", "I", false)
  | 6 => ("PocketCompiler$Tokens", "opened", "I", false)
  | 7 => ("PocketCompiler$Tokens", "dueAt", "I", false)
  | 8 => ("PocketCompiler$Tokens", "faultKind", "I", false)
  | _ => ("PocketCompiler$Tokens", "faultPlace", "I", false)
def tyX9 : Nat → FieldType := fun k => match k with
  | 0 => .object "PocketCompiler$Program"
  | 1 => .array .int
  | 2 => .array .int
  | 3 => .array .int
  | 4 => .int
  | 5 => .int
  | 6 => .int
  | 7 => .int
  | 8 => .int
  | _ => .int
abbrev wsX90 : List Cond := u_ws RX9 TX9 10
theorem nmX9 : ∀ a, a < 10 → ∀ b, b < 10 → a ≠ b → (TX9 a).2.1 ≠ (TX9 b).2.1 := by decide +kernel
theorem tyX9_ok : ∀ k, k < 10 → parseFieldDescriptor (TX9 k).2.2.1 = some (tyX9 k) := by decide +kernel
abbrev cX9_init : ByteArray := prog_11_method_1_code
def yX9_init : MethodName := ⟨RX9, "<init>", "(LPocketCompiler$Program;)V"⟩
abbrev cX9_isDigit : ByteArray := prog_11_method_2_code
def yX9_isDigit : MethodName := ⟨RX9, "isDigit", "(I)Z"⟩
abbrev cX9_isLetter : ByteArray := prog_11_method_3_code
def yX9_isLetter : MethodName := ⟨RX9, "isLetter", "(I)Z"⟩
abbrev cX9_isNamePart : ByteArray := prog_11_method_4_code
def yX9_isNamePart : MethodName := ⟨RX9, "isNamePart", "(I)Z"⟩
abbrev cX9_isSet : ByteArray := prog_11_method_5_code
def yX9_isSet : MethodName := ⟨RX9, "isSet", "(I)Z"⟩
abbrev cX9_strength : ByteArray := prog_11_method_6_code
def yX9_strength : MethodName := ⟨RX9, "strength", "(I)I"⟩
abbrev cX9_scan : ByteArray := prog_11_method_7_code
def yX9_scan : MethodName := ⟨RX9, "scan", "(LPocketCompiler$Program;)V"⟩
abbrev cX9_behindBlanks : ByteArray := prog_11_method_8_code
def yX9_behindBlanks : MethodName := ⟨RX9, "behindBlanks", "(I)I"⟩
abbrev cX9_scanOne : ByteArray := prog_11_method_9_code
def yX9_scanOne : MethodName := ⟨RX9, "scanOne", "(I)I"⟩
abbrev cX9_add : ByteArray := prog_11_method_10_code
def yX9_add : MethodName := ⟨RX9, "add", "(IIII)I"⟩
abbrev cX9_scanName : ByteArray := prog_11_method_11_code
def yX9_scanName : MethodName := ⟨RX9, "scanName", "(I)I"⟩
abbrev cX9_firstAlike : ByteArray := prog_11_method_12_code
def yX9_firstAlike : MethodName := ⟨RX9, "firstAlike", "(II)I"⟩
abbrev cX9_isAlike : ByteArray := prog_11_method_13_code
def yX9_isAlike : MethodName := ⟨RX9, "isAlike", "(III)Z"⟩
abbrev cX9_scanNumber : ByteArray := prog_11_method_14_code
def yX9_scanNumber : MethodName := ⟨RX9, "scanNumber", "(I)I"⟩
abbrev cX9_digitValue : ByteArray := prog_11_method_15_code
def yX9_digitValue : MethodName := ⟨RX9, "digitValue", "(II)I"⟩
abbrev cX9_scanCharacter : ByteArray := prog_11_method_16_code
def yX9_scanCharacter : MethodName := ⟨RX9, "scanCharacter", "(I)I"⟩
abbrev cX9_scanSign : ByteArray := prog_11_method_17_code
def yX9_scanSign : MethodName := ⟨RX9, "scanSign", "(I)I"⟩
abbrev cX9_spelled : ByteArray := prog_11_method_18_code
def yX9_spelled : MethodName := ⟨RX9, "spelled", "(Ljava/lang/String;III)I"⟩
abbrev cX9_kind : ByteArray := prog_11_method_19_code
def yX9_kind : MethodName := ⟨RX9, "kind", "()I"⟩
abbrev cX9_kindBehind : ByteArray := prog_11_method_20_code
def yX9_kindBehind : MethodName := ⟨RX9, "kindBehind", "()I"⟩
abbrev cX9_value : ByteArray := prog_11_method_21_code
def yX9_value : MethodName := ⟨RX9, "value", "()I"⟩
abbrev cX9_place : ByteArray := prog_11_method_22_code
def yX9_place : MethodName := ⟨RX9, "place", "()I"⟩
abbrev cX9_refuse : ByteArray := prog_11_method_23_code
def yX9_refuse : MethodName := ⟨RX9, "refuse", "(II)V"⟩
abbrev cX9_refuseMisfit : ByteArray := prog_11_method_24_code
def yX9_refuseMisfit : MethodName := ⟨RX9, "refuseMisfit", "()V"⟩
abbrev cX9_need : ByteArray := prog_11_method_25_code
def yX9_need : MethodName := ⟨RX9, "need", "(I)V"⟩
abbrev cX9_isTooMuch : ByteArray := prog_11_method_26_code
def yX9_isTooMuch : MethodName := ⟨RX9, "isTooMuch", "()Z"⟩
abbrev cX9_take : ByteArray := prog_11_method_27_code
def yX9_take : MethodName := ⟨RX9, "take", "()V"⟩
abbrev cX9_expect : ByteArray := prog_11_method_28_code
def yX9_expect : MethodName := ⟨RX9, "expect", "(I)V"⟩
abbrev cX9_open : ByteArray := prog_11_method_29_code
def yX9_open : MethodName := ⟨RX9, "open", "()V"⟩
abbrev cX9_close : ByteArray := prog_11_method_30_code
def yX9_close : MethodName := ⟨RX9, "close", "()V"⟩
abbrev cX9_makeDue : ByteArray := prog_11_method_31_code
def yX9_makeDue : MethodName := ⟨RX9, "makeDue", "()V"⟩
def RX10 : String := "PocketCompiler$Worker"
def TX10 : u_T := fun k => match k with
  | 0 => ("PocketCompiler$Worker", "program", "LPocketCompiler$Program;", false)
  | 1 => ("PocketCompiler$Worker", "gifts", "LPocketCompiler$Gifts;", true)
  | 2 => ("PocketCompiler$Worker", "memoryBytes", "I", true)
  | 3 => ("PocketCompiler$Worker", "frames", "[I", true)
  | 4 => ("PocketCompiler$Worker", "cells", "[I", true)
  | 5 => ("PocketCompiler$Worker", "puts", "[I", true)
  | 6 => ("PocketCompiler$Worker", "hasWorked", "Z", false)
  | 7 => ("PocketCompiler$Worker", "outcome", "I", false)
  | 8 => ("PocketCompiler$Worker", "hand", "I", false)
  | 9 => ("PocketCompiler$Worker", "at", "I", false)
  | 10 => ("PocketCompiler$Worker", "base", "I", false)
  | 11 => ("PocketCompiler$Worker", "top", "I", false)
  | 12 => ("PocketCompiler$Worker", "mostTurns", "I", false)
  | 13 => ("PocketCompiler$Worker", "turns", "I", false)
  | 14 => ("PocketCompiler$Worker", "mostBytes", "I", false)
  | 15 => ("PocketCompiler$Worker", "putCount", "I", false)
  | _ => ("PocketCompiler$Worker", "gotCount", "I", false)
def tyX10 : Nat → FieldType := fun k => match k with
  | 0 => .object "PocketCompiler$Program"
  | 1 => .object "PocketCompiler$Gifts"
  | 2 => .int
  | 3 => .array .int
  | 4 => .array .int
  | 5 => .array .int
  | 6 => .boolean
  | 7 => .int
  | 8 => .int
  | 9 => .int
  | 10 => .int
  | 11 => .int
  | 12 => .int
  | 13 => .int
  | 14 => .int
  | 15 => .int
  | _ => .int
abbrev wsX100 : List Cond := u_ws RX10 TX10 17
theorem nmX10 : ∀ a, a < 17 → ∀ b, b < 17 → a ≠ b → (TX10 a).2.1 ≠ (TX10 b).2.1 := by decide +kernel
theorem tyX10_ok : ∀ k, k < 17 → parseFieldDescriptor (TX10 k).2.2.1 = some (tyX10 k) := by decide +kernel
abbrev cX10_init : ByteArray := prog_12_method_1_code
def yX10_init : MethodName := ⟨RX10, "<init>", "(LPocketCompiler$Program;ILPocketCompiler$Gifts;)V"⟩
abbrev cX10_drop : ByteArray := prog_12_method_2_code
def yX10_drop : MethodName := ⟨RX10, "drop", "()V"⟩
abbrev cX10_fact : ByteArray := prog_12_method_3_code
def yX10_fact : MethodName := ⟨RX10, "fact", "(I)I"⟩
abbrev cX10_cellAt : ByteArray := prog_12_method_4_code
def yX10_cellAt : MethodName := ⟨RX10, "cellAt", "(I)I"⟩
abbrev cX10_changeCell : ByteArray := prog_12_method_5_code
def yX10_changeCell : MethodName := ⟨RX10, "changeCell", "(II)V"⟩
abbrev cX10_frameWord : ByteArray := prog_12_method_6_code
def yX10_frameWord : MethodName := ⟨RX10, "frameWord", "(I)I"⟩
abbrev cX10_changeFrameWord : ByteArray := prog_12_method_7_code
def yX10_changeFrameWord : MethodName := ⟨RX10, "changeFrameWord", "(II)V"⟩
abbrev cX10_placeOfSlot : ByteArray := prog_12_method_8_code
def yX10_placeOfSlot : MethodName := ⟨RX10, "placeOfSlot", "(I)I"⟩
abbrev cX10_slotAt : ByteArray := prog_12_method_9_code
def yX10_slotAt : MethodName := ⟨RX10, "slotAt", "(I)I"⟩
abbrev cX10_changeSlot : ByteArray := prog_12_method_10_code
def yX10_changeSlot : MethodName := ⟨RX10, "changeSlot", "(II)V"⟩
abbrev cX10_begin : ByteArray := prog_12_method_11_code
def yX10_begin : MethodName := ⟨RX10, "begin", "(LPocketCompiler$Program;I)V"⟩
abbrev cX10_perform : ByteArray := prog_12_method_12_code
def yX10_perform : MethodName := ⟨RX10, "perform", "(III)I"⟩
abbrev cX10_takeTurn : ByteArray := prog_12_method_13_code
def yX10_takeTurn : MethodName := ⟨RX10, "takeTurn", "()V"⟩
abbrev cX10_enter : ByteArray := prog_12_method_14_code
def yX10_enter : MethodName := ⟨RX10, "enter", "(II)V"⟩
abbrev cX10_callFunction : ByteArray := prog_12_method_15_code
def yX10_callFunction : MethodName := ⟨RX10, "callFunction", "(II)V"⟩
abbrev cX10_leaveFunction : ByteArray := prog_12_method_16_code
def yX10_leaveFunction : MethodName := ⟨RX10, "leaveFunction", "()V"⟩
abbrev cX10_doDeed : ByteArray := prog_12_method_17_code
def yX10_doDeed : MethodName := ⟨RX10, "doDeed", "()V"⟩
abbrev cX10_doPlace : ByteArray := prog_12_method_18_code
def yX10_doPlace : MethodName := ⟨RX10, "doPlace", "(III)V"⟩
abbrev cX10_index : ByteArray := prog_12_method_19_code
def yX10_index : MethodName := ⟨RX10, "index", "(I)V"⟩
abbrev cX10_doJump : ByteArray := prog_12_method_20_code
def yX10_doJump : MethodName := ⟨RX10, "doJump", "(II)V"⟩
abbrev cX10_putHand : ByteArray := prog_12_method_21_code
def yX10_putHand : MethodName := ⟨RX10, "putHand", "()V"⟩
abbrev cX10_join : ByteArray := prog_12_method_22_code
def yX10_join : MethodName := ⟨RX10, "join", "(II)V"⟩
abbrev cX10_divide : ByteArray := prog_12_method_23_code
def yX10_divide : MethodName := ⟨RX10, "divide", "(ZI)V"⟩
abbrev cX10_compares : ByteArray := prog_12_method_24_code
def yX10_compares : MethodName := ⟨RX10, "compares", "(III)Z"⟩
def RX11 : String := "PocketCompiler"
def TX11 : u_T := fun k => match k with
  | 0 => ("PocketCompiler", "tape", "[I", true)
  | 1 => ("PocketCompiler", "taped", "I", false)
  | 2 => ("PocketCompiler", "loaded", "LPocketCompiler$Program;", false)
  | 3 => ("PocketCompiler", "spare", "LPocketCompiler$Program;", false)
  | 4 => ("PocketCompiler", "parser", "LPocketCompiler$Parser;", true)
  | 5 => ("PocketCompiler", "assembler", "LPocketCompiler$Assembler;", true)
  | 6 => ("PocketCompiler", "latestFault", "I", false)
  | 7 => ("PocketCompiler", "latestPlace", "I", false)
  | 8 => ("PocketCompiler", "gifts", "LPocketCompiler$Gifts;", true)
  | 9 => ("PocketCompiler", "processor", "LPocketCompiler$Processor;", true)
  | 10 => ("PocketCompiler", "worker", "LPocketCompiler$Worker;", true)
  | _ => ("PocketCompiler", "shower", "LPocketCompiler$Shower;", true)
def tyX11 : Nat → FieldType := fun k => match k with
  | 0 => .array .int
  | 1 => .int
  | 2 => .object "PocketCompiler$Program"
  | 3 => .object "PocketCompiler$Program"
  | 4 => .object "PocketCompiler$Parser"
  | 5 => .object "PocketCompiler$Assembler"
  | 6 => .int
  | 7 => .int
  | 8 => .object "PocketCompiler$Gifts"
  | 9 => .object "PocketCompiler$Processor"
  | 10 => .object "PocketCompiler$Worker"
  | _ => .object "PocketCompiler$Shower"
abbrev wsX110 : List Cond := u_ws RX11 TX11 12
theorem nmX11 : ∀ a, a < 12 → ∀ b, b < 12 → a ≠ b → (TX11 a).2.1 ≠ (TX11 b).2.1 := by decide +kernel
theorem tyX11_ok : ∀ k, k < 12 → parseFieldDescriptor (TX11 k).2.2.1 = some (tyX11 k) := by decide +kernel
abbrev cX11_init : ByteArray := prog_1_method_1_code
def yX11_init : MethodName := ⟨RX11, "<init>", "(I)V"⟩
abbrev cX11_feed : ByteArray := prog_1_method_2_code
def yX11_feed : MethodName := ⟨RX11, "feed", "(IIIII)Z"⟩
abbrev cX11_tapeNumber : ByteArray := prog_1_method_3_code
def yX11_tapeNumber : MethodName := ⟨RX11, "tapeNumber", "(I)V"⟩
abbrev cX11_end : ByteArray := prog_1_method_4_code
def yX11_end : MethodName := ⟨RX11, "end", "(I)Z"⟩
abbrev cX11_load : ByteArray := prog_1_method_5_code
def yX11_load : MethodName := ⟨RX11, "load", "()I"⟩
abbrev cX11_fault : ByteArray := prog_1_method_6_code
def yX11_fault : MethodName := ⟨RX11, "fault", "(I)I"⟩
abbrev cX11_code : ByteArray := prog_1_method_7_code
def yX11_code : MethodName := ⟨RX11, "code", "(I)I"⟩
abbrev cX11_function : ByteArray := prog_1_method_8_code
def yX11_function : MethodName := ⟨RX11, "function", "(II)I"⟩
abbrev cX11_global : ByteArray := prog_1_method_9_code
def yX11_global : MethodName := ⟨RX11, "global", "(II)I"⟩
abbrev cX11_find : ByteArray := prog_1_method_10_code
def yX11_find : MethodName := ⟨RX11, "find", "(I)I"⟩
abbrev cX11_give : ByteArray := prog_1_method_11_code
def yX11_give : MethodName := ⟨RX11, "give", "(I)I"⟩
abbrev cX11_forget : ByteArray := prog_1_method_12_code
def yX11_forget : MethodName := ⟨RX11, "forget", "()I"⟩
abbrev cX11_start : ByteArray := prog_1_method_13_code
def yX11_start : MethodName := ⟨RX11, "start", "(III)Z"⟩
abbrev cX11_step : ByteArray := prog_1_method_14_code
def yX11_step : MethodName := ⟨RX11, "step", "()I"⟩
abbrev cX11_run : ByteArray := prog_1_method_15_code
def yX11_run : MethodName := ⟨RX11, "run", "(I)I"⟩
abbrev cX11_result : ByteArray := prog_1_method_16_code
def yX11_result : MethodName := ⟨RX11, "result", "()I"⟩
abbrev cX11_register : ByteArray := prog_1_method_17_code
def yX11_register : MethodName := ⟨RX11, "register", "(I)I"⟩
abbrev cX11_set : ByteArray := prog_1_method_18_code
def yX11_set : MethodName := ⟨RX11, "set", "(II)V"⟩
abbrev cX11_word : ByteArray := prog_1_method_19_code
def yX11_word : MethodName := ⟨RX11, "word", "(I)I"⟩
abbrev cX11_poke : ByteArray := prog_1_method_20_code
def yX11_poke : MethodName := ⟨RX11, "poke", "(II)V"⟩
abbrev cX11_checkAddress : ByteArray := prog_1_method_21_code
def yX11_checkAddress : MethodName := ⟨RX11, "checkAddress", "(I)V"⟩
abbrev cX11_put : ByteArray := prog_1_method_22_code
def yX11_put : MethodName := ⟨RX11, "put", "(I)I"⟩
abbrev cX11_show : ByteArray := prog_1_method_23_code
def yX11_show : MethodName := ⟨RX11, "show", "(I)I"⟩
abbrev cX11_octet : ByteArray := prog_1_method_24_code
def yX11_octet : MethodName := ⟨RX11, "octet", "(I)I"⟩
abbrev cX11_work : ByteArray := prog_1_method_25_code
def yX11_work : MethodName := ⟨RX11, "work", "(IIII)I"⟩
abbrev cX11_told : ByteArray := prog_1_method_26_code
def yX11_told : MethodName := ⟨RX11, "told", "(I)I"⟩
abbrev cX11_worked : ByteArray := prog_1_method_27_code
def yX11_worked : MethodName := ⟨RX11, "worked", "(I)I"⟩
abbrev cX11_left : ByteArray := prog_1_method_28_code
def yX11_left : MethodName := ⟨RX11, "left", "(II)I"⟩
abbrev cX11_count : ByteArray := prog_1_method_29_code
def yX11_count : MethodName := ⟨RX11, "count", "(I)I"⟩
def RX12 : String := "PocketCompilerModel$Halt"
def TX12 : u_T := fun k => match k with
  | 0 => ("java/lang/Throwable", "cause", "Ljava/lang/Throwable;", false)
  | 1 => ("java/lang/Throwable", "stackTrace", "[Ljava/lang/StackTraceElement;", false)
  | 2 => ("java/lang/Throwable", "suppressedExceptions", "Ljava/util/List;", false)
  | 3 => ("java/lang/Throwable", "detailMessage", "Ljava/lang/String;", false)
  | 4 => ("java/lang/Throwable", "backtrace", "Ljava/lang/Object;", false)
  | _ => ("java/lang/Throwable", "depth", "I", false)
def tyX12 : Nat → FieldType := fun k => match k with
  | 0 => .object "java/lang/Throwable"
  | 1 => .array (.object "java/lang/StackTraceElement")
  | 2 => .object "java/util/List"
  | 3 => .object "java/lang/String"
  | 4 => .object "java/lang/Object"
  | _ => .int
abbrev wsX120 : List Cond := u_ws RX12 TX12 6
theorem nmX12 : ∀ a, a < 6 → ∀ b, b < 6 → a ≠ b → (TX12 a).2.1 ≠ (TX12 b).2.1 := by decide +kernel
theorem tyX12_ok : ∀ k, k < 6 → parseFieldDescriptor (TX12 k).2.2.1 = some (tyX12 k) := by decide +kernel
abbrev cX12_init : ByteArray := prog_15_method_1_code
def yX12_init : MethodName := ⟨RX12, "<init>", "()V"⟩
def RX13 : String := "PocketCompilerModel"
def TX13 : u_T := fun k => match k with
  | 0 => ("PocketCompilerModel", "thrown", "I", false)
  | 1 => ("PocketCompilerModel", "tape", "[I", true)
  | 2 => ("PocketCompilerModel", "taped", "I", false)
  | 3 => ("PocketCompilerModel", "text", "[I", true)
  | 4 => ("PocketCompilerModel", "size", "I", false)
  | 5 => ("PocketCompilerModel", "tokens", "I", false)
  | 6 => ("PocketCompilerModel", "kind", "[I", true)
  | 7 => ("PocketCompilerModel", "place", "[I", true)
  | 8 => ("PocketCompilerModel", "until", "[I", true)
  | 9 => ("PocketCompilerModel", "value", "[J", true)
  | 10 => ("PocketCompilerModel", "digits", "[Z", true)
  | 11 => ("PocketCompilerModel", "code", "[I", true)
  | 12 => ("PocketCompilerModel", "words", "I", false)
  | 13 => ("PocketCompilerModel", "order", "[I", true)
  | 14 => ("PocketCompilerModel", "argument", "[I", true)
  | 15 => ("PocketCompilerModel", "orders", "I", false)
  | 16 => ("PocketCompilerModel", "fName", "[I", true)
  | 17 => ("PocketCompilerModel", "fMany", "[I", true)
  | 18 => ("PocketCompilerModel", "fFrame", "[I", true)
  | 19 => ("PocketCompilerModel", "fAt", "[I", true)
  | 20 => ("PocketCompilerModel", "fOrder", "[I", true)
  | 21 => ("PocketCompilerModel", "fLocals", "[I", true)
  | 22 => ("PocketCompilerModel", "functions", "I", false)
  | 23 => ("PocketCompilerModel", "gName", "[I", true)
  | 24 => ("PocketCompilerModel", "gMany", "[I", true)
  | 25 => ("PocketCompilerModel", "gFrom", "[I", true)
  | 26 => ("PocketCompilerModel", "gRow", "[Z", true)
  | 27 => ("PocketCompilerModel", "globals", "I", false)
  | 28 => ("PocketCompilerModel", "numbers", "I", false)
  | 29 => ("PocketCompilerModel", "sName", "[I", true)
  | 30 => ("PocketCompilerModel", "known", "I", false)
  | 31 => ("PocketCompilerModel", "blockFrom", "I", false)
  | 32 => ("PocketCompilerModel", "putBy", "I", false)
  | 33 => ("PocketCompilerModel", "highest", "I", false)
  | 34 => ("PocketCompilerModel", "mostKnown", "I", false)
  | 35 => ("PocketCompilerModel", "cName", "[I", true)
  | 36 => ("PocketCompilerModel", "cMany", "[I", true)
  | 37 => ("PocketCompilerModel", "cWord", "[I", true)
  | 38 => ("PocketCompilerModel", "cOrder", "[I", true)
  | 39 => ("PocketCompilerModel", "calls", "I", false)
  | 40 => ("PocketCompilerModel", "fixAt", "[I", true)
  | 41 => ("PocketCompilerModel", "fixOf", "[I", true)
  | 42 => ("PocketCompilerModel", "fixKind", "[I", true)
  | 43 => ("PocketCompilerModel", "fixes", "I", false)
  | 44 => ("PocketCompilerModel", "multiplies", "Z", false)
  | 45 => ("PocketCompilerModel", "divides", "Z", false)
  | 46 => ("PocketCompilerModel", "halt", "LPocketCompilerModel$Halt;", true)
  | 47 => ("PocketCompilerModel", "t", "I", false)
  | 48 => ("PocketCompilerModel", "opened", "I", false)
  | 49 => ("PocketCompilerModel", "boundAt", "I", false)
  | 50 => ("PocketCompilerModel", "fault", "I", false)
  | 51 => ("PocketCompilerModel", "faultPlace", "I", false)
  | 52 => ("PocketCompilerModel", "loops", "I", false)
  | 53 => ("PocketCompilerModel", "breaks", "I", false)
  | 54 => ("PocketCompilerModel", "mBreaks", "I", false)
  | 55 => ("PocketCompilerModel", "again", "I", false)
  | 56 => ("PocketCompilerModel", "mAgain", "I", false)
  | 57 => ("PocketCompilerModel", "agains", "I", false)
  | 58 => ("PocketCompilerModel", "mAgains", "I", false)
  | 59 => ("PocketCompilerModel", "returns", "I", false)
  | 60 => ("PocketCompilerModel", "mJump", "I", false)
  | 61 => ("PocketCompilerModel", "hadBreaks", "[I", true)
  | 62 => ("PocketCompilerModel", "hadMBreaks", "[I", true)
  | 63 => ("PocketCompilerModel", "hadAgain", "[I", true)
  | 64 => ("PocketCompilerModel", "hadMAgain", "[I", true)
  | 65 => ("PocketCompilerModel", "hadAgains", "[I", true)
  | 66 => ("PocketCompilerModel", "hadMAgains", "[I", true)
  | 67 => ("PocketCompilerModel", "multiplyAt", "I", false)
  | 68 => ("PocketCompilerModel", "divideAt", "I", false)
  | 69 => ("PocketCompilerModel", "limit", "I", false)
  | 70 => ("PocketCompilerModel", "bCode", "[I", false)
  | 71 => ("PocketCompilerModel", "bOrder", "[I", false)
  | 72 => ("PocketCompilerModel", "bArgument", "[I", false)
  | 73 => ("PocketCompilerModel", "bWords", "I", false)
  | 74 => ("PocketCompilerModel", "bFunctions", "I", false)
  | 75 => ("PocketCompilerModel", "bGlobals", "I", false)
  | 76 => ("PocketCompilerModel", "bNumbers", "I", false)
  | 77 => ("PocketCompilerModel", "bLimit", "I", false)
  | 78 => ("PocketCompilerModel", "bMany", "[I", true)
  | 79 => ("PocketCompilerModel", "bFrame", "[I", true)
  | 80 => ("PocketCompilerModel", "bAt", "[I", true)
  | 81 => ("PocketCompilerModel", "bGo", "[I", true)
  | 82 => ("PocketCompilerModel", "bLocals", "[I", true)
  | 83 => ("PocketCompilerModel", "bPlace", "[I", true)
  | 84 => ("PocketCompilerModel", "bEnd", "[I", true)
  | 85 => ("PocketCompilerModel", "dMany", "[I", true)
  | 86 => ("PocketCompilerModel", "dFrom", "[I", true)
  | 87 => ("PocketCompilerModel", "dPlace", "[I", true)
  | 88 => ("PocketCompilerModel", "dEnd", "[I", true)
  | 89 => ("PocketCompilerModel", "dRow", "[Z", true)
  | 90 => ("PocketCompilerModel", "bText", "[I", true)
  | 91 => ("PocketCompilerModel", "toldFault", "I", false)
  | 92 => ("PocketCompilerModel", "toldPlace", "I", false)
  | 93 => ("PocketCompilerModel", "given", "[I", true)
  | 94 => ("PocketCompilerModel", "givenMany", "I", false)
  | 95 => ("PocketCompilerModel", "used", "I", false)
  | 96 => ("PocketCompilerModel", "memory", "[I", true)
  | 97 => ("PocketCompilerModel", "registers", "[I", true)
  | 98 => ("PocketCompilerModel", "pc", "I", false)
  | 99 => ("PocketCompilerModel", "status", "I", false)
  | 100 => ("PocketCompilerModel", "steps", "I", false)
  | 101 => ("PocketCompilerModel", "puts", "[I", true)
  | 102 => ("PocketCompilerModel", "putMany", "I", false)
  | 103 => ("PocketCompilerModel", "shown", "[I", true)
  | 104 => ("PocketCompilerModel", "shownMany", "I", false)
  | 105 => ("PocketCompilerModel", "pile", "[I", true)
  | 106 => ("PocketCompilerModel", "piled", "I", false)
  | 107 => ("PocketCompilerModel", "backTo", "[I", true)
  | 108 => ("PocketCompilerModel", "baseOf", "[I", true)
  | 109 => ("PocketCompilerModel", "called", "[I", true)
  | 110 => ("PocketCompilerModel", "frames", "I", false)
  | 111 => ("PocketCompilerModel", "base", "I", false)
  | 112 => ("PocketCompilerModel", "next", "I", false)
  | 113 => ("PocketCompilerModel", "turns", "I", false)
  | 114 => ("PocketCompilerModel", "mostTurns", "I", false)
  | 115 => ("PocketCompilerModel", "frameBytes", "I", false)
  | 116 => ("PocketCompilerModel", "mostBytes", "I", false)
  | 117 => ("PocketCompilerModel", "held", "[I", true)
  | 118 => ("PocketCompilerModel", "worked", "[I", true)
  | 119 => ("PocketCompilerModel", "workedMany", "I", false)
  | 120 => ("PocketCompilerModel", "gotMany", "I", false)
  | 121 => ("PocketCompilerModel", "answer", "I", false)
  | 122 => ("PocketCompilerModel", "answerValue", "I", false)
  | _ => ("PocketCompilerModel", "isWorked", "Z", false)
def tyX13 : Nat → FieldType := fun k => match k with
  | 0 => .int
  | 1 => .array .int
  | 2 => .int
  | 3 => .array .int
  | 4 => .int
  | 5 => .int
  | 6 => .array .int
  | 7 => .array .int
  | 8 => .array .int
  | 9 => .array .long
  | 10 => .array .boolean
  | 11 => .array .int
  | 12 => .int
  | 13 => .array .int
  | 14 => .array .int
  | 15 => .int
  | 16 => .array .int
  | 17 => .array .int
  | 18 => .array .int
  | 19 => .array .int
  | 20 => .array .int
  | 21 => .array .int
  | 22 => .int
  | 23 => .array .int
  | 24 => .array .int
  | 25 => .array .int
  | 26 => .array .boolean
  | 27 => .int
  | 28 => .int
  | 29 => .array .int
  | 30 => .int
  | 31 => .int
  | 32 => .int
  | 33 => .int
  | 34 => .int
  | 35 => .array .int
  | 36 => .array .int
  | 37 => .array .int
  | 38 => .array .int
  | 39 => .int
  | 40 => .array .int
  | 41 => .array .int
  | 42 => .array .int
  | 43 => .int
  | 44 => .boolean
  | 45 => .boolean
  | 46 => .object "PocketCompilerModel$Halt"
  | 47 => .int
  | 48 => .int
  | 49 => .int
  | 50 => .int
  | 51 => .int
  | 52 => .int
  | 53 => .int
  | 54 => .int
  | 55 => .int
  | 56 => .int
  | 57 => .int
  | 58 => .int
  | 59 => .int
  | 60 => .int
  | 61 => .array .int
  | 62 => .array .int
  | 63 => .array .int
  | 64 => .array .int
  | 65 => .array .int
  | 66 => .array .int
  | 67 => .int
  | 68 => .int
  | 69 => .int
  | 70 => .array .int
  | 71 => .array .int
  | 72 => .array .int
  | 73 => .int
  | 74 => .int
  | 75 => .int
  | 76 => .int
  | 77 => .int
  | 78 => .array .int
  | 79 => .array .int
  | 80 => .array .int
  | 81 => .array .int
  | 82 => .array .int
  | 83 => .array .int
  | 84 => .array .int
  | 85 => .array .int
  | 86 => .array .int
  | 87 => .array .int
  | 88 => .array .int
  | 89 => .array .boolean
  | 90 => .array .int
  | 91 => .int
  | 92 => .int
  | 93 => .array .int
  | 94 => .int
  | 95 => .int
  | 96 => .array .int
  | 97 => .array .int
  | 98 => .int
  | 99 => .int
  | 100 => .int
  | 101 => .array .int
  | 102 => .int
  | 103 => .array .int
  | 104 => .int
  | 105 => .array .int
  | 106 => .int
  | 107 => .array .int
  | 108 => .array .int
  | 109 => .array .int
  | 110 => .int
  | 111 => .int
  | 112 => .int
  | 113 => .int
  | 114 => .int
  | 115 => .int
  | 116 => .int
  | 117 => .array .int
  | 118 => .array .int
  | 119 => .int
  | 120 => .int
  | 121 => .int
  | 122 => .int
  | _ => .boolean
abbrev wsX130 : List Cond := u_ws RX13 TX13 124
theorem nmX13 : ∀ a, a < 124 → ∀ b, b < 124 → a ≠ b → (TX13 a).2.1 ≠ (TX13 b).2.1 := by decide +kernel
theorem tyX13_ok : ∀ k, k < 124 → parseFieldDescriptor (TX13 k).2.2.1 = some (tyX13 k) := by decide +kernel
abbrev cX13_thrown : ByteArray := prog_14_method_1_code
def yX13_thrown : MethodName := ⟨RX13, "thrown", "()I"⟩
abbrev cX13_feed : ByteArray := prog_14_method_2_code
def yX13_feed : MethodName := ⟨RX13, "feed", "(IIIII)Z"⟩
abbrev cX13_four : ByteArray := prog_14_method_3_code
def yX13_four : MethodName := ⟨RX13, "four", "(I)V"⟩
abbrev cX13_end : ByteArray := prog_14_method_4_code
def yX13_end : MethodName := ⟨RX13, "end", "(I)Z"⟩
abbrev cX13_at : ByteArray := prog_14_method_5_code
def yX13_at : MethodName := ⟨RX13, "at", "(I)I"⟩
abbrev cX13_isDigit : ByteArray := prog_14_method_6_code
def yX13_isDigit : MethodName := ⟨RX13, "isDigit", "(I)Z"⟩
abbrev cX13_isOfName : ByteArray := prog_14_method_7_code
def yX13_isOfName : MethodName := ⟨RX13, "isOfName", "(I)Z"⟩
abbrev cX13_hex : ByteArray := prog_14_method_8_code
def yX13_hex : MethodName := ⟨RX13, "hex", "(I)I"⟩
abbrev cX13_isBlank : ByteArray := prog_14_method_9_code
def yX13_isBlank : MethodName := ⟨RX13, "isBlank", "(I)Z"⟩
abbrev cX13_cut : ByteArray := prog_14_method_10_code
def yX13_cut : MethodName := ⟨RX13, "cut", "()V"⟩
abbrev cX13_token : ByteArray := prog_14_method_11_code
def yX13_token : MethodName := ⟨RX13, "token", "(I)I"⟩
abbrev cX13_number : ByteArray := prog_14_method_12_code
def yX13_number : MethodName := ⟨RX13, "number", "(I)I"⟩
abbrev cX13_sign : ByteArray := prog_14_method_13_code
def yX13_sign : MethodName := ⟨RX13, "sign", "(I)I"⟩
abbrev cX13_wordOf : ByteArray := prog_14_method_14_code
def yX13_wordOf : MethodName := ⟨RX13, "wordOf", "(Ljava/lang/String;II)I"⟩
abbrev cX13_isSame : ByteArray := prog_14_method_15_code
def yX13_isSame : MethodName := ⟨RX13, "isSame", "(II)Z"⟩
abbrev cX13_byI : ByteArray := prog_14_method_16_code
def yX13_byI : MethodName := ⟨RX13, "byI", "(IIIII)I"⟩
abbrev cX13_byR : ByteArray := prog_14_method_17_code
def yX13_byR : MethodName := ⟨RX13, "byR", "(IIIII)I"⟩
abbrev cX13_byB : ByteArray := prog_14_method_18_code
def yX13_byB : MethodName := ⟨RX13, "byB", "(IIII)I"⟩
abbrev cX13_byJ : ByteArray := prog_14_method_19_code
def yX13_byJ : MethodName := ⟨RX13, "byJ", "(II)I"⟩
abbrev cX13_hi : ByteArray := prog_14_method_20_code
def yX13_hi : MethodName := ⟨RX13, "hi", "(I)I"⟩
abbrev cX13_lo : ByteArray := prog_14_method_21_code
def yX13_lo : MethodName := ⟨RX13, "lo", "(I)I"⟩
abbrev cX13_addi : ByteArray := prog_14_method_22_code
def yX13_addi : MethodName := ⟨RX13, "addi", "(III)I"⟩
abbrev cX13_lui : ByteArray := prog_14_method_23_code
def yX13_lui : MethodName := ⟨RX13, "lui", "(II)I"⟩
abbrev cX13_lw : ByteArray := prog_14_method_24_code
def yX13_lw : MethodName := ⟨RX13, "lw", "(III)I"⟩
abbrev cX13_sw : ByteArray := prog_14_method_25_code
def yX13_sw : MethodName := ⟨RX13, "sw", "(III)I"⟩
abbrev cX13_emit : ByteArray := prog_14_method_26_code
def yX13_emit : MethodName := ⟨RX13, "emit", "(I)I"⟩
abbrev cX13_jump : ByteArray := prog_14_method_27_code
def yX13_jump : MethodName := ⟨RX13, "jump", "(III)V"⟩
abbrev cX13_wait : ByteArray := prog_14_method_28_code
def yX13_wait : MethodName := ⟨RX13, "wait", "(I)I"⟩
abbrev cX13_land : ByteArray := prog_14_method_29_code
def yX13_land : MethodName := ⟨RX13, "land", "(II)V"⟩
abbrev cX13_say : ByteArray := prog_14_method_30_code
def yX13_say : MethodName := ⟨RX13, "say", "(II)I"⟩
abbrev cX13_arrive : ByteArray := prog_14_method_31_code
def yX13_arrive : MethodName := ⟨RX13, "arrive", "(II)V"⟩
abbrev cX13_fail : ByteArray := prog_14_method_32_code
def yX13_fail : MethodName := ⟨RX13, "fail", "(II)LPocketCompilerModel$Halt;"⟩
abbrev cX13_bad : ByteArray := prog_14_method_33_code
def yX13_bad : MethodName := ⟨RX13, "bad", "()LPocketCompilerModel$Halt;"⟩
abbrev cX13_isSign : ByteArray := prog_14_method_34_code
def yX13_isSign : MethodName := ⟨RX13, "isSign", "(II)Z"⟩
abbrev cX13_is : ByteArray := prog_14_method_35_code
def yX13_is : MethodName := ⟨RX13, "is", "(I)Z"⟩
abbrev cX13_isKey : ByteArray := prog_14_method_36_code
def yX13_isKey : MethodName := ⟨RX13, "isKey", "(I)Z"⟩
abbrev cX13_take : ByteArray := prog_14_method_37_code
def yX13_take : MethodName := ⟨RX13, "take", "()V"⟩
abbrev cX13_opens : ByteArray := prog_14_method_38_code
def yX13_opens : MethodName := ⟨RX13, "opens", "()V"⟩
abbrev cX13_need : ByteArray := prog_14_method_39_code
def yX13_need : MethodName := ⟨RX13, "need", "(I)V"⟩
abbrev cX13_open : ByteArray := prog_14_method_40_code
def yX13_open : MethodName := ⟨RX13, "open", "(I)V"⟩
abbrev cX13_close : ByteArray := prog_14_method_41_code
def yX13_close : MethodName := ⟨RX13, "close", "(I)V"⟩
abbrev cX13_slots : ByteArray := prog_14_method_42_code
def yX13_slots : MethodName := ⟨RX13, "slots", "(I)I"⟩
abbrev cX13_slotAt : ByteArray := prog_14_method_43_code
def yX13_slotAt : MethodName := ⟨RX13, "slotAt", "(I)I"⟩
abbrev cX13_local : ByteArray := prog_14_method_44_code
def yX13_local : MethodName := ⟨RX13, "local", "(I)I"⟩
abbrev cX13_globalOf : ByteArray := prog_14_method_45_code
def yX13_globalOf : MethodName := ⟨RX13, "globalOf", "(I)I"⟩
abbrev cX13_functionOf : ByteArray := prog_14_method_46_code
def yX13_functionOf : MethodName := ⟨RX13, "functionOf", "(I)I"⟩
abbrev cX13_fix : ByteArray := prog_14_method_47_code
def yX13_fix : MethodName := ⟨RX13, "fix", "(III)V"⟩
abbrev cX13_operate : ByteArray := prog_14_method_48_code
def yX13_operate : MethodName := ⟨RX13, "operate", "(I)V"⟩
abbrev cX13_loads : ByteArray := prog_14_method_49_code
def yX13_loads : MethodName := ⟨RX13, "loads", "(I)V"⟩
abbrev cX13_strength : ByteArray := prog_14_method_50_code
def yX13_strength : MethodName := ⟨RX13, "strength", "()I"⟩
abbrev cX13_setting : ByteArray := prog_14_method_51_code
def yX13_setting : MethodName := ⟨RX13, "setting", "()I"⟩
abbrev cX13_remember : ByteArray := prog_14_method_52_code
def yX13_remember : MethodName := ⟨RX13, "remember", "(I)V"⟩
abbrev cX13_expression : ByteArray := prog_14_method_53_code
def yX13_expression : MethodName := ⟨RX13, "expression", "()V"⟩
abbrev cX13_named : ByteArray := prog_14_method_54_code
def yX13_named : MethodName := ⟨RX13, "named", "(Z)V"⟩
abbrev cX13_fetch : ByteArray := prog_14_method_55_code
def yX13_fetch : MethodName := ⟨RX13, "fetch", "(II)V"⟩
abbrev cX13_store : ByteArray := prog_14_method_56_code
def yX13_store : MethodName := ⟨RX13, "store", "(II)V"⟩
abbrev cX13_index : ByteArray := prog_14_method_57_code
def yX13_index : MethodName := ⟨RX13, "index", "(I)V"⟩
abbrev cX13_sets : ByteArray := prog_14_method_58_code
def yX13_sets : MethodName := ⟨RX13, "sets", "(IIZI)V"⟩
abbrev cX13_choice : ByteArray := prog_14_method_59_code
def yX13_choice : MethodName := ⟨RX13, "choice", "(Z)V"⟩
abbrev cX13_joined : ByteArray := prog_14_method_60_code
def yX13_joined : MethodName := ⟨RX13, "joined", "(IZ)V"⟩
abbrev cX13_both : ByteArray := prog_14_method_61_code
def yX13_both : MethodName := ⟨RX13, "both", "(ZI)V"⟩
abbrev cX13_operand : ByteArray := prog_14_method_62_code
def yX13_operand : MethodName := ⟨RX13, "operand", "()V"⟩
abbrev cX13_call : ByteArray := prog_14_method_63_code
def yX13_call : MethodName := ⟨RX13, "call", "()V"⟩
abbrev cX13_block : ByteArray := prog_14_method_64_code
def yX13_block : MethodName := ⟨RX13, "block", "()V"⟩
abbrev cX13_part : ByteArray := prog_14_method_65_code
def yX13_part : MethodName := ⟨RX13, "part", "()V"⟩
abbrev cX13_condition : ByteArray := prog_14_method_66_code
def yX13_condition : MethodName := ⟨RX13, "condition", "()I"⟩
abbrev cX13_unlessTrue : ByteArray := prog_14_method_67_code
def yX13_unlessTrue : MethodName := ⟨RX13, "unlessTrue", "()I"⟩
abbrev cX13_declared : ByteArray := prog_14_method_68_code
def yX13_declared : MethodName := ⟨RX13, "declared", "()V"⟩
abbrev cX13_statement : ByteArray := prog_14_method_69_code
def yX13_statement : MethodName := ⟨RX13, "statement", "()V"⟩
abbrev cX13_plain : ByteArray := prog_14_method_70_code
def yX13_plain : MethodName := ⟨RX13, "plain", "()V"⟩
abbrev cX13_choices : ByteArray := prog_14_method_71_code
def yX13_choices : MethodName := ⟨RX13, "choices", "()V"⟩
abbrev cX13_rounds : ByteArray := prog_14_method_72_code
def yX13_rounds : MethodName := ⟨RX13, "rounds", "()V"⟩
abbrev cX13_body : ByteArray := prog_14_method_73_code
def yX13_body : MethodName := ⟨RX13, "body", "(II)V"⟩
abbrev cX13_ends : ByteArray := prog_14_method_74_code
def yX13_ends : MethodName := ⟨RX13, "ends", "()V"⟩
abbrev cX13_doing : ByteArray := prog_14_method_75_code
def yX13_doing : MethodName := ⟨RX13, "doing", "()V"⟩
abbrev cX13_counting : ByteArray := prog_14_method_76_code
def yX13_counting : MethodName := ⟨RX13, "counting", "()V"⟩
abbrev cX13_leaving : ByteArray := prog_14_method_77_code
def yX13_leaving : MethodName := ⟨RX13, "leaving", "()V"⟩
abbrev cX13_returning : ByteArray := prog_14_method_78_code
def yX13_returning : MethodName := ⟨RX13, "returning", "()V"⟩
abbrev cX13_item : ByteArray := prog_14_method_79_code
def yX13_item : MethodName := ⟨RX13, "item", "()V"⟩
abbrev cX13_function0 : ByteArray := prog_14_method_80_code
def yX13_function0 : MethodName := ⟨RX13, "function0", "(I)V"⟩
abbrev cX13_body0 : ByteArray := prog_14_method_81_code
def yX13_body0 : MethodName := ⟨RX13, "body0", "()V"⟩
abbrev cX13_multiplying : ByteArray := prog_14_method_82_code
def yX13_multiplying : MethodName := ⟨RX13, "multiplying", "()V"⟩
abbrev cX13_dividing : ByteArray := prog_14_method_83_code
def yX13_dividing : MethodName := ⟨RX13, "dividing", "()V"⟩
abbrev cX13_addresses : ByteArray := prog_14_method_84_code
def yX13_addresses : MethodName := ⟨RX13, "addresses", "()V"⟩
abbrev cX13_walk : ByteArray := prog_14_method_85_code
def yX13_walk : MethodName := ⟨RX13, "walk", "()V"⟩
abbrev cX13_init : ByteArray := prog_14_method_86_code
def yX13_init : MethodName := ⟨RX13, "<init>", "(I)V"⟩
abbrev cX13_accept : ByteArray := prog_14_method_87_code
def yX13_accept : MethodName := ⟨RX13, "accept", "()V"⟩
abbrev cX13_load : ByteArray := prog_14_method_88_code
def yX13_load : MethodName := ⟨RX13, "load", "()I"⟩
abbrev cX13_fault : ByteArray := prog_14_method_89_code
def yX13_fault : MethodName := ⟨RX13, "fault", "(I)I"⟩
abbrev cX13_code : ByteArray := prog_14_method_90_code
def yX13_code : MethodName := ⟨RX13, "code", "(I)I"⟩
abbrev cX13_function : ByteArray := prog_14_method_91_code
def yX13_function : MethodName := ⟨RX13, "function", "(II)I"⟩
abbrev cX13_global : ByteArray := prog_14_method_92_code
def yX13_global : MethodName := ⟨RX13, "global", "(II)I"⟩
abbrev cX13_isTape : ByteArray := prog_14_method_93_code
def yX13_isTape : MethodName := ⟨RX13, "isTape", "(II)Z"⟩
abbrev cX13_find : ByteArray := prog_14_method_94_code
def yX13_find : MethodName := ⟨RX13, "find", "(I)I"⟩
abbrev cX13_give : ByteArray := prog_14_method_95_code
def yX13_give : MethodName := ⟨RX13, "give", "(I)I"⟩
abbrev cX13_forget : ByteArray := prog_14_method_96_code
def yX13_forget : MethodName := ⟨RX13, "forget", "()I"⟩
abbrev cX13_start : ByteArray := prog_14_method_97_code
def yX13_start : MethodName := ⟨RX13, "start", "(III)Z"⟩
abbrev cX13_step : ByteArray := prog_14_method_98_code
def yX13_step : MethodName := ⟨RX13, "step", "()I"⟩
abbrev cX13_run : ByteArray := prog_14_method_99_code
def yX13_run : MethodName := ⟨RX13, "run", "(I)I"⟩
abbrev cX13_isIn : ByteArray := prog_14_method_100_code
def yX13_isIn : MethodName := ⟨RX13, "isIn", "(II)Z"⟩
abbrev cX13_byteAt : ByteArray := prog_14_method_101_code
def yX13_byteAt : MethodName := ⟨RX13, "byteAt", "(I)I"⟩
abbrev cX13_setByte : ByteArray := prog_14_method_102_code
def yX13_setByte : MethodName := ⟨RX13, "setByte", "(II)V"⟩
abbrev cX13_doStep : ByteArray := prog_14_method_103_code
def yX13_doStep : MethodName := ⟨RX13, "doStep", "()V"⟩
abbrev cX13_goes : ByteArray := prog_14_method_104_code
def yX13_goes : MethodName := ⟨RX13, "goes", "(II)V"⟩
abbrev cX13_jumps : ByteArray := prog_14_method_105_code
def yX13_jumps : MethodName := ⟨RX13, "jumps", "(II)V"⟩
abbrev cX13_imJ : ByteArray := prog_14_method_106_code
def yX13_imJ : MethodName := ⟨RX13, "imJ", "(I)I"⟩
abbrev cX13_imB : ByteArray := prog_14_method_107_code
def yX13_imB : MethodName := ⟨RX13, "imB", "(I)I"⟩
abbrev cX13_branches : ByteArray := prog_14_method_108_code
def yX13_branches : MethodName := ⟨RX13, "branches", "(IIII)V"⟩
abbrev cX13_reads : ByteArray := prog_14_method_109_code
def yX13_reads : MethodName := ⟨RX13, "reads", "(IIII)V"⟩
abbrev cX13_writes : ByteArray := prog_14_method_110_code
def yX13_writes : MethodName := ⟨RX13, "writes", "(III)V"⟩
abbrev cX13_less : ByteArray := prog_14_method_111_code
def yX13_less : MethodName := ⟨RX13, "less", "(Z)I"⟩
abbrev cX13_byNumber : ByteArray := prog_14_method_112_code
def yX13_byNumber : MethodName := ⟨RX13, "byNumber", "(IIII)V"⟩
abbrev cX13_byRegister : ByteArray := prog_14_method_113_code
def yX13_byRegister : MethodName := ⟨RX13, "byRegister", "(IIIII)V"⟩
abbrev cX13_calls : ByteArray := prog_14_method_114_code
def yX13_calls : MethodName := ⟨RX13, "calls", "(I)V"⟩
abbrev cX13_result : ByteArray := prog_14_method_115_code
def yX13_result : MethodName := ⟨RX13, "result", "()I"⟩
abbrev cX13_register : ByteArray := prog_14_method_116_code
def yX13_register : MethodName := ⟨RX13, "register", "(I)I"⟩
abbrev cX13_set : ByteArray := prog_14_method_117_code
def yX13_set : MethodName := ⟨RX13, "set", "(II)V"⟩
abbrev cX13_word : ByteArray := prog_14_method_118_code
def yX13_word : MethodName := ⟨RX13, "word", "(I)I"⟩
abbrev cX13_poke : ByteArray := prog_14_method_119_code
def yX13_poke : MethodName := ⟨RX13, "poke", "(II)V"⟩
abbrev cX13_put : ByteArray := prog_14_method_120_code
def yX13_put : MethodName := ⟨RX13, "put", "(I)I"⟩
abbrev cX13_sign0 : ByteArray := prog_14_method_121_code
def yX13_sign0 : MethodName := ⟨RX13, "sign0", "(I)V"⟩
abbrev cX13_words : ByteArray := prog_14_method_122_code
def yX13_words : MethodName := ⟨RX13, "words", "(Ljava/lang/String;)V"⟩
abbrev cX13_decimal : ByteArray := prog_14_method_123_code
def yX13_decimal : MethodName := ⟨RX13, "decimal", "(I)V"⟩
abbrev cX13_named_ : ByteArray := prog_14_method_124_code
def yX13_named_ : MethodName := ⟨RX13, "named", "(I)V"⟩
abbrev cX13_comma : ByteArray := prog_14_method_125_code
def yX13_comma : MethodName := ⟨RX13, "comma", "()V"⟩
abbrev cX13_three : ByteArray := prog_14_method_126_code
def yX13_three : MethodName := ⟨RX13, "three", "(II)V"⟩
abbrev cX13_at_ : ByteArray := prog_14_method_127_code
def yX13_at_ : MethodName := ⟨RX13, "at", "(II)V"⟩
abbrev cX13_nameOf : ByteArray := prog_14_method_128_code
def yX13_nameOf : MethodName := ⟨RX13, "nameOf", "(I)Ljava/lang/String;"⟩
abbrev cX13_show : ByteArray := prog_14_method_129_code
def yX13_show : MethodName := ⟨RX13, "show", "(I)I"⟩
abbrev cX13_octet : ByteArray := prog_14_method_130_code
def yX13_octet : MethodName := ⟨RX13, "octet", "(I)I"⟩
abbrev cX13_push : ByteArray := prog_14_method_131_code
def yX13_push : MethodName := ⟨RX13, "push", "(I)V"⟩
abbrev cX13_pop : ByteArray := prog_14_method_132_code
def yX13_pop : MethodName := ⟨RX13, "pop", "()I"⟩
abbrev cX13_turn : ByteArray := prog_14_method_133_code
def yX13_turn : MethodName := ⟨RX13, "turn", "()I"⟩
abbrev cX13_enter : ByteArray := prog_14_method_134_code
def yX13_enter : MethodName := ⟨RX13, "enter", "(I)I"⟩
abbrev cX13_leave : ByteArray := prog_14_method_135_code
def yX13_leave : MethodName := ⟨RX13, "leave", "()I"⟩
abbrev cX13_worked : ByteArray := prog_14_method_136_code
def yX13_worked : MethodName := ⟨RX13, "worked", "(III)I"⟩
abbrev cX13_operates : ByteArray := prog_14_method_137_code
def yX13_operates : MethodName := ⟨RX13, "operates", "(I)I"⟩
abbrev cX13_obey : ByteArray := prog_14_method_138_code
def yX13_obey : MethodName := ⟨RX13, "obey", "()I"⟩
abbrev cX13_others : ByteArray := prog_14_method_139_code
def yX13_others : MethodName := ⟨RX13, "others", "(II)V"⟩
abbrev cX13_work : ByteArray := prog_14_method_140_code
def yX13_work : MethodName := ⟨RX13, "work", "(IIII)I"⟩
abbrev cX13_told : ByteArray := prog_14_method_141_code
def yX13_told : MethodName := ⟨RX13, "told", "(I)I"⟩
abbrev cX13_worked_ : ByteArray := prog_14_method_142_code
def yX13_worked_ : MethodName := ⟨RX13, "worked", "(I)I"⟩
abbrev cX13_left : ByteArray := prog_14_method_143_code
def yX13_left : MethodName := ⟨RX13, "left", "(II)I"⟩
abbrev cX13_count : ByteArray := prog_14_method_144_code
def yX13_count : MethodName := ⟨RX13, "count", "(I)I"⟩
def RJ5 : String := "java/lang/AbstractStringBuilder"
def TJ5 : u_T := fun k => match k with
  | _ => ("", "", "", false)
def tyJ5 : Nat → FieldType := fun k => match k with
  | _ => .int
abbrev wsJ50 : List Cond := u_ws RJ5 TJ5 0
theorem nmJ5 : ∀ a, a < 0 → ∀ b, b < 0 → a ≠ b → (TJ5 a).2.1 ≠ (TJ5 b).2.1 := by decide +kernel
theorem tyJ5_ok : ∀ k, k < 0 → parseFieldDescriptor (TJ5 k).2.2.1 = some (tyJ5 k) := by decide +kernel
abbrev cJ5_init_d00df : ByteArray := prog_16_method_2_code
def yJ5_init_d00df : MethodName := ⟨RJ5, "<init>", "(I)V"⟩
abbrev cJ5_length_8abf5 : ByteArray := prog_16_method_6_code
def yJ5_length_8abf5 : MethodName := ⟨RJ5, "length", "()I"⟩
abbrev cJ5_ensureCapacityInternal_d00df : ByteArray := prog_16_method_9_code
def yJ5_ensureCapacityInternal_d00df : MethodName := ⟨RJ5, "ensureCapacityInternal", "(I)V"⟩
abbrev cJ5_newCapacity_0f7a4 : ByteArray := prog_16_method_10_code
def yJ5_newCapacity_0f7a4 : MethodName := ⟨RJ5, "newCapacity", "(I)I"⟩
abbrev cJ5_inflate_da8c8 : ByteArray := prog_16_method_11_code
def yJ5_inflate_da8c8 : MethodName := ⟨RJ5, "inflate", "()V"⟩
abbrev cJ5_setLength_d00df : ByteArray := prog_16_method_13_code
def yJ5_setLength_d00df : MethodName := ⟨RJ5, "setLength", "(I)V"⟩
abbrev cJ5_charAt_5068e : ByteArray := prog_16_method_14_code
def yJ5_charAt_5068e : MethodName := ⟨RJ5, "charAt", "(I)C"⟩
abbrev cJ5_append_cf1ce : ByteArray := prog_16_method_22_code
def yJ5_append_cf1ce : MethodName := ⟨RJ5, "append", "(Ljava/lang/String;)Ljava/lang/AbstractStringBuilder;"⟩
abbrev cJ5_appendNull_278bc : ByteArray := prog_16_method_26_code
def yJ5_appendNull_278bc : MethodName := ⟨RJ5, "appendNull", "()Ljava/lang/AbstractStringBuilder;"⟩
abbrev cJ5_append_3fe6f : ByteArray := prog_16_method_31_code
def yJ5_append_3fe6f : MethodName := ⟨RJ5, "append", "(C)Ljava/lang/AbstractStringBuilder;"⟩
abbrev cJ5_append_c97b9 : ByteArray := prog_16_method_32_code
def yJ5_append_c97b9 : MethodName := ⟨RJ5, "append", "(I)Ljava/lang/AbstractStringBuilder;"⟩
abbrev cJ5_getValue_6d5f1 : ByteArray := prog_16_method_64_code
def yJ5_getValue_6d5f1 : MethodName := ⟨RJ5, "getValue", "()[B"⟩
abbrev cJ5_isLatin1_aae02 : ByteArray := prog_16_method_68_code
def yJ5_isLatin1_aae02 : MethodName := ⟨RJ5, "isLatin1", "()Z"⟩
abbrev cJ5_inflateIfNeededFor_a7421 : ByteArray := prog_16_method_71_code
def yJ5_inflateIfNeededFor_a7421 : MethodName := ⟨RJ5, "inflateIfNeededFor", "(Ljava/lang/String;)V"⟩
abbrev cJ5_putStringAt_47b60 : ByteArray := prog_16_method_73_code
def yJ5_putStringAt_47b60 : MethodName := ⟨RJ5, "putStringAt", "(ILjava/lang/String;)V"⟩
def RJx00060 : String := "java/lang/ArrayIndexOutOfBoundsException"
def TJx00060 : u_T := fun k => match k with
  | 0 => ("java/lang/Throwable", "cause", "Ljava/lang/Throwable;", false)
  | 1 => ("java/lang/Throwable", "stackTrace", "[Ljava/lang/StackTraceElement;", false)
  | 2 => ("java/lang/Throwable", "suppressedExceptions", "Ljava/util/List;", false)
  | 3 => ("java/lang/Throwable", "detailMessage", "Ljava/lang/String;", false)
  | 4 => ("java/lang/Throwable", "backtrace", "Ljava/lang/Object;", false)
  | _ => ("java/lang/Throwable", "depth", "I", false)
def tyJx00060 : Nat → FieldType := fun k => match k with
  | 0 => .object "java/lang/Throwable"
  | 1 => .array (.object "java/lang/StackTraceElement")
  | 2 => .object "java/util/List"
  | 3 => .object "java/lang/String"
  | 4 => .object "java/lang/Object"
  | _ => .int
abbrev wsJx000600 : List Cond := u_ws RJx00060 TJx00060 6
theorem nmJx00060 : ∀ a, a < 6 → ∀ b, b < 6 → a ≠ b → (TJx00060 a).2.1 ≠ (TJx00060 b).2.1 := by decide +kernel
theorem tyJx00060_ok : ∀ k, k < 6 → parseFieldDescriptor (TJx00060 k).2.2.1 = some (tyJx00060 k) := by decide +kernel
abbrev cJx00060_init_d00df : ByteArray := prog_17_method_3_code
def yJx00060_init_d00df : MethodName := ⟨RJx00060, "<init>", "(I)V"⟩
def RJx8e188 : String := "java/lang/Cloneable"
def TJx8e188 : u_T := fun k => match k with
  | _ => ("", "", "", false)
def tyJx8e188 : Nat → FieldType := fun k => match k with
  | _ => .int
abbrev wsJx8e1880 : List Cond := u_ws RJx8e188 TJx8e188 0
theorem nmJx8e188 : ∀ a, a < 0 → ∀ b, b < 0 → a ≠ b → (TJx8e188 a).2.1 ≠ (TJx8e188 b).2.1 := by decide +kernel
theorem tyJx8e188_ok : ∀ k, k < 0 → parseFieldDescriptor (TJx8e188 k).2.2.1 = some (tyJx8e188 k) := by decide +kernel
def RJ6 : String := "java/lang/Integer"
def TJ6 : u_T := fun k => match k with
  | _ => ("", "", "", false)
def tyJ6 : Nat → FieldType := fun k => match k with
  | _ => .int
abbrev wsJ60 : List Cond := u_ws RJ6 TJ6 0
theorem nmJ6 : ∀ a, a < 0 → ∀ b, b < 0 → a ≠ b → (TJ6 a).2.1 ≠ (TJ6 b).2.1 := by decide +kernel
theorem tyJ6_ok : ∀ k, k < 0 → parseFieldDescriptor (TJ6 k).2.2.1 = some (tyJ6 k) := by decide +kernel
abbrev cJ6_getChars_ba4f3 : ByteArray := prog_23_method_12_code
def yJ6_getChars_ba4f3 : MethodName := ⟨RJ6, "getChars", "(II[B)I"⟩
abbrev cJ6_stringSize_0f7a4 : ByteArray := prog_23_method_13_code
def yJ6_stringSize_0f7a4 : MethodName := ⟨RJ6, "stringSize", "(I)I"⟩
abbrev cJ6_compare_7cf53 : ByteArray := prog_23_method_40_code
def yJ6_compare_7cf53 : MethodName := ⟨RJ6, "compare", "(II)I"⟩
abbrev cJ6_compareUnsigned_7cf53 : ByteArray := prog_23_method_41_code
def yJ6_compareUnsigned_7cf53 : MethodName := ⟨RJ6, "compareUnsigned", "(II)I"⟩
def RJ9 : String := "java/lang/Math"
def TJ9 : u_T := fun k => match k with
  | _ => ("", "", "", false)
def tyJ9 : Nat → FieldType := fun k => match k with
  | _ => .int
abbrev wsJ90 : List Cond := u_ws RJ9 TJ9 0
theorem nmJ9 : ∀ a, a < 0 → ∀ b, b < 0 → a ≠ b → (TJ9 a).2.1 ≠ (TJ9 b).2.1 := by decide +kernel
theorem tyJ9_ok : ∀ k, k < 0 → parseFieldDescriptor (TJ9 k).2.2.1 = some (tyJ9 k) := by decide +kernel
abbrev cJ9_max_7cf53 : ByteArray := prog_24_method_65_code
def yJ9_max_7cf53 : MethodName := ⟨RJ9, "max", "(II)I"⟩
abbrev cJ9_min_7cf53 : ByteArray := prog_24_method_69_code
def yJ9_min_7cf53 : MethodName := ⟨RJ9, "min", "(II)I"⟩
def RJ0 : String := "java/lang/String"
def TJ0 : u_T := fun k => match k with
  | 0 => ("java/lang/String", "value", "[B", true)
  | 1 => ("java/lang/String", "coder", "B", true)
  | 2 => ("java/lang/String", "hash", "I", false)
  | _ => ("java/lang/String", "hashIsZero", "Z", false)
def tyJ0 : Nat → FieldType := fun k => match k with
  | 0 => .array .byte
  | 1 => .byte
  | 2 => .int
  | _ => .boolean
abbrev wsJ00 : List Cond := u_ws RJ0 TJ0 4
theorem nmJ0 : ∀ a, a < 4 → ∀ b, b < 4 → a ≠ b → (TJ0 a).2.1 ≠ (TJ0 b).2.1 := by decide +kernel
theorem tyJ0_ok : ∀ k, k < 4 → parseFieldDescriptor (TJ0 k).2.2.1 = some (tyJ0 k) := by decide +kernel
abbrev cJ0_init_81219 : ByteArray := prog_26_method_53_code
def yJ0_init_81219 : MethodName := ⟨RJ0, "<init>", "(Ljava/lang/StringBuilder;)V"⟩
abbrev cJ0_length_8abf5 : ByteArray := prog_26_method_54_code
def yJ0_length_8abf5 : MethodName := ⟨RJ0, "length", "()I"⟩
abbrev cJ0_charAt_5068e : ByteArray := prog_26_method_56_code
def yJ0_charAt_5068e : MethodName := ⟨RJ0, "charAt", "(I)C"⟩
abbrev cJ0_getBytes_840e7 : ByteArray := prog_26_method_147_code
def yJ0_getBytes_840e7 : MethodName := ⟨RJ0, "getBytes", "([BIB)V"⟩
abbrev cJ0_init_db425 : ByteArray := prog_26_method_150_code
def yJ0_init_db425 : MethodName := ⟨RJ0, "<init>", "(Ljava/lang/AbstractStringBuilder;Ljava/lang/Void;)V"⟩
abbrev cJ0_coder_7d493 : ByteArray := prog_26_method_152_code
def yJ0_coder_7d493 : MethodName := ⟨RJ0, "coder", "()B"⟩
abbrev cJ0_isLatin1_aae02 : ByteArray := prog_26_method_154_code
def yJ0_isLatin1_aae02 : MethodName := ⟨RJ0, "isLatin1", "()Z"⟩
abbrev cJ0_checkIndex_df160 : ByteArray := prog_26_method_155_code
def yJ0_checkIndex_df160 : MethodName := ⟨RJ0, "checkIndex", "(II)V"⟩
abbrev cJ0_checkBoundsOffCount_cabcc : ByteArray := prog_26_method_157_code
def yJ0_checkBoundsOffCount_cabcc : MethodName := ⟨RJ0, "checkBoundsOffCount", "(III)I"⟩
abbrev cJ0_checkBoundsBeginEnd_23922 : ByteArray := prog_26_method_158_code
def yJ0_checkBoundsBeginEnd_23922 : MethodName := ⟨RJ0, "checkBoundsBeginEnd", "(III)V"⟩
def RJ4 : String := "java/lang/StringBuilder"
def TJ4 : u_T := fun k => match k with
  | 0 => ("java/lang/AbstractStringBuilder", "value", "[B", false)
  | 1 => ("java/lang/AbstractStringBuilder", "coder", "B", false)
  | 2 => ("java/lang/AbstractStringBuilder", "maybeLatin1", "Z", false)
  | _ => ("java/lang/AbstractStringBuilder", "count", "I", false)
def tyJ4 : Nat → FieldType := fun k => match k with
  | 0 => .array .byte
  | 1 => .byte
  | 2 => .boolean
  | _ => .int
abbrev wsJ40 : List Cond := u_ws RJ4 TJ4 4
theorem nmJ4 : ∀ a, a < 4 → ∀ b, b < 4 → a ≠ b → (TJ4 a).2.1 ≠ (TJ4 b).2.1 := by decide +kernel
theorem tyJ4_ok : ∀ k, k < 4 → parseFieldDescriptor (TJ4 k).2.2.1 = some (tyJ4 k) := by decide +kernel
abbrev cJ4_init_da8c8 : ByteArray := prog_27_method_1_code
def yJ4_init_da8c8 : MethodName := ⟨RJ4, "<init>", "()V"⟩
abbrev cJ4_append_15ec4 : ByteArray := prog_27_method_7_code
def yJ4_append_15ec4 : MethodName := ⟨RJ4, "append", "(Ljava/lang/String;)Ljava/lang/StringBuilder;"⟩
abbrev cJ4_append_cf468 : ByteArray := prog_27_method_14_code
def yJ4_append_cf468 : MethodName := ⟨RJ4, "append", "(C)Ljava/lang/StringBuilder;"⟩
abbrev cJ4_append_bf812 : ByteArray := prog_27_method_15_code
def yJ4_append_bf812 : MethodName := ⟨RJ4, "append", "(I)Ljava/lang/StringBuilder;"⟩
abbrev cJ4_toString_0e30d : ByteArray := prog_27_method_42_code
def yJ4_toString_0e30d : MethodName := ⟨RJ4, "toString", "()Ljava/lang/String;"⟩
abbrev cJ4_charAt_5068e : ByteArray := prog_27_method_88_code
def yJ4_charAt_5068e : MethodName := ⟨RJ4, "charAt", "(I)C"⟩
abbrev cJ4_setLength_d00df : ByteArray := prog_27_method_89_code
def yJ4_setLength_d00df : MethodName := ⟨RJ4, "setLength", "(I)V"⟩
abbrev cJ4_length_8abf5 : ByteArray := prog_27_method_93_code
def yJ4_length_8abf5 : MethodName := ⟨RJ4, "length", "()I"⟩
def RJx7c733 : String := "java/lang/StringIndexOutOfBoundsException"
def TJx7c733 : u_T := fun k => match k with
  | 0 => ("java/lang/Throwable", "backtrace", "Ljava/lang/Object;", false)
  | 1 => ("java/lang/Throwable", "detailMessage", "Ljava/lang/String;", false)
  | 2 => ("java/lang/Throwable", "cause", "Ljava/lang/Throwable;", false)
  | 3 => ("java/lang/Throwable", "stackTrace", "[Ljava/lang/StackTraceElement;", false)
  | 4 => ("java/lang/Throwable", "depth", "I", false)
  | _ => ("java/lang/Throwable", "suppressedExceptions", "Ljava/util/List;", false)
def tyJx7c733 : Nat → FieldType := fun k => match k with
  | 0 => .object "java/lang/Object"
  | 1 => .object "java/lang/String"
  | 2 => .object "java/lang/Throwable"
  | 3 => .array (.object "java/lang/StackTraceElement")
  | 4 => .int
  | _ => .object "java/util/List"
abbrev wsJx7c7330 : List Cond := u_ws RJx7c733 TJx7c733 6
theorem nmJx7c733 : ∀ a, a < 6 → ∀ b, b < 6 → a ≠ b → (TJx7c733 a).2.1 ≠ (TJx7c733 b).2.1 := by decide +kernel
theorem tyJx7c733_ok : ∀ k, k < 6 → parseFieldDescriptor (TJx7c733 k).2.2.1 = some (tyJx7c733 k) := by decide +kernel
abbrev cJx7c733_init_d00df : ByteArray := prog_28_method_3_code
def yJx7c733_init_d00df : MethodName := ⟨RJx7c733, "<init>", "(I)V"⟩
def RJ1 : String := "java/lang/StringLatin1"
def TJ1 : u_T := fun k => match k with
  | _ => ("", "", "", false)
def tyJ1 : Nat → FieldType := fun k => match k with
  | _ => .int
abbrev wsJ10 : List Cond := u_ws RJ1 TJ1 0
theorem nmJ1 : ∀ a, a < 0 → ∀ b, b < 0 → a ≠ b → (TJ1 a).2.1 ≠ (TJ1 b).2.1 := by decide +kernel
theorem tyJ1_ok : ∀ k, k < 0 → parseFieldDescriptor (TJ1 k).2.2.1 = some (tyJ1 k) := by decide +kernel
abbrev cJ1_charAt_3b067 : ByteArray := prog_29_method_2_code
def yJ1_charAt_3b067 : MethodName := ⟨RJ1, "charAt", "([BI)C"⟩
abbrev cJ1_canEncode_fc78d : ByteArray := prog_29_method_3_code
def yJ1_canEncode_fc78d : MethodName := ⟨RJ1, "canEncode", "(C)Z"⟩
abbrev cJ1_fillNull_b72d1 : ByteArray := prog_29_method_48_code
def yJ1_fillNull_b72d1 : MethodName := ⟨RJ1, "fillNull", "([BII)V"⟩
abbrev cJ1_inflate_0e8fd : ByteArray := prog_29_method_50_code
def yJ1_inflate_0e8fd : MethodName := ⟨RJ1, "inflate", "([BI[BII)V"⟩
def RJ2 : String := "java/lang/StringUTF16"
def TJ2 : u_T := fun k => match k with
  | _ => ("", "", "", false)
def tyJ2 : Nat → FieldType := fun k => match k with
  | _ => .int
abbrev wsJ20 : List Cond := u_ws RJ2 TJ2 0
theorem nmJ2 : ∀ a, a < 0 → ∀ b, b < 0 → a ≠ b → (TJ2 a).2.1 ≠ (TJ2 b).2.1 := by decide +kernel
theorem tyJ2_ok : ∀ k, k < 0 → parseFieldDescriptor (TJ2 k).2.2.1 = some (tyJ2 k) := by decide +kernel
abbrev cJ2_newBytesFor_77867 : ByteArray := prog_30_method_2_code
def yJ2_newBytesFor_77867 : MethodName := ⟨RJ2, "newBytesFor", "(I)[B"⟩
abbrev cJ2_newBytesLength_0f7a4 : ByteArray := prog_30_method_3_code
def yJ2_newBytesLength_0f7a4 : MethodName := ⟨RJ2, "newBytesLength", "(I)I"⟩
abbrev cJ2_putChar_b72d1 : ByteArray := prog_30_method_4_code
def yJ2_putChar_b72d1 : MethodName := ⟨RJ2, "putChar", "([BII)V"⟩
abbrev cJ2_getChar_3b067 : ByteArray := prog_30_method_5_code
def yJ2_getChar_3b067 : MethodName := ⟨RJ2, "getChar", "([BI)C"⟩
abbrev cJ2_length_9d52b : ByteArray := prog_30_method_6_code
def yJ2_length_9d52b : MethodName := ⟨RJ2, "length", "([B)I"⟩
abbrev cJ2_coderFromArrayLen_85cad : ByteArray := prog_30_method_15_code
def yJ2_coderFromArrayLen_85cad : MethodName := ⟨RJ2, "coderFromArrayLen", "([BI)B"⟩
abbrev cJ2_compress_39247 : ByteArray := prog_30_method_17_code
def yJ2_compress_39247 : MethodName := ⟨RJ2, "compress", "([BII)[B"⟩
abbrev cJ2_compress_5af95 : ByteArray := prog_30_method_22_code
def yJ2_compress_5af95 : MethodName := ⟨RJ2, "compress", "([BI[BII)I"⟩
abbrev cJ2_fillNull_b72d1 : ByteArray := prog_30_method_70_code
def yJ2_fillNull_b72d1 : MethodName := ⟨RJ2, "fillNull", "([BII)V"⟩
abbrev cJ2_putCharSB_b72d1 : ByteArray := prog_30_method_71_code
def yJ2_putCharSB_b72d1 : MethodName := ⟨RJ2, "putCharSB", "([BII)V"⟩
abbrev cJ2_getChars_46870 : ByteArray := prog_30_method_77_code
def yJ2_getChars_46870 : MethodName := ⟨RJ2, "getChars", "(III[B)I"⟩
abbrev cJ2_putCharsAt_cd4e5 : ByteArray := prog_30_method_81_code
def yJ2_putCharsAt_cd4e5 : MethodName := ⟨RJ2, "putCharsAt", "([BICCCC)I"⟩
abbrev cJ2_charAt_3b067 : ByteArray := prog_30_method_83_code
def yJ2_charAt_3b067 : MethodName := ⟨RJ2, "charAt", "([BI)C"⟩
abbrev cJ2_inflate_0e8fd : ByteArray := prog_30_method_86_code
def yJ2_inflate_0e8fd : MethodName := ⟨RJ2, "inflate", "([BI[BII)V"⟩
abbrev cJ2_getChars_ba4f3 : ByteArray := prog_30_method_89_code
def yJ2_getChars_ba4f3 : MethodName := ⟨RJ2, "getChars", "(II[B)I"⟩
abbrev cJ2_checkIndex_2214a : ByteArray := prog_30_method_91_code
def yJ2_checkIndex_2214a : MethodName := ⟨RJ2, "checkIndex", "(I[B)V"⟩
abbrev cJ2_checkBoundsBeginEnd_d044e : ByteArray := prog_30_method_93_code
def yJ2_checkBoundsBeginEnd_d044e : MethodName := ⟨RJ2, "checkBoundsBeginEnd", "(II[B)V"⟩
abbrev cJ2_checkBoundsOffCount_d044e : ByteArray := prog_30_method_94_code
def yJ2_checkBoundsOffCount_d044e : MethodName := ⟨RJ2, "checkBoundsOffCount", "(II[B)V"⟩
def RJ10 : String := "java/lang/System"
def TJ10 : u_T := fun k => match k with
  | _ => ("", "", "", false)
def tyJ10 : Nat → FieldType := fun k => match k with
  | _ => .int
abbrev wsJ100 : List Cond := u_ws RJ10 TJ10 0
theorem nmJ10 : ∀ a, a < 0 → ∀ b, b < 0 → a ≠ b → (TJ10 a).2.1 ≠ (TJ10 b).2.1 := by decide +kernel
theorem tyJ10_ok : ∀ k, k < 0 → parseFieldDescriptor (TJ10 k).2.2.1 = some (tyJ10 k) := by decide +kernel
def RJ7 : String := "java/util/Arrays"
def TJ7 : u_T := fun k => match k with
  | _ => ("", "", "", false)
def tyJ7 : Nat → FieldType := fun k => match k with
  | _ => .int
abbrev wsJ70 : List Cond := u_ws RJ7 TJ7 0
theorem nmJ7 : ∀ a, a < 0 → ∀ b, b < 0 → a ≠ b → (TJ7 a).2.1 ≠ (TJ7 b).2.1 := by decide +kernel
theorem tyJ7_ok : ∀ k, k < 0 → parseFieldDescriptor (TJ7 k).2.2.1 = some (tyJ7 k) := by decide +kernel
abbrev cJ7_rangeCheck_23922 : ByteArray := prog_33_method_30_code
def yJ7_rangeCheck_23922 : MethodName := ⟨RJ7, "rangeCheck", "(III)V"⟩
abbrev cJ7_fill_53178 : ByteArray := prog_33_method_103_code
def yJ7_fill_53178 : MethodName := ⟨RJ7, "fill", "([II)V"⟩
abbrev cJ7_fill_eb02e : ByteArray := prog_33_method_110_code
def yJ7_fill_eb02e : MethodName := ⟨RJ7, "fill", "([BIIB)V"⟩
abbrev cJ7_copyOf_9075b : ByteArray := prog_33_method_121_code
def yJ7_copyOf_9075b : MethodName := ⟨RJ7, "copyOf", "([BI)[B"⟩
abbrev cJ7_checkLength_df160 : ByteArray := prog_33_method_131_code
def yJ7_checkLength_df160 : MethodName := ⟨RJ7, "checkLength", "(II)V"⟩
abbrev cJ7_copyOfRange_39247 : ByteArray := prog_33_method_132_code
def yJ7_copyOfRange_39247 : MethodName := ⟨RJ7, "copyOfRange", "([BII)[B"⟩
abbrev cJ7_copyOfRangeByte_39247 : ByteArray := prog_33_method_133_code
def yJ7_copyOfRangeByte_39247 : MethodName := ⟨RJ7, "copyOfRangeByte", "([BII)[B"⟩
def RJ8 : String := "jdk/internal/util/ArraysSupport"
def TJ8 : u_T := fun k => match k with
  | _ => ("", "", "", false)
def tyJ8 : Nat → FieldType := fun k => match k with
  | _ => .int
abbrev wsJ80 : List Cond := u_ws RJ8 TJ8 0
theorem nmJ8 : ∀ a, a < 0 → ∀ b, b < 0 → a ≠ b → (TJ8 a).2.1 ≠ (TJ8 b).2.1 := by decide +kernel
theorem tyJ8_ok : ∀ k, k < 0 → parseFieldDescriptor (TJ8 k).2.2.1 = some (tyJ8 k) := by decide +kernel
abbrev cJ8_newLength_cabcc : ByteArray := prog_35_method_27_code
def yJ8_newLength_cabcc : MethodName := ⟨RJ8, "newLength", "(III)I"⟩
abbrev cJ8_hugeLength_7cf53 : ByteArray := prog_35_method_28_code
def yJ8_hugeLength_7cf53 : MethodName := ⟨RJ8, "hugeLength", "(II)I"⟩
def RJ3 : String := "jdk/internal/util/Preconditions"
def TJ3 : u_T := fun k => match k with
  | _ => ("", "", "", false)
def tyJ3 : Nat → FieldType := fun k => match k with
  | _ => .int
abbrev wsJ30 : List Cond := u_ws RJ3 TJ3 0
theorem nmJ3 : ∀ a, a < 0 → ∀ b, b < 0 → a ≠ b → (TJ3 a).2.1 ≠ (TJ3 b).2.1 := by decide +kernel
theorem tyJ3_ok : ∀ k, k < 0 → parseFieldDescriptor (TJ3 k).2.2.1 = some (tyJ3 k) := by decide +kernel
abbrev cJ3_checkIndex_8e157 : ByteArray := prog_36_method_11_code
def yJ3_checkIndex_8e157 : MethodName := ⟨RJ3, "checkIndex", "(IILjava/util/function/BiFunction;)I"⟩
abbrev cJ3_checkFromToIndex_8c36e : ByteArray := prog_36_method_12_code
def yJ3_checkFromToIndex_8c36e : MethodName := ⟨RJ3, "checkFromToIndex", "(IIILjava/util/function/BiFunction;)I"⟩
abbrev cJ3_checkFromIndexSize_8c36e : ByteArray := prog_36_method_13_code
def yJ3_checkFromIndexSize_8c36e : MethodName := ⟨RJ3, "checkFromIndexSize", "(IIILjava/util/function/BiFunction;)I"⟩
def RL : String := "PocketCompilerLaw"
abbrev cL_cell : ByteArray := method_2_code
def yL_cell : MethodName := ⟨RL, "cell", "([II)I"⟩
abbrev cL_code : ByteArray := method_3_code
def yL_code : MethodName := ⟨RL, "code", "(LPocketCompiler;I[J)I"⟩
abbrev cL_find : ByteArray := method_4_code
def yL_find : MethodName := ⟨RL, "find", "(LPocketCompiler;I[J)I"⟩
abbrev cL_run : ByteArray := method_5_code
def yL_run : MethodName := ⟨RL, "run", "(LPocketCompiler;I[J)I"⟩
abbrev cL_register : ByteArray := method_6_code
def yL_register : MethodName := ⟨RL, "register", "(LPocketCompiler;I[J)I"⟩
abbrev cL_set : ByteArray := method_7_code
def yL_set : MethodName := ⟨RL, "set", "(LPocketCompiler;II)I"⟩
abbrev cL_word : ByteArray := method_8_code
def yL_word : MethodName := ⟨RL, "word", "(LPocketCompiler;I[J)I"⟩
abbrev cL_poke : ByteArray := method_9_code
def yL_poke : MethodName := ⟨RL, "poke", "(LPocketCompiler;II)I"⟩
abbrev cL_put : ByteArray := method_10_code
def yL_put : MethodName := ⟨RL, "put", "(LPocketCompiler;I[J)I"⟩
abbrev cL_work : ByteArray := method_11_code
def yL_work : MethodName := ⟨RL, "work", "(LPocketCompiler;IIII[J)I"⟩
abbrev cL_worked : ByteArray := method_12_code
def yL_worked : MethodName := ⟨RL, "worked", "(LPocketCompiler;I[J)I"⟩
abbrev cL_left : ByteArray := method_13_code
def yL_left : MethodName := ⟨RL, "left", "(LPocketCompiler;II[J)I"⟩
abbrev cL_law : ByteArray := code
def yL_law : MethodName := ⟨RL, "law", "([I)Z"⟩
abbrev vwCl : List vw_C := [(RJ0, TJ0, 4), (RJ4, TJ4, 4), (RJx00060, TJx00060, 6), (RJx7c733, TJx7c733, 6), (RX0, TX0, 9), (RX1, TX1, 12), (RX2, TX2, 5), (RX3, TX3, 3), (RX5, TX5, 7), (RX6, TX6, 9), (RX7, TX7, 13), (RX8, TX8, 1), (RX9, TX9, 10), (RX10, TX10, 17), (RX11, TX11, 12), (RX12, TX12, 6), (RX13, TX13, 124)]
end
section
/-! ===== BEGIN exceptions that leave a method, and their catching by the caller (launches without stack traces) ===== -/
section VXA
/-! The laws vx_back, vx_callV, vx_callS, vx_callSW, vx_throw0, vx_throwS follow proofs of the library, with one case more: JvmDerived/Free/Laws.lean (Back.of_free), Shelf42/LK1.lean (callV, callS), Shelf/KitTraced.lean (throwNew0V, throwNewS). -/
/-- where a method has thrown q: the class by its name, the cell, what was written, the world -/
def vx_T (XC : String → State → State → Prop) (st : State) (q : Addr) (t : State) (mc ms : Nat) (free : Addr → Prop) : Prop :=
  ∃ (E : String) (ce : Cell) (L : List Loc), XC E st t ∧ t.heap[q]? = some ce ∧ ce.vm = .none ∧ st.vm.findClass E = some ce.cls ∧ st.WarmedH t.vm ∧ st.sameButNew ({ t with vm := st.vm } : State) L mc ms ∧ ∀ z ∈ L, free z.base
def vx_Q (Qc : Array Value → State → Outcome → State → Prop) (XC : String → State → State → Prop) (mc ms : Nat) (free : Addr → Prop) : Array Value → State → Outcome → State → Prop := fun a st o t =>
  (Qc a st o t ∧ ∃ L, FrameEnd st o t L mc ms ∧ ∀ q ∈ L, free q.base) ∨ ∃ q, o = .threw q ∧ vx_T XC st q t mc ms free
/-- a callee that returns or throws -/
def vx_Met (l : Launch) (y : MethodName) (ws : List Cond) (rm : Room) (Pc : Array Value → State → Prop) (Qc : Array Value → State → Outcome → State → Prop) (XC : String → State → State → Prop) (mc ms : Nat) (free : Addr → Prop) : Prop :=
  MetFree l y (headSpec ws rm) Pc (fun _ _ _ _ _ => True) (vx_Q Qc XC mc ms free)
def vx_Post (XC : String → State → State → Prop) (mc ms : Nat) (free : Addr → Prop) : Pt → Array Value → Addr → Pt → Prop := fun A a q B =>
  ∃ (g : JFrame) (mk : MethodId) (t : State) (L : List Loc) (E : String) (ce : Cell), B.U.heap = t.heap ∧ B.U.vm = t.vm ∧ XC E (A.U.calling g mk a) t ∧ t.heap[q]? = some ce ∧ ce.vm = .none ∧ A.U.vm.findClass E = some ce.cls ∧ B.locs = A.locs ++ L ∧ (∀ z ∈ L, free z.base) ∧ B.cells = A.cells + mc ∧ B.slots = A.slots + ms
def vx_Back (l : Launch) (R : Room) (p : Program) (e : Env) (below : List Frame) (s : State) (sargs : Array Value) (y : MethodName) (len W9 : Nat)
    (Pre : Pt → Array Value → Prop) (Post : Pt → Array Value → Option Value → Pt → Prop) (PostX : Pt → Array Value → Addr → Pt → Prop) : Prop :=
  ∀ (m : MethodId) (meth : Method) (c : Code) (A : Pt) (g : JFrame) (ig : Instr) (mk : MethodId) (a : Array Value),
    Stand p l e R s m sargs below meth c A.U A.locs A.cells A.slots → g.method = m → g.locals.size = c.maxLocals → decode c.code g.pc = .ok (ig, len) →
    2 * g.monitorRoom + (g.stack.map fun v => v.category).sum ≤ W9 → A.U.methodNamed? y = some mk → Pre A a →
    (∃ (v : Option Value) (B : Pt), Stand p l e R s m sargs below meth c B.U B.locs B.cells B.slots ∧ Post A a v B ∧
      Steps p.tables e below (doInvoke e (A.U.setTop g) [] mk a).1 (B.U.setTop { g with pc := g.pc + len, stack := v.toList ++ g.stack })) ∨
    (∃ (q : Addr) (B : Pt), Stand p l e R s m sargs below meth c B.U B.locs B.cells B.slots ∧ PostX A a q B ∧
      Steps p.tables e below (doInvoke e (A.U.setTop g) [] mk a).1 ((B.U.setTop g).pushFrame (.throwing q)))
section Payer
variable {l : Launch} {R : Room} {p : Program} {e : Env} {below : List Frame} {s : State} {sargs : Array Value} {y : MethodName} {len W9 : Nat}
theorem vx_back {ws : List Cond} {rm : Room} {Pc : Array Value → State → Prop} {Qc : Array Value → State → Outcome → State → Prop} {XC : String → State → State → Prop} {mc ms : Nat} {free : Addr → Prop} {bytes : ByteArray} {maxL : Nat} {ret : Option FieldType}
    (hM : vx_Met l y ws rm Pc Qc XC mc ms free) (hblind : FrameBlind Pc) (hrc : rm.cells = mc) (hrs : rm.slots = ms)
    (hframes : rm.frames + 1 ≤ R.frames) (hlocals : W9 + (maxL + 11) + rm.locals ≤ R.locals)
    (hws : ∀ w ∈ ws, ∀ a' U, s.WarmedH U.vm → w.before a' U = true) (hcode : Cond.code y bytes maxL ret ∈ ws) (hinit : ∀ a' U, s.WarmedH U.vm → (Cond.initialized y.cls).before a' U = true) :
    vx_Back l R p e below s sargs y len W9 (PreOf R mc ms Pc) (PostOf Qc mc ms free) (vx_Post XC mc ms free) := by
  intro m meth c A g ig mk a X hg hsize hdg hW hn hp
  have h1 : (headSpec ws rm).pre.before a A.U = true := atoms_intro fun w hw => hws w hw _ _ X.warmed
  have h2 : (Cond.code y bytes maxL ret).before a A.U = true := hws _ hcode _ _ X.warmed
  have h3 : (Cond.initialized y.cls).before a A.U = true := hinit _ _ X.warmed
  have h4 : A.cells + (headSpec ws rm).room.cells ≤ R.cells := by rw [show (headSpec ws rm).room.cells = mc from hrc]; exact hp.1
  have h5 : A.slots + (headSpec ws rm).room.slots ≤ R.slots := by rw [show (headSpec ws rm).room.slots = ms from hrs]; exact hp.2.1
  have hPc : Pc a (A.U.calling g mk a) := hblind _ _ _ _ hp.2.2
  obtain ⟨U, Ls, c0, s0⟩ := A
  dsimp only [Pt.U, Pt.locs, Pt.cells, Pt.slots] at h1 h2 h3 h4 h5 X hn hPc ⊢
  obtain ⟨methY, cY, hmY, hcY, -, hlY, -, -, -, -⟩ := Cond.code_spec hn h2
  obtain ⟨kY, hkY, -⟩ := className_of_methodNamed hn
  have hinitY : kY.init = .initialized := Cond.initialized_spec (findClass_of_methodNamed hn) hkY h3
  have h : At U g.method c below := by rw [hg]; exact X.here
  have hlocals9 : W9 + (maxL + 11) + (headSpec ws rm).room.locals ≤ R.locals := hlocals
  have happ : (headSpec ws rm).appliesLoose y e.platform (U.calling g mk a) = true :=
    Spec.appliesLoose_calling (g := g) h hdg hn hkY hinitY
      (X.room_calling (g := g) (R' := (headSpec ws rm).room) hsize hmY hcY hframes (by rw [hlY]; omega) h4 h5) h1
  obtain ⟨mid, hmid⟩ := h.above
  have hfr : (U.setTop g).frames = (.java g :: mid) ++ below := by rw [State.frames_setTop' g h.top, hmid]; rfl
  obtain ⟨o, s₂, hsteps, -, hend, hq⟩ := Steps.callFree hM p X.admits X.cas X.clock (acts := []) hfr happ hPc trivial
  have hq' : vx_Q Qc XC mc ms free a (U.calling g mk a) o s₂ := hq
  rw [State.frames_setTop' g h.top] at hend
  obtain ⟨g₀, hg0⟩ := Option.isSome_iff_exists.mp h.top
  obtain ⟨r, hr⟩ := State.topJava?_eq_some.mp hg0
  have hr' : (({ U with heap := s₂.heap, slotsUsed := s₂.slotsUsed } : State).setVm s₂.vm).frames = .java g₀ :: r := hr
  rcases hq' with ⟨hqc, L, hfe, hL⟩ | ⟨q, rfl, E, ce, L, hx, hce, hcv, hcl, hW₂, hsm, hL⟩
  · obtain ⟨⟨v, rfl⟩, hW₂, e2, q2, q3, q4, q5, q6⟩ := id hfe
    have e3 : s₂ = ({ (U.calling g mk a).setFrames s₂.frames with heap := s₂.heap, slotsUsed := s₂.slotsUsed } : State).setVm s₂.vm := by
      have : s₂ = ({ s₂ with vm := (U.calling g mk a).vm } : State).setVm s₂.vm := rfl
      rw [e2] at this
      exact this
    obtain ⟨c₂, i₂, len₂, hc₂, hd₂, hf₂⟩ := hend
    have hW' : U.WarmedH s₂.vm := hW₂
    have hcc : c₂ = c := by
      have h1 : s₂.code? g.method = U.code? g.method := by
        rw [State.code?_eq, State.code?_eq, hW'.alike.method?]
      exact Option.some.inj (hc₂.symm.trans (h1.trans h.code))
    subst hcc
    have hlen : len₂ = len := by rw [hdg] at hd₂; cases hd₂; rfl
    subst hlen
    have hs₂ : s₂ = (({ U with heap := s₂.heap, slotsUsed := s₂.slotsUsed } : State).setVm s₂.vm).setTop { g with pc := g.pc + len₂, stack := v.toList ++ g.stack } := by
      refine e3.trans ?_
      rw [hf₂, State.calling_eq h.top, State.setFrames_setFrames, State.setTop_of_frames _ hr', hr]
      rfl
    have hsame : U.sameButNew ({ U with heap := s₂.heap, slotsUsed := s₂.slotsUsed } : State) L mc ms := by
      refine ⟨?_, q2, q3, q4, q5, q6⟩
      obtain ⟨t, ht, -⟩ := State.frames_cons hr
      show ({ U with heap := s₂.heap, slotsUsed := s₂.slotsUsed } : State) = { U.setFrames U.frames with heap := s₂.heap, slotsUsed := s₂.slotsUsed }
      rw [State.setFrames_self ht]
    subst hg
    refine Or.inl ⟨v, ⟨(({ U with heap := s₂.heap, slotsUsed := s₂.slotsUsed } : State).setVm s₂.vm), Ls ++ L, c0 + mc, s0 + ms⟩,
      ⟨X.admits, X.cas, X.clock, X.frames, X.room, X.hears, X.method, X.code, (X.here.setHeapUsed s₂.heap s₂.slotsUsed).setVm hW'.alike, X.tail, State.WarmedH.trans X.warmed hW', X.limits, X.bytes, X.same.trans (hsame.setVm s.vm)⟩,
      ⟨g, mk, s₂, L, rfl, rfl, hqc, rfl, hL, rfl, rfl⟩, ?_⟩
    show Steps p.tables e below _ ((({ U with heap := s₂.heap, slotsUsed := s₂.slotsUsed } : State).setVm s₂.vm).setTop { g with pc := g.pc + len₂, stack := v.toList ++ g.stack })
    rw [← hs₂]
    exact hsteps
  · obtain ⟨e2, q2, q3, q4, q5, q6⟩ := id hsm
    have e3 : s₂ = ({ (U.calling g mk a).setFrames s₂.frames with heap := s₂.heap, slotsUsed := s₂.slotsUsed } : State).setVm s₂.vm := by
      have : s₂ = ({ s₂ with vm := (U.calling g mk a).vm } : State).setVm s₂.vm := rfl
      rw [e2] at this
      exact this
    have hf₂ : s₂.frames = .throwing q :: .java g :: U.frames.tail := hend
    have hW' : U.WarmedH s₂.vm := hW₂
    have hs₂ : s₂ = ((({ U with heap := s₂.heap, slotsUsed := s₂.slotsUsed } : State).setVm s₂.vm).setTop g).pushFrame (.throwing q) := by
      refine e3.trans ?_
      rw [hf₂, State.calling_eq h.top, State.setFrames_setFrames, State.pushFrame, State.frames_setTop _ hr', State.setTop_of_frames _ hr', State.setFrames_setFrames, hr]
      rfl
    have hsame : U.sameButNew ({ U with heap := s₂.heap, slotsUsed := s₂.slotsUsed } : State) L mc ms := by
      refine ⟨?_, q2, q3, q4, q5, q6⟩
      obtain ⟨t, ht, -⟩ := State.frames_cons hr
      show ({ U with heap := s₂.heap, slotsUsed := s₂.slotsUsed } : State) = { U.setFrames U.frames with heap := s₂.heap, slotsUsed := s₂.slotsUsed }
      rw [State.setFrames_self ht]
    subst hg
    refine Or.inr ⟨q, ⟨(({ U with heap := s₂.heap, slotsUsed := s₂.slotsUsed } : State).setVm s₂.vm), Ls ++ L, c0 + mc, s0 + ms⟩,
      ⟨X.admits, X.cas, X.clock, X.frames, X.room, X.hears, X.method, X.code, (X.here.setHeapUsed s₂.heap s₂.slotsUsed).setVm hW'.alike, X.tail, State.WarmedH.trans X.warmed hW', X.limits, X.bytes, X.same.trans (hsame.setVm s.vm)⟩,
      ⟨g, mk, s₂, L, E, ce, rfl, rfl, hx, hce, hcv, hcl, rfl, hL, rfl, rfl⟩, ?_⟩
    show Steps p.tables e below _ (((({ U with heap := s₂.heap, slotsUsed := s₂.slotsUsed } : State).setVm s₂.vm).setTop g).pushFrame (.throwing q))
    rw [← hs₂]
    exact hsteps
end Payer
section Calls
variable {p : Program} {l : Launch} {e : Env} {R : Room} {s : State} {m : MethodId} {args : Array Value} {below : List Frame} {meth : Method} {c : Code} {T : State} {locs : List Loc} {cells slots : Nat}
theorem vx_callV (X : Stand p l e R s m args below meth c T locs cells slots) (hexec : p.tables.exec = Jvm.exec) {own C : String} {index : Nat} {y : MethodName} {bytes : ByteArray} {maxL : Nat} {ret : Option FieldType}
    (hown : s.vm.findClass own = some m.cls) (hlink : (Cond.methodLink own index y).before args s = true) (hinst : (Cond.instanceMethod y).before args s = true) (hsel : (Cond.selects C y y).before args s = true)
    (hcode : (Cond.code y bytes maxL ret).before args s = true) (hy : y.cls ≠ "java/lang/invoke/MethodHandle" ∧ y.cls ≠ "java/lang/invoke/VarHandle")
    {W9 : Nat} {Pre : Pt → Array Value → Prop} {Post : Pt → Array Value → Option Value → Pt → Prop} {PostX : Pt → Array Value → Addr → Pt → Prop} (hK : vx_Back l R p e below s args y 3 W9 Pre Post PostX)
    {b : Addr} {cellB : Cell} (hcell : T.heap[b]? = some cellB) (hobj : cellB.vm.isStatics = false) (hcls : s.vm.findClass C = some cellB.cls)
    {g : JFrame} (hg : g.method = m) (hsize : g.locals.size = c.maxLocals) {argsL rest : List Value} (hlen : ∀ sig, parseMethodDescriptor y.desc = some sig → argsL.length = sig.parameters.length)
    (hstack : g.stack = argsL.reverse ++ .ref b :: rest) (hW : 2 * g.monitorRoom + (rest.map fun v => v.category).sum ≤ W9) (hdg : decode c.code g.pc = .ok (.invokevirtual index, 3))
    (hpre : ∀ vm₁, s.WarmedH vm₁ → Pre ⟨T.setVm vm₁, locs, cells, slots⟩ (Value.ref b :: argsL).toArray) :
    (∃ (v : Option Value) (vm₁ : Vm) (B : Pt), s.WarmedH vm₁ ∧ Stand p l e R s m args below meth c B.U B.locs B.cells B.slots ∧ Post ⟨T.setVm vm₁, locs, cells, slots⟩ (Value.ref b :: argsL).toArray v B ∧
      ∀ target, Steps p.tables e below (B.U.setTop { g with pc := g.pc + 3, stack := v.toList ++ rest }) target → Steps p.tables e below (T.setTop g) target) ∨
    (∃ (q : Addr) (vm₁ : Vm) (B : Pt), s.WarmedH vm₁ ∧ Stand p l e R s m args below meth c B.U B.locs B.cells B.slots ∧ PostX ⟨T.setVm vm₁, locs, cells, slots⟩ (Value.ref b :: argsL).toArray q B ∧
      Steps p.tables e below (T.setTop g) ((B.U.setTop { g with stack := rest }).pushFrame (.throwing q))) := by
  obtain ⟨mk, methM, hnamed, hmethM, hstM, habM⟩ := Cond.instanceMethod_spec hinst
  obtain ⟨methM', cM, hmethM', -, -, -, -, -, -, hsigM⟩ := Cond.code_spec hnamed hcode
  cases hmethM.symm.trans hmethM'
  obtain ⟨c2, r2, m2, q1, q2, q3, q4, kP, hkP, hkPi⟩ := Cond.selects_spec hsel
  cases hcls.symm.trans q1
  cases (State.methodFound?_of_named hnamed hy).symm.trans q2
  cases hnamed.symm.trans q3
  have hselP : selectMethod e.platform s.vm cellB.cls mk = .method mk := by rw [Launch.admits_selectMethod X.admits]; exact q4
  obtain ⟨vm₁, X₁, hstep₁⟩ := X.invokevirtual hexec hown hlink hnamed hmethM hstM hkP hkPi hy (a := b) (cell := cellB) hcell
    (fun z h => by rw [h] at hobj; cases hobj) hselP hmethM habM hkP hkPi (g := g) hg (argsL := argsL) (rest := rest) (hlen _ hsigM) hstack hdg
  rcases hK m meth c ⟨T.setVm vm₁, locs, cells, slots⟩ { g with stack := rest } (.invokevirtual index) mk (Value.ref b :: argsL).toArray X₁ hg hsize hdg hW (X₁.named hnamed) (hpre vm₁ X₁.warmed) with ⟨v, B, X', hpost, hsteps⟩ | ⟨q, B, X', hpost, hsteps⟩
  · exact Or.inl ⟨v, vm₁, B, X₁.warmed, X', hpost, fun target h => hstep₁ _ fun acts => by rw [doInvoke_state]; exact hsteps.trans h⟩
  · exact Or.inr ⟨q, vm₁, B, X₁.warmed, X', hpost, hstep₁ _ fun acts => by rw [doInvoke_state]; exact hsteps⟩
theorem vx_callS (X : Stand p l e R s m args below meth c T locs cells slots) (hexec : p.tables.exec = Jvm.exec) {own : String} {index : Nat} {y : MethodName} {bytes : ByteArray} {maxL : Nat} {ret : Option FieldType}
    (hown : s.vm.findClass own = some m.cls) (hlink : (Cond.methodLink own index y).before args s = true) (hstat : (Cond.static y).before args s = true) (hinit : (Cond.initialized y.cls).before args s = true)
    (hcode : (Cond.code y bytes maxL ret).before args s = true) (hy : y.cls ≠ "java/lang/invoke/MethodHandle" ∧ y.cls ≠ "java/lang/invoke/VarHandle")
    {W9 : Nat} {Pre : Pt → Array Value → Prop} {Post : Pt → Array Value → Option Value → Pt → Prop} {PostX : Pt → Array Value → Addr → Pt → Prop} (hK : vx_Back l R p e below s args y 3 W9 Pre Post PostX)
    {g : JFrame} (hg : g.method = m) (hsize : g.locals.size = c.maxLocals) {argsL rest : List Value} (hlen : ∀ sig, parseMethodDescriptor y.desc = some sig → argsL.length = sig.parameters.length)
    (hstack : g.stack = argsL.reverse ++ rest) (hW : 2 * g.monitorRoom + (rest.map fun v => v.category).sum ≤ W9) (hdg : decode c.code g.pc = .ok (.invokestatic index, 3))
    (hpre : ∀ vm₁, s.WarmedH vm₁ → Pre ⟨T.setVm vm₁, locs, cells, slots⟩ argsL.toArray) :
    (∃ (v : Option Value) (vm₁ : Vm) (B : Pt), s.WarmedH vm₁ ∧ Stand p l e R s m args below meth c B.U B.locs B.cells B.slots ∧ Post ⟨T.setVm vm₁, locs, cells, slots⟩ argsL.toArray v B ∧
      ∀ target, Steps p.tables e below (B.U.setTop { g with pc := g.pc + 3, stack := v.toList ++ rest }) target → Steps p.tables e below (T.setTop g) target) ∨
    (∃ (q : Addr) (vm₁ : Vm) (B : Pt), s.WarmedH vm₁ ∧ Stand p l e R s m args below meth c B.U B.locs B.cells B.slots ∧ PostX ⟨T.setVm vm₁, locs, cells, slots⟩ argsL.toArray q B ∧
      Steps p.tables e below (T.setTop g) ((B.U.setTop { g with stack := rest }).pushFrame (.throwing q))) := by
  obtain ⟨mk, hnamed⟩ := Cond.code_named hcode
  obtain ⟨methM, cM, hmethM, -, -, -, -, -, -, hsigM⟩ := Cond.code_spec hnamed hcode
  have hstatic : methM.isStatic = true := Cond.static_spec hnamed hmethM hstat
  obtain ⟨kP, hkP, -⟩ := className_of_methodNamed hnamed
  have hinitP : kP.init = .initialized := Cond.initialized_spec (findClass_of_methodNamed hnamed) hkP hinit
  obtain ⟨vm₁, X₁, hstep₁⟩ := X.invokestatic hexec hown hlink hnamed hmethM hstatic hkP hinitP hy (g := g) hg (argsL := argsL) (rest := rest) (hlen _ hsigM) hstack hdg
  rcases hK m meth c ⟨T.setVm vm₁, locs, cells, slots⟩ { g with stack := rest } (.invokestatic index) mk argsL.toArray X₁ hg hsize hdg hW (X₁.named hnamed) (hpre vm₁ X₁.warmed) with ⟨v, B, X', hpost, hsteps⟩ | ⟨q, B, X', hpost, hsteps⟩
  · exact Or.inl ⟨v, vm₁, B, X₁.warmed, X', hpost, fun target h => hstep₁ _ fun acts => by rw [doInvoke_state]; exact hsteps.trans h⟩
  · exact Or.inr ⟨q, vm₁, B, X₁.warmed, X', hpost, hstep₁ _ fun acts => by rw [doInvoke_state]; exact hsteps⟩
end Calls
theorem vx_cls {s : State} {T : State} {vm₁ : Vm} {E : String} {k : ClassId} (hW : s.WarmedH vm₁) (h : (T.setVm vm₁).vm.findClass E = some k) : s.vm.findClass E = some k := by
  have h1 : vm₁.findClass E = some k := h
  rw [hW.alike.findClass] at h1
  exact h1
/-- the method's frame g, with q thrown over it -/
def vx_W (p : Program) (l : Launch) (e : Env) (R : Room) (s : State) (m : MethodId) (args : Array Value) (below : List Frame) (meth : Method) (c : Code) (H : Heap) (locs : List Loc) (cells slots : Nat) (Q : State → Prop) (g : JFrame) (q : Addr) : Prop :=
  ∀ T : State, T.heap = H → Stand p l e R s m args below meth c T locs cells slots → ∃ t, Steps p.tables e below ((T.setTop g).pushFrame (.throwing q)) t ∧ Q t
def vx_Run (p : Program) (l : Launch) (e : Env) (R : Room) (s : State) (m : MethodId) (args : Array Value) (below : List Frame) (meth : Method) (c : Code) (H : Heap) (locs : List Loc) (cells slots mc ms : Nat) (g : JFrame) (rest : List Value) (Qa : State → Outcome → State → Prop) (XC : String → State → State → Prop) (free : Addr → Prop) : Prop :=
  ∀ T : State, T.heap = H → Stand p l e R s m args below meth c T locs cells slots →
    (∃ (v : Option Value) (st₀ t T' : State) (L : List Loc), st₀.heap = H ∧ Stand p l e R s m args below meth c T' (locs ++ L) (cells + mc) (slots + ms) ∧ (∀ q ∈ L, free q.base) ∧ T'.heap = t.heap ∧ T'.vm = t.vm ∧ Qa st₀ (.returned v) t ∧
      Goes p e below T g T' { g with pc := g.pc + 3, stack := v.toList ++ rest }) ∨
    (∃ (q : Addr) (st₀ t T' : State) (L : List Loc) (E : String) (ce : Cell), st₀.heap = H ∧ Stand p l e R s m args below meth c T' (locs ++ L) (cells + mc) (slots + ms) ∧ (∀ z ∈ L, free z.base) ∧ T'.heap = t.heap ∧ T'.vm = t.vm ∧ XC E st₀ t ∧ t.heap[q]? = some ce ∧ ce.vm = .none ∧ s.vm.findClass E = some ce.cls ∧
      Steps p.tables e below (T.setTop g) ((T'.setTop { g with stack := rest }).pushFrame (.throwing q)))
def vx_X {S : Type} (px : S → Prop) (B : String → S → State → Prop) (A : Nat → Prop) : String → State → State → Prop := fun E st t => ∃ u : S, px u ∧ B E u t ∧ va_F A st t
section Runs
variable {p : Program} {l : Launch} {e : Env} {R : Room} {s : State} {m : MethodId} {args : Array Value} {below : List Frame} {meth : Method} {c : Code} {H : Heap} {locs : List Loc} {cells slots : Nat}
variable {y : MethodName} {bytes cc : ByteArray} {maxL nL mc ms n index : Nat} {ret : Option FieldType} {ws : List Cond} {rm : Room} {Pc : Array Value → State → Prop} {Qc : Array Value → State → Outcome → State → Prop} {XC : String → State → State → Prop} {free : Addr → Prop} {Ts : List Cond} {own C : String} {b : Addr} {As rest : List Value} {g : JFrame}
theorem vx_callBack (cb : CallB R s args own index y bytes maxL ret ws rm mc ms n) (hM : vx_Met l y ws rm Pc Qc XC mc ms free) (hbl : FrameBlind Pc) : vx_Back l R p e below s args y 3 8 (PreOf R mc ms Pc) (PostOf Qc mc ms free) (vx_Post XC mc ms free) := by
  obtain ⟨hrc, hrs, hfr, hlo, hws, hcw, -, hini, -⟩ := cb
  exact vx_back (bytes := bytes) (maxL := maxL) (ret := ret) hM hbl hrc hrs hfr hlo hws hcw (fun a' U hW => word_at hW (Or.inl (by first | rfl | simp [Cond.onTables, Cond.keeps, Cond.steady])) hini)
theorem vx_runV (S : CallFix p m c cc nL s args Ts own) (hM : vx_Met l y ws rm Pc Qc XC mc ms free) (cw : CallW R s args own C index y bytes maxL ret ws rm mc ms n) (hp : PreV s H C b Pc As)
    (hg : g.method = m) (hn : As.length = n) (hsize : g.locals.size = nL) (hstack : g.stack = As.reverse ++ .ref b :: rest) (hW : 2 * g.monitorRoom + (rest.map fun v => v.category).sum ≤ 8) (hdg : decode cc g.pc = .ok (.invokevirtual index, 3)) (hf : cells + mc ≤ R.cells ∧ slots + ms ≤ R.slots) :
    vx_Run p l e R s m args below meth c H locs cells slots mc ms g rest (Qc (Value.ref b :: As).toArray) XC free := by
  have hK : vx_Back l R p e below s args y 3 8 (PreOf R mc ms Pc) (PostOf Qc mc ms free) (vx_Post XC mc ms free) := vx_callBack cw.1 hM hp.1
  obtain ⟨⟨-, -, -, -, -, -, hcode, -, hy, hlen, hl⟩, hin, hse⟩ := cw
  obtain ⟨hx, hb, hml, ho, -⟩ := S
  obtain ⟨-, ⟨cellB, hcB, hoB, hclB⟩, hPc⟩ := hp
  intro T hT X
  rcases vx_callV X hx (C := C) (bytes := bytes) (maxL := maxL) (ret := ret) ho hl hin hse hcode hy hK (by rw [hT]; exact hcB) hoB hclB hg (hsize.trans hml.symm) (argsL := As) (rest := rest) (fun sig h => hn.trans (hlen sig h)) hstack hW (by rw [hb]; exact hdg)
    (fun vm₁ hW₁ => ⟨hf.1, hf.2, hPc (T.setVm vm₁) hT hW₁⟩) with ⟨v, vm₁, ⟨U', l2, c2, s2⟩, hW₁, X', ⟨g', mk, t, L, e1, e2, hq, h1, hL, h2, h3⟩, st⟩ | ⟨q, vm₁, ⟨U', l2, c2, s2⟩, hW₁, X', ⟨g', mk, t, L, E, ce, e1, e2, hq, hce, hcv, hcl, h1, hL, h2, h3⟩, st⟩
  · dsimp only [Pt.U, Pt.locs, Pt.cells, Pt.slots] at X' e1 e2 h1 h2 h3 st
    subst h1; subst h2; subst h3
    exact Or.inl ⟨v, (T.setVm vm₁).calling g' mk (Value.ref b :: As).toArray, t, U', L, hT, X', hL, e1, e2, hq, st⟩
  · dsimp only [Pt.U, Pt.locs, Pt.cells, Pt.slots] at X' e1 e2 h1 h2 h3 st hcl
    subst h1; subst h2; subst h3
    exact Or.inr ⟨q, (T.setVm vm₁).calling g' mk (Value.ref b :: As).toArray, t, U', L, E, ce, hT, X', hL, e1, e2, hq, hce, hcv, vx_cls hW₁ hcl, st⟩
theorem vx_runS (S : CallFix p m c cc nL s args Ts own) (hM : vx_Met l y ws rm Pc Qc XC mc ms free) (cw : CallB R s args own index y bytes maxL ret ws rm mc ms n ∧ (Cond.static y).before args s = true) (hp : PreS s H Pc As)
    (hg : g.method = m) (hn : As.length = n) (hsize : g.locals.size = nL) (hstack : g.stack = As.reverse ++ rest) (hW : 2 * g.monitorRoom + (rest.map fun v => v.category).sum ≤ 8) (hdg : decode cc g.pc = .ok (.invokestatic index, 3)) (hf : cells + mc ≤ R.cells ∧ slots + ms ≤ R.slots) :
    vx_Run p l e R s m args below meth c H locs cells slots mc ms g rest (Qc As.toArray) XC free := by
  have hK : vx_Back l R p e below s args y 3 8 (PreOf R mc ms Pc) (PostOf Qc mc ms free) (vx_Post XC mc ms free) := vx_callBack cw.1 hM hp.1
  obtain ⟨⟨-, -, -, -, -, -, hcode, hini, hy, hlen, hl⟩, hstt⟩ := cw
  obtain ⟨hx, hb, hml, ho, -⟩ := S
  intro T hT X
  rcases vx_callS X hx (bytes := bytes) (maxL := maxL) (ret := ret) ho hl hstt hini hcode hy hK hg (hsize.trans hml.symm) (argsL := As) (rest := rest) (fun sig h => hn.trans (hlen sig h)) hstack hW (by rw [hb]; exact hdg)
    (fun vm₁ hW₁ => ⟨hf.1, hf.2, hp.2 (T.setVm vm₁) hT hW₁⟩) with ⟨v, vm₁, ⟨U', l2, c2, s2⟩, hW₁, X', ⟨g', mk, t, L, e1, e2, hq, h1, hL, h2, h3⟩, st⟩ | ⟨q, vm₁, ⟨U', l2, c2, s2⟩, hW₁, X', ⟨g', mk, t, L, E, ce, e1, e2, hq, hce, hcv, hcl, h1, hL, h2, h3⟩, st⟩
  · dsimp only [Pt.U, Pt.locs, Pt.cells, Pt.slots] at X' e1 e2 h1 h2 h3 st
    subst h1; subst h2; subst h3
    exact Or.inl ⟨v, (T.setVm vm₁).calling g' mk As.toArray, t, U', L, hT, X', hL, e1, e2, hq, st⟩
  · dsimp only [Pt.U, Pt.locs, Pt.cells, Pt.slots] at X' e1 e2 h1 h2 h3 st hcl
    subst h1; subst h2; subst h3
    exact Or.inr ⟨q, (T.setVm vm₁).calling g' mk As.toArray, t, U', L, E, ce, hT, X', hL, e1, e2, hq, hce, hcv, vx_cls hW₁ hcl, st⟩
end Runs
section Rows
variable {p : Program} {l : Launch} {e : Env} {R : Room} {s : State} {m : MethodId} {args : Array Value} {below : List Frame} {meth : Method} {c : Code} {H : Heap} {locs : List Loc} {cells slots : Nat} {Q : State → Prop}
variable {mc ms : Nat} {free : Addr → Prop} {A0 A1 : Nat → Prop} {H0 : Heap} {a : Array Value} {pc : Nat} {ls : Array Slot} {st0 rest : List Value}
theorem vx_keep {st₀ t T' : State} {L : List Loc} (h0 : st₀.heap = H) (e1 : T'.heap = t.heap) (hS : va_S A0 H0 H locs) (hA : ∀ q, q < H.size → A1 q → A0 q) (hf : ∀ q, free q → A0 q) (hL : ∀ q ∈ L, free q.base) (hF : va_F A1 st₀ t) :
    H.size ≤ T'.heap.size ∧ (∀ q : Nat, q < H.size → ¬ A1 q → T'.heap[q]? = H[q]?) ∧ va_S A0 H0 T'.heap (locs ++ L) := by
  obtain ⟨hz, hk⟩ := hF
  rw [h0] at hz hk
  exact ⟨by rw [e1]; exact hz, fun q h1 h2 => by rw [e1]; exact hk q h1 h2,
    ⟨Nat.le_trans hS.1 (by rw [e1]; exact hz), fun q h1 h2 => by rw [e1, hk q (Nat.lt_of_lt_of_le h1 hS.1) (fun z => h2 (hA q (Nat.lt_of_lt_of_le h1 hS.1) z))]; exact hS.2.1 q h1 h2, fun q hq => by
      rcases List.mem_append.mp hq with h | h
      · exact hS.2.2 q h
      · exact hf _ (hL q h)⟩⟩
theorem vx_calli {S SX : Type} {post : Int32 → S → Prop} {px : SX → Prop} {B : S → State → Prop} {BX : String → SX → State → Prop} {AX : Nat → Prop} (hr : vx_Run p l e R s m args below meth c H locs cells slots mc ms (F0 m pc ls st0) rest (va_Qi post B A1 a) (vx_X px BX AX) free) (hS : va_S A0 H0 H locs) (hA : ∀ q, q < H.size → A1 q → A0 q) (hf : ∀ q, free q → A0 q) (hAX : ∀ q, q < H.size → AX q → A0 q)
    (kx : ∀ (E : String) (ce : Cell) (q9 : Addr) (u : SX) (t : State) (H1 : Heap) (locs1 : List Loc), t.heap = H1 → s.vm.Alike t.vm → px u → BX E u t → H.size ≤ H1.size → (∀ q : Nat, q < H.size → ¬ AX q → H1[q]? = H[q]?) → va_S A0 H0 H1 locs1 → H1[q9]? = some ce → ce.vm = .none → s.vm.findClass E = some ce.cls → vx_W p l e R s m args below meth c H1 locs1 (cells + mc) (slots + ms) Q (F0 m pc ls rest) q9)
    (kk : ∀ (r : Int32) (u : S) (t : State) (H1 : Heap) (locs1 : List Loc), t.heap = H1 → s.vm.Alike t.vm → post r u → B u t → H.size ≤ H1.size → (∀ q : Nat, q < H.size → ¬ A1 q → H1[q]? = H[q]?) → va_S A0 H0 H1 locs1 → W p l e R s m args below meth c H1 locs1 (cells + mc) (slots + ms) Q (F0 m (pc + 3) ls (.int r :: rest))) : W p l e R s m args below meth c H locs cells slots Q (F0 m pc ls st0) := by
  intro T hT X
  rcases hr T hT X with ⟨v, st₀, t, T', L, h0, X', hL, e1, e2, ⟨⟨r, u, hv, hp, hb⟩, hF⟩, st⟩ | ⟨q, st₀, t, T', L, E, ce, h0, X', hL, e1, e2, ⟨u, hp, hb, hF⟩, hce, hcv, hcl, st⟩
  · cases hv
    obtain ⟨k1, k2, k3⟩ := vx_keep h0 e1 hS hA hf hL hF
    obtain ⟨t2, a1, b1⟩ := kk r u t T'.heap (locs ++ L) e1.symm (by rw [← e2]; exact X'.warmed.alike) hp hb k1 k2 k3 T' rfl X'
    exact ⟨t2, st t2 a1, b1⟩
  · obtain ⟨k1, k2, k3⟩ := vx_keep h0 e1 hS hAX hf hL hF
    obtain ⟨t2, a1, b1⟩ := kx E ce q u t T'.heap (locs ++ L) e1.symm (by rw [← e2]; exact X'.warmed.alike) hp hb k1 k2 k3 (by rw [e1]; exact hce) hcv hcl T' rfl X'
    exact ⟨t2, st.trans a1, b1⟩
theorem vx_calll {S SX : Type} {post : Int64 → S → Prop} {px : SX → Prop} {B : S → State → Prop} {BX : String → SX → State → Prop} {AX : Nat → Prop} (hr : vx_Run p l e R s m args below meth c H locs cells slots mc ms (F0 m pc ls st0) rest (va_Ql post B A1 a) (vx_X px BX AX) free) (hS : va_S A0 H0 H locs) (hA : ∀ q, q < H.size → A1 q → A0 q) (hf : ∀ q, free q → A0 q) (hAX : ∀ q, q < H.size → AX q → A0 q)
    (kx : ∀ (E : String) (ce : Cell) (q9 : Addr) (u : SX) (t : State) (H1 : Heap) (locs1 : List Loc), t.heap = H1 → s.vm.Alike t.vm → px u → BX E u t → H.size ≤ H1.size → (∀ q : Nat, q < H.size → ¬ AX q → H1[q]? = H[q]?) → va_S A0 H0 H1 locs1 → H1[q9]? = some ce → ce.vm = .none → s.vm.findClass E = some ce.cls → vx_W p l e R s m args below meth c H1 locs1 (cells + mc) (slots + ms) Q (F0 m pc ls rest) q9)
    (kk : ∀ (r : Int64) (u : S) (t : State) (H1 : Heap) (locs1 : List Loc), t.heap = H1 → s.vm.Alike t.vm → post r u → B u t → H.size ≤ H1.size → (∀ q : Nat, q < H.size → ¬ A1 q → H1[q]? = H[q]?) → va_S A0 H0 H1 locs1 → W p l e R s m args below meth c H1 locs1 (cells + mc) (slots + ms) Q (F0 m (pc + 3) ls (.long r :: rest))) : W p l e R s m args below meth c H locs cells slots Q (F0 m pc ls st0) := by
  intro T hT X
  rcases hr T hT X with ⟨v, st₀, t, T', L, h0, X', hL, e1, e2, ⟨⟨r, u, hv, hp, hb⟩, hF⟩, st⟩ | ⟨q, st₀, t, T', L, E, ce, h0, X', hL, e1, e2, ⟨u, hp, hb, hF⟩, hce, hcv, hcl, st⟩
  · cases hv
    obtain ⟨k1, k2, k3⟩ := vx_keep h0 e1 hS hA hf hL hF
    obtain ⟨t2, a1, b1⟩ := kk r u t T'.heap (locs ++ L) e1.symm (by rw [← e2]; exact X'.warmed.alike) hp hb k1 k2 k3 T' rfl X'
    exact ⟨t2, st t2 a1, b1⟩
  · obtain ⟨k1, k2, k3⟩ := vx_keep h0 e1 hS hAX hf hL hF
    obtain ⟨t2, a1, b1⟩ := kx E ce q u t T'.heap (locs ++ L) e1.symm (by rw [← e2]; exact X'.warmed.alike) hp hb k1 k2 k3 (by rw [e1]; exact hce) hcv hcl T' rfl X'
    exact ⟨t2, st.trans a1, b1⟩
theorem vx_callf {S SX : Type} {post : UInt32 → S → Prop} {px : SX → Prop} {B : S → State → Prop} {BX : String → SX → State → Prop} {AX : Nat → Prop} (hr : vx_Run p l e R s m args below meth c H locs cells slots mc ms (F0 m pc ls st0) rest (va_Qf post B A1 a) (vx_X px BX AX) free) (hS : va_S A0 H0 H locs) (hA : ∀ q, q < H.size → A1 q → A0 q) (hf : ∀ q, free q → A0 q) (hAX : ∀ q, q < H.size → AX q → A0 q)
    (kx : ∀ (E : String) (ce : Cell) (q9 : Addr) (u : SX) (t : State) (H1 : Heap) (locs1 : List Loc), t.heap = H1 → s.vm.Alike t.vm → px u → BX E u t → H.size ≤ H1.size → (∀ q : Nat, q < H.size → ¬ AX q → H1[q]? = H[q]?) → va_S A0 H0 H1 locs1 → H1[q9]? = some ce → ce.vm = .none → s.vm.findClass E = some ce.cls → vx_W p l e R s m args below meth c H1 locs1 (cells + mc) (slots + ms) Q (F0 m pc ls rest) q9)
    (kk : ∀ (r : UInt32) (u : S) (t : State) (H1 : Heap) (locs1 : List Loc), t.heap = H1 → s.vm.Alike t.vm → post r u → B u t → H.size ≤ H1.size → (∀ q : Nat, q < H.size → ¬ A1 q → H1[q]? = H[q]?) → va_S A0 H0 H1 locs1 → W p l e R s m args below meth c H1 locs1 (cells + mc) (slots + ms) Q (F0 m (pc + 3) ls (.float r :: rest))) : W p l e R s m args below meth c H locs cells slots Q (F0 m pc ls st0) := by
  intro T hT X
  rcases hr T hT X with ⟨v, st₀, t, T', L, h0, X', hL, e1, e2, ⟨⟨r, u, hv, hp, hb⟩, hF⟩, st⟩ | ⟨q, st₀, t, T', L, E, ce, h0, X', hL, e1, e2, ⟨u, hp, hb, hF⟩, hce, hcv, hcl, st⟩
  · cases hv
    obtain ⟨k1, k2, k3⟩ := vx_keep h0 e1 hS hA hf hL hF
    obtain ⟨t2, a1, b1⟩ := kk r u t T'.heap (locs ++ L) e1.symm (by rw [← e2]; exact X'.warmed.alike) hp hb k1 k2 k3 T' rfl X'
    exact ⟨t2, st t2 a1, b1⟩
  · obtain ⟨k1, k2, k3⟩ := vx_keep h0 e1 hS hAX hf hL hF
    obtain ⟨t2, a1, b1⟩ := kx E ce q u t T'.heap (locs ++ L) e1.symm (by rw [← e2]; exact X'.warmed.alike) hp hb k1 k2 k3 (by rw [e1]; exact hce) hcv hcl T' rfl X'
    exact ⟨t2, st.trans a1, b1⟩
theorem vx_calld {S SX : Type} {post : UInt64 → S → Prop} {px : SX → Prop} {B : S → State → Prop} {BX : String → SX → State → Prop} {AX : Nat → Prop} (hr : vx_Run p l e R s m args below meth c H locs cells slots mc ms (F0 m pc ls st0) rest (va_Qd post B A1 a) (vx_X px BX AX) free) (hS : va_S A0 H0 H locs) (hA : ∀ q, q < H.size → A1 q → A0 q) (hf : ∀ q, free q → A0 q) (hAX : ∀ q, q < H.size → AX q → A0 q)
    (kx : ∀ (E : String) (ce : Cell) (q9 : Addr) (u : SX) (t : State) (H1 : Heap) (locs1 : List Loc), t.heap = H1 → s.vm.Alike t.vm → px u → BX E u t → H.size ≤ H1.size → (∀ q : Nat, q < H.size → ¬ AX q → H1[q]? = H[q]?) → va_S A0 H0 H1 locs1 → H1[q9]? = some ce → ce.vm = .none → s.vm.findClass E = some ce.cls → vx_W p l e R s m args below meth c H1 locs1 (cells + mc) (slots + ms) Q (F0 m pc ls rest) q9)
    (kk : ∀ (r : UInt64) (u : S) (t : State) (H1 : Heap) (locs1 : List Loc), t.heap = H1 → s.vm.Alike t.vm → post r u → B u t → H.size ≤ H1.size → (∀ q : Nat, q < H.size → ¬ A1 q → H1[q]? = H[q]?) → va_S A0 H0 H1 locs1 → W p l e R s m args below meth c H1 locs1 (cells + mc) (slots + ms) Q (F0 m (pc + 3) ls (.double r :: rest))) : W p l e R s m args below meth c H locs cells slots Q (F0 m pc ls st0) := by
  intro T hT X
  rcases hr T hT X with ⟨v, st₀, t, T', L, h0, X', hL, e1, e2, ⟨⟨r, u, hv, hp, hb⟩, hF⟩, st⟩ | ⟨q, st₀, t, T', L, E, ce, h0, X', hL, e1, e2, ⟨u, hp, hb, hF⟩, hce, hcv, hcl, st⟩
  · cases hv
    obtain ⟨k1, k2, k3⟩ := vx_keep h0 e1 hS hA hf hL hF
    obtain ⟨t2, a1, b1⟩ := kk r u t T'.heap (locs ++ L) e1.symm (by rw [← e2]; exact X'.warmed.alike) hp hb k1 k2 k3 T' rfl X'
    exact ⟨t2, st t2 a1, b1⟩
  · obtain ⟨k1, k2, k3⟩ := vx_keep h0 e1 hS hAX hf hL hF
    obtain ⟨t2, a1, b1⟩ := kx E ce q u t T'.heap (locs ++ L) e1.symm (by rw [← e2]; exact X'.warmed.alike) hp hb k1 k2 k3 (by rw [e1]; exact hce) hcv hcl T' rfl X'
    exact ⟨t2, st.trans a1, b1⟩
theorem vx_callv {S SX : Type} {post : S → Prop} {px : SX → Prop} {B : S → State → Prop} {BX : String → SX → State → Prop} {AX : Nat → Prop} (hr : vx_Run p l e R s m args below meth c H locs cells slots mc ms (F0 m pc ls st0) rest (va_Qv post B A1 a) (vx_X px BX AX) free) (hS : va_S A0 H0 H locs) (hA : ∀ q, q < H.size → A1 q → A0 q) (hf : ∀ q, free q → A0 q) (hAX : ∀ q, q < H.size → AX q → A0 q)
    (kx : ∀ (E : String) (ce : Cell) (q9 : Addr) (u : SX) (t : State) (H1 : Heap) (locs1 : List Loc), t.heap = H1 → s.vm.Alike t.vm → px u → BX E u t → H.size ≤ H1.size → (∀ q : Nat, q < H.size → ¬ AX q → H1[q]? = H[q]?) → va_S A0 H0 H1 locs1 → H1[q9]? = some ce → ce.vm = .none → s.vm.findClass E = some ce.cls → vx_W p l e R s m args below meth c H1 locs1 (cells + mc) (slots + ms) Q (F0 m pc ls rest) q9)
    (kk : ∀ (u : S) (t : State) (H1 : Heap) (locs1 : List Loc), t.heap = H1 → s.vm.Alike t.vm → post u → B u t → H.size ≤ H1.size → (∀ q : Nat, q < H.size → ¬ A1 q → H1[q]? = H[q]?) → va_S A0 H0 H1 locs1 → W p l e R s m args below meth c H1 locs1 (cells + mc) (slots + ms) Q (F0 m (pc + 3) ls (rest))) : W p l e R s m args below meth c H locs cells slots Q (F0 m pc ls st0) := by
  intro T hT X
  rcases hr T hT X with ⟨v, st₀, t, T', L, h0, X', hL, e1, e2, ⟨⟨u, hv, hp, hb⟩, hF⟩, st⟩ | ⟨q, st₀, t, T', L, E, ce, h0, X', hL, e1, e2, ⟨u, hp, hb, hF⟩, hce, hcv, hcl, st⟩
  · cases hv
    obtain ⟨k1, k2, k3⟩ := vx_keep h0 e1 hS hA hf hL hF
    obtain ⟨t2, a1, b1⟩ := kk u t T'.heap (locs ++ L) e1.symm (by rw [← e2]; exact X'.warmed.alike) hp hb k1 k2 k3 T' rfl X'
    exact ⟨t2, st t2 a1, b1⟩
  · obtain ⟨k1, k2, k3⟩ := vx_keep h0 e1 hS hAX hf hL hF
    obtain ⟨t2, a1, b1⟩ := kx E ce q u t T'.heap (locs ++ L) e1.symm (by rw [← e2]; exact X'.warmed.alike) hp hb k1 k2 k3 (by rw [e1]; exact hce) hcv hcl T' rfl X'
    exact ⟨t2, st.trans a1, b1⟩
/-- caught by the row x of this method's table; the rows ahead don't take it -/
theorem vx_catch {own name : String} {E : String} {ce : Cell} {q : Addr} (hown : s.vm.findClass own = some m.cls) (pre : List ExceptionTableEntry) (x : ExceptionTableEntry) (suf : List ExceptionTableEntry) (hsplit : c.exceptionTable.toList = pre ++ x :: suf)
    (hpass : ∀ z ∈ pre, covers z pc = false ∨ (z.catchType ≠ 0 ∧ ∃ nm : String, (Cond.classLink own z.catchType nm).before args s = true ∧ va_Nc E nm s)) (hx : covers x pc = true) (h0 : x.catchType ≠ 0)
    (hlink : (Cond.classLink own x.catchType name).before args s = true) (hcast : (Cond.castable E name).before args s = true) (hcell : H[q]? = some ce) (hv : ce.vm = .none) (hcl : s.vm.findClass E = some ce.cls)
    (kk : W p l e R s m args below meth c H locs cells slots Q (F0 m x.handlerPc ls [.ref q])) : vx_W p l e R s m args below meth c H locs cells slots Q (F0 m pc ls rest) q := by
  intro T hT X
  have hpl : e.platform.magicAccessors = ({} : Platform).magicAccessors := by rw [X.admits.platform]
  obtain ⟨c3, c4, hc3, hc4, hasg⟩ := Cond.castable_spec hcast
  cases Option.some.inj (hc3.symm.trans hcl)
  obtain ⟨c5, hc5, hcl5⟩ := Cond.classLink_spec hown hlink e.platform hpl
  cases Option.some.inj (hc4.symm.trans hc5)
  obtain ⟨vm', X', st⟩ := X.thenCaughtThrough q (g := F0 m pc ls rest) rfl (Steps.refl _) (by rw [hT]; exact hcell) (by rw [hv]; rfl) (by obtain ⟨k9, h9, -⟩ := Vm.findClass_spec hcl; exact ⟨k9, h9⟩) pre x suf hsplit
    (fun z hz => by
      rcases hpass z hz with h | ⟨hz0, nm, hl1, hn1⟩
      · exact Or.inl h
      · obtain ⟨c6, hc6, hcl6⟩ := Cond.classLink_spec hown hl1 e.platform hpl
        obtain ⟨a8, b8, h1, h2, h3⟩ := hn1
        cases Option.some.inj (h1.symm.trans hcl)
        cases Option.some.inj (h2.symm.trans hc6)
        exact Or.inr ⟨hz0, _, hcl6, h3⟩) hx (Or.inr ⟨h0, c4, hcl5, hasg⟩)
  obtain ⟨t, a1, b1⟩ := kk (T.setVm vm') hT X'
  exact ⟨t, st.trans a1, b1⟩
end Rows
section Ends
variable {p : Program} {l : Launch} {e : Env} {R : Room} {s : State} {m : MethodId} {args : Array Value} {below : List Frame} {meth : Method} {c : Code} {H : Heap} {locs : List Loc} {cells slots : Nat} {Q : State → Prop}
variable {mc ms : Nat} {free : Addr → Prop} {A0 A1 : Nat → Prop} {H0 : Heap} {a : Array Value} {ls : Array Slot} {st0 rest : List Value}
variable {Qc : Array Value → State → Outcome → State → Prop} {XC : String → State → State → Prop}
/-- what a body that may throw owes at its end -/
def vx_MQ (below : List Frame) (Qc : Array Value → State → Outcome → State → Prop) (XC : String → State → State → Prop) (a : Array Value) (s : State) (mc ms : Nat) (free : Addr → Prop) : State → Prop := fun t =>
  ∃ o, t.status = .running ∧ Ended t below o ∧ vx_Q Qc XC mc ms free a s o t
theorem vx_ret {g : JFrame} {mc ms : Nat} (k : W p l e R s m args below meth c H locs cells slots (MQ below Qc args s mc ms free) g) : W p l e R s m args below meth c H locs cells slots (vx_MQ below Qc XC args s mc ms free) g := by
  intro T hT X
  obtain ⟨t, a1, o, b1, b2, b3, b4⟩ := k T hT X
  exact ⟨t, a1, o, b1, b2, Or.inl ⟨b3, b4⟩⟩
/-- not caught here: it goes on to the caller -/
theorem vx_widen {g : JFrame} {q : Addr} {k n : Nat} (h1 : cells ≤ k) (h2 : slots ≤ n) (kk : vx_W p l e R s m args below meth c H locs k n Q g q) : vx_W p l e R s m args below meth c H locs cells slots Q g q := fun T hT X => kk T hT (stand_widen X h1 h2)
theorem vx_out {pc : Nat} {E : String} {ce : Cell} {q : Addr} {mc ms : Nat} (hout : ∀ x ∈ c.exceptionTable.toList, covers x pc = false) (hlocks : meth.locks = false) (hcell : H[q]? = some ce) (hv : ce.vm = .none) (hcl : s.vm.findClass E = some ce.cls)
    (hx : ∀ t : State, t.heap = H → s.vm.Alike t.vm → XC E s t) (hf : ∀ z ∈ locs, free z.base) (hc : cells ≤ mc) (hs : slots ≤ ms) :
    vx_W p l e R s m args below meth c H locs cells slots (vx_MQ below Qc XC args s mc ms free) (F0 m pc ls rest) q := by
  intro T hT X
  obtain ⟨st1, hrun, hend, hW, hsm⟩ := X.leaveThrown q (g := F0 m pc ls rest) rfl rfl rfl hout hlocks
  have hcell9 : (T.setFrames (.throwing q :: below)).heap[q]? = some ce := by
    show T.heap[q]? = some ce
    rw [hT]; exact hcell
  exact ⟨_, st1, .threw q, hrun, hend, Or.inr ⟨q, rfl, E, ce, locs, hx _ hT hW.alike, hcell9, hv, hcl, hW, hsm.mono hc hs, hf⟩⟩
theorem vx_frame {U : State} {k n : Nat} (h : s.sameButNew ({ U with vm := s.vm } : State) locs k n) : s.heap.size ≤ U.heap.size ∧ ∀ q : Nat, q < s.heap.size → (∀ z ∈ locs, z.base ≠ q) → U.heap[q]? = s.heap[q]? := by
  obtain ⟨-, h2, -, -, -, h6⟩ := h
  refine ⟨h2, fun q hq hz => ?_⟩
  obtain ⟨c9, e1, e2, e3, e4⟩ := h6 q _ (Array.getElem?_eq_getElem hq)
  have hs : c9.slots = (s.heap[q]).slots := Array.ext_getElem? fun i => e4 i fun hm => hz _ hm rfl
  have h9 : c9 = s.heap[q] := by
    rw [hs] at e2
    exact e2
  have e5 : U.heap[q]? = some c9 := e1
  rw [e5, h9, Array.getElem?_eq_getElem hq]
/-- the words of a throw but the four that speak of the heap -/
def vx_no (w : Cond) : Bool := decide (w ≠ .isRef (.static Bundle.tN "UNASSIGNED_STACK" Bundle.steD)) && decide (w ≠ .isRef (.static Bundle.tN "SUPPRESSED_SENTINEL" Bundle.listD)) && decide (w ≠ .laysStatic Bundle.tN "UNASSIGNED_STACK" Bundle.steD) && decide (w ≠ .laysStatic Bundle.tN "SUPPRESSED_SENTINEL" Bundle.listD)
def vx_at0 (own : String) (ic : Nat) (X : String) (names : List String) : List Cond := (Bundle.ownAtoms0 own ic X names).filter vx_no
def vx_atS (own : String) (ic : Nat) (X : String) (names : List String) : List Cond := (Bundle.ownAtoms own ic X names).filter vx_no
/-- a word that the tables alone decide, or a good one -/
def vx_ot (w : Cond) : Bool := w.onTables || goodWord w
theorem vx_ot_at {args a' : Array Value} {s U : State} {w : Cond} (hW : s.WarmedH U.vm) (hvm : s.vm = U.vm) (hg : vx_ot w = true) (h : w.before args s = true) : w.before a' U = true := by
  simp only [vx_ot, Bool.or_eq_true] at hg
  rcases hg with hg | hg
  · exact va_tabs hg hvm h
  · exact word_at hW (good_of_word hg) h
/-- a list's words: the good ones out of the method's own list, the others by premises of their own -/
theorem vx_hat {args : Array Value} {s : State} {L B : List Cond} (h1 : ∀ w ∈ L.filter goodWord, w.before args s = true) (h2 : ∀ w ∈ L.filter (fun w => !goodWord w), w ∈ B) (h3 : ∀ w ∈ B, w.before args s = true) : ∀ w ∈ L, w.before args s = true := by
  intro w hw
  by_cases g : goodWord w = true
  · exact h1 w (List.mem_filter.mpr ⟨hw, g⟩)
  · refine h3 w (h2 w (List.mem_filter.mpr ⟨hw, ?_⟩))
    show (!goodWord w) = true
    cases hgw : goodWord w
    · rfl
    · exact absurd hgw g
theorem vx_c {args : Array Value} {s : State} {w : Cond} {B : List Cond} (h : w.before args s = true) (t : ∀ w ∈ B, w.before args s = true) : ∀ w' ∈ w :: B, w'.before args s = true := fun w' h' => (List.mem_cons.mp h').elim (fun e => by rw [e]; exact h) (t w')
theorem vx_n {args : Array Value} {s : State} : ∀ w ∈ ([] : List Cond), w.before args s = true := fun _ h => nomatch h
theorem vx_own {args : Array Value} {s : State} {L : List Cond} (h1 : ∀ w ∈ L.filter vx_no, w.before args s = true)
    (hU : (Cond.isRef (.static Bundle.tN "UNASSIGNED_STACK" Bundle.steD)).before args s = true) (hN : (Cond.isRef (.static Bundle.tN "SUPPRESSED_SENTINEL" Bundle.listD)).before args s = true)
    (lU : (Cond.laysStatic Bundle.tN "UNASSIGNED_STACK" Bundle.steD).before args s = true) (lN : (Cond.laysStatic Bundle.tN "SUPPRESSED_SENTINEL" Bundle.listD).before args s = true) : ∀ w ∈ L, w.before args s = true := by
  intro w hw
  by_cases e1 : w = .isRef (.static Bundle.tN "UNASSIGNED_STACK" Bundle.steD)
  · rw [e1]; exact hU
  · by_cases e2 : w = .isRef (.static Bundle.tN "SUPPRESSED_SENTINEL" Bundle.listD)
    · rw [e2]; exact hN
    · by_cases e3 : w = .laysStatic Bundle.tN "UNASSIGNED_STACK" Bundle.steD
      · rw [e3]; exact lU
      · by_cases e4 : w = .laysStatic Bundle.tN "SUPPRESSED_SENTINEL" Bundle.listD
        · rw [e4]; exact lN
        · exact h1 w (List.mem_filter.mpr ⟨hw, by unfold vx_no; rw [decide_eq_true e1, decide_eq_true e2, decide_eq_true e3, decide_eq_true e4]; rfl⟩)
/-- where a static field lies, its class's statics cell in H -/
def vx_L (C n d : String) (A : Nat → Prop) (U : State) (H : Heap) : Prop := ∃ (c : ClassId) (k : Class) (i : Nat) (f : Field) (a : Nat) (cell : Cell), U.vm.findClass C = some c ∧ U.fieldFound? C n d = some (c, k, i, f) ∧ f.isStatic = true ∧ k.statics = some a ∧ H[a]? = some cell ∧ cell.vm.isStatics = true ∧ cell.cls = c ∧ f.slot < cell.slots.size ∧ k.staticTypes[f.slot]? = some f.type ∧ ¬ A a
theorem vx_L.moved {C n d : String} {A : Nat → Prop} {u U : State} {H : Heap} (hvm : u.vm.Alike U.vm) (h : vx_L C n d A u H) : vx_L C n d A U H := by
  obtain ⟨c, k, i, f, a, cell, h1, h2, h3, h4, h5, h6, h7, h8, h9, h10⟩ := h
  obtain ⟨k', hi', he⟩ := State.fieldFound?_setVm hvm h2
  exact ⟨c, k', i, f, a, cell, by rw [hvm.findClass]; exact h1, hi', h3, by rw [he]; exact h4, h5, h6, h7, h8, by rw [he]; exact h9, h10⟩
theorem vx_L.kept {C n d : String} {A : Nat → Prop} {U : State} {H H1 : Heap} (h : vx_L C n d A U H) (hq : ∀ a : Nat, a < H.size → ¬ A a → H1[a]? = H[a]?) : vx_L C n d A U H1 := by
  obtain ⟨c, k, i, f, a, cell, h1, h2, h3, h4, h5, h6, h7, h8, h9, h10⟩ := h
  exact ⟨c, k, i, f, a, cell, h1, h2, h3, h4, by rw [hq a (Array.getElem?_eq_some_iff.mp h5).1 h10]; exact h5, h6, h7, h8, h9, h10⟩
theorem vx_L.narrow {C n d : String} {A B : Nat → Prop} {U : State} {H : Heap} (h : vx_L C n d A U H) (hAB : ∀ q, B q → A q) : vx_L C n d B U H := by
  obtain ⟨c, k, i, f, a, cell, h1, h2, h3, h4, h5, h6, h7, h8, h9, h10⟩ := h
  exact ⟨c, k, i, f, a, cell, h1, h2, h3, h4, h5, h6, h7, h8, h9, fun z => h10 (hAB _ z)⟩
theorem vx_L.word {C n d : String} {A : Nat → Prop} {s : State} {args : Array Value} (h : vx_L C n d A s s.heap) : (Cond.laysStatic C n d).before args s = true := by
  obtain ⟨c, k, i, f, a, cell, h1, h2, h3, h4, h5, h6, h7, h8, h9, -⟩ := h
  show (Cond.laysStatic C n d).holds args s none s [] = true
  exact Cond.laysStatic_of h1 h2 h3 h4 h5 h6 h7 h8 h9
/-- .. and what it holds: null or some reference -/
def vx_Zq (C n d : String) (A : Nat → Prop) (U : State) (H : Heap) : Prop := va_Zq C n d A U H ∧ vx_L C n d A U H
theorem vx_Zq.moved {C n d : String} {A : Nat → Prop} {u U : State} {H : Heap} (hvm : u.vm.Alike U.vm) (h : vx_Zq C n d A u H) : vx_Zq C n d A U H := ⟨va_Zq.moved hvm h.1, vx_L.moved hvm h.2⟩
theorem vx_Zq.kept {C n d : String} {A : Nat → Prop} {U : State} {H H1 : Heap} (h : vx_Zq C n d A U H) (hq : ∀ a : Nat, a < H.size → ¬ A a → H1[a]? = H[a]?) : vx_Zq C n d A U H1 := ⟨va_Zq.kept h.1 hq, vx_L.kept h.2 hq⟩
theorem vx_Zq.narrow {C n d : String} {A B : Nat → Prop} {U : State} {H : Heap} (h : vx_Zq C n d A U H) (hAB : ∀ q, B q → A q) : vx_Zq C n d B U H := ⟨va_Zq.narrow h.1 hAB, vx_L.narrow h.2 hAB⟩
theorem vx_Zqof {args : Array Value} {s : State} {C n d : String} {A : Nat → Prop} (hl : (Cond.laysStatic C n d).before args s = true) (hini : (Cond.initialized C).before args s = true) (h : (Cond.isRef (.static C n d)).before args s = true) (hA : ∀ a : Nat, a < s.heap.size → ¬ A a) : vx_Zq C n d A s s.heap := by
  refine ⟨va_Zqof hl hini h hA, ?_⟩
  obtain ⟨c, k, i, f, a, cell, h1, h2, h3, h4, h5, h6, h7, h8, h9⟩ := Cond.laysStatic_spec hl
  exact ⟨c, k, i, f, a, cell, h1, h2, h3, h4, h5, h6, h7, h8, h9, hA a (Array.getElem?_eq_some_iff.mp h5).1⟩
theorem vx_isRef {C n d : String} {v : Value} {A : Nat → Prop} {s : State} {args : Array Value} (h : va_Z C n d v A s s.heap) (hv : v.isRef = true) : (Cond.isRef (.static C n d)).before args s = true := by
  obtain ⟨cf, kf, fi, f, a, cell, h1, h2, h3, h4, h5, h6, h7, -⟩ := h
  have he : (Term.static C n d).eval args s none [] s = some v := by
    simp [Term.eval, State.fieldNamed?, h1, h2, h4, h5, h6, h7]
  simp only [Cond.before, Cond.holds, Cond.value, he]
  cases v <;> simp_all [Value.isRef]
theorem vx_isRefq {C n d : String} {A : Nat → Prop} {s : State} {args : Array Value} (h : va_Zq C n d A s s.heap) : (Cond.isRef (.static C n d)).before args s = true := by
  rcases h with h | ⟨t, h⟩
  · exact vx_isRef h rfl
  · exact vx_isRef h rfl
/-- the same frame, seen from here: as if the method were called anew in this heap -/
theorem vx_rebase {T : State} (X : Stand p l e R s m args below meth c T locs cells slots) {R' : Room} (hf : R'.frames ≤ R.frames) (hl : R'.locals ≤ R.locals) (hc : cells + R'.cells ≤ R.cells) (hs : slots + R'.slots ≤ R.slots) :
    Stand p l e R' ((T.setVm s.vm).setFrames (.invoking m args :: below)) m args below meth c T [] 0 0 := by
  have htop : (T.setVm s.vm).topJava?.isSome := X.here.top
  have hF : ((T.setVm s.vm).setFrames (.invoking m args :: below)).frames = .invoking m args :: below := State.frames_setFrames _ (State.cur_lt_of_top htop)
  obtain ⟨g₀, hg0⟩ := Option.isSome_iff_exists.mp htop
  obtain ⟨r, hr⟩ := State.topJava?_eq_some.mp hg0
  have hl9 : e.platform.stackLimits (T.setVm s.vm).me = e.platform.stackLimits s.me := X.limits
  have hb9 : (T.setVm s.vm).me.stackBytes = s.me.stackBytes := X.bytes
  refine ⟨X.admits, X.cas, X.clock, hF, ?_, X.hears, X.method, X.code, X.here, X.tail, X.warmed, ?_, ?_, ?_⟩
  · have h := X.room
    have hU : ((T.setVm s.vm).setFrames (.invoking m args :: below)).localsInUse = s.localsInUse := by
      rw [State.localsInUse_invoking hF (meth := meth) (c := c) X.method X.code, State.localsInUse_invoking X.frames X.method X.code]
    simp only [State.hasRoom, Bool.and_eq_true, decide_eq_true_eq] at h ⊢
    obtain ⟨⟨⟨⟨h1, h2, h3, h4, h5, h6⟩, h7⟩, h8⟩, h9⟩ := h
    rw [X.frames, List.length_cons] at h2 h3
    have q1 := X.heapSize
    have q2 := X.used
    simp only [hF, hU, List.length_cons, State.stackLimits_setFrames, State.stackBytes_setFrames, hl9, hb9]
    refine ⟨⟨⟨⟨by omega, by omega, by omega, by omega, by omega, h6⟩, ?_⟩, ?_⟩, X.book⟩
    · show T.heap.size + R'.cells ≤ e.platform.maxCells
      omega
    · show T.slotsUsed + R'.slots ≤ e.platform.maxSlots
      omega
  · rw [State.stackLimits_setFrames]; rfl
  · rw [State.stackBytes_setFrames]; rfl
  · refine ⟨?_, Nat.le_refl _, Nat.le_refl _, ?_, ?_, fun a c9 h9 => ⟨c9, h9, rfl, rfl, fun _ _ => rfl⟩⟩
    · obtain ⟨t, ht, -⟩ := State.frames_cons hr
      show T.setVm s.vm = { ((T.setVm s.vm).setFrames (.invoking m args :: below)).setFrames (T.setVm s.vm).frames with heap := T.heap, slotsUsed := T.slotsUsed }
      rw [State.setFrames_setFrames, State.setFrames_self ht]
      rfl
    · show T.slotsUsed = T.slotsUsed + ((T.heap.toList.drop T.heap.size).map (·.slots.size)).sum
      rw [List.drop_eq_nil_of_le (Nat.le_of_eq Array.length_toList)]
      rfl
    · show ((T.heap.toList.drop T.heap.size).map (·.slots.size)).sum ≤ 0
      rw [List.drop_eq_nil_of_le (Nat.le_of_eq Array.length_toList)]
      exact Nat.le_refl _
/-- 'throw new E()': new; dup; invokespecial; athrow -/
theorem vx_throw0 {cc : ByteArray} {pc : Nat} (hexec : p.tables.exec = Jvm.exec) (hb : c.code = cc) (hl : l.stackTraces = false) {own cls : String} {names : List String} {ik ic mc ms : Nat} {A : Nat → Prop}
    (hown : s.vm.findClass own = some m.cls) (hcls : Bundle.fit cls = true) (hnames : ∀ n ∈ names, Bundle.fit n = true)
    (hk : (Cond.classLink own ik cls).before args s = true) (hini : (Cond.initialized cls).before args s = true) (hat : ∀ w ∈ vx_at0 own ic cls names, w.before args s = true)
    (hgood : ∀ w ∈ Cond.classLink own ik cls :: Cond.initialized cls :: vx_at0 own ic cls names, vx_ot w = true)
    (hU : vx_Zq Bundle.tN "UNASSIGNED_STACK" Bundle.steD A s s.heap) (hN : vx_Zq Bundle.tN "SUPPRESSED_SENTINEL" Bundle.listD A s s.heap) (hS : va_S A s.heap H locs) (hsize : ls.size = c.maxLocals)
    (d0 : decode cc pc = .ok (.new ik, 3)) (d3 : decode cc (pc + 3) = .ok (.dup, 1)) (d4 : decode cc (pc + 4) = .ok (.invokespecial ic, 3)) (d7 : decode cc (pc + 7) = .ok (.athrow, 1))
    (hout : ∀ x ∈ c.exceptionTable.toList, covers x (pc + 7) = false)
    (hRframes : names.length + 3 < R.frames) (hRlocals : (rest.map fun v => v.category).sum + (13 * (names.length + 1) + 42) ≤ R.locals) (hRcells : cells + 1 ≤ R.cells) (hRslots : slots + 6 ≤ R.slots) (hlocks : meth.locks = false)
    (hx : ∀ t : State, s.vm.Alike t.vm → H.size ≤ t.heap.size → (∀ q : Nat, q < H.size → t.heap[q]? = H[q]?) → XC cls s t)
    (hf : ∀ z ∈ locs, free z.base) (hc : cells + 1 ≤ mc) (hs : slots + 6 ≤ ms) :
    W p l e R s m args below meth c H locs cells slots (vx_MQ below Qc XC args s mc ms free) (F0 m pc ls rest) := by
  intro T hT X
  have htr : e.platform.stackTraces = false := (show e.platform.stackTraces = l.stackTraces by rw [X.admits.platform]).trans hl
  have Y := vx_rebase X (R' := { frames := R.frames, locals := R.locals, cells := 1, slots := 6 }) (Nat.le_refl _) (Nat.le_refl _) hRcells hRslots
  obtain ⟨s', hA⟩ : ∃ z, z = (T.setVm s.vm).setFrames (.invoking m args :: below) := ⟨_, rfl⟩
  rw [← hA] at Y
  have hvm : s'.vm = s.vm := by rw [hA]; rfl
  have hhp : s'.heap = H := by rw [hA]; exact hT
  have hW0 : s.WarmedH s'.vm := by rw [hvm]; exact State.WarmedH.refl s
  have hat' : ∀ w ∈ vx_at0 own ic cls names, w.before args s' = true := fun w hw => vx_ot_at hW0 hvm.symm (hgood w (List.mem_cons_of_mem _ (List.mem_cons_of_mem _ hw))) (hat w hw)
  have hk' : (Cond.classLink own ik cls).before args s' = true := vx_ot_at hW0 hvm.symm (hgood _ List.mem_cons_self) hk
  have hini' : (Cond.initialized cls).before args s' = true := vx_ot_at hW0 hvm.symm (hgood _ (List.mem_cons_of_mem _ List.mem_cons_self)) hini
  have hU' : vx_Zq Bundle.tN "UNASSIGNED_STACK" Bundle.steD A s' s'.heap := by rw [hhp]; exact vx_Zq.moved hW0.alike (hU.kept hS.2.1)
  have hN' : vx_Zq Bundle.tN "SUPPRESSED_SENTINEL" Bundle.listD A s' s'.heap := by rw [hhp]; exact vx_Zq.moved hW0.alike (hN.kept hS.2.1)
  have h : ∀ w ∈ Bundle.ownAtoms0 own ic cls names, w.before args s' = true := vx_own hat' (vx_isRefq hU'.1) (vx_isRefq hN'.1) hU'.2.word hN'.2.word
  have hown' : s'.vm.findClass own = some m.cls := by rw [hvm]; exact hown
  have hins : (Cond.instantiable cls 6).before args s' = true := h _ (by simp [Bundle.ownAtoms0])
  obtain ⟨vm₁, cX, kX, hfX, hkX, -, -, X₁, st1⟩ := Y.newCold hexec (own := own) (C := cls) (index := ik) (n := 6) hown' hk' hins hini'
    (g := F0 m pc ls rest) rfl (by rw [hb]; exact d0) (Nat.le_refl _) (Nat.le_refl _)
  generalize hT1 : (T.setVm vm₁).pushCell { cls := cX, slots := kX.instanceTypes.map defaultValue, vm := .none } = T1 at X₁ st1
  have hcat : (Value.ref T.heap.size).category = 1 := rfl
  have hcellA : T1.heap[T.heap.size]? = some (freshCell cX kX) := by rw [← hT1]; exact State.heap_pushCell_size _ _
  have d3' : decode c.code (pc + 3) = .ok (.dup, 1) := by rw [hb]; exact d3
  obtain ⟨U, hsteps, hrun, hend, hW, hsame, ce, hce, hO⟩ := X₁.ctorThrow0 hexec htr (own := own) (cls := cls) (names := names) (ic := ic) hown' hcls hnames h (fun x hx => nomatch hx) hfX hkX hcellA (by rw [hhp, hT]; exact Nat.le_refl _)
    (g := { method := m, pc := pc + 4, locals := ls, stack := .ref T.heap.size :: .ref T.heap.size :: rest, locked := none }) rfl hsize rfl rfl (rest := rest) rfl
    (by rw [hb]; exact d4) (by rw [hb]; exact d7) hout hRframes (by simp only [List.map_cons, List.sum_cons, hcat]; omega) hlocks
  obtain ⟨f1, f2⟩ := vx_frame hsame
  rw [hhp] at f1 f2
  have hWs : s.WarmedH U.vm := State.WarmedH.trans hW0 hW
  have hcl : s.vm.findClass cls = some ce.cls := by
    have h9 := hO.cls
    rw [hvm] at h9
    exact h9
  have hall : s.sameButNew ({ U with vm := s.vm } : State) locs mc ms := by
    subst hA
    obtain ⟨e1, e2⟩ := hsame
    rw [State.setFrames_setFrames] at e1
    have h2 : (T.setVm s.vm).sameButNew ({ U with vm := s.vm } : State) [] (0 + 1) (0 + 6) := ⟨e1, e2⟩
    have h3 := X.same.trans h2
    rw [List.append_nil] at h3
    exact h3.mono hc hs
  refine ⟨U, ?_, .threw T.heap.size, hrun, hend, Or.inr ⟨T.heap.size, rfl, cls, ce, locs, hx U hWs.alike f1 (fun q hq => f2 q hq (fun z hz => nomatch hz)), hce, hO.vm, hcl, hWs, hall, hf⟩⟩
  refine st1 _ ?_
  show Steps p.tables e below (T1.setTop { method := m, pc := pc + 3, locals := ls, stack := .ref T.heap.size :: rest, locked := none }) _
  jvm_step X₁.here [X₁.here.top, hexec, d3', Value.category]
  exact hsteps
/-- 'throw new E("text")': new; dup; ldc; invokespecial; athrow -/
theorem vx_throwS {cc : ByteArray} {pc : Nat} (hexec : p.tables.exec = Jvm.exec) (hb : c.code = cc) (hl : l.stackTraces = false) {own cls text : String} {names : List String} {ik is ic mc ms sa : Nat} {A : Nat → Prop}
    (hown : s.vm.findClass own = some m.cls) (hcls : Bundle.fit cls = true) (hnames : ∀ n ∈ names, Bundle.fit n = true)
    (hk : (Cond.classLink own ik cls).before args s = true) (hini : (Cond.initialized cls).before args s = true) (hstr : vk_R own is text sa s) (hat : ∀ w ∈ vx_atS own ic cls names, w.before args s = true)
    (hgood : ∀ w ∈ Cond.classLink own ik cls :: Cond.initialized cls :: vx_atS own ic cls names, vx_ot w = true)
    (hU : vx_Zq Bundle.tN "UNASSIGNED_STACK" Bundle.steD A s s.heap) (hN : vx_Zq Bundle.tN "SUPPRESSED_SENTINEL" Bundle.listD A s s.heap) (hS : va_S A s.heap H locs) (hsize : ls.size = c.maxLocals)
    (d0 : decode cc pc = .ok (.new ik, 3)) (d3 : decode cc (pc + 3) = .ok (.dup, 1)) (d4 : decode cc (pc + 4) = .ok (.ldc is, 2)) (d6 : decode cc (pc + 6) = .ok (.invokespecial ic, 3)) (d9 : decode cc (pc + 9) = .ok (.athrow, 1))
    (hout : ∀ x ∈ c.exceptionTable.toList, covers x (pc + 9) = false)
    (hRframes : names.length + 3 < R.frames) (hRlocals : (rest.map fun v => v.category).sum + (13 * (names.length + 1) + 43) ≤ R.locals) (hRcells : cells + 1 ≤ R.cells) (hRslots : slots + 6 ≤ R.slots) (hlocks : meth.locks = false)
    (hx : ∀ t : State, s.vm.Alike t.vm → H.size ≤ t.heap.size → (∀ q : Nat, q < H.size → t.heap[q]? = H[q]?) → XC cls s t)
    (hf : ∀ z ∈ locs, free z.base) (hc : cells + 1 ≤ mc) (hs : slots + 6 ≤ ms) :
    W p l e R s m args below meth c H locs cells slots (vx_MQ below Qc XC args s mc ms free) (F0 m pc ls rest) := by
  intro T hT X
  have htr : e.platform.stackTraces = false := (show e.platform.stackTraces = l.stackTraces by rw [X.admits.platform]).trans hl
  have Y := vx_rebase X (R' := { frames := R.frames, locals := R.locals, cells := 1, slots := 6 }) (Nat.le_refl _) (Nat.le_refl _) hRcells hRslots
  obtain ⟨s', hA⟩ : ∃ z, z = (T.setVm s.vm).setFrames (.invoking m args :: below) := ⟨_, rfl⟩
  rw [← hA] at Y
  have hvm : s'.vm = s.vm := by rw [hA]; rfl
  have hhp : s'.heap = H := by rw [hA]; exact hT
  have hW0 : s.WarmedH s'.vm := by rw [hvm]; exact State.WarmedH.refl s
  have hat' : ∀ w ∈ vx_atS own ic cls names, w.before args s' = true := fun w hw => vx_ot_at hW0 hvm.symm (hgood w (List.mem_cons_of_mem _ (List.mem_cons_of_mem _ hw))) (hat w hw)
  have hk' : (Cond.classLink own ik cls).before args s' = true := vx_ot_at hW0 hvm.symm (hgood _ List.mem_cons_self) hk
  have hini' : (Cond.initialized cls).before args s' = true := vx_ot_at hW0 hvm.symm (hgood _ (List.mem_cons_of_mem _ List.mem_cons_self)) hini
  have hU' : vx_Zq Bundle.tN "UNASSIGNED_STACK" Bundle.steD A s' s'.heap := by rw [hhp]; exact vx_Zq.moved hW0.alike (hU.kept hS.2.1)
  have hN' : vx_Zq Bundle.tN "SUPPRESSED_SENTINEL" Bundle.listD A s' s'.heap := by rw [hhp]; exact vx_Zq.moved hW0.alike (hN.kept hS.2.1)
  have h : ∀ w ∈ Bundle.ownAtoms own ic cls names, w.before args s' = true := vx_own hat' (vx_isRefq hU'.1) (vx_isRefq hN'.1) hU'.2.word hN'.2.word
  have hown' : s'.vm.findClass own = some m.cls := by rw [hvm]; exact hown
  have hins : (Cond.instantiable cls 6).before args s' = true := h _ (by simp [Bundle.ownAtoms])
  obtain ⟨vm₁, cX, kX, hfX, hkX, -, -, X₁, st1⟩ := Y.newCold hexec (own := own) (C := cls) (index := ik) (n := 6) hown' hk' hins hini'
    (g := F0 m pc ls rest) rfl (by rw [hb]; exact d0) (Nat.le_refl _) (Nat.le_refl _)
  generalize hT1 : (T.setVm vm₁).pushCell { cls := cX, slots := kX.instanceTypes.map defaultValue, vm := .none } = T1 at X₁ st1
  have hcat : (Value.ref T.heap.size).category = 1 := rfl
  have hcellA : T1.heap[T.heap.size]? = some (freshCell cX kX) := by rw [← hT1]; exact State.heap_pushCell_size _ _
  have d3' : decode c.code (pc + 3) = .ok (.dup, 1) := by rw [hb]; exact d3
  have d4' : decode c.code (pc + 4) = .ok (.ldc is, 2) := by rw [hb]; exact d4
  have hstr' : vk_R own is text sa s' := vk_R.warm hW0 hstr
  obtain ⟨U, hsteps, hrun, hend, hW, hsame, ce, hce, hO⟩ := X₁.ctorThrowS hexec htr (own := own) (cls := cls) (names := names) (ic := ic) hown' hcls hnames h (fun x hx => nomatch hx) hfX hkX hcellA (by rw [hhp, hT]; exact Nat.le_refl _) (msg := .ref sa) rfl
    (g := { method := m, pc := pc + 6, locals := ls, stack := .ref sa :: .ref T.heap.size :: .ref T.heap.size :: rest, locked := none }) rfl hsize rfl rfl (rest := rest) rfl
    (by rw [hb]; exact d6) (by rw [hb]; exact d9) hout hRframes (by simp only [List.map_cons, List.sum_cons, hcat]; omega) hlocks
  obtain ⟨f1, f2⟩ := vx_frame hsame
  rw [hhp] at f1 f2
  have hWs : s.WarmedH U.vm := State.WarmedH.trans hW0 hW
  have hcl : s.vm.findClass cls = some ce.cls := by
    have h9 := hO.cls
    rw [hvm] at h9
    exact h9
  have hall : s.sameButNew ({ U with vm := s.vm } : State) locs mc ms := by
    subst hA
    obtain ⟨e1, e2⟩ := hsame
    rw [State.setFrames_setFrames] at e1
    have h2 : (T.setVm s.vm).sameButNew ({ U with vm := s.vm } : State) [] (0 + 1) (0 + 6) := ⟨e1, e2⟩
    have h3 := X.same.trans h2
    rw [List.append_nil] at h3
    exact h3.mono hc hs
  refine ⟨U, ?_, .threw T.heap.size, hrun, hend, Or.inr ⟨T.heap.size, rfl, cls, ce, locs, hx U hWs.alike f1 (fun q hq => f2 q hq (fun z hz => nomatch hz)), hce, hO.vm, hcl, hWs, hall, hf⟩⟩
  refine st1 _ ?_
  show Steps p.tables e below (T1.setTop { method := m, pc := pc + 3, locals := ls, stack := .ref T.heap.size :: rest, locked := none }) _
  jvm_step X₁.here [X₁.here.top, hexec, d3', Value.category]
  exact X₁.ldcString hexec (own := own) (text := text) (index := is) (a := sa) hown' hstr'.1 hstr'.2
    (g := { method := m, pc := pc + 4, locals := ls, stack := .ref T.heap.size :: .ref T.heap.size :: rest, locked := none }) rfl d4' _ hsteps
/-- 'throw new E("text")', the text by a wide index -/
theorem vx_throwSW {cc : ByteArray} {pc : Nat} (hexec : p.tables.exec = Jvm.exec) (hb : c.code = cc) (hl : l.stackTraces = false) {own cls text : String} {names : List String} {ik is ic mc ms sa : Nat} {A : Nat → Prop}
    (hown : s.vm.findClass own = some m.cls) (hcls : Bundle.fit cls = true) (hnames : ∀ n ∈ names, Bundle.fit n = true)
    (hk : (Cond.classLink own ik cls).before args s = true) (hini : (Cond.initialized cls).before args s = true) (hstr : vk_R own is text sa s) (hat : ∀ w ∈ vx_atS own ic cls names, w.before args s = true)
    (hgood : ∀ w ∈ Cond.classLink own ik cls :: Cond.initialized cls :: vx_atS own ic cls names, vx_ot w = true)
    (hU : vx_Zq Bundle.tN "UNASSIGNED_STACK" Bundle.steD A s s.heap) (hN : vx_Zq Bundle.tN "SUPPRESSED_SENTINEL" Bundle.listD A s s.heap) (hS : va_S A s.heap H locs) (hsize : ls.size = c.maxLocals)
    (d0 : decode cc pc = .ok (.new ik, 3)) (d3 : decode cc (pc + 3) = .ok (.dup, 1)) (d4 : decode cc (pc + 4) = .ok (.ldc_w is, 3)) (d7 : decode cc (pc + 7) = .ok (.invokespecial ic, 3)) (d10 : decode cc (pc + 10) = .ok (.athrow, 1))
    (hout : ∀ x ∈ c.exceptionTable.toList, covers x (pc + 10) = false)
    (hRframes : names.length + 3 < R.frames) (hRlocals : (rest.map fun v => v.category).sum + (13 * (names.length + 1) + 43) ≤ R.locals) (hRcells : cells + 1 ≤ R.cells) (hRslots : slots + 6 ≤ R.slots) (hlocks : meth.locks = false)
    (hx : ∀ t : State, s.vm.Alike t.vm → H.size ≤ t.heap.size → (∀ q : Nat, q < H.size → t.heap[q]? = H[q]?) → XC cls s t)
    (hf : ∀ z ∈ locs, free z.base) (hc : cells + 1 ≤ mc) (hs : slots + 6 ≤ ms) :
    W p l e R s m args below meth c H locs cells slots (vx_MQ below Qc XC args s mc ms free) (F0 m pc ls rest) := by
  intro T hT X
  have htr : e.platform.stackTraces = false := (show e.platform.stackTraces = l.stackTraces by rw [X.admits.platform]).trans hl
  have Y := vx_rebase X (R' := { frames := R.frames, locals := R.locals, cells := 1, slots := 6 }) (Nat.le_refl _) (Nat.le_refl _) hRcells hRslots
  obtain ⟨s', hA⟩ : ∃ z, z = (T.setVm s.vm).setFrames (.invoking m args :: below) := ⟨_, rfl⟩
  rw [← hA] at Y
  have hvm : s'.vm = s.vm := by rw [hA]; rfl
  have hhp : s'.heap = H := by rw [hA]; exact hT
  have hW0 : s.WarmedH s'.vm := by rw [hvm]; exact State.WarmedH.refl s
  have hat' : ∀ w ∈ vx_atS own ic cls names, w.before args s' = true := fun w hw => vx_ot_at hW0 hvm.symm (hgood w (List.mem_cons_of_mem _ (List.mem_cons_of_mem _ hw))) (hat w hw)
  have hk' : (Cond.classLink own ik cls).before args s' = true := vx_ot_at hW0 hvm.symm (hgood _ List.mem_cons_self) hk
  have hini' : (Cond.initialized cls).before args s' = true := vx_ot_at hW0 hvm.symm (hgood _ (List.mem_cons_of_mem _ List.mem_cons_self)) hini
  have hU' : vx_Zq Bundle.tN "UNASSIGNED_STACK" Bundle.steD A s' s'.heap := by rw [hhp]; exact vx_Zq.moved hW0.alike (hU.kept hS.2.1)
  have hN' : vx_Zq Bundle.tN "SUPPRESSED_SENTINEL" Bundle.listD A s' s'.heap := by rw [hhp]; exact vx_Zq.moved hW0.alike (hN.kept hS.2.1)
  have h : ∀ w ∈ Bundle.ownAtoms own ic cls names, w.before args s' = true := vx_own hat' (vx_isRefq hU'.1) (vx_isRefq hN'.1) hU'.2.word hN'.2.word
  have hown' : s'.vm.findClass own = some m.cls := by rw [hvm]; exact hown
  have hins : (Cond.instantiable cls 6).before args s' = true := h _ (by simp [Bundle.ownAtoms])
  obtain ⟨vm₁, cX, kX, hfX, hkX, -, -, X₁, st1⟩ := Y.newCold hexec (own := own) (C := cls) (index := ik) (n := 6) hown' hk' hins hini'
    (g := F0 m pc ls rest) rfl (by rw [hb]; exact d0) (Nat.le_refl _) (Nat.le_refl _)
  generalize hT1 : (T.setVm vm₁).pushCell { cls := cX, slots := kX.instanceTypes.map defaultValue, vm := .none } = T1 at X₁ st1
  have hcat : (Value.ref T.heap.size).category = 1 := rfl
  have hcellA : T1.heap[T.heap.size]? = some (freshCell cX kX) := by rw [← hT1]; exact State.heap_pushCell_size _ _
  have d3' : decode c.code (pc + 3) = .ok (.dup, 1) := by rw [hb]; exact d3
  have d4' : decode c.code (pc + 4) = .ok (.ldc_w is, 3) := by rw [hb]; exact d4
  have hstr' : vk_R own is text sa s' := vk_R.warm hW0 hstr
  obtain ⟨U, hsteps, hrun, hend, hW, hsame, ce, hce, hO⟩ := X₁.ctorThrowS hexec htr (own := own) (cls := cls) (names := names) (ic := ic) hown' hcls hnames h (fun x hx => nomatch hx) hfX hkX hcellA (by rw [hhp, hT]; exact Nat.le_refl _) (msg := .ref sa) rfl
    (g := { method := m, pc := pc + 7, locals := ls, stack := .ref sa :: .ref T.heap.size :: .ref T.heap.size :: rest, locked := none }) rfl hsize rfl rfl (rest := rest) rfl
    (by rw [hb]; exact d7) (by rw [hb]; exact d10) hout hRframes (by simp only [List.map_cons, List.sum_cons, hcat]; omega) hlocks
  obtain ⟨f1, f2⟩ := vx_frame hsame
  rw [hhp] at f1 f2
  have hWs : s.WarmedH U.vm := State.WarmedH.trans hW0 hW
  have hcl : s.vm.findClass cls = some ce.cls := by
    have h9 := hO.cls
    rw [hvm] at h9
    exact h9
  have hall : s.sameButNew ({ U with vm := s.vm } : State) locs mc ms := by
    subst hA
    obtain ⟨e1, e2⟩ := hsame
    rw [State.setFrames_setFrames] at e1
    have h2 : (T.setVm s.vm).sameButNew ({ U with vm := s.vm } : State) [] (0 + 1) (0 + 6) := ⟨e1, e2⟩
    have h3 := X.same.trans h2
    rw [List.append_nil] at h3
    exact h3.mono hc hs
  refine ⟨U, ?_, .threw T.heap.size, hrun, hend, Or.inr ⟨T.heap.size, rfl, cls, ce, locs, hx U hWs.alike f1 (fun q hq => f2 q hq (fun z hz => nomatch hz)), hce, hO.vm, hcl, hWs, hall, hf⟩⟩
  refine st1 _ ?_
  show Steps p.tables e below (T1.setTop { method := m, pc := pc + 3, locals := ls, stack := .ref T.heap.size :: rest, locked := none }) _
  jvm_step X₁.here [X₁.here.top, hexec, d3', Value.category]
  exact X₁.ldcStringW hexec (own := own) (text := text) (index := is) (a := sa) hown' hstr'.1 hstr'.2
    (g := { method := m, pc := pc + 4, locals := ls, stack := .ref T.heap.size :: .ref T.heap.size :: rest, locked := none }) rfl d4' _ hsteps
end Ends
section Bodies
variable {l : Launch}
theorem vx_ofW {y : MethodName} {ws ws' : List Cond} {rm : Room} {Pc : Array Value → State → Prop} {Qc : Array Value → State → Outcome → State → Prop} {XC : String → State → State → Prop} {mc ms : Nat} {free : Addr → Prop} {cc : ByteArray} {maxL : Nat} {ret : Option FieldType}
    (hy : plainName y.cls = true) (hw : ws = Cond.code y cc maxL ret :: ws')
    (body : ∀ p e s m args below meth c s₁, BodyLoose p l y (headSpec ws rm) cc maxL ret e s m args below meth c s₁ → c.maxLocals = maxL → (∀ x ∈ c.exceptionTable.toList, False) → Pc args s →
      W p l e (headSpec ws rm).room s m args below meth c s.heap [] 0 0 (vx_MQ below Qc XC args s mc ms free) (entryFrame m args maxL)) : vx_Met l y ws rm Pc Qc XC mc ms free := by
  refine MetFree.of_bodyS (code := cc) (maxLocals := maxL) (ret := ret) hy ?_ ?_
  · intro args s m h hn
    obtain ⟨meth, c, h1, h2, h3, h4, h5, h6, -, -⟩ := Cond.code_spec hn (atoms_spec (ws := ws) h _ (by rw [hw]; exact List.mem_cons_self))
    exact ⟨meth, c, h1, h2, h3, h4, h5, h6⟩
  · intro p e s m args below meth c s₁ B hml hP _
    have hh0 : s₁.heap = s.heap := by rw [B.state]; rfl
    have ht : ∀ x ∈ c.exceptionTable.toList, False := by
      obtain ⟨meth9, c9, h1, h2, -, -, -, -, h7, -⟩ := Cond.code_spec B.named (atoms_spec (ws := ws) B.pre _ (by rw [hw]; exact List.mem_cons_self))
      cases Option.some.inj (h1.symm.trans B.method)
      cases Option.some.inj (h2.symm.trans (Stand.of_body B).code)
      intro x hx
      rw [Array.isEmpty_iff.mp h7] at hx
      cases hx
    obtain ⟨t, a1, o, b1, b2, b3⟩ := body p e s m args below meth c s₁ B hml ht hP s₁ hh0 (Stand.of_body B)
    exact ⟨t, o, a1, b1, b2, b3⟩
/-- the table of a body with handlers -/
theorem vx_table {p : Program} {x y : MethodName} {S : Spec} {cc bytes : ByteArray} {maxL maxL' : Nat} {ret ret' : Option FieldType} {e : Env} {s s₁ : State} {m : MethodId} {args : Array Value} {below : List Frame} {meth : Method} {c : Code} {hh : List (Nat × Nat × Nat × Nat)}
    (B : BodyLoose p l y S cc maxL ret e s m args below meth c s₁) (h : (Cond.codeWith y bytes maxL' ret' hh).before args s = true) : c.exceptionTable.toList = tableOf hh := by
  obtain ⟨m9, meth9, c9, hn9, h1, h2, -, -, h6, -⟩ := Cond.codeWith_spec h
  cases Option.some.inj (hn9.symm.trans B.named)
  cases Option.some.inj (h1.symm.trans B.method)
  cases Option.some.inj (h2.symm.trans (Stand.of_body B).code)
  rw [← h6, table_eq]
end Bodies
end VXA
/-! ===== END ===== -/
/-! ===== BEGIN a static call of a method with an exception table ===== -/
section VXS
variable {p : Program} {l : Launch} {e : Env} {R : Room} {s : State} {m : MethodId} {args : Array Value} {below : List Frame} {meth : Method} {c : Code} {T : State} {H : Heap} {locs : List Loc} {cells slots : Nat}
abbrev vx_CSW (R : Room) (s : State) (args : Array Value) (own : String) (index : Nat) (y : MethodName) (bytes : ByteArray) (maxL : Nat) (ret : Option FieldType) (hh : List (Nat × Nat × Nat × Nat)) (ws : List Cond) (rm : Room) (mc ms n : Nat) : Prop :=
  (rm.cells = mc ∧ rm.slots = ms ∧ rm.frames + 1 ≤ R.frames ∧ 8 + (maxL + 11) + rm.locals ≤ R.locals ∧ (∀ w ∈ ws, ∀ (a' : Array Value) (U : State), s.WarmedH U.vm → w.before a' U = true) ∧ Cond.codeWith y bytes maxL ret hh ∈ ws) ∧
  (Cond.codeWith y bytes maxL ret hh).before args s = true ∧ (Cond.initialized y.cls).before args s = true ∧ (y.cls ≠ "java/lang/invoke/MethodHandle" ∧ y.cls ≠ "java/lang/invoke/VarHandle") ∧
  (∀ sig, parseMethodDescriptor y.desc = some sig → n = sig.parameters.length) ∧ (Cond.methodLink own index y).before args s = true ∧ (Cond.static y).before args s = true
theorem vx_cwSW {own : String} {index maxL mc ms : Nat} {y : MethodName} {bytes : ByteArray} {ret : Option FieldType} {hh : List (Nat × Nat × Nat × Nat)} {Ts ws ws' : List Cond} {rm : Room} (n : Nat) (ht : ∀ w ∈ Ts, w.before args s = true) (hT : GoodIn Ts (va_wsS own index y ws)) (hw : ws = Cond.codeWith y bytes maxL ret hh :: ws') (hrc : rm.cells = mc) (hrs : rm.slots = ms)
    (hd : y.cls ≠ "java/lang/invoke/MethodHandle" ∧ y.cls ≠ "java/lang/invoke/VarHandle" ∧ (parseMethodDescriptor y.desc).map (fun d => d.parameters.length) = some n) (hR : rm.frames + 1 ≤ R.frames ∧ 8 + (maxL + 11) + rm.locals ≤ R.locals) :
    vx_CSW R s args own index y bytes maxL ret hh ws rm mc ms n := by
  have ok : ∀ w ∈ va_wsS own index y ws, w.before args s = true := fun w h => ht w (hT w h).1
  have hG : GoodIn Ts ws := fun w h => hT w (by unfold va_wsS; exact List.mem_append_right _ h)
  have hc : Cond.codeWith y bytes maxL ret hh ∈ ws := by rw [hw]; exact List.mem_cons_self
  refine ⟨⟨hrc, hrs, hR.1, hR.2, pay_in ht hG, hc⟩, ht _ (hG _ hc).1, ok _ (by simp [va_wsS]), ⟨hd.1, hd.2.1⟩, fun sig h => ?_, ok _ (by simp [va_wsS]), ok _ (by simp [va_wsS])⟩
  have h2 := hd.2.2
  rw [h] at h2
  exact (Option.some.inj h2).symm
theorem vx_callSW (X : Stand p l e R s m args below meth c T locs cells slots) (hexec : p.tables.exec = Jvm.exec) {own : String} {index : Nat} {y : MethodName} {bytes : ByteArray} {maxL : Nat} {ret : Option FieldType} {hh : List (Nat × Nat × Nat × Nat)}
    (hown : s.vm.findClass own = some m.cls) (hlink : (Cond.methodLink own index y).before args s = true) (hstat : (Cond.static y).before args s = true) (hinit : (Cond.initialized y.cls).before args s = true)
    (hcode : (Cond.codeWith y bytes maxL ret hh).before args s = true) (hy : y.cls ≠ "java/lang/invoke/MethodHandle" ∧ y.cls ≠ "java/lang/invoke/VarHandle")
    {W9 : Nat} {Pre : Pt → Array Value → Prop} {Post : Pt → Array Value → Option Value → Pt → Prop} (hK : Back l R p e below s args y 3 W9 Pre Post)
    {g : JFrame} (hg : g.method = m) (hsize : g.locals.size = c.maxLocals) {argsL rest : List Value} (hlen : ∀ sig, parseMethodDescriptor y.desc = some sig → argsL.length = sig.parameters.length)
    (hstack : g.stack = argsL.reverse ++ rest) (hW : 2 * g.monitorRoom + (rest.map fun v => v.category).sum ≤ W9) (hdg : decode c.code g.pc = .ok (.invokestatic index, 3))
    (hpre : ∀ vm₁, s.WarmedH vm₁ → Pre ⟨T.setVm vm₁, locs, cells, slots⟩ argsL.toArray) :
    ∃ (v : Option Value) (vm₁ : Vm) (B : Pt), s.WarmedH vm₁ ∧ Stand p l e R s m args below meth c B.U B.locs B.cells B.slots ∧ Post ⟨T.setVm vm₁, locs, cells, slots⟩ argsL.toArray v B ∧
      ∀ target, Steps p.tables e below (B.U.setTop { g with pc := g.pc + 3, stack := v.toList ++ rest }) target → Steps p.tables e below (T.setTop g) target := by
  obtain ⟨mk, methM, cM, hnamed, hmethM, -, -, -, -, -, -, hsigM⟩ := Cond.codeWith_spec hcode
  have hstatic : methM.isStatic = true := Cond.static_spec hnamed hmethM hstat
  obtain ⟨kP, hkP, -⟩ := className_of_methodNamed hnamed
  have hinitP : kP.init = .initialized := Cond.initialized_spec (findClass_of_methodNamed hnamed) hkP hinit
  obtain ⟨vm₁, X₁, hstep₁⟩ := X.invokestatic hexec hown hlink hnamed hmethM hstatic hkP hinitP hy (g := g) hg (argsL := argsL) (rest := rest) (hlen _ hsigM) hstack hdg
  obtain ⟨v, B, X', hpost, hsteps⟩ := hK m meth c ⟨T.setVm vm₁, locs, cells, slots⟩ { g with stack := rest } (.invokestatic index) mk argsL.toArray X₁ hg hsize hdg hW (X₁.named hnamed) (hpre vm₁ X₁.warmed)
  exact ⟨v, vm₁, B, X₁.warmed, X', hpost, fun target h => hstep₁ _ fun acts => by rw [doInvoke_state]; exact hsteps.trans h⟩
theorem vx_runSW {y : MethodName} {bytes cc : ByteArray} {maxL nL mc ms n index : Nat} {ret : Option FieldType} {hh : List (Nat × Nat × Nat × Nat)} {ws : List Cond} {rm : Room} {Pc : Array Value → State → Prop} {Qc : Array Value → State → Outcome → State → Prop} {free : Addr → Prop} {Ts : List Cond} {own : String} {As rest : List Value} {g : JFrame}
    (S : CallFix p m c cc nL s args Ts own) (hM : Met l y ws rm Pc Qc mc ms free) (cw : vx_CSW R s args own index y bytes maxL ret hh ws rm mc ms n) (hp : PreS s H Pc As)
    (hg : g.method = m) (hn : As.length = n) (hsize : g.locals.size = nL) (hstack : g.stack = As.reverse ++ rest) (hW : 2 * g.monitorRoom + (rest.map fun v => v.category).sum ≤ 8) (hdg : decode cc g.pc = .ok (.invokestatic index, 3)) (hf : cells + mc ≤ R.cells ∧ slots + ms ≤ R.slots) :
    va_Run p l e R s m args below meth c H locs cells slots mc ms g rest (Qc As.toArray) (free) := by
  obtain ⟨⟨hrc, hrs, hfr, hlo, hws, hcw⟩, hcode, hini, hy, hlen, hl, hstt⟩ := cw
  have hK : Back l R p e below s args y 3 8 (PreOf R mc ms Pc) (PostOf Qc mc ms free) := va_backW (hh := hh) (bytes := bytes) (maxL := maxL) (ret := ret) hM hp.1 hrc hrs hfr hlo hws hcw (fun a' U hW => word_at hW (Or.inl (by first | rfl | simp [Cond.onTables, Cond.keeps, Cond.steady])) hini)
  obtain ⟨hx, hb, hml, ho, -⟩ := S
  intro T hT X
  obtain ⟨v, vm₁, ⟨U', l2, c2, s2⟩, hW₁, X', ⟨g', mk, t, L, e1, e2, hq, h1, hL, h2, h3⟩, st⟩ := vx_callSW X hx (hh := hh) (bytes := bytes) (maxL := maxL) (ret := ret) ho hl hstt hini hcode hy hK hg (hsize.trans hml.symm) (argsL := As) (rest := rest) (fun sig h => hn.trans (hlen sig h)) hstack hW (by rw [hb]; exact hdg)
    (fun vm₁ hW₁ => ⟨hf.1, hf.2, hp.2 (T.setVm vm₁) hT hW₁⟩)
  dsimp only [Pt.U, Pt.locs, Pt.cells, Pt.slots] at X' e1 e2 h1 h2 h3 st
  subst h1; subst h2; subst h3
  exact ⟨v, (T.setVm vm₁).calling g' mk As.toArray, t, U', L, hT, X', hL, e1, e2, hq, st⟩
/-- not caught here, past rows that name other classes: it goes on to the caller -/
theorem vx_outP {p : Program} {l : Launch} {e : Env} {R : Room} {s : State} {m : MethodId} {args : Array Value} {below : List Frame} {meth : Method} {c : Code} {H : Heap} {locs : List Loc} {cells slots : Nat} {free : Addr → Prop} {ls : Array Slot} {rest : List Value} {Qc : Array Value → State → Outcome → State → Prop} {XC : String → State → State → Prop}
    {pc : Nat} {own E : String} {ce : Cell} {q : Addr} {mc ms : Nat} (hown : s.vm.findClass own = some m.cls) (hlocks : meth.locks = false)
    (hpass : ∀ z ∈ c.exceptionTable.toList, covers z pc = false ∨ (z.catchType ≠ 0 ∧ ∃ nm : String, (Cond.classLink own z.catchType nm).before args s = true ∧ va_Nc E nm s)) (hcell : H[q]? = some ce) (hv : ce.vm = .none) (hcl : s.vm.findClass E = some ce.cls)
    (hx : ∀ t : State, t.heap = H → s.vm.Alike t.vm → XC E s t) (hf : ∀ z ∈ locs, free z.base) (hc : cells ≤ mc) (hs : slots ≤ ms) :
    vx_W p l e R s m args below meth c H locs cells slots (vx_MQ below Qc XC args s mc ms free) (F0 m pc ls rest) q := by
  intro T hT X
  have hpl : e.platform.magicAccessors = ({} : Platform).magicAccessors := by rw [X.admits.platform]
  obtain ⟨vm', hW', X', st⟩ := X.outThrough hlocks q (g := F0 m pc ls rest) rfl rfl rfl (cell := ce) (by rw [hT]; exact hcell) (by rw [hv]; rfl)
    (by obtain ⟨k9, h9, -⟩ := Vm.findClass_spec hcl; exact ⟨k9, h9⟩) (fun z hz => by
      rcases hpass z hz with h | ⟨hz0, nm, hl1, hn1⟩
      · exact Or.inl h
      · obtain ⟨c6, hc6, hcl6⟩ := Cond.classLink_spec hown hl1 e.platform hpl
        obtain ⟨a8, b8, h1, h2, h3⟩ := hn1
        cases Option.some.inj (h1.symm.trans hcl)
        cases Option.some.inj (h2.symm.trans hc6)
        exact Or.inr ⟨hz0, _, hcl6, h3⟩)
  obtain ⟨g₀, hfr⟩ := X'.frames_eq
  have hcell9 : ((T.setVm vm').setFrames (.throwing q :: below)).heap[q]? = some ce := by
    show T.heap[q]? = some ce
    rw [hT]; exact hcell
  have hend : Ended ((T.setVm vm').setFrames (.throwing q :: below)) below (.threw q) := State.frames_setFrames _ (State.cur_lt_of_frames hfr)
  refine ⟨(T.setVm vm').setFrames (.throwing q :: below), ?_, .threw q, X'.here.running, hend, Or.inr ⟨q, rfl, E, ce, locs, hx _ hT (X'.ends _).1.alike, hcell9, hv, hcl, (X'.ends _).1, (X'.ends _).2.mono hc hs, hf⟩⟩
  rw [X.pushThrowing_eq]
  exact st
/-- a thing of a world lies in the heap -/
theorem vx_lt {D : va_G} {cl : List vw_C} {ws : va_W} {H1 : Heap} (h : va_P D cl ws H1) {k : Nat} {q : Nat × va_E} (hk : ws[k]? = some q) : q.1 < H1.size := (h k q hk).lt
end VXS
/-! ===== END ===== -/
/-! ===== BEGIN methods with a table of their own: called by a name, returning or throwing ===== -/
section VXH
/-! vx_backW, vx_callVX, vx_callSX, vx_callVW, vx_runVW, vx_runVX, vx_runSX, vx_ofWH follow the same proofs as their sisters above (Free/Laws.lean, Shelf42/LK1.lean); vx_outP calls Shelf42/NT130.lean (outThrough). -/
section
variable {l : Launch} {R : Room} {p : Program} {e : Env} {below : List Frame} {s : State} {sargs : Array Value} {y : MethodName} {len W9 : Nat}
theorem vx_backW {ws : List Cond} {rm : Room} {Pc : Array Value → State → Prop} {Qc : Array Value → State → Outcome → State → Prop} {XC : String → State → State → Prop} {mc ms : Nat} {free : Addr → Prop} {bytes : ByteArray} {maxL : Nat} {ret : Option FieldType} {hh : List (Nat × Nat × Nat × Nat)}
    (hM : vx_Met l y ws rm Pc Qc XC mc ms free) (hblind : FrameBlind Pc) (hrc : rm.cells = mc) (hrs : rm.slots = ms)
    (hframes : rm.frames + 1 ≤ R.frames) (hlocals : W9 + (maxL + 11) + rm.locals ≤ R.locals)
    (hws : ∀ w ∈ ws, ∀ a' U, s.WarmedH U.vm → w.before a' U = true) (hcode : Cond.codeWith y bytes maxL ret hh ∈ ws) (hinit : ∀ a' U, s.WarmedH U.vm → (Cond.initialized y.cls).before a' U = true) :
    vx_Back l R p e below s sargs y len W9 (PreOf R mc ms Pc) (PostOf Qc mc ms free) (vx_Post XC mc ms free) := by
  intro m meth c A g ig mk a X hg hsize hdg hW hn hp
  have h1 : (headSpec ws rm).pre.before a A.U = true := atoms_intro fun w hw => hws w hw _ _ X.warmed
  have h2 : (Cond.codeWith y bytes maxL ret hh).before a A.U = true := hws _ hcode _ _ X.warmed
  have h3 : (Cond.initialized y.cls).before a A.U = true := hinit _ _ X.warmed
  have h4 : A.cells + (headSpec ws rm).room.cells ≤ R.cells := by rw [show (headSpec ws rm).room.cells = mc from hrc]; exact hp.1
  have h5 : A.slots + (headSpec ws rm).room.slots ≤ R.slots := by rw [show (headSpec ws rm).room.slots = ms from hrs]; exact hp.2.1
  have hPc : Pc a (A.U.calling g mk a) := hblind _ _ _ _ hp.2.2
  obtain ⟨U, Ls, c0, s0⟩ := A
  dsimp only [Pt.U, Pt.locs, Pt.cells, Pt.slots] at h1 h2 h3 h4 h5 X hn hPc ⊢
  obtain ⟨m9, methY, cY, hn9, hmY, hcY, -, hlY, -⟩ := Cond.codeWith_spec h2
  cases Option.some.inj (hn9.symm.trans hn)
  obtain ⟨kY, hkY, -⟩ := className_of_methodNamed hn
  have hinitY : kY.init = .initialized := Cond.initialized_spec (findClass_of_methodNamed hn) hkY h3
  have h : At U g.method c below := by rw [hg]; exact X.here
  have hlocals9 : W9 + (maxL + 11) + (headSpec ws rm).room.locals ≤ R.locals := hlocals
  have happ : (headSpec ws rm).appliesLoose y e.platform (U.calling g mk a) = true :=
    Spec.appliesLoose_calling (g := g) h hdg hn hkY hinitY
      (X.room_calling (g := g) (R' := (headSpec ws rm).room) hsize hmY hcY hframes (by rw [hlY]; omega) h4 h5) h1
  obtain ⟨mid, hmid⟩ := h.above
  have hfr : (U.setTop g).frames = (.java g :: mid) ++ below := by rw [State.frames_setTop' g h.top, hmid]; rfl
  obtain ⟨o, s₂, hsteps, -, hend, hq⟩ := Steps.callFree hM p X.admits X.cas X.clock (acts := []) hfr happ hPc trivial
  have hq' : vx_Q Qc XC mc ms free a (U.calling g mk a) o s₂ := hq
  rw [State.frames_setTop' g h.top] at hend
  obtain ⟨g₀, hg0⟩ := Option.isSome_iff_exists.mp h.top
  obtain ⟨r, hr⟩ := State.topJava?_eq_some.mp hg0
  have hr' : (({ U with heap := s₂.heap, slotsUsed := s₂.slotsUsed } : State).setVm s₂.vm).frames = .java g₀ :: r := hr
  rcases hq' with ⟨hqc, L, hfe, hL⟩ | ⟨q, rfl, E, ce, L, hx, hce, hcv, hcl, hW₂, hsm, hL⟩
  · obtain ⟨⟨v, rfl⟩, hW₂, e2, q2, q3, q4, q5, q6⟩ := id hfe
    have e3 : s₂ = ({ (U.calling g mk a).setFrames s₂.frames with heap := s₂.heap, slotsUsed := s₂.slotsUsed } : State).setVm s₂.vm := by
      have : s₂ = ({ s₂ with vm := (U.calling g mk a).vm } : State).setVm s₂.vm := rfl
      rw [e2] at this
      exact this
    obtain ⟨c₂, i₂, len₂, hc₂, hd₂, hf₂⟩ := hend
    have hW' : U.WarmedH s₂.vm := hW₂
    have hcc : c₂ = c := by
      have h1 : s₂.code? g.method = U.code? g.method := by
        rw [State.code?_eq, State.code?_eq, hW'.alike.method?]
      exact Option.some.inj (hc₂.symm.trans (h1.trans h.code))
    subst hcc
    have hlen : len₂ = len := by rw [hdg] at hd₂; cases hd₂; rfl
    subst hlen
    have hs₂ : s₂ = (({ U with heap := s₂.heap, slotsUsed := s₂.slotsUsed } : State).setVm s₂.vm).setTop { g with pc := g.pc + len₂, stack := v.toList ++ g.stack } := by
      refine e3.trans ?_
      rw [hf₂, State.calling_eq h.top, State.setFrames_setFrames, State.setTop_of_frames _ hr', hr]
      rfl
    have hsame : U.sameButNew ({ U with heap := s₂.heap, slotsUsed := s₂.slotsUsed } : State) L mc ms := by
      refine ⟨?_, q2, q3, q4, q5, q6⟩
      obtain ⟨t, ht, -⟩ := State.frames_cons hr
      show ({ U with heap := s₂.heap, slotsUsed := s₂.slotsUsed } : State) = { U.setFrames U.frames with heap := s₂.heap, slotsUsed := s₂.slotsUsed }
      rw [State.setFrames_self ht]
    subst hg
    refine Or.inl ⟨v, ⟨(({ U with heap := s₂.heap, slotsUsed := s₂.slotsUsed } : State).setVm s₂.vm), Ls ++ L, c0 + mc, s0 + ms⟩,
      ⟨X.admits, X.cas, X.clock, X.frames, X.room, X.hears, X.method, X.code, (X.here.setHeapUsed s₂.heap s₂.slotsUsed).setVm hW'.alike, X.tail, State.WarmedH.trans X.warmed hW', X.limits, X.bytes, X.same.trans (hsame.setVm s.vm)⟩,
      ⟨g, mk, s₂, L, rfl, rfl, hqc, rfl, hL, rfl, rfl⟩, ?_⟩
    show Steps p.tables e below _ ((({ U with heap := s₂.heap, slotsUsed := s₂.slotsUsed } : State).setVm s₂.vm).setTop { g with pc := g.pc + len₂, stack := v.toList ++ g.stack })
    rw [← hs₂]
    exact hsteps
  · obtain ⟨e2, q2, q3, q4, q5, q6⟩ := id hsm
    have e3 : s₂ = ({ (U.calling g mk a).setFrames s₂.frames with heap := s₂.heap, slotsUsed := s₂.slotsUsed } : State).setVm s₂.vm := by
      have : s₂ = ({ s₂ with vm := (U.calling g mk a).vm } : State).setVm s₂.vm := rfl
      rw [e2] at this
      exact this
    have hf₂ : s₂.frames = .throwing q :: .java g :: U.frames.tail := hend
    have hW' : U.WarmedH s₂.vm := hW₂
    have hs₂ : s₂ = ((({ U with heap := s₂.heap, slotsUsed := s₂.slotsUsed } : State).setVm s₂.vm).setTop g).pushFrame (.throwing q) := by
      refine e3.trans ?_
      rw [hf₂, State.calling_eq h.top, State.setFrames_setFrames, State.pushFrame, State.frames_setTop _ hr', State.setTop_of_frames _ hr', State.setFrames_setFrames, hr]
      rfl
    have hsame : U.sameButNew ({ U with heap := s₂.heap, slotsUsed := s₂.slotsUsed } : State) L mc ms := by
      refine ⟨?_, q2, q3, q4, q5, q6⟩
      obtain ⟨t, ht, -⟩ := State.frames_cons hr
      show ({ U with heap := s₂.heap, slotsUsed := s₂.slotsUsed } : State) = { U.setFrames U.frames with heap := s₂.heap, slotsUsed := s₂.slotsUsed }
      rw [State.setFrames_self ht]
    subst hg
    refine Or.inr ⟨q, ⟨(({ U with heap := s₂.heap, slotsUsed := s₂.slotsUsed } : State).setVm s₂.vm), Ls ++ L, c0 + mc, s0 + ms⟩,
      ⟨X.admits, X.cas, X.clock, X.frames, X.room, X.hears, X.method, X.code, (X.here.setHeapUsed s₂.heap s₂.slotsUsed).setVm hW'.alike, X.tail, State.WarmedH.trans X.warmed hW', X.limits, X.bytes, X.same.trans (hsame.setVm s.vm)⟩,
      ⟨g, mk, s₂, L, E, ce, rfl, rfl, hx, hce, hcv, hcl, rfl, hL, rfl, rfl⟩, ?_⟩
    show Steps p.tables e below _ (((({ U with heap := s₂.heap, slotsUsed := s₂.slotsUsed } : State).setVm s₂.vm).setTop g).pushFrame (.throwing q))
    rw [← hs₂]
    exact hsteps
end
variable {p : Program} {l : Launch} {e : Env} {R : Room} {s : State} {m : MethodId} {args : Array Value} {below : List Frame} {meth : Method} {c : Code} {T : State} {H : Heap} {locs : List Loc} {cells slots : Nat}
theorem vx_callVX (X : Stand p l e R s m args below meth c T locs cells slots) (hexec : p.tables.exec = Jvm.exec) {own C : String} {index : Nat} {y : MethodName} {bytes : ByteArray} {maxL : Nat} {ret : Option FieldType} {hh : List (Nat × Nat × Nat × Nat)}
    (hown : s.vm.findClass own = some m.cls) (hlink : (Cond.methodLink own index y).before args s = true) (hinst : (Cond.instanceMethod y).before args s = true) (hsel : (Cond.selects C y y).before args s = true)
    (hcode : (Cond.codeWith y bytes maxL ret hh).before args s = true) (hy : y.cls ≠ "java/lang/invoke/MethodHandle" ∧ y.cls ≠ "java/lang/invoke/VarHandle")
    {W9 : Nat} {Pre : Pt → Array Value → Prop} {Post : Pt → Array Value → Option Value → Pt → Prop} {PostX : Pt → Array Value → Addr → Pt → Prop} (hK : vx_Back l R p e below s args y 3 W9 Pre Post PostX)
    {b : Addr} {cellB : Cell} (hcell : T.heap[b]? = some cellB) (hobj : cellB.vm.isStatics = false) (hcls : s.vm.findClass C = some cellB.cls)
    {g : JFrame} (hg : g.method = m) (hsize : g.locals.size = c.maxLocals) {argsL rest : List Value} (hlen : ∀ sig, parseMethodDescriptor y.desc = some sig → argsL.length = sig.parameters.length)
    (hstack : g.stack = argsL.reverse ++ .ref b :: rest) (hW : 2 * g.monitorRoom + (rest.map fun v => v.category).sum ≤ W9) (hdg : decode c.code g.pc = .ok (.invokevirtual index, 3))
    (hpre : ∀ vm₁, s.WarmedH vm₁ → Pre ⟨T.setVm vm₁, locs, cells, slots⟩ (Value.ref b :: argsL).toArray) :
    (∃ (v : Option Value) (vm₁ : Vm) (B : Pt), s.WarmedH vm₁ ∧ Stand p l e R s m args below meth c B.U B.locs B.cells B.slots ∧ Post ⟨T.setVm vm₁, locs, cells, slots⟩ (Value.ref b :: argsL).toArray v B ∧
      ∀ target, Steps p.tables e below (B.U.setTop { g with pc := g.pc + 3, stack := v.toList ++ rest }) target → Steps p.tables e below (T.setTop g) target) ∨
    (∃ (q : Addr) (vm₁ : Vm) (B : Pt), s.WarmedH vm₁ ∧ Stand p l e R s m args below meth c B.U B.locs B.cells B.slots ∧ PostX ⟨T.setVm vm₁, locs, cells, slots⟩ (Value.ref b :: argsL).toArray q B ∧
      Steps p.tables e below (T.setTop g) ((B.U.setTop { g with stack := rest }).pushFrame (.throwing q))) := by
  obtain ⟨mk, methM, hnamed, hmethM, hstM, habM⟩ := Cond.instanceMethod_spec hinst
  obtain ⟨m8, methM', cM, hn8, hmethM', -, -, -, -, -, -, hsigM⟩ := Cond.codeWith_spec hcode
  cases Option.some.inj (hn8.symm.trans hnamed)
  cases hmethM.symm.trans hmethM'
  obtain ⟨c2, r2, m2, q1, q2, q3, q4, kP, hkP, hkPi⟩ := Cond.selects_spec hsel
  cases hcls.symm.trans q1
  cases (State.methodFound?_of_named hnamed hy).symm.trans q2
  cases hnamed.symm.trans q3
  have hselP : selectMethod e.platform s.vm cellB.cls mk = .method mk := by rw [Launch.admits_selectMethod X.admits]; exact q4
  obtain ⟨vm₁, X₁, hstep₁⟩ := X.invokevirtual hexec hown hlink hnamed hmethM hstM hkP hkPi hy (a := b) (cell := cellB) hcell
    (fun z h => by rw [h] at hobj; cases hobj) hselP hmethM habM hkP hkPi (g := g) hg (argsL := argsL) (rest := rest) (hlen _ hsigM) hstack hdg
  rcases hK m meth c ⟨T.setVm vm₁, locs, cells, slots⟩ { g with stack := rest } (.invokevirtual index) mk (Value.ref b :: argsL).toArray X₁ hg hsize hdg hW (X₁.named hnamed) (hpre vm₁ X₁.warmed) with ⟨v, B, X', hpost, hsteps⟩ | ⟨q, B, X', hpost, hsteps⟩
  · exact Or.inl ⟨v, vm₁, B, X₁.warmed, X', hpost, fun target h => hstep₁ _ fun acts => by rw [doInvoke_state]; exact hsteps.trans h⟩
  · exact Or.inr ⟨q, vm₁, B, X₁.warmed, X', hpost, hstep₁ _ fun acts => by rw [doInvoke_state]; exact hsteps⟩
theorem vx_callSX (X : Stand p l e R s m args below meth c T locs cells slots) (hexec : p.tables.exec = Jvm.exec) {own : String} {index : Nat} {y : MethodName} {bytes : ByteArray} {maxL : Nat} {ret : Option FieldType} {hh : List (Nat × Nat × Nat × Nat)}
    (hown : s.vm.findClass own = some m.cls) (hlink : (Cond.methodLink own index y).before args s = true) (hstat : (Cond.static y).before args s = true) (hinit : (Cond.initialized y.cls).before args s = true)
    (hcode : (Cond.codeWith y bytes maxL ret hh).before args s = true) (hy : y.cls ≠ "java/lang/invoke/MethodHandle" ∧ y.cls ≠ "java/lang/invoke/VarHandle")
    {W9 : Nat} {Pre : Pt → Array Value → Prop} {Post : Pt → Array Value → Option Value → Pt → Prop} {PostX : Pt → Array Value → Addr → Pt → Prop} (hK : vx_Back l R p e below s args y 3 W9 Pre Post PostX)
    {g : JFrame} (hg : g.method = m) (hsize : g.locals.size = c.maxLocals) {argsL rest : List Value} (hlen : ∀ sig, parseMethodDescriptor y.desc = some sig → argsL.length = sig.parameters.length)
    (hstack : g.stack = argsL.reverse ++ rest) (hW : 2 * g.monitorRoom + (rest.map fun v => v.category).sum ≤ W9) (hdg : decode c.code g.pc = .ok (.invokestatic index, 3))
    (hpre : ∀ vm₁, s.WarmedH vm₁ → Pre ⟨T.setVm vm₁, locs, cells, slots⟩ argsL.toArray) :
    (∃ (v : Option Value) (vm₁ : Vm) (B : Pt), s.WarmedH vm₁ ∧ Stand p l e R s m args below meth c B.U B.locs B.cells B.slots ∧ Post ⟨T.setVm vm₁, locs, cells, slots⟩ argsL.toArray v B ∧
      ∀ target, Steps p.tables e below (B.U.setTop { g with pc := g.pc + 3, stack := v.toList ++ rest }) target → Steps p.tables e below (T.setTop g) target) ∨
    (∃ (q : Addr) (vm₁ : Vm) (B : Pt), s.WarmedH vm₁ ∧ Stand p l e R s m args below meth c B.U B.locs B.cells B.slots ∧ PostX ⟨T.setVm vm₁, locs, cells, slots⟩ argsL.toArray q B ∧
      Steps p.tables e below (T.setTop g) ((B.U.setTop { g with stack := rest }).pushFrame (.throwing q))) := by
  obtain ⟨mk, methM, cM, hnamed, hmethM, -, -, -, -, -, -, hsigM⟩ := Cond.codeWith_spec hcode
  have hstatic : methM.isStatic = true := Cond.static_spec hnamed hmethM hstat
  obtain ⟨kP, hkP, -⟩ := className_of_methodNamed hnamed
  have hinitP : kP.init = .initialized := Cond.initialized_spec (findClass_of_methodNamed hnamed) hkP hinit
  obtain ⟨vm₁, X₁, hstep₁⟩ := X.invokestatic hexec hown hlink hnamed hmethM hstatic hkP hinitP hy (g := g) hg (argsL := argsL) (rest := rest) (hlen _ hsigM) hstack hdg
  rcases hK m meth c ⟨T.setVm vm₁, locs, cells, slots⟩ { g with stack := rest } (.invokestatic index) mk argsL.toArray X₁ hg hsize hdg hW (X₁.named hnamed) (hpre vm₁ X₁.warmed) with ⟨v, B, X', hpost, hsteps⟩ | ⟨q, B, X', hpost, hsteps⟩
  · exact Or.inl ⟨v, vm₁, B, X₁.warmed, X', hpost, fun target h => hstep₁ _ fun acts => by rw [doInvoke_state]; exact hsteps.trans h⟩
  · exact Or.inr ⟨q, vm₁, B, X₁.warmed, X', hpost, hstep₁ _ fun acts => by rw [doInvoke_state]; exact hsteps⟩
theorem vx_callVW (X : Stand p l e R s m args below meth c T locs cells slots) (hexec : p.tables.exec = Jvm.exec) {own C : String} {index : Nat} {y : MethodName} {bytes : ByteArray} {maxL : Nat} {ret : Option FieldType} {hh : List (Nat × Nat × Nat × Nat)}
    (hown : s.vm.findClass own = some m.cls) (hlink : (Cond.methodLink own index y).before args s = true) (hinst : (Cond.instanceMethod y).before args s = true) (hsel : (Cond.selects C y y).before args s = true)
    (hcode : (Cond.codeWith y bytes maxL ret hh).before args s = true) (hy : y.cls ≠ "java/lang/invoke/MethodHandle" ∧ y.cls ≠ "java/lang/invoke/VarHandle")
    {W9 : Nat} {Pre : Pt → Array Value → Prop} {Post : Pt → Array Value → Option Value → Pt → Prop} (hK : Back l R p e below s args y 3 W9 Pre Post)
    {b : Addr} {cellB : Cell} (hcell : T.heap[b]? = some cellB) (hobj : cellB.vm.isStatics = false) (hcls : s.vm.findClass C = some cellB.cls)
    {g : JFrame} (hg : g.method = m) (hsize : g.locals.size = c.maxLocals) {argsL rest : List Value} (hlen : ∀ sig, parseMethodDescriptor y.desc = some sig → argsL.length = sig.parameters.length)
    (hstack : g.stack = argsL.reverse ++ .ref b :: rest) (hW : 2 * g.monitorRoom + (rest.map fun v => v.category).sum ≤ W9) (hdg : decode c.code g.pc = .ok (.invokevirtual index, 3))
    (hpre : ∀ vm₁, s.WarmedH vm₁ → Pre ⟨T.setVm vm₁, locs, cells, slots⟩ (Value.ref b :: argsL).toArray) :
    ∃ (v : Option Value) (vm₁ : Vm) (B : Pt), s.WarmedH vm₁ ∧ Stand p l e R s m args below meth c B.U B.locs B.cells B.slots ∧ Post ⟨T.setVm vm₁, locs, cells, slots⟩ (Value.ref b :: argsL).toArray v B ∧
      ∀ target, Steps p.tables e below (B.U.setTop { g with pc := g.pc + 3, stack := v.toList ++ rest }) target → Steps p.tables e below (T.setTop g) target := by
  obtain ⟨mk, methM, hnamed, hmethM, hstM, habM⟩ := Cond.instanceMethod_spec hinst
  obtain ⟨m8, methM', cM, hn8, hmethM', -, -, -, -, -, -, hsigM⟩ := Cond.codeWith_spec hcode
  cases Option.some.inj (hn8.symm.trans hnamed)
  cases hmethM.symm.trans hmethM'
  obtain ⟨c2, r2, m2, q1, q2, q3, q4, kP, hkP, hkPi⟩ := Cond.selects_spec hsel
  cases hcls.symm.trans q1
  cases (State.methodFound?_of_named hnamed hy).symm.trans q2
  cases hnamed.symm.trans q3
  have hselP : selectMethod e.platform s.vm cellB.cls mk = .method mk := by rw [Launch.admits_selectMethod X.admits]; exact q4
  obtain ⟨vm₁, X₁, hstep₁⟩ := X.invokevirtual hexec hown hlink hnamed hmethM hstM hkP hkPi hy (a := b) (cell := cellB) hcell
    (fun z h => by rw [h] at hobj; cases hobj) hselP hmethM habM hkP hkPi (g := g) hg (argsL := argsL) (rest := rest) (hlen _ hsigM) hstack hdg
  obtain ⟨v, B, X', hpost, hsteps⟩ := hK m meth c ⟨T.setVm vm₁, locs, cells, slots⟩ { g with stack := rest } (.invokevirtual index) mk (Value.ref b :: argsL).toArray X₁ hg hsize hdg hW (X₁.named hnamed) (hpre vm₁ X₁.warmed)
  exact ⟨v, vm₁, B, X₁.warmed, X', hpost, fun target h => hstep₁ _ fun acts => by rw [doInvoke_state]; exact hsteps.trans h⟩
abbrev vx_CVW (R : Room) (s : State) (args : Array Value) (own C : String) (index : Nat) (y : MethodName) (bytes : ByteArray) (maxL : Nat) (ret : Option FieldType) (hh : List (Nat × Nat × Nat × Nat)) (ws : List Cond) (rm : Room) (mc ms n : Nat) : Prop :=
  (rm.cells = mc ∧ rm.slots = ms ∧ rm.frames + 1 ≤ R.frames ∧ 8 + (maxL + 11) + rm.locals ≤ R.locals ∧ (∀ w ∈ ws, ∀ (a' : Array Value) (U : State), s.WarmedH U.vm → w.before a' U = true) ∧ Cond.codeWith y bytes maxL ret hh ∈ ws) ∧
  (Cond.codeWith y bytes maxL ret hh).before args s = true ∧ (Cond.initialized y.cls).before args s = true ∧ (y.cls ≠ "java/lang/invoke/MethodHandle" ∧ y.cls ≠ "java/lang/invoke/VarHandle") ∧
  (∀ sig, parseMethodDescriptor y.desc = some sig → n = sig.parameters.length) ∧ (Cond.methodLink own index y).before args s = true ∧ (Cond.instanceMethod y).before args s = true ∧ (Cond.selects C y y).before args s = true
theorem vx_cwVW {own C : String} {index maxL mc ms : Nat} {y : MethodName} {bytes : ByteArray} {ret : Option FieldType} {hh : List (Nat × Nat × Nat × Nat)} {Ts ws ws' : List Cond} {rm : Room} (n : Nat) (ht : ∀ w ∈ Ts, w.before args s = true) (hT : GoodIn Ts (wsV own index C y ws)) (hw : ws = Cond.codeWith y bytes maxL ret hh :: ws') (hrc : rm.cells = mc) (hrs : rm.slots = ms)
    (hd : y.cls = C ∧ y.cls ≠ "java/lang/invoke/MethodHandle" ∧ y.cls ≠ "java/lang/invoke/VarHandle" ∧ (parseMethodDescriptor y.desc).map (fun d => d.parameters.length) = some n) (hR : rm.frames + 1 ≤ R.frames ∧ 8 + (maxL + 11) + rm.locals ≤ R.locals) :
    vx_CVW R s args own C index y bytes maxL ret hh ws rm mc ms n := by
  obtain ⟨hC, hd⟩ := hd
  subst hC
  have ok : ∀ w ∈ wsV own index y.cls y ws, w.before args s = true := fun w h => ht w (hT w h).1
  have hG : GoodIn Ts ws := fun w h => hT w (by unfold wsV; exact List.mem_append_right _ h)
  have hc : Cond.codeWith y bytes maxL ret hh ∈ ws := by rw [hw]; exact List.mem_cons_self
  refine ⟨⟨hrc, hrs, hR.1, hR.2, pay_in ht hG, hc⟩, ht _ (hG _ hc).1, ok _ (by simp [wsV]), ⟨hd.1, hd.2.1⟩, fun sig h => ?_, ok _ (by simp [wsV]), ok _ (by simp [wsV]), ok _ (by simp [wsV])⟩
  have h2 := hd.2.2
  rw [h] at h2
  exact (Option.some.inj h2).symm
theorem vx_runVW {y : MethodName} {bytes cc : ByteArray} {maxL nL mc ms n index : Nat} {ret : Option FieldType} {hh : List (Nat × Nat × Nat × Nat)} {ws : List Cond} {rm : Room} {Pc : Array Value → State → Prop} {Qc : Array Value → State → Outcome → State → Prop} {free : Addr → Prop} {Ts : List Cond} {own C : String} {b : Addr} {As rest : List Value} {g : JFrame}
    (S : CallFix p m c cc nL s args Ts own) (hM : Met l y ws rm Pc Qc mc ms free) (cw : vx_CVW R s args own C index y bytes maxL ret hh ws rm mc ms n) (hp : PreV s H C b Pc As)
    (hg : g.method = m) (hn : As.length = n) (hsize : g.locals.size = nL) (hstack : g.stack = As.reverse ++ .ref b :: rest) (hW : 2 * g.monitorRoom + (rest.map fun v => v.category).sum ≤ 8) (hdg : decode cc g.pc = .ok (.invokevirtual index, 3)) (hf : cells + mc ≤ R.cells ∧ slots + ms ≤ R.slots) :
    va_Run p l e R s m args below meth c H locs cells slots mc ms g rest (Qc (Value.ref b :: As).toArray) free := by
  obtain ⟨⟨hrc, hrs, hfr, hlo, hws, hcw⟩, hcode, hini, hy, hlen, hl, hin, hse⟩ := cw
  have hK : Back l R p e below s args y 3 8 (PreOf R mc ms Pc) (PostOf Qc mc ms free) := va_backW (hh := hh) (bytes := bytes) (maxL := maxL) (ret := ret) hM hp.1 hrc hrs hfr hlo hws hcw (fun a' U hW => word_at hW (Or.inl (by first | rfl | simp [Cond.onTables, Cond.keeps, Cond.steady])) hini)
  obtain ⟨hx, hb, hml, ho, -⟩ := S
  obtain ⟨-, ⟨cellB, hcB, hoB, hclB⟩, hPc⟩ := hp
  intro T hT X
  obtain ⟨v, vm₁, ⟨U', l2, c2, s2⟩, hW₁, X', ⟨g', mk, t, L, e1, e2, hq, h1, hL, h2, h3⟩, st⟩ := vx_callVW X hx (C := C) (hh := hh) (bytes := bytes) (maxL := maxL) (ret := ret) ho hl hin hse hcode hy hK (by rw [hT]; exact hcB) hoB hclB hg (hsize.trans hml.symm) (argsL := As) (rest := rest) (fun sig h => hn.trans (hlen sig h)) hstack hW (by rw [hb]; exact hdg)
    (fun vm₁ hW₁ => ⟨hf.1, hf.2, hPc (T.setVm vm₁) hT hW₁⟩)
  dsimp only [Pt.U, Pt.locs, Pt.cells, Pt.slots] at X' e1 e2 h1 h2 h3 st
  subst h1; subst h2; subst h3
  exact ⟨v, (T.setVm vm₁).calling g' mk (Value.ref b :: As).toArray, t, U', L, hT, X', hL, e1, e2, hq, st⟩
section
variable {y : MethodName} {bytes cc : ByteArray} {maxL nL mc ms n index : Nat} {ret : Option FieldType} {ws : List Cond} {rm : Room} {Pc : Array Value → State → Prop} {Qc : Array Value → State → Outcome → State → Prop} {XC : String → State → State → Prop} {free : Addr → Prop} {Ts : List Cond} {own C : String} {b : Addr} {As rest : List Value} {g : JFrame}
theorem vx_runVX {hh : List (Nat × Nat × Nat × Nat)} (S : CallFix p m c cc nL s args Ts own) (hM : vx_Met l y ws rm Pc Qc XC mc ms free) (cw : vx_CVW R s args own C index y bytes maxL ret hh ws rm mc ms n) (hp : PreV s H C b Pc As)
    (hg : g.method = m) (hn : As.length = n) (hsize : g.locals.size = nL) (hstack : g.stack = As.reverse ++ .ref b :: rest) (hW : 2 * g.monitorRoom + (rest.map fun v => v.category).sum ≤ 8) (hdg : decode cc g.pc = .ok (.invokevirtual index, 3)) (hf : cells + mc ≤ R.cells ∧ slots + ms ≤ R.slots) :
    vx_Run p l e R s m args below meth c H locs cells slots mc ms g rest (Qc (Value.ref b :: As).toArray) XC free := by
  obtain ⟨⟨hrc, hrs, hfr, hlo, hws, hcw⟩, hcode, hini, hy, hlen, hl, hin, hse⟩ := cw
  have hK : vx_Back l R p e below s args y 3 8 (PreOf R mc ms Pc) (PostOf Qc mc ms free) (vx_Post XC mc ms free) := vx_backW (hh := hh) (bytes := bytes) (maxL := maxL) (ret := ret) hM hp.1 hrc hrs hfr hlo hws hcw (fun a' U hW => word_at hW (Or.inl (by first | rfl | simp [Cond.onTables, Cond.keeps, Cond.steady])) hini)
  obtain ⟨hx, hb, hml, ho, -⟩ := S
  obtain ⟨-, ⟨cellB, hcB, hoB, hclB⟩, hPc⟩ := hp
  intro T hT X
  rcases vx_callVX X hx (C := C) (hh := hh) (bytes := bytes) (maxL := maxL) (ret := ret) ho hl hin hse hcode hy hK (by rw [hT]; exact hcB) hoB hclB hg (hsize.trans hml.symm) (argsL := As) (rest := rest) (fun sig h => hn.trans (hlen sig h)) hstack hW (by rw [hb]; exact hdg)
    (fun vm₁ hW₁ => ⟨hf.1, hf.2, hPc (T.setVm vm₁) hT hW₁⟩) with ⟨v, vm₁, ⟨U', l2, c2, s2⟩, hW₁, X', ⟨g', mk, t, L, e1, e2, hq, h1, hL, h2, h3⟩, st⟩ | ⟨q, vm₁, ⟨U', l2, c2, s2⟩, hW₁, X', ⟨g', mk, t, L, E, ce, e1, e2, hq, hce, hcv, hcl, h1, hL, h2, h3⟩, st⟩
  · dsimp only [Pt.U, Pt.locs, Pt.cells, Pt.slots] at X' e1 e2 h1 h2 h3 st
    subst h1; subst h2; subst h3
    exact Or.inl ⟨v, (T.setVm vm₁).calling g' mk (Value.ref b :: As).toArray, t, U', L, hT, X', hL, e1, e2, hq, st⟩
  · dsimp only [Pt.U, Pt.locs, Pt.cells, Pt.slots] at X' e1 e2 h1 h2 h3 st hcl
    subst h1; subst h2; subst h3
    exact Or.inr ⟨q, (T.setVm vm₁).calling g' mk (Value.ref b :: As).toArray, t, U', L, E, ce, hT, X', hL, e1, e2, hq, hce, hcv, vx_cls hW₁ hcl, st⟩
theorem vx_runSX {hh : List (Nat × Nat × Nat × Nat)} (S : CallFix p m c cc nL s args Ts own) (hM : vx_Met l y ws rm Pc Qc XC mc ms free) (cw : vx_CSW R s args own index y bytes maxL ret hh ws rm mc ms n) (hp : PreS s H Pc As)
    (hg : g.method = m) (hn : As.length = n) (hsize : g.locals.size = nL) (hstack : g.stack = As.reverse ++ rest) (hW : 2 * g.monitorRoom + (rest.map fun v => v.category).sum ≤ 8) (hdg : decode cc g.pc = .ok (.invokestatic index, 3)) (hf : cells + mc ≤ R.cells ∧ slots + ms ≤ R.slots) :
    vx_Run p l e R s m args below meth c H locs cells slots mc ms g rest (Qc As.toArray) XC free := by
  obtain ⟨⟨hrc, hrs, hfr, hlo, hws, hcw⟩, hcode, hini, hy, hlen, hl, hstt⟩ := cw
  have hK : vx_Back l R p e below s args y 3 8 (PreOf R mc ms Pc) (PostOf Qc mc ms free) (vx_Post XC mc ms free) := vx_backW (hh := hh) (bytes := bytes) (maxL := maxL) (ret := ret) hM hp.1 hrc hrs hfr hlo hws hcw (fun a' U hW => word_at hW (Or.inl (by first | rfl | simp [Cond.onTables, Cond.keeps, Cond.steady])) hini)
  obtain ⟨hx, hb, hml, ho, -⟩ := S
  intro T hT X
  rcases vx_callSX X hx (hh := hh) (bytes := bytes) (maxL := maxL) (ret := ret) ho hl hstt hini hcode hy hK hg (hsize.trans hml.symm) (argsL := As) (rest := rest) (fun sig h => hn.trans (hlen sig h)) hstack hW (by rw [hb]; exact hdg)
    (fun vm₁ hW₁ => ⟨hf.1, hf.2, hp.2 (T.setVm vm₁) hT hW₁⟩) with ⟨v, vm₁, ⟨U', l2, c2, s2⟩, hW₁, X', ⟨g', mk, t, L, e1, e2, hq, h1, hL, h2, h3⟩, st⟩ | ⟨q, vm₁, ⟨U', l2, c2, s2⟩, hW₁, X', ⟨g', mk, t, L, E, ce, e1, e2, hq, hce, hcv, hcl, h1, hL, h2, h3⟩, st⟩
  · dsimp only [Pt.U, Pt.locs, Pt.cells, Pt.slots] at X' e1 e2 h1 h2 h3 st
    subst h1; subst h2; subst h3
    exact Or.inl ⟨v, (T.setVm vm₁).calling g' mk As.toArray, t, U', L, hT, X', hL, e1, e2, hq, st⟩
  · dsimp only [Pt.U, Pt.locs, Pt.cells, Pt.slots] at X' e1 e2 h1 h2 h3 st hcl
    subst h1; subst h2; subst h3
    exact Or.inr ⟨q, (T.setVm vm₁).calling g' mk As.toArray, t, U', L, E, ce, hT, X', hL, e1, e2, hq, hce, hcv, vx_cls hW₁ hcl, st⟩
end
end VXH
theorem vx_ofWH {l : Launch} {y : MethodName} {ws ws' : List Cond} {rm : Room} {Pc : Array Value → State → Prop} {Qc : Array Value → State → Outcome → State → Prop} {XC : String → State → State → Prop} {mc ms : Nat} {free : Addr → Prop} {cc : ByteArray} {maxL : Nat} {ret : Option FieldType} {hh : List (Nat × Nat × Nat × Nat)}
    (hy : plainName y.cls = true) (hw : ws = Cond.codeWith y cc maxL ret hh :: ws')
    (body : ∀ p e s m args below meth c s₁, BodyLoose p l y (headSpec ws rm) cc maxL ret e s m args below meth c s₁ → c.maxLocals = maxL → Pc args s →
      W p l e (headSpec ws rm).room s m args below meth c s.heap [] 0 0 (vx_MQ below Qc XC args s mc ms free) (entryFrame m args maxL)) : vx_Met l y ws rm Pc Qc XC mc ms free := by
  refine MetFree.of_bodyS (code := cc) (maxLocals := maxL) (ret := ret) hy ?_ ?_
  · intro args s m h hn
    obtain ⟨m9, meth, c, hn9, h1, h2, h3, h4, -, h5, h6, -⟩ := Cond.codeWith_spec (atoms_spec (ws := ws) h _ (by rw [hw]; exact List.mem_cons_self))
    cases hn.symm.trans hn9
    exact ⟨meth, c, h1, h2, h3, h4, h5, h6⟩
  · intro p e s m args below meth c s₁ B hml hP _
    have hh0 : s₁.heap = s.heap := by rw [B.state]; rfl
    obtain ⟨t, a1, o, b1, b2, b3⟩ := body p e s m args below meth c s₁ B hml hP s₁ hh0 (Stand.of_body B)
    exact ⟨t, o, a1, b1, b2, b3⟩
/-! ===== END ===== -/
end
section
/-! MY OWN ROWS: one list of words for every contract, a contract's form, a call in one row -/
/-- the words that every contract here stands on: the tables' good ones -/
def tw_W : List Cond := lw_tbl.filter goodWord
theorem tw_in {w : Cond} (h : w ∈ lw_tbl) (g : goodWord w = true) : w ∈ tw_W := List.mem_filter.mpr ⟨h, g⟩
theorem tw_all {ws : List Cond} (h : ws.all (fun w => lw_tbl.contains w && goodWord w) = true) : ∀ w ∈ ws, w ∈ tw_W := by
  intro w hw
  have h1 := List.all_eq_true.mp h w hw
  rw [Bool.and_eq_true] at h1
  exact tw_in (List.contains_iff_mem.mp h1.1) h1.2
theorem tw_g : GoodIn tw_W tw_W := fun w h => ⟨h, good_of_word (List.mem_filter.mp h).2⟩
theorem tw_c {d : Cond} (hd : d ∈ tw_W) : GoodIn tw_W (d :: tw_W) := fun w h => (List.mem_cons.mp h).elim (fun e => by rw [e]; exact tw_g d hd) (fun h => tw_g w h)
theorem tw_V {d : Cond} {own C : String} {idx : Nat} {y : MethodName} (hd : d ∈ tw_W) (h : ∀ w ∈ ([.methodLink own idx y, .instanceMethod y, .selects C y y, .initialized C] : List Cond), w ∈ tw_W) : GoodIn tw_W (wsV own idx C y (d :: tw_W)) := fun w hw => (List.mem_append.mp hw).elim (fun k => tw_g w (h w k)) (fun k => tw_c hd w k)
theorem tw_S {d : Cond} {own : String} {idx : Nat} {y : MethodName} (hd : d ∈ tw_W) (h : ∀ w ∈ ([.methodLink own idx y, .static y, .initialized y.cls] : List Cond), w ∈ tw_W) : GoodIn tw_W (va_wsS own idx y (d :: tw_W)) := fun w hw => (List.mem_append.mp hw).elim (fun k => tw_g w (h w k)) (fun k => tw_c hd w k)
/-- private members of nest mates that are used: owner, index, class, name, descriptor -/
def nwF : List (String × Nat × String × String × String) := [("PocketCompiler", 255, "PocketCompiler$Gifts", "size", "I"), ("PocketCompiler", 105, "PocketCompiler$Tokens", "faultKind", "I"), ("PocketCompiler", 110, "PocketCompiler$Tokens", "faultPlace", "I"), ("PocketCompiler$Expressions", 125, "PocketCompiler$Builder", "program", "LPocketCompiler$Program;"), ("PocketCompiler$Parser", 141, "PocketCompiler$Builder", "knownCount", "I"), ("PocketCompiler$Parser", 217, "PocketCompiler$Builder", "blockStart", "I"), ("PocketCompiler$Expressions", 85, "PocketCompiler$Builder", "putBy", "I"), ("PocketCompiler$Parser", 68, "PocketCompiler$Builder", "callCount", "I"), ("PocketCompiler", 101, "PocketCompiler$Parser", "tokens", "LPocketCompiler$Tokens;"), ("PocketCompiler", 180, "PocketCompiler$Processor", "pc", "I"), ("PocketCompiler", 166, "PocketCompiler$Processor", "status", "I"), ("PocketCompiler", 252, "PocketCompiler$Processor", "steps", "I"), ("PocketCompiler", 210, "PocketCompiler$Processor", "puts", "[I"), ("PocketCompiler", 202, "PocketCompiler$Processor", "putCount", "I"), ("PocketCompiler", 237, "PocketCompiler$Worker", "puts", "[I"), ("PocketCompiler", 232, "PocketCompiler$Worker", "hasWorked", "Z"), ("PocketCompiler", 236, "PocketCompiler$Worker", "putCount", "I")]
def nwM : List (String × Nat × MethodName) := [("PocketCompiler", 19, yX3_init), ("PocketCompiler", 26, yX8_init)]
/-- the string literals: their lengths and bytes, and where they are named -/
def lenS : List Nat := [88, 123, 19, 27, 3, 10, 12, 1, 26, 246, 3, 16, 2, 14, 29, 21, 16, 16, 17, 27, 16, 50, 41, 55, 102, 3, 3, 3, 3, 4, 4, 2, 2, 2, 3, 3, 4, 4, 4, 5, 4, 4, 3, 4, 3, 3, 3, 4, 3, 3, 2, 3, 3, 5, 3, 4, 2, 2, 2, 4, 3, 3, 5, 5, 6, 7]
def bytS : List (List Int32) := [[105, 110, 116, 32, 32, 32, 32, 32, 105, 102, 32, 32, 32, 32, 32, 32, 101, 108, 115, 101, 32, 32, 32, 32, 119, 104, 105, 108, 101, 32, 32, 32, 100, 111, 32, 32, 32, 32, 32, 32, 102, 111, 114, 32, 32, 32, 32, 32, 98, 114, 101, 97, 107, 32, 32, 32, 99, 111, 110, 116, 105, 110, 117, 101, 114, 101, 116, 117, 114, 110, 32, 32, 112, 117, 116, 32, 32, 32, 32, 32, 103, 101, 116, 32, 32, 32, 32, 32], [40, 32, 32, 41, 32, 32, 123, 32, 32, 125, 32, 32, 91, 32, 32, 93, 32, 32, 59, 32, 32, 44, 32, 32, 63, 32, 32, 58, 32, 32, 33, 32, 32, 126, 32, 32, 61, 32, 32, 43, 61, 32, 45, 61, 32, 42, 61, 32, 47, 61, 32, 37, 61, 32, 38, 61, 32, 124, 61, 32, 94, 61, 32, 60, 60, 61, 62, 62, 61, 43, 32, 32, 45, 32, 32, 42, 32, 32, 47, 32, 32, 37, 32, 32, 38, 32, 32, 124, 32, 32, 94, 32, 32, 60, 60, 32, 62, 62, 32, 61, 61, 32, 33, 61, 32, 60, 32, 32, 60, 61, 32, 62, 32, 32, 62, 61, 32, 38, 38, 32, 124, 124, 32], [97, 32, 102, 97, 117, 108, 116, 32, 105, 110, 32, 116, 104, 101, 32, 116, 101, 120, 116], [83, 116, 114, 105, 110, 103, 32, 105, 110, 100, 101, 120, 32, 111, 117, 116, 32, 111, 102, 32, 114, 97, 110, 103, 101, 58, 32], [32, 62, 32], [102, 114, 111, 109, 73, 110, 100, 101, 120, 40], [41, 32, 62, 32, 116, 111, 73, 110, 100, 101, 120, 40], [41], [65, 114, 114, 97, 121, 32, 105, 110, 100, 101, 120, 32, 111, 117, 116, 32, 111, 102, 32, 114, 97, 110, 103, 101, 58, 32], [108, 117, 105, 32, 32, 32, 97, 117, 105, 112, 99, 32, 106, 97, 108, 32, 32, 32, 106, 97, 108, 114, 32, 32, 98, 101, 113, 32, 32, 32, 98, 110, 101, 32, 32, 32, 98, 108, 116, 32, 32, 32, 98, 103, 101, 32, 32, 32, 98, 108, 116, 117, 32, 32, 98, 103, 101, 117, 32, 32, 108, 98, 32, 32, 32, 32, 108, 104, 32, 32, 32, 32, 108, 119, 32, 32, 32, 32, 108, 98, 117, 32, 32, 32, 108, 104, 117, 32, 32, 32, 115, 98, 32, 32, 32, 32, 115, 104, 32, 32, 32, 32, 115, 119, 32, 32, 32, 32, 97, 100, 100, 105, 32, 32, 115, 108, 116, 105, 32, 32, 115, 108, 116, 105, 117, 32, 120, 111, 114, 105, 32, 32, 111, 114, 105, 32, 32, 32, 97, 110, 100, 105, 32, 32, 115, 108, 108, 105, 32, 32, 115, 114, 108, 105, 32, 32, 115, 114, 97, 105, 32, 32, 97, 100, 100, 32, 32, 32, 115, 117, 98, 32, 32, 32, 115, 108, 108, 32, 32, 32, 115, 108, 116, 32, 32, 32, 115, 108, 116, 117, 32, 32, 120, 111, 114, 32, 32, 32, 115, 114, 108, 32, 32, 32, 115, 114, 97, 32, 32, 32, 111, 114, 32, 32, 32, 32, 97, 110, 100, 32, 32, 32, 102, 101, 110, 99, 101, 32, 101, 99, 97, 108, 108, 32, 101, 98, 114, 101, 97, 107, 119, 111, 114, 100, 32, 32], [32, 48, 120], [48, 49, 50, 51, 52, 53, 54, 55, 56, 57, 97, 98, 99, 100, 101, 102], [44, 32], [97, 32, 119, 111, 114, 100, 32, 98, 101, 108, 111, 119, 32, 48], [110, 101, 105, 116, 104, 101, 114, 32, 102, 117, 110, 99, 116, 105, 111, 110, 115, 32, 110, 111, 114, 32, 103, 108, 111, 98, 97, 108, 115], [110, 111, 116, 32, 48, 32, 116, 111, 32, 53, 48, 44, 48, 48, 48, 32, 115, 116, 101, 112, 115], [110, 111, 32, 115, 117, 99, 104, 32, 114, 101, 103, 105, 115, 116, 101, 114], [110, 111, 32, 109, 117, 108, 116, 105, 112, 108, 101, 32, 111, 102, 32, 52], [110, 111, 116, 32, 105, 110, 32, 116, 104, 101, 32, 109, 101, 109, 111, 114, 121], [110, 111, 32, 115, 117, 99, 104, 32, 110, 117, 109, 98, 101, 114, 44, 32, 111, 114, 32, 110, 111, 116, 32, 107, 101, 112, 116], [110, 111, 32, 115, 117, 99, 104, 32, 102, 117, 110, 99, 116, 105, 111, 110], [109, 111, 114, 101, 32, 116, 104, 97, 110, 32, 116, 119, 111, 32, 112, 97, 114, 97, 109, 101, 116, 101, 114, 115, 44, 32, 111, 114, 32, 110, 111, 116, 32, 48, 32, 116, 111, 32, 50, 48, 44, 48, 48, 48, 32, 116, 117, 114, 110, 115], [110, 111, 32, 119, 111, 114, 107, 44, 32, 110, 111, 32, 115, 117, 99, 104, 32, 103, 108, 111, 98, 97, 108, 32, 111, 114, 32, 110, 111, 32, 115, 117, 99, 104, 32, 110, 117, 109, 98, 101, 114], [105, 110, 116, 32, 105, 102, 32, 101, 108, 115, 101, 32, 119, 104, 105, 108, 101, 32, 100, 111, 32, 102, 111, 114, 32, 98, 114, 101, 97, 107, 32, 99, 111, 110, 116, 105, 110, 117, 101, 32, 114, 101, 116, 117, 114, 110, 32, 112, 117, 116, 32, 103, 101, 116, 32], [60, 60, 61, 32, 62, 62, 61, 32, 43, 61, 32, 45, 61, 32, 42, 61, 32, 47, 61, 32, 37, 61, 32, 38, 61, 32, 124, 61, 32, 94, 61, 32, 124, 124, 32, 38, 38, 32, 61, 61, 32, 33, 61, 32, 60, 61, 32, 62, 61, 32, 60, 60, 32, 62, 62, 32, 40, 32, 41, 32, 123, 32, 125, 32, 91, 32, 93, 32, 59, 32, 44, 32, 63, 32, 58, 32, 61, 32, 124, 32, 94, 32, 38, 32, 60, 32, 62, 32, 43, 32, 45, 32, 42, 32, 47, 32, 37, 32, 33, 32, 126, 32], [98, 101, 113], [98, 110, 101], [98, 108, 116], [98, 103, 101], [98, 108, 116, 117], [98, 103, 101, 117], [108, 98], [108, 104], [108, 119], [108, 98, 117], [108, 104, 117], [97, 100, 100, 105], [115, 108, 108, 105], [115, 108, 116, 105], [115, 108, 116, 105, 117], [120, 111, 114, 105], [115, 114, 108, 105], [111, 114, 105], [97, 110, 100, 105], [97, 100, 100], [115, 108, 108], [115, 108, 116], [115, 108, 116, 117], [120, 111, 114], [115, 114, 108], [111, 114], [97, 110, 100], [108, 117, 105], [97, 117, 105, 112, 99], [106, 97, 108], [106, 97, 108, 114], [115, 98], [115, 104], [115, 119], [115, 114, 97, 105], [115, 117, 98], [115, 114, 97], [102, 101, 110, 99, 101], [101, 99, 97, 108, 108], [101, 98, 114, 101, 97, 107], [119, 111, 114, 100, 32, 48, 120]]
def strR : List (String × Nat × String × Nat) := [("PocketCompiler$Tokens", 88, "int     if      else    while   do      for     break   continuereturn  put     get     ", 0), ("PocketCompiler$Tokens", 115, "(  )  {  }  [  ]  ;  ,  ?  :  !  ~  =  += -= *= /= %= &= |= ^= <<=>>=+  -  *  /  %  &  |  ^  << >> == != <  <= >  >= && || ", 1), ("PocketCompiler$Tokens", 123, "a fault in the text", 2), ("java/lang/StringIndexOutOfBoundsException", 13, "String index out of range: ", 3), ("java/util/Arrays", 337, " > ", 4), ("java/util/Arrays", 48, "fromIndex(", 5), ("java/util/Arrays", 57, ") > toIndex(", 6), ("java/util/Arrays", 59, ")", 7), ("java/lang/ArrayIndexOutOfBoundsException", 13, "Array index out of range: ", 8), ("PocketCompiler$Shower", 50, "lui   auipc jal   jalr  beq   bne   blt   bge   bltu  bgeu  lb    lh    lw    lbu   lhu   sb    sh    sw    addi  slti  sltiu xori  ori   andi  slli  srli  srai  add   sub   sll   slt   sltu  xor   srl   sra   or    and   fence ecall ebreakword  ", 9), ("PocketCompiler$Shower", 56, " 0x", 10), ("PocketCompiler$Shower", 61, "0123456789abcdef", 11), ("PocketCompiler$Shower", 86, ", ", 12), ("PocketCompiler", 121, "a word below 0", 13), ("PocketCompiler", 139, "neither functions nor globals", 14), ("PocketCompiler", 170, "not 0 to 50,000 steps", 15), ("PocketCompiler", 178, "no such register", 16), ("PocketCompiler", 194, "no multiple of 4", 17), ("PocketCompiler", 200, "not in the memory", 18), ("PocketCompiler", 207, "no such number, or not kept", 19), ("PocketCompiler", 219, "no such function", 20), ("PocketCompiler", 221, "more than two parameters, or not 0 to 20,000 turns", 21), ("PocketCompiler", 238, "no work, no such global or no such number", 22), ("PocketCompilerModel", 60, "int if else while do for break continue return put get ", 23), ("PocketCompilerModel", 82, "<<= >>= += -= *= /= %= &= |= ^= || && == != <= >= << >> ( ) { } [ ] ; , ? : = | ^ & < > + - * / % ! ~ ", 24), ("PocketCompilerModel", 717, "beq", 25), ("PocketCompilerModel", 719, "bne", 26), ("PocketCompilerModel", 721, "blt", 27), ("PocketCompilerModel", 723, "bge", 28), ("PocketCompilerModel", 725, "bltu", 29), ("PocketCompilerModel", 727, "bgeu", 30), ("PocketCompilerModel", 729, "lb", 31), ("PocketCompilerModel", 731, "lh", 32), ("PocketCompilerModel", 733, "lw", 33), ("PocketCompilerModel", 734, "lbu", 34), ("PocketCompilerModel", 736, "lhu", 35), ("PocketCompilerModel", 738, "addi", 36), ("PocketCompilerModel", 739, "slli", 37), ("PocketCompilerModel", 741, "slti", 38), ("PocketCompilerModel", 743, "sltiu", 39), ("PocketCompilerModel", 745, "xori", 40), ("PocketCompilerModel", 747, "srli", 41), ("PocketCompilerModel", 749, "ori", 42), ("PocketCompilerModel", 751, "andi", 43), ("PocketCompilerModel", 753, "add", 44), ("PocketCompilerModel", 755, "sll", 45), ("PocketCompilerModel", 757, "slt", 46), ("PocketCompilerModel", 759, "sltu", 47), ("PocketCompilerModel", 761, "xor", 48), ("PocketCompilerModel", 763, "srl", 49), ("PocketCompilerModel", 765, "or", 50), ("PocketCompilerModel", 767, "and", 51), ("PocketCompilerModel", 769, "lui", 52), ("PocketCompilerModel", 770, "auipc", 53), ("PocketCompilerModel", 772, "jal", 54), ("PocketCompilerModel", 774, "jalr", 55), ("PocketCompilerModel", 776, "sb", 56), ("PocketCompilerModel", 778, "sh", 57), ("PocketCompilerModel", 780, "sw", 58), ("PocketCompilerModel", 781, "srai", 59), ("PocketCompilerModel", 783, "sub", 60), ("PocketCompilerModel", 785, "sra", 61), ("PocketCompilerModel", 787, "fence", 62), ("PocketCompilerModel", 789, "ecall", 63), ("PocketCompilerModel", 791, "ebreak", 64), ("PocketCompilerModel", 797, "word 0x", 65), ("PocketCompilerModel", 802, "0123456789abcdef", 11)]
/-- which exceptions are caught as which -/
def castL : List (String × String) := [("java/lang/IndexOutOfBoundsException", "java/lang/IndexOutOfBoundsException"), ("java/lang/IllegalArgumentException", "java/lang/IllegalArgumentException"), ("java/util/NoSuchElementException", "java/util/NoSuchElementException")]
def ncL : List (String × String) := [("java/lang/IndexOutOfBoundsException", "java/lang/IllegalArgumentException"), ("java/lang/IllegalArgumentException", "java/util/NoSuchElementException")]
/-- what the tables say, wherever a method is called -/
def kk_ (D : va_G) (tys : List (ClassId × FieldType)) (tb : Nat → Nat) (U : State) : Prop := va_K D vwCl tys U ∧ va_AOA .int U ∧ (∀ q ∈ nwF, va_Nw (.fieldLinkNest q.1 q.2.1 q.2.2.1 q.2.2.2.1 q.2.2.2.2 "PocketCompiler") U) ∧ (∀ q ∈ nwM, va_Nw (.methodLinkNest q.1 q.2.1 q.2.2 "PocketCompiler") U) ∧ (∀ q ∈ strR, vk_R q.1 q.2.1 q.2.2.1 (tb (100 + q.2.2.2)) U) ∧ (∀ q ∈ castL, va_Nw (.castable q.1 q.2) U) ∧ (∀ q ∈ ncL, va_Nc q.1 q.2 U)
theorem kk_.same {D : va_G} {tys : List (ClassId × FieldType)} {tb : Nat → Nat} {u U : State} (h0 : u.vm = U.vm) (h : kk_ D tys tb u) : kk_ D tys tb U := ⟨h.1.moved (by rw [h0]; exact Vm.Alike.refl U.vm), h.2.1.moved (by rw [h0]; exact Vm.Alike.refl U.vm), fun q hq => va_Nw.same rfl h0 (h.2.2.1 q hq), fun q hq => va_Nw.same rfl h0 (h.2.2.2.1 q hq), fun q hq => vk_R.same h0.symm (h.2.2.2.2.1 q hq), fun q hq => va_Nw.same rfl h0 (h.2.2.2.2.2.1 q hq), fun q hq => (h.2.2.2.2.2.2 q hq).moved (by rw [h0]; exact Vm.Alike.refl U.vm)⟩
theorem kk_.warm {D : va_G} {tys : List (ClassId × FieldType)} {tb : Nat → Nat} {s U : State} (hW : s.WarmedH U.vm) (h : kk_ D tys tb s) : kk_ D tys tb U := ⟨h.1.moved hW.alike, h.2.1.moved hW.alike, fun q hq => (h.2.2.1 q hq).warmF hW, fun q hq => (h.2.2.2.1 q hq).warmM hW, fun q hq => (h.2.2.2.2.1 q hq).warm hW, fun q hq => (h.2.2.2.2.2.1 q hq).warmC hW, fun q hq => (h.2.2.2.2.2.2 q hq).moved hW.alike⟩
theorem kk_.fld {D : va_G} {tys : List (ClassId × FieldType)} {tb : Nat → Nat} {s : State} {args : Array Value} (h : kk_ D tys tb s) {q : String × Nat × String × String × String} (k : Nat) (hq : nwF[k]? = some q) : (Cond.fieldLinkNest q.1 q.2.1 q.2.2.1 q.2.2.2.1 q.2.2.2.2 "PocketCompiler").before args s = true := va_Nw.use rfl (h.2.2.1 q (List.mem_of_getElem? hq))
/-- tables that nobody writes: their static fields and what they hold -/
def tbF (L : List Int32) : Nat → Value := fun j => .int (L.getD j 0)
def tbI : List (String × List Int32) := [("BRANCHES", [4, 5, 40, 40, 6, 7, 8, 9]), ("LOADS", [10, 11, 12, 40, 13, 14, 40, 40]), ("STORES", [15, 16, 17, 40, 40, 40, 40, 40]), ("NUMBERED", [18, 24, 19, 20, 21, 25, 22, 23]), ("PLAIN", [27, 29, 30, 31, 32, 33, 35, 36])]
def tbD : List (String × List Int32) := [("DigitTens", (List.range 100).map (fun j => Int32.ofNat (48 + j / 10))), ("DigitOnes", (List.range 100).map (fun j => Int32.ofNat (48 + j % 10)))]
/-- what the heap holds from the start and nobody writes -/
def fx_ (tb : Nat → Nat) (A : Nat → Prop) (U : State) (H : Heap) : Prop :=
  va_Z "java/lang/String" "COMPACT_STRINGS" "Z" (.int 1) A U H ∧
  (∀ (k : Nat) (q : String × List Int32), tbI[k]? = some q → va_Z "PocketCompiler$Instruction" q.1 "[I" (.ref (tb k)) A U H ∧ va_T .int (tb k) q.2.length (tbF q.2) A U H) ∧
  (∀ (k : Nat) (q : String × List Int32), tbD[k]? = some q → va_Z "java/lang/Integer" q.1 "[B" (.ref (tb (10 + k))) A U H ∧ va_T .byte (tb (10 + k)) q.2.length (tbF q.2) A U H) ∧
  va_Zq "jdk/internal/util/Preconditions" "SIOOBE_FORMATTER" "Ljava/util/function/BiFunction;" A U H ∧ vx_Zq Bundle.tN "UNASSIGNED_STACK" Bundle.steD A U H ∧ vx_Zq Bundle.tN "SUPPRESSED_SENTINEL" Bundle.listD A U H ∧ vk_S 66 lenS bytS (fun i => tb (100 + i)) (fun i => tb (200 + i)) A U H
theorem fx_.moved {tb : Nat → Nat} {A : Nat → Prop} {u U : State} {H : Heap} (hvm : u.vm.Alike U.vm) (h : fx_ tb A u H) : fx_ tb A U H := ⟨va_Z.moved hvm h.1, fun k q hq => ⟨va_Z.moved hvm (h.2.1 k q hq).1, va_T.moved hvm (h.2.1 k q hq).2⟩, fun k q hq => ⟨va_Z.moved hvm (h.2.2.1 k q hq).1, va_T.moved hvm (h.2.2.1 k q hq).2⟩, va_Zq.moved hvm h.2.2.2.1, vx_Zq.moved hvm h.2.2.2.2.1, vx_Zq.moved hvm h.2.2.2.2.2.1, vk_S.moved hvm h.2.2.2.2.2.2⟩
theorem fx_.kept {tb : Nat → Nat} {A : Nat → Prop} {U : State} {H H1 : Heap} (h : fx_ tb A U H) (hq : ∀ a : Nat, a < H.size → ¬ A a → H1[a]? = H[a]?) : fx_ tb A U H1 := ⟨va_Z.kept h.1 hq, fun k q hk => ⟨va_Z.kept (h.2.1 k q hk).1 hq, va_T.kept (h.2.1 k q hk).2 hq⟩, fun k q hk => ⟨va_Z.kept (h.2.2.1 k q hk).1 hq, va_T.kept (h.2.2.1 k q hk).2 hq⟩, va_Zq.kept h.2.2.2.1 hq, vx_Zq.kept h.2.2.2.2.1 hq, vx_Zq.kept h.2.2.2.2.2.1 hq, vk_S.kept h.2.2.2.2.2.2 hq⟩
theorem fx_.narrow {tb : Nat → Nat} {A B : Nat → Prop} {U : State} {H : Heap} (h : fx_ tb A U H) (hAB : ∀ q, B q → A q) : fx_ tb B U H := ⟨va_Z.narrow h.1 hAB, fun k q hk => ⟨va_Z.narrow (h.2.1 k q hk).1 hAB, va_T.narrow (h.2.1 k q hk).2 hAB⟩, fun k q hk => ⟨va_Z.narrow (h.2.2.1 k q hk).1 hAB, va_T.narrow (h.2.2.1 k q hk).2 hAB⟩, va_Zq.narrow h.2.2.2.1 hAB, vx_Zq.narrow h.2.2.2.2.1 hAB, vx_Zq.narrow h.2.2.2.2.2.1 hAB, vk_S.narrow h.2.2.2.2.2.2 hAB⟩
/-- a contract's start: its world, its tables -/
def pc_ (D : va_G) (tys : List (ClassId × FieldType)) (tb : Nat → Nat) (W : va_W) (sz : Nat) (av : List Value) : Array Value → State → Prop := va_Pc av (fun U => U.heap.size = sz ∧ va_P D vwCl W U.heap ∧ kk_ D tys tb U ∧ va_D (fun _ => True) W ∧ fx_ tb (va_A W sz) U U.heap)
/-- a contract's end: an int, nothing, a cell -/
def qi_ {S : Type} (D : va_G) (W : va_W) (sz : Nat) (post : Int32 → S → Prop) (Wf : S → va_W) : Array Value → State → Outcome → State → Prop := va_Qi post (fun u t => va_P D vwCl (Wf u) t.heap ∧ va_D (va_A W sz) (Wf u)) (va_A W sz)
def qv_ {S : Type} (D : va_G) (W : va_W) (sz : Nat) (post : S → Prop) (Wf : S → va_W) : Array Value → State → Outcome → State → Prop := va_Qv post (fun u t => va_P D vwCl (Wf u) t.heap ∧ va_D (va_A W sz) (Wf u)) (va_A W sz)
theorem pc_blind {D : va_G} {tys : List (ClassId × FieldType)} {tb : Nat → Nat} {W : va_W} {sz : Nat} {av : List Value} : FrameBlind (pc_ D tys tb W sz av) := fun a U g mk q => by
  obtain ⟨q0, q1, qP, qK, qD, qF⟩ := q
  exact ⟨q0, q1, qP, kk_.same (u := U) (U := U.calling g mk a) rfl qK, qD, fx_.moved (u := U) (U := U.calling g mk a) (Vm.Alike.refl U.vm) qF⟩
theorem is_fm {ws Wc : va_W} {is : List Nat} (h : is.map (fun i => ws[i]?) = Wc.map some) : is.filterMap (fun i => ws[i]?) = Wc := by
  have h2 : is.filterMap (fun i => ws[i]?) = (is.map (fun i => ws[i]?)).filterMap id := by rw [List.filterMap_map]; rfl
  rw [h2, h]
  clear h h2
  induction Wc with
  | nil => rfl
  | cons a t ih => simp [ih]
theorem pc_at {D : va_G} {tys : List (ClassId × FieldType)} {tb : Nat → Nat} {ws Wc : va_W} {A : Nat → Prop} {s : State} {H : Heap} {locs : List Loc} {As : List Value} (hK : kk_ D tys tb s) (hF : fx_ tb A s s.heap) (hP : va_P D vwCl ws H) (hD : va_D A ws) (hS : va_S A s.heap H locs) (hA : ∀ q, s.heap.size ≤ q → A q) {is : List Nat} (hn : va_nd is = true) (h : is.map (fun i => ws[i]?) = Wc.map some) : ∀ U : State, U.heap = H → s.WarmedH U.vm → pc_ D tys tb Wc H.size As As.toArray U := fun U hU hW =>
  ⟨rfl, by rw [hU], by rw [hU]; exact hP.sub is (is_fm h), kk_.warm hW hK, (hD.sub is hn h).weaken (fun _ _ _ _ => trivial), by rw [hU]; exact ((hF.kept hS.2.1).narrow (va_free hD hS hA is h)).moved hW.alike⟩
section CLX
variable {p : Program} {l : Launch} {e : Env} {R : Room} {s : State} {m : MethodId} {args : Array Value} {below : List Frame} {meth : Method} {c : Code} {H H0 : Heap} {locs : List Loc} {cells slots : Nat} {Q : State → Prop}
variable {cc bytes : ByteArray} {pc nL maxL mc ms n index ci b : Nat} {ls : Array Slot} {rest st0 As fs : List Value} {D : va_G} {A : Nat → Prop} {tys : List (ClassId × FieldType)} {ws Wc wr : va_W} {own C : String} {y : MethodName} {ret : Option FieldType} {rm : Room} {q : vw_C} {isC isR : List Nat} {S : Type} {tb : Nat → Nat}
theorem ca_i {post : Int32 → S → Prop} {Wf : S → va_W} {a : Array Value} (hr : va_Run p l e R s m args below meth c H locs cells slots mc ms (F0 m pc ls st0) rest (qi_ D Wc H.size post Wf a) (va_A Wc H.size)) (hP : va_P D vwCl ws H) (hD : va_D A ws) (hS : va_S A H0 H locs) (hA : ∀ q, H0.size ≤ q → A q)
    (hC : isC.map (fun i => ws[i]?) = Wc.map some) (hR : isR.map (fun i => ws[i]?) = wr.map some) (hn : va_nd isR = true) (hdis : ∀ i ∈ isR, i ∉ isC)
    (kk : ∀ (r : Int32) (u : S) (H1 : Heap) (locs1 : List Loc), post r u → va_P D vwCl (wr ++ Wf u) H1 → va_D A (wr ++ Wf u) → va_S A H0 H1 locs1 → W p l e R s m args below meth c H1 locs1 (cells + mc) (slots + ms) Q (F0 m (pc + 3) ls (.int r :: rest))) : W p l e R s m args below meth c H locs cells slots Q (F0 m pc ls st0) := by
  have hF := va_free hD hS hA isC hC
  refine va_calli hr hS (fun q _ h => hF q h) hF (fun r u t H1 locs1 ht hvm hw hB hz hk hS1 => ?_)
  obtain ⟨hP1, hD1⟩ := hB
  rw [ht] at hP1
  obtain ⟨hP2, hD2⟩ := va_join (wr := wr) (w1 := Wf u) hP hD isC isR hC hR hn hdis hk hF hP1 hD1
  exact kk r u H1 locs1 hw hP2 hD2 hS1
theorem ca_v {post : S → Prop} {Wf : S → va_W} {a : Array Value} (hr : va_Run p l e R s m args below meth c H locs cells slots mc ms (F0 m pc ls st0) rest (qv_ D Wc H.size post Wf a) (va_A Wc H.size)) (hP : va_P D vwCl ws H) (hD : va_D A ws) (hS : va_S A H0 H locs) (hA : ∀ q, H0.size ≤ q → A q)
    (hC : isC.map (fun i => ws[i]?) = Wc.map some) (hR : isR.map (fun i => ws[i]?) = wr.map some) (hn : va_nd isR = true) (hdis : ∀ i ∈ isR, i ∉ isC)
    (kk : ∀ (u : S) (H1 : Heap) (locs1 : List Loc), post u → va_P D vwCl (wr ++ Wf u) H1 → va_D A (wr ++ Wf u) → va_S A H0 H1 locs1 → W p l e R s m args below meth c H1 locs1 (cells + mc) (slots + ms) Q (F0 m (pc + 3) ls rest)) : W p l e R s m args below meth c H locs cells slots Q (F0 m pc ls st0) := by
  have hF := va_free hD hS hA isC hC
  refine va_callv hr hS (fun q _ h => hF q h) hF (fun u t H1 locs1 ht hvm hw hB hz hk hS1 => ?_)
  obtain ⟨hP1, hD1⟩ := hB
  rw [ht] at hP1
  obtain ⟨hP2, hD2⟩ := va_join (wr := wr) (w1 := Wf u) hP hD isC isR hC hR hn hdis hk hF hP1 hD1
  exact kk u H1 locs1 hw hP2 hD2 hS1
theorem rn_V {Qc : Array Value → State → Outcome → State → Prop} (hx : p.tables.exec = Jvm.exec) (hb : c.code = cc) (hml : c.maxLocals = nL) (hown : s.vm.findClass own = some m.cls) (ht : ∀ w ∈ tw_W, w.before args s = true) (hK : kk_ D tys tb s) (hF : fx_ tb A s s.heap) (hP : va_P D vwCl ws H) (hD : va_D A ws) (hS : va_S A s.heap H locs) (hA : ∀ q, s.heap.size ≤ q → A q)
    (hM : Met l y (Cond.code y bytes maxL ret :: tw_W) rm (pc_ D tys tb Wc H.size (.ref b :: As)) Qc mc ms (va_A Wc H.size)) (hcw : Cond.code y bytes maxL ret ∈ tw_W) (hws : ∀ w ∈ ([.methodLink own index y, .instanceMethod y, .selects C y y, .initialized C] : List Cond), w ∈ tw_W)
    (hd : y.cls = C ∧ y.cls ≠ "java/lang/invoke/MethodHandle" ∧ y.cls ≠ "java/lang/invoke/VarHandle" ∧ (parseMethodDescriptor y.desc).map (fun d => d.parameters.length) = some n) (hrc : rm.cells = mc) (hrs : rm.slots = ms) (hR : rm.frames + 1 ≤ R.frames ∧ 8 + (maxL + 11) + rm.locals ≤ R.locals)
    (isC : List Nat) (hC : isC.map (fun i => ws[i]?) = Wc.map some) (hnC : va_nd isC = true) (hrecv : Wc[0]? = some (b, .inr (ci, fs))) (hc : vwCl[ci]? = some q) (hq : q.1 = C)
    (hnA : As.length = n) (hls : ls.size = nL) (hst : st0 = As.reverse ++ .ref b :: rest) (hW : (rest.map fun v => v.category).sum ≤ 8) (hdg : decode cc pc = .ok (.invokevirtual index, 3)) (hf : cells + mc ≤ R.cells ∧ slots + ms ≤ R.slots) :
    va_Run p l e R s m args below meth c H locs cells slots mc ms (F0 m pc ls st0) rest (Qc (Value.ref b :: As).toArray) (va_A Wc H.size) := by
  subst hq
  exact va_runV ⟨hx, hb, hml, hown, ht⟩ hM (cwV n ht (tw_V hcw hws) rfl hrc hrs hd hR) ⟨pc_blind, va_recv hK.1 (hP.sub isC (is_fm hC)) hc hrecv, pc_at hK hF hP hD hS hA hnC hC⟩ rfl hnA hls hst (lv_room hW) hdg hf
theorem rn_S {Qc : Array Value → State → Outcome → State → Prop} (hx : p.tables.exec = Jvm.exec) (hb : c.code = cc) (hml : c.maxLocals = nL) (hown : s.vm.findClass own = some m.cls) (ht : ∀ w ∈ tw_W, w.before args s = true) (hK : kk_ D tys tb s) (hF : fx_ tb A s s.heap) (hP : va_P D vwCl ws H) (hD : va_D A ws) (hS : va_S A s.heap H locs) (hA : ∀ q, s.heap.size ≤ q → A q)
    (hM : Met l y (Cond.code y bytes maxL ret :: tw_W) rm (pc_ D tys tb Wc H.size As) Qc mc ms (va_A Wc H.size)) (hcw : Cond.code y bytes maxL ret ∈ tw_W) (hws : ∀ w ∈ ([.methodLink own index y, .static y, .initialized y.cls] : List Cond), w ∈ tw_W)
    (hd : y.cls ≠ "java/lang/invoke/MethodHandle" ∧ y.cls ≠ "java/lang/invoke/VarHandle" ∧ (parseMethodDescriptor y.desc).map (fun d => d.parameters.length) = some n) (hrc : rm.cells = mc) (hrs : rm.slots = ms) (hR : rm.frames + 1 ≤ R.frames ∧ 8 + (maxL + 11) + rm.locals ≤ R.locals)
    (isC : List Nat) (hC : isC.map (fun i => ws[i]?) = Wc.map some) (hnC : va_nd isC = true)
    (hnA : As.length = n) (hls : ls.size = nL) (hst : st0 = As.reverse ++ rest) (hW : (rest.map fun v => v.category).sum ≤ 8) (hdg : decode cc pc = .ok (.invokestatic index, 3)) (hf : cells + mc ≤ R.cells ∧ slots + ms ≤ R.slots) :
    va_Run p l e R s m args below meth c H locs cells slots mc ms (F0 m pc ls st0) rest (Qc As.toArray) (va_A Wc H.size) :=
  va_runS ⟨hx, hb, hml, hown, ht⟩ hM (va_cwS n ht (tw_S hcw hws) rfl hrc hrs hd hR) ⟨pc_blind, pc_at hK hF hP hD hS hA hnC hC⟩ rfl hnA hls hst (lv_room hW) hdg hf
theorem rn_I {Qc : Array Value → State → Outcome → State → Prop} (hx : p.tables.exec = Jvm.exec) (hb : c.code = cc) (hml : c.maxLocals = nL) (hown : s.vm.findClass own = some m.cls) (ht : ∀ w ∈ tw_W, w.before args s = true) (hK : kk_ D tys tb s) (hF : fx_ tb A s s.heap) (hP : va_P D vwCl ws H) (hD : va_D A ws) (hS : va_S A s.heap H locs) (hA : ∀ q, s.heap.size ≤ q → A q)
    (hM : Met l y (Cond.code y bytes maxL none :: tw_W) rm (pc_ D tys tb Wc H.size (.ref b :: As)) Qc mc ms (va_A Wc H.size)) (hcw : Cond.code y bytes maxL none ∈ tw_W) (hini : Cond.initialized y.cls ∈ tw_W) (hlk : Cond.methodLink own index y ∈ tw_W) (hin : Cond.instanceMethod y ∈ tw_W) (hy : y.name = "<init>")
    (hd : y.cls ≠ "java/lang/invoke/MethodHandle" ∧ y.cls ≠ "java/lang/invoke/VarHandle" ∧ (parseMethodDescriptor y.desc).map (fun d => d.parameters.length) = some n) (hrc : rm.cells = mc) (hrs : rm.slots = ms) (hR : rm.frames + 1 ≤ R.frames ∧ 8 + (maxL + 11) + rm.locals ≤ R.locals)
    (isC : List Nat) (hC : isC.map (fun i => ws[i]?) = Wc.map some) (hnC : va_nd isC = true)
    (hnA : As.length = n) (hls : ls.size = nL) (hst : st0 = As.reverse ++ .ref b :: rest) (hW : (rest.map fun v => v.category).sum ≤ 8) (hdg : decode cc pc = .ok (.invokespecial index, 3)) (hf : cells + mc ≤ R.cells ∧ slots + ms ≤ R.slots) :
    va_Run p l e R s m args below meth c H locs cells slots mc ms (F0 m pc ls st0) rest (Qc (Value.ref b :: As).toArray) (va_A Wc H.size) :=
  va_runI ⟨hx, hb, hml, hown, ht⟩ hM (cwI n ht (tw_c hcw) rfl hrc hrs (ht _ hini) (ht _ hlk) (ht _ hin) hy hd hR) ⟨pc_blind, pc_at hK hF hP hD hS hA hnC hC⟩ rfl hnA hls hst (lv_room hW) hdg hf
/-- a new array of a type whose class is known already -/
theorem va_newE {cc : ByteArray} (hexec : p.tables.exec = Jvm.exec) (hb : c.code = cc) {atype : ArrayType} (harr : (Cond.arrayClass (newarray.typeOf atype)).before args s = true) {ty : FieldType} (hty : newarray.typeOf atype = ty) (hK : va_K D vwCl tys s) (hP : va_P D vwCl ws H) (hD : va_D A ws) (hS : va_S A H0 H locs) (hA : ∀ q, H0.size ≤ q → A q) (t0 : Nat) {cE : ClassId} (ht0 : tys[t0]? = some (cE, ty))
    {n : Int32} {N' : Nat} {a0 : vp_A} (ha : ∀ cA : ClassId, vp_cell cA a0 = arrV cA N' (fun _ => defaultValue ty)) (hn : ¬ n < 0) (hN : n.toNatClampNeg = N') (hbytes : N' * componentBytes ty ≤ 536870912) (hcells : cells + 1 ≤ R.cells) (hslots : slots + N' ≤ R.slots) (hdg : decode cc pc = .ok (.newarray atype, 2))
    (kk : ∀ (q : Nat) (H1 : Heap), va_P D vwCl (ws ++ [(q, .inl (cE, a0))]) H1 → va_D A (ws ++ [(q, .inl (cE, a0))]) → va_S A H0 H1 locs →
      W p l e R s m args below meth c H1 locs (cells + 1) (slots + N') Q (F0 m (pc + 2) ls (.ref q :: rest))) : W p l e R s m args below meth c H locs cells slots Q (F0 m pc ls (.int n :: rest)) := by
  refine va_newa hexec hb harr hty hK hP hD hS hA ha hn hN hbytes hcells hslots hdg (fun q cA H1 hK1 hP1 hD1 hS1 => ?_)
  have e1 := (hK.2 t0 _ ht0).2
  have e2 := (hK1.2 tys.length (cA, ty) (by simp)).2
  have e : cA = cE := by
    subst hty
    cases atype <;> exact Option.some.inj (Eq.trans (Eq.symm e2) e1)
  subst e
  exact kk q H1 hP1 hD1 hS1
end CLX
section TPI
variable {p : Program} {l : Launch} {e : Env} {R : Room} {s : State} {m : MethodId} {args : Array Value} {below : List Frame} {meth : Method} {c : Code} {H : Heap} {locs : List Loc} {cells slots : Nat} {Q : State → Prop} {pc : Nat} {ls : Array Slot} {rest : List Value}
theorem tp_i {x y : Int32} (h : x = y) (k : W p l e R s m args below meth c H locs cells slots Q (F0 m pc ls (.int y :: rest))) : W p l e R s m args below meth c H locs cells slots Q (F0 m pc ls (.int x :: rest)) := by rw [h]; exact k
end TPI
/-- the array classes that the worlds speak of -/
abbrev tyS (cI cB cZ cJ cR : ClassId) : List (ClassId × FieldType) := [(cI, .int), (cB, .byte), (cZ, .boolean), (cJ, .long), (cR, .array .int)]
end
section
section CLY
variable {p : Program} {l : Launch} {e : Env} {R : Room} {s : State} {m : MethodId} {args : Array Value} {below : List Frame} {meth : Method} {c : Code} {H H0 : Heap} {locs : List Loc} {cells slots : Nat} {Q : State → Prop}
variable {cc bytes : ByteArray} {pc nL maxL mc ms n index ci b : Nat} {ls : Array Slot} {rest st0 As fs : List Value} {D : va_G} {A : Nat → Prop} {tys : List (ClassId × FieldType)} {ws Wc wr : va_W} {own C : String} {y : MethodName} {ret : Option FieldType} {rm : Room} {q : vw_C} {isC isR : List Nat} {S : Type} {tb : Nat → Nat}
/-- several roads that meet at one place -/
theorem jn_ {P : Array Slot → Prop} (pc2 : Nat) (st2 : List Value) (k : ∀ ls, P ls → W p l e R s m args below meth c H locs cells slots Q (F0 m pc2 ls st2)) {g : JFrame} (f : (∀ ls, P ls → W p l e R s m args below meth c H locs cells slots Q (F0 m pc2 ls st2)) → W p l e R s m args below meth c H locs cells slots Q g) : W p l e R s m args below meth c H locs cells slots Q g := f k
/-- a private constructor of a nest mate -/
theorem rn_IN {Qc : Array Value → State → Outcome → State → Prop} (hx : p.tables.exec = Jvm.exec) (hb : c.code = cc) (hml : c.maxLocals = nL) (hown : s.vm.findClass own = some m.cls) (ht : ∀ w ∈ tw_W, w.before args s = true) (hK : kk_ D tys tb s) (hF : fx_ tb A s s.heap) (hP : va_P D vwCl ws H) (hD : va_D A ws) (hS : va_S A s.heap H locs) (hA : ∀ q, s.heap.size ≤ q → A q)
    (hM : Met l y (Cond.code y bytes maxL none :: tw_W) rm (pc_ D tys tb Wc H.size (.ref b :: As)) Qc mc ms (va_A Wc H.size)) (hcw : Cond.code y bytes maxL none ∈ tw_W) (hini : Cond.initialized y.cls ∈ tw_W) (kx : Nat) (hlk : nwM[kx]? = some (own, index, y)) (hin : Cond.instanceMethod y ∈ tw_W) (hy : y.name = "<init>")
    (hd : y.cls ≠ "java/lang/invoke/MethodHandle" ∧ y.cls ≠ "java/lang/invoke/VarHandle" ∧ (parseMethodDescriptor y.desc).map (fun d => d.parameters.length) = some n) (hrc : rm.cells = mc) (hrs : rm.slots = ms) (hR : rm.frames + 1 ≤ R.frames ∧ 8 + (maxL + 11) + rm.locals ≤ R.locals)
    (isC : List Nat) (hC : isC.map (fun i => ws[i]?) = Wc.map some) (hnC : va_nd isC = true)
    (hnA : As.length = n) (hls : ls.size = nL) (hst : st0 = As.reverse ++ .ref b :: rest) (hW : (rest.map fun v => v.category).sum ≤ 8) (hdg : decode cc pc = .ok (.invokespecial index, 3)) (hf : cells + mc ≤ R.cells ∧ slots + ms ≤ R.slots) :
    va_Run p l e R s m args below meth c H locs cells slots mc ms (F0 m pc ls st0) rest (Qc (Value.ref b :: As).toArray) (va_A Wc H.size) :=
  va_runIN (host := "PocketCompiler") ⟨hx, hb, hml, hown, ht⟩ hM ⟨va_cnB n ht (tw_c hcw) rfl hrc hrs (hK.2.2.2.1 _ (List.mem_of_getElem? hlk)) (ht _ hini) hd hR, hy, ht _ hin⟩ ⟨pc_blind, pc_at hK hF hP hD hS hA hnC hC⟩ rfl hnA hls hst (lv_room hW) hdg hf
/-- an array of arrays of ints that nobody will look into: only its address is kept -/
theorem va_mnD {cc : ByteArray} (hexec : p.tables.exec = Jvm.exec) (hb : c.code = cc) {own : String} {index : Nat} (hown : s.vm.findClass own = some m.cls) (hclink : (Cond.classLink own index ("[" ++ (FieldType.array .int).toString)).before args s = true) (harr : (Cond.arrayClass .int).before args s = true)
    (hKK : kk_ D tys tb s) {cI : ClassId} (t0 : Nat) (ht0 : tys[t0]? = some (cI, .int)) (hP : va_P D vwCl ws H) (hD : va_D A ws) (hS : va_S A H0 H locs) (hA : ∀ q, H0.size ≤ q → A q) {n k : Int32} {N' K' : Nat} (hn : ¬ n < 0) (hk : ¬ k < 0) (hN : n.toNatClampNeg = N') (hM : k.toNatClampNeg = K')
    (hb1 : N' * 4 ≤ 536870912) (hb2 : K' * 4 ≤ 536870912) (hcells : cells + (1 + N') ≤ R.cells) (hslots : slots + (N' + N' * K') ≤ R.slots) (hdg : decode cc pc = .ok (.multianewarray index 2, 4))
    (kk : ∀ (q : Nat) (H1 : Heap), va_P D vwCl ws H1 → va_D A ws → va_S A H0 H1 locs → W p l e R s m args below meth c H1 locs (cells + 1 + N') (slots + N' + N' * K') Q (F0 m (pc + 4) ls (.ref q :: rest))) : W p l e R s m args below meth c H locs cells slots Q (F0 m pc ls (.int k :: .int n :: rest)) := by
  refine va_mna (X := ws) (L := []) (f := fun _ => .inl (cI, (0, .inl (fun _ => 0)))) (z := (K', .inl (fun _ => 0))) (cy := cI) hexec hb hown hclink hKK.2.1 harr ?_ hKK.1 (by rw [show va_pl [] (fun _ => (.inl (cI, (0, .inl (fun _ => 0))) : va_E)) = [] from rfl, List.append_nil]; exact hP) (by rw [show va_pl [] (fun _ => (.inl (cI, (0, .inl (fun _ => 0))) : va_E)) = [] from rfl, List.append_nil]; exact hD) hS hA hn hk hN hM hb1 hb2 (by omega) rfl rfl hcells hslots ?_ hdg (fun q r cA H1 _ _ _ hP1 hD1 hS1 => ?_)
  · exact (hKK.1.2 t0 _ ht0).2
  · intro c
    exact (arrV_new c K' _)
  · have hs : ∀ (k : Nat) (x : Nat × va_E), ws[k]? = some x → ∀ (Y : va_W), (ws ++ Y)[k]? = some x := fun k x hx Y => by rw [List.getElem?_append_left (List.getElem?_eq_some_iff.mp hx).1]; exact hx
    refine kk q H1 (fun k x hx => hP1 k x ?_) hD hS1
    rw [List.append_assoc]
    exact hs k x hx _
end CLY
theorem in_c {i : Int32} {j N : Nat} (h : i = nI j) (hj : j < N) (hN : N < 2 ^ 31) : vp_in i N := by rw [h]; exact vp_in_nI hj hN
theorem lt_c {x : Int32} {j N : Nat} (h : x = nI j) (hj : j < N) (hN : N < 2 ^ 31) : x < nI N := by rw [h]; exact nI_lt hj hN
theorem le_c {x : Int32} {j N : Nat} (h : x = nI j) (hj : j ≤ N) (hN : N < 2 ^ 31) : x ≤ nI N := by rw [h]; exact nI_le hj hN
theorem nge_c {x : Int32} {j N : Nat} (h : x = nI j) (hj : j < N) (hN : N < 2 ^ 31) : ¬ nI N ≤ x := by rw [h]; exact nI_ge hj hN
theorem n4 (N : Nat) : (4 : Int32) * nI N = nI (4 * N) := pk_mul 4 N
theorem le_4 {x : Int32} {j N : Nat} (h : x = nI j) (hj : j ≤ 4 * N) (hN : 4 * N < 2 ^ 31) : x ≤ 4 * nI N := by rw [n4]; exact le_c h hj hN
/-- how many words a new object's memory has -/
def sizeW (w : Int32) : Nat := if w < 256 then 1024 else if 4096 < w then 1024 else w.toNatClampNeg
theorem szB {w : Int32} (h : w < 256) : sizeW w = 1024 := if_pos h
theorem szC {w : Int32} (h : ¬ w < 256) (h2 : 4096 < w) : sizeW w = 1024 := by unfold sizeW; rw [if_neg h, if_pos h2]
theorem szA {w : Int32} (h : ¬ w < 256) (h2 : ¬ 4096 < w) : nI (sizeW w) = w := by
  unfold sizeW
  rw [if_neg h, if_neg h2]
  have h0 : ¬ w < 0 := fun q => h (by rw [Int32.lt_iff_toInt_lt] at q ⊢; have e1 : (0 : Int32).toInt = 0 := by decide
                                      have e2 : (256 : Int32).toInt = 256 := by decide
                                      omega)
  obtain ⟨j, hj, rfl⟩ := nI_of h0
  rw [nI_clamp hj]
theorem sz_lo (w : Int32) : 256 ≤ sizeW w ∧ sizeW w ≤ 4096 := by
  by_cases h : w < 256
  · rw [szB h]; omega
  · by_cases h2 : 4096 < w
    · rw [szC h h2]; omega
    · have h0 : ¬ w < 0 := fun q => h (by rw [Int32.lt_iff_toInt_lt] at q ⊢; have e1 : (0 : Int32).toInt = 0 := by decide
                                          have e2 : (256 : Int32).toInt = 256 := by decide
                                          omega)
      obtain ⟨j, hj, e⟩ := nI_of h0
      unfold sizeW
      rw [if_neg h, if_neg h2, e, nI_clamp hj]
      rw [e] at h h2
      have e2 : (256 : Int32) = nI 256 := by decide
      have e3 : (4096 : Int32) = nI 4096 := by decide
      rw [e2, nI_ltI hj (by omega)] at h
      rw [e3, nI_ltI (by omega) hj] at h2
      omega
section CLZ
variable {p : Program} {l : Launch} {e : Env} {R : Room} {s : State} {m : MethodId} {args : Array Value} {below : List Frame} {meth : Method} {c : Code} {H H0 : Heap} {locs : List Loc} {cells slots : Nat} {Q : State → Prop}
variable {cc : ByteArray} {pc : Nat} {ls : Array Slot} {rest : List Value} {D : va_G} {A : Nat → Prop} {tys : List (ClassId × FieldType)} {ws : va_W}
/-- a loop that counts up -/
theorem lp_ {P : Nat → Heap → List Loc → Array Slot → Prop} (pc2 n : Nat) (hs : ∀ i H locs ls, i < n → P i H locs ls → (∀ H' locs' ls', P (i + 1) H' locs' ls' → W p l e R s m args below meth c H' locs' cells slots Q (F0 m pc2 ls' [])) → W p l e R s m args below meth c H locs cells slots Q (F0 m pc2 ls [])) (hx : ∀ H locs ls, P n H locs ls → W p l e R s m args below meth c H locs cells slots Q (F0 m pc2 ls [])) : ∀ i H locs ls, i ≤ n → P i H locs ls → W p l e R s m args below meth c H locs cells slots Q (F0 m pc2 ls []) := by
  intro i
  generalize hk : n - i = k
  induction k generalizing i with
  | zero =>
    intro H locs ls hi hp
    have e : i = n := by omega
    subst e
    exact hx H locs ls hp
  | succ k ih =>
    intro H locs ls hi hp
    exact hs i H locs ls (by omega) hp (fun H' locs' ls' hp' => ih (i + 1) (by omega) H' locs' ls' (by omega) hp')
/-- a new array that nobody will look into: only its address is kept -/
theorem va_newD (hexec : p.tables.exec = Jvm.exec) (hb : c.code = cc) {atype : ArrayType} (harr : (Cond.arrayClass (newarray.typeOf atype)).before args s = true) {ty : FieldType} (hty : newarray.typeOf atype = ty) (hK : va_K D vwCl tys s) (hP : va_P D vwCl ws H) (hD : va_D A ws) (hS : va_S A H0 H locs) (hA : ∀ q, H0.size ≤ q → A q)
    {n : Int32} {N' : Nat} (hn : ¬ n < 0) (hN : n.toNatClampNeg = N') (hbytes : N' * componentBytes ty ≤ 536870912) (hcells : cells + 1 ≤ R.cells) (hslots : slots + N' ≤ R.slots) (hdg : decode cc pc = .ok (.newarray atype, 2))
    (kk : ∀ (q : Nat) (H1 : Heap), va_P D vwCl ws H1 → va_S A H0 H1 locs → W p l e R s m args below meth c H1 locs (cells + 1) (slots + N') Q (F0 m (pc + 2) ls (.ref q :: rest))) : W p l e R s m args below meth c H locs cells slots Q (F0 m pc ls (.int n :: rest)) := by
  subst hty
  refine va_newaK hexec hb harr rfl hdg rfl hn hN hbytes hcells hslots rfl fun H1 cA e1 z1 o1 hAr hNm => ?_
  refine kk H.size H1 (hP.kept (fun k x hx => o1 x.1 ((hP k x hx).lt))) ⟨Nat.le_trans hS.1 (by omega), fun x h1 h2 => (o1 x (Nat.lt_of_lt_of_le h1 hS.1)).trans (hS.2.1 x h1 h2), hS.2.2⟩
end CLZ
theorem tw_SU {d : Cond} {own : String} {idx : Nat} {y : MethodName} (hd : d ∈ tw_W) (h : ∀ w ∈ ([.methodLink own idx y, .sameMethod y.cls y.cls y.name y.desc, .superclass own y.cls, .instanceMethod y, .initialized y.cls] : List Cond), w ∈ tw_W) : GoodIn tw_W (va_wsSU own idx y (d :: tw_W)) := fun w hw => (List.mem_append.mp hw).elim (fun k => tw_g w (h w k)) (fun k => tw_c hd w k)
/-- super.m(..) -/
theorem rn_SU {p : Program} {l : Launch} {e : Env} {R : Room} {s : State} {m : MethodId} {args : Array Value} {below : List Frame} {meth : Method} {c : Code} {H : Heap} {locs : List Loc} {cells slots : Nat} {cc bytes : ByteArray} {pc nL maxL mc ms n index ci b : Nat} {ls : Array Slot} {rest st0 As fs : List Value} {D : va_G} {A : Nat → Prop} {tys : List (ClassId × FieldType)} {ws Wc : va_W} {own : String} {y : MethodName} {ret : Option FieldType} {rm : Room} {q : vw_C} {tb : Nat → Nat}
    {Qc : Array Value → State → Outcome → State → Prop} (hx : p.tables.exec = Jvm.exec) (hb : c.code = cc) (hml : c.maxLocals = nL) (hown : s.vm.findClass own = some m.cls) (ht : ∀ w ∈ tw_W, w.before args s = true) (hK : kk_ D tys tb s) (hF : fx_ tb A s s.heap) (hP : va_P D vwCl ws H) (hD : va_D A ws) (hS : va_S A s.heap H locs) (hA : ∀ q, s.heap.size ≤ q → A q)
    (hM : Met l y (Cond.code y bytes maxL ret :: tw_W) rm (pc_ D tys tb Wc H.size (.ref b :: As)) Qc mc ms (va_A Wc H.size)) (hcw : Cond.code y bytes maxL ret ∈ tw_W) (hws : ∀ w ∈ ([.methodLink own index y, .sameMethod y.cls y.cls y.name y.desc, .superclass own y.cls, .instanceMethod y, .initialized y.cls] : List Cond), w ∈ tw_W)
    (hd : y.name ≠ "<init>" ∧ (parseMethodDescriptor y.desc).map (fun d => d.parameters.length) = some n) (hrc : rm.cells = mc) (hrs : rm.slots = ms) (hR : rm.frames + 1 ≤ R.frames ∧ 8 + (maxL + 11) + rm.locals ≤ R.locals)
    (isC : List Nat) (hC : isC.map (fun i => ws[i]?) = Wc.map some) (hnC : va_nd isC = true) (hrecv : Wc[0]? = some (b, .inr (ci, fs))) (hc : vwCl[ci]? = some q)
    (hnA : As.length = n) (hls : ls.size = nL) (hst : st0 = As.reverse ++ .ref b :: rest) (hW : (rest.map fun v => v.category).sum ≤ 8) (hdg : decode cc pc = .ok (.invokespecial index, 3)) (hf : cells + mc ≤ R.cells ∧ slots + ms ≤ R.slots) :
    va_Run p l e R s m args below meth c H locs cells slots mc ms (F0 m pc ls st0) rest (Qc (Value.ref b :: As).toArray) (va_A Wc H.size) :=
  va_runSU (C := q.1) (hK.1.1 ci q hc).2 ⟨hx, hb, hml, hown, ht⟩ hM (va_cwSU n ht (tw_SU hcw hws) rfl hrc hrs hd hR) ⟨pc_blind, va_recv hK.1 (hP.sub isC (is_fm hC)) hc hrecv, pc_at hK hF hP hD hS hA hnC hC⟩ rfl hnA hls hst (lv_room hW) hdg hf
end
section
/-! numbers: addresses and the memory's size -/
section TPL
variable {p : Program} {l : Launch} {e : Env} {R : Room} {s : State} {m : MethodId} {args : Array Value} {below : List Frame} {meth : Method} {c : Code} {H : Heap} {locs : List Loc} {cells slots : Nat} {Q : State → Prop} {pc : Nat} {ls : Array Slot} {rest : List Value}
theorem tp_l {x y : Int64} (h : x = y) (k : W p l e R s m args below meth c H locs cells slots Q (F0 m pc ls (.long y :: rest))) : W p l e R s m args below meth c H locs cells slots Q (F0 m pc ls (.long x :: rest)) := by rw [h]; exact k
end TPL
/-- an int as a natural below 2 ^ 32 -/
def uI (a : Int32) : Nat := a.toBitVec.toNat
theorem uI_lt (a : Int32) : uI a < 2 ^ 32 := a.toBitVec.isLt
theorem uI_inj {a b : Int32} (h : uI a = uI b) : a = b := Int32.toBitVec_inj.mp (BitVec.eq_of_toNat_eq h)
theorem uI_nI {n : Nat} (h : n < 2 ^ 32) : uI (nI n) = n := pk_tn h
theorem ush2 (a : Int32) : (a.toUInt32 >>> ((2 : Int32).toUInt32 &&& Int32.toUInt32 31)).toInt32 = nI (uI a / 4) := by
  apply uI_inj
  have h := uI_lt a
  rw [uI_nI (by omega)]
  exact pk_ushr a 2 2 (by decide)
theorem and3 (a : Int32) : a &&& 3 = nI (uI a % 4) := pk_and a 2 (by decide)
theorem and3_0 (a : Int32) : a &&& 3 = 0 ↔ uI a % 4 = 0 := by
  rw [and3, show (0 : Int32) = nI 0 from rfl, nI_eq (by omega) (by omega)]
theorem ush2_lt (a : Int32) {N : Nat} (h2 : N ≤ 4096) : nI N ≤ (a.toUInt32 >>> ((2 : Int32).toUInt32 &&& Int32.toUInt32 31)).toInt32 ↔ N ≤ uI a / 4 := by
  have h := uI_lt a
  rw [ush2, nI_leI (by omega) (by omega)]
theorem ush2_in (a : Int32) {N : Nat} (h : ¬ nI N ≤ (a.toUInt32 >>> ((2 : Int32).toUInt32 &&& Int32.toUInt32 31)).toInt32) (h2 : N ≤ 4096) : vp_in (a.toUInt32 >>> ((2 : Int32).toUInt32 &&& Int32.toUInt32 31)).toInt32 N := by
  rw [ush2_lt a h2] at h
  rw [ush2]
  exact vp_in_nI (by omega) (by omega)
theorem low32 (a : Int32) : a.toInt64 &&& 4294967295 = lN (uI a) := by
  apply Int64.toBitVec_inj.mp
  apply BitVec.eq_of_toNat_eq
  have h := uI_lt a
  have e1 : (lN (uI a)).toBitVec.toNat = uI a := by
    show (BitVec.ofNat 64 (uI a)).toNat = uI a
    rw [BitVec.toNat_ofNat]
    omega
  rw [e1]
  have e2 : (a.toInt64 &&& 4294967295).toBitVec = a.toInt64.toBitVec &&& 4294967295#64 := rfl
  rw [e2, BitVec.toNat_and]
  have e3 : (4294967295#64).toNat = 2 ^ 32 - 1 := by decide
  rw [e3, Nat.and_two_pow_sub_one_eq_mod]
  have e4 : a.toInt64.toBitVec = a.toBitVec.signExtend 64 := rfl
  rw [e4, BitVec.toNat_signExtend]
  have e5 : (a.toBitVec.setWidth 64).toNat = uI a := by
    rw [BitVec.toNat_setWidth]
    show uI a % 2 ^ 64 = uI a
    omega
  rw [e5]
  split <;> omega
theorem isin_iff (a : Int32) {N : Nat} (h2 : N ≤ 4096) : (0 : Int32) < lg_cmp ((a.toInt64 &&& 4294967295) + 4) (4 * (nI N).toInt64) ↔ 4 * N < uI a + 4 := by
  have h := uI_lt a
  rw [lg_cmp_gt, low32, nI_l (by omega), show (4 : Int64) = lN 4 from rfl, lN_mul, lN_add, pk_lLT (by omega) (by omega)]
theorem isin0 {N : Nat} (h1 : 256 ≤ N) (h2 : N ≤ 4096) : ¬ (0 : Int32) < lg_cmp (4 : Int64) (4 * (nI N).toInt64) := by
  rw [lg_cmp_gt, nI_l (by omega), show (4 : Int64) = lN 4 from rfl, lN_mul, lN_lt (by omega) (by omega)]
  omega
theorem sar2_in (a : Int32) {N : Nat} (h : ¬ (0 : Int32) < lg_cmp ((a.toInt64 &&& 4294967295) + 4) (4 * (nI N).toInt64)) (h2 : N ≤ 4096) : vp_in (a >>> ((2 : Int32) &&& 31)) N := by
  rw [isin_iff a h2] at h
  have hx : a = nI (uI a) := uI_inj (by rw [uI_nI (uI_lt a)])
  have e : a >>> ((2 : Int32) &&& 31) = nI (uI a / 4) := by
    conv => lhs; rw [hx]
    exact pk_shrN (by omega) _ 2 (by decide)
  rw [e]
  exact vp_in_nI (by omega) (by omega)
end
