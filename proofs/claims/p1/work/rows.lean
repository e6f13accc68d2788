section
-- ===== PART A: goes FIRST, ahead of the names: the tables' words, and 'selects' of the private methods out of them =====
/-- a private method of a class that the tables say can be made, by its rows of tables_1 -/
def lw_okq (q : MethodName × Nat) : Prop := (q.1.cls ≠ "java/lang/invoke/MethodHandle" ∧ q.1.cls ≠ "java/lang/invoke/VarHandle") ∧ Cond.instantiable q.1.cls q.2 ∈ tables_1 ∧ Cond.privateMethod q.1 ∈ tables_1 ∧ Cond.instanceMethod q.1 ∈ tables_1
theorem lw_p0 : lw_okq (⟨"PocketCompiler$Tokens", "behindBlanks", "(I)I"⟩, 10) := ⟨⟨by decide +kernel, by decide +kernel⟩, List.mem_of_getElem? (i := 186) (by decide +kernel), List.mem_of_getElem? (i := 460) (by decide +kernel), List.mem_of_getElem? (i := 461) (by decide +kernel)⟩
theorem lw_p1 : lw_okq (⟨"PocketCompiler$Tokens", "scanOne", "(I)I"⟩, 10) := ⟨⟨by decide +kernel, by decide +kernel⟩, List.mem_of_getElem? (i := 186) (by decide +kernel), List.mem_of_getElem? (i := 468) (by decide +kernel), List.mem_of_getElem? (i := 469) (by decide +kernel)⟩
theorem lw_p2 : lw_okq (⟨"PocketCompiler$Tokens", "add", "(IIII)I"⟩, 10) := ⟨⟨by decide +kernel, by decide +kernel⟩, List.mem_of_getElem? (i := 186) (by decide +kernel), List.mem_of_getElem? (i := 472) (by decide +kernel), List.mem_of_getElem? (i := 473) (by decide +kernel)⟩
theorem lw_p3 : lw_okq (⟨"PocketCompiler$Tokens", "scanName", "(I)I"⟩, 10) := ⟨⟨by decide +kernel, by decide +kernel⟩, List.mem_of_getElem? (i := 186) (by decide +kernel), List.mem_of_getElem? (i := 479) (by decide +kernel), List.mem_of_getElem? (i := 480) (by decide +kernel)⟩
theorem lw_p4 : lw_okq (⟨"PocketCompiler$Tokens", "spelled", "(Ljava/lang/String;III)I"⟩, 10) := ⟨⟨by decide +kernel, by decide +kernel⟩, List.mem_of_getElem? (i := 186) (by decide +kernel), List.mem_of_getElem? (i := 501) (by decide +kernel), List.mem_of_getElem? (i := 502) (by decide +kernel)⟩
theorem lw_p5 : lw_okq (⟨"PocketCompiler$Tokens", "firstAlike", "(II)I"⟩, 10) := ⟨⟨by decide +kernel, by decide +kernel⟩, List.mem_of_getElem? (i := 186) (by decide +kernel), List.mem_of_getElem? (i := 543) (by decide +kernel), List.mem_of_getElem? (i := 544) (by decide +kernel)⟩
theorem lw_p6 : lw_okq (⟨"PocketCompiler$Tokens", "isAlike", "(III)Z"⟩, 10) := ⟨⟨by decide +kernel, by decide +kernel⟩, List.mem_of_getElem? (i := 186) (by decide +kernel), List.mem_of_getElem? (i := 547) (by decide +kernel), List.mem_of_getElem? (i := 548) (by decide +kernel)⟩
theorem lw_p7 : lw_okq (⟨"PocketCompiler$Tokens", "scanNumber", "(I)I"⟩, 10) := ⟨⟨by decide +kernel, by decide +kernel⟩, List.mem_of_getElem? (i := 186) (by decide +kernel), List.mem_of_getElem? (i := 555) (by decide +kernel), List.mem_of_getElem? (i := 556) (by decide +kernel)⟩
theorem lw_p8 : lw_okq (⟨"PocketCompiler$Tokens", "scanCharacter", "(I)I"⟩, 10) := ⟨⟨by decide +kernel, by decide +kernel⟩, List.mem_of_getElem? (i := 186) (by decide +kernel), List.mem_of_getElem? (i := 563) (by decide +kernel), List.mem_of_getElem? (i := 564) (by decide +kernel)⟩
theorem lw_p9 : lw_okq (⟨"PocketCompiler$Tokens", "scanSign", "(I)I"⟩, 10) := ⟨⟨by decide +kernel, by decide +kernel⟩, List.mem_of_getElem? (i := 186) (by decide +kernel), List.mem_of_getElem? (i := 567) (by decide +kernel), List.mem_of_getElem? (i := 568) (by decide +kernel)⟩
theorem lw_p10 : lw_okq (⟨"PocketCompiler$Parser", "headOfItem", "()I"⟩, 7) := ⟨⟨by decide +kernel, by decide +kernel⟩, List.mem_of_getElem? (i := 180) (by decide +kernel), List.mem_of_getElem? (i := 588) (by decide +kernel), List.mem_of_getElem? (i := 589) (by decide +kernel)⟩
theorem lw_p11 : lw_okq (⟨"java/lang/Throwable", "fillInStackTrace", "(I)Ljava/lang/Throwable;"⟩, 6) := ⟨⟨by decide +kernel, by decide +kernel⟩, List.mem_of_getElem? (i := 647) (by decide +kernel), List.mem_of_getElem? (i := 645) (by decide +kernel), List.mem_of_getElem? (i := 646) (by decide +kernel)⟩
theorem lw_p12 : lw_okq (⟨"PocketCompiler$Tokens", "isTooMuch", "()Z"⟩, 10) := ⟨⟨by decide +kernel, by decide +kernel⟩, List.mem_of_getElem? (i := 186) (by decide +kernel), List.mem_of_getElem? (i := 676) (by decide +kernel), List.mem_of_getElem? (i := 677) (by decide +kernel)⟩
theorem lw_p13 : lw_okq (⟨"PocketCompiler$Parser", "functionItem", "()V"⟩, 7) := ⟨⟨by decide +kernel, by decide +kernel⟩, List.mem_of_getElem? (i := 180) (by decide +kernel), List.mem_of_getElem? (i := 710) (by decide +kernel), List.mem_of_getElem? (i := 711) (by decide +kernel)⟩
theorem lw_p14 : lw_okq (⟨"PocketCompiler$Parser", "parameters", "()V"⟩, 7) := ⟨⟨by decide +kernel, by decide +kernel⟩, List.mem_of_getElem? (i := 180) (by decide +kernel), List.mem_of_getElem? (i := 726) (by decide +kernel), List.mem_of_getElem? (i := 727) (by decide +kernel)⟩
theorem lw_p15 : lw_okq (⟨"PocketCompiler$Parser", "parameter", "()V"⟩, 7) := ⟨⟨by decide +kernel, by decide +kernel⟩, List.mem_of_getElem? (i := 180) (by decide +kernel), List.mem_of_getElem? (i := 734) (by decide +kernel), List.mem_of_getElem? (i := 735) (by decide +kernel)⟩
def lw_privs_1 : List (MethodName × Nat) := [(⟨"PocketCompiler$Tokens", "behindBlanks", "(I)I"⟩, 10), (⟨"PocketCompiler$Tokens", "scanOne", "(I)I"⟩, 10), (⟨"PocketCompiler$Tokens", "add", "(IIII)I"⟩, 10), (⟨"PocketCompiler$Tokens", "scanName", "(I)I"⟩, 10), (⟨"PocketCompiler$Tokens", "spelled", "(Ljava/lang/String;III)I"⟩, 10), (⟨"PocketCompiler$Tokens", "firstAlike", "(II)I"⟩, 10), (⟨"PocketCompiler$Tokens", "isAlike", "(III)Z"⟩, 10), (⟨"PocketCompiler$Tokens", "scanNumber", "(I)I"⟩, 10), (⟨"PocketCompiler$Tokens", "scanCharacter", "(I)I"⟩, 10), (⟨"PocketCompiler$Tokens", "scanSign", "(I)I"⟩, 10), (⟨"PocketCompiler$Parser", "headOfItem", "()I"⟩, 7), (⟨"java/lang/Throwable", "fillInStackTrace", "(I)Ljava/lang/Throwable;"⟩, 6), (⟨"PocketCompiler$Tokens", "isTooMuch", "()Z"⟩, 10), (⟨"PocketCompiler$Parser", "functionItem", "()V"⟩, 7), (⟨"PocketCompiler$Parser", "parameters", "()V"⟩, 7), (⟨"PocketCompiler$Parser", "parameter", "()V"⟩, 7)]
theorem lw_r1 : ∀ q ∈ lw_privs_1, lw_okq q := List.forall_mem_cons.mpr ⟨lw_p0, List.forall_mem_cons.mpr ⟨lw_p1, List.forall_mem_cons.mpr ⟨lw_p2, List.forall_mem_cons.mpr ⟨lw_p3, List.forall_mem_cons.mpr ⟨lw_p4, List.forall_mem_cons.mpr ⟨lw_p5, List.forall_mem_cons.mpr ⟨lw_p6, List.forall_mem_cons.mpr ⟨lw_p7, List.forall_mem_cons.mpr ⟨lw_p8, List.forall_mem_cons.mpr ⟨lw_p9, List.forall_mem_cons.mpr ⟨lw_p10, List.forall_mem_cons.mpr ⟨lw_p11, List.forall_mem_cons.mpr ⟨lw_p12, List.forall_mem_cons.mpr ⟨lw_p13, List.forall_mem_cons.mpr ⟨lw_p14, List.forall_mem_cons.mpr ⟨lw_p15, fun _ h => absurd h List.not_mem_nil⟩⟩⟩⟩⟩⟩⟩⟩⟩⟩⟩⟩⟩⟩⟩⟩
theorem lw_p16 : lw_okq (⟨"PocketCompiler$Parser", "newName", "()I"⟩, 7) := ⟨⟨by decide +kernel, by decide +kernel⟩, List.mem_of_getElem? (i := 180) (by decide +kernel), List.mem_of_getElem? (i := 738) (by decide +kernel), List.mem_of_getElem? (i := 739) (by decide +kernel)⟩
theorem lw_p17 : lw_okq (⟨"PocketCompiler$Parser", "wantSlot", "()V"⟩, 7) := ⟨⟨by decide +kernel, by decide +kernel⟩, List.mem_of_getElem? (i := 180) (by decide +kernel), List.mem_of_getElem? (i := 753) (by decide +kernel), List.mem_of_getElem? (i := 754) (by decide +kernel)⟩
theorem lw_p18 : lw_okq (⟨"PocketCompiler$Parser", "stats", "()V"⟩, 7) := ⟨⟨by decide +kernel, by decide +kernel⟩, List.mem_of_getElem? (i := 180) (by decide +kernel), List.mem_of_getElem? (i := 780) (by decide +kernel), List.mem_of_getElem? (i := 781) (by decide +kernel)⟩
theorem lw_p19 : lw_okq (⟨"PocketCompiler$Parser", "stat", "()V"⟩, 7) := ⟨⟨by decide +kernel, by decide +kernel⟩, List.mem_of_getElem? (i := 180) (by decide +kernel), List.mem_of_getElem? (i := 784) (by decide +kernel), List.mem_of_getElem? (i := 785) (by decide +kernel)⟩
theorem lw_p20 : lw_okq (⟨"PocketCompiler$Parser", "block", "()V"⟩, 7) := ⟨⟨by decide +kernel, by decide +kernel⟩, List.mem_of_getElem? (i := 180) (by decide +kernel), List.mem_of_getElem? (i := 788) (by decide +kernel), List.mem_of_getElem? (i := 789) (by decide +kernel)⟩
theorem lw_p21 : lw_okq (⟨"PocketCompiler$Parser", "local", "()V"⟩, 7) := ⟨⟨by decide +kernel, by decide +kernel⟩, List.mem_of_getElem? (i := 180) (by decide +kernel), List.mem_of_getElem? (i := 792) (by decide +kernel), List.mem_of_getElem? (i := 793) (by decide +kernel)⟩
theorem lw_p22 : lw_okq (⟨"PocketCompiler$Expressions", "operand", "(Z)Z"⟩, 5) := ⟨⟨by decide +kernel, by decide +kernel⟩, List.mem_of_getElem? (i := 273) (by decide +kernel), List.mem_of_getElem? (i := 804) (by decide +kernel), List.mem_of_getElem? (i := 805) (by decide +kernel)⟩
theorem lw_p23 : lw_okq (⟨"PocketCompiler$Expressions", "unary", "(I)V"⟩, 5) := ⟨⟨by decide +kernel, by decide +kernel⟩, List.mem_of_getElem? (i := 273) (by decide +kernel), List.mem_of_getElem? (i := 809) (by decide +kernel), List.mem_of_getElem? (i := 810) (by decide +kernel)⟩
theorem lw_p24 : lw_okq (⟨"PocketCompiler$Expressions", "named", "(Z)Z"⟩, 5) := ⟨⟨by decide +kernel, by decide +kernel⟩, List.mem_of_getElem? (i := 273) (by decide +kernel), List.mem_of_getElem? (i := 823) (by decide +kernel), List.mem_of_getElem? (i := 824) (by decide +kernel)⟩
theorem lw_p25 : lw_okq (⟨"PocketCompiler$Expressions", "callFunction", "()V"⟩, 5) := ⟨⟨by decide +kernel, by decide +kernel⟩, List.mem_of_getElem? (i := 273) (by decide +kernel), List.mem_of_getElem? (i := 830) (by decide +kernel), List.mem_of_getElem? (i := 831) (by decide +kernel)⟩
theorem lw_p26 : lw_okq (⟨"PocketCompiler$Expressions", "argument", "(II)V"⟩, 5) := ⟨⟨by decide +kernel, by decide +kernel⟩, List.mem_of_getElem? (i := 273) (by decide +kernel), List.mem_of_getElem? (i := 839) (by decide +kernel), List.mem_of_getElem? (i := 840) (by decide +kernel)⟩
theorem lw_p27 : lw_okq (⟨"PocketCompiler$Expressions", "index", "(I)V"⟩, 5) := ⟨⟨by decide +kernel, by decide +kernel⟩, List.mem_of_getElem? (i := 273) (by decide +kernel), List.mem_of_getElem? (i := 853) (by decide +kernel), List.mem_of_getElem? (i := 854) (by decide +kernel)⟩
theorem lw_p28 : lw_okq (⟨"PocketCompiler$Expressions", "change", "(IIZ)V"⟩, 5) := ⟨⟨by decide +kernel, by decide +kernel⟩, List.mem_of_getElem? (i := 273) (by decide +kernel), List.mem_of_getElem? (i := 860) (by decide +kernel), List.mem_of_getElem? (i := 861) (by decide +kernel)⟩
theorem lw_p29 : lw_okq (⟨"PocketCompiler$Expressions", "changeBy", "(IIIZ)V"⟩, 5) := ⟨⟨by decide +kernel, by decide +kernel⟩, List.mem_of_getElem? (i := 273) (by decide +kernel), List.mem_of_getElem? (i := 864) (by decide +kernel), List.mem_of_getElem? (i := 865) (by decide +kernel)⟩
theorem lw_p30 : lw_okq (⟨"PocketCompiler$Expressions", "read", "(II)V"⟩, 5) := ⟨⟨by decide +kernel, by decide +kernel⟩, List.mem_of_getElem? (i := 273) (by decide +kernel), List.mem_of_getElem? (i := 868) (by decide +kernel), List.mem_of_getElem? (i := 869) (by decide +kernel)⟩
theorem lw_p31 : lw_okq (⟨"PocketCompiler$Expressions", "finishSigns", "(II)V"⟩, 5) := ⟨⟨by decide +kernel, by decide +kernel⟩, List.mem_of_getElem? (i := 273) (by decide +kernel), List.mem_of_getElem? (i := 881) (by decide +kernel), List.mem_of_getElem? (i := 882) (by decide +kernel)⟩
def lw_privs_2 : List (MethodName × Nat) := [(⟨"PocketCompiler$Parser", "newName", "()I"⟩, 7), (⟨"PocketCompiler$Parser", "wantSlot", "()V"⟩, 7), (⟨"PocketCompiler$Parser", "stats", "()V"⟩, 7), (⟨"PocketCompiler$Parser", "stat", "()V"⟩, 7), (⟨"PocketCompiler$Parser", "block", "()V"⟩, 7), (⟨"PocketCompiler$Parser", "local", "()V"⟩, 7), (⟨"PocketCompiler$Expressions", "operand", "(Z)Z"⟩, 5), (⟨"PocketCompiler$Expressions", "unary", "(I)V"⟩, 5), (⟨"PocketCompiler$Expressions", "named", "(Z)Z"⟩, 5), (⟨"PocketCompiler$Expressions", "callFunction", "()V"⟩, 5), (⟨"PocketCompiler$Expressions", "argument", "(II)V"⟩, 5), (⟨"PocketCompiler$Expressions", "index", "(I)V"⟩, 5), (⟨"PocketCompiler$Expressions", "change", "(IIZ)V"⟩, 5), (⟨"PocketCompiler$Expressions", "changeBy", "(IIIZ)V"⟩, 5), (⟨"PocketCompiler$Expressions", "read", "(II)V"⟩, 5), (⟨"PocketCompiler$Expressions", "finishSigns", "(II)V"⟩, 5)]
theorem lw_r2 : ∀ q ∈ lw_privs_2, lw_okq q := List.forall_mem_cons.mpr ⟨lw_p16, List.forall_mem_cons.mpr ⟨lw_p17, List.forall_mem_cons.mpr ⟨lw_p18, List.forall_mem_cons.mpr ⟨lw_p19, List.forall_mem_cons.mpr ⟨lw_p20, List.forall_mem_cons.mpr ⟨lw_p21, List.forall_mem_cons.mpr ⟨lw_p22, List.forall_mem_cons.mpr ⟨lw_p23, List.forall_mem_cons.mpr ⟨lw_p24, List.forall_mem_cons.mpr ⟨lw_p25, List.forall_mem_cons.mpr ⟨lw_p26, List.forall_mem_cons.mpr ⟨lw_p27, List.forall_mem_cons.mpr ⟨lw_p28, List.forall_mem_cons.mpr ⟨lw_p29, List.forall_mem_cons.mpr ⟨lw_p30, List.forall_mem_cons.mpr ⟨lw_p31, fun _ h => absurd h List.not_mem_nil⟩⟩⟩⟩⟩⟩⟩⟩⟩⟩⟩⟩⟩⟩⟩⟩
theorem lw_p32 : lw_okq (⟨"PocketCompiler$Expressions", "beginSign", "(I)V"⟩, 5) := ⟨⟨by decide +kernel, by decide +kernel⟩, List.mem_of_getElem? (i := 273) (by decide +kernel), List.mem_of_getElem? (i := 889) (by decide +kernel), List.mem_of_getElem? (i := 890) (by decide +kernel)⟩
theorem lw_p33 : lw_okq (⟨"PocketCompiler$Expressions", "push", "(II)V"⟩, 5) := ⟨⟨by decide +kernel, by decide +kernel⟩, List.mem_of_getElem? (i := 273) (by decide +kernel), List.mem_of_getElem? (i := 894) (by decide +kernel), List.mem_of_getElem? (i := 895) (by decide +kernel)⟩
theorem lw_p34 : lw_okq (⟨"PocketCompiler$Expressions", "choice", "()V"⟩, 5) := ⟨⟨by decide +kernel, by decide +kernel⟩, List.mem_of_getElem? (i := 273) (by decide +kernel), List.mem_of_getElem? (i := 898) (by decide +kernel), List.mem_of_getElem? (i := 899) (by decide +kernel)⟩
theorem lw_p35 : lw_okq (⟨"PocketCompiler$Parser", "ifStat", "()V"⟩, 7) := ⟨⟨by decide +kernel, by decide +kernel⟩, List.mem_of_getElem? (i := 180) (by decide +kernel), List.mem_of_getElem? (i := 902) (by decide +kernel), List.mem_of_getElem? (i := 903) (by decide +kernel)⟩
theorem lw_p36 : lw_okq (⟨"PocketCompiler$Parser", "condition", "()V"⟩, 7) := ⟨⟨by decide +kernel, by decide +kernel⟩, List.mem_of_getElem? (i := 180) (by decide +kernel), List.mem_of_getElem? (i := 906) (by decide +kernel), List.mem_of_getElem? (i := 907) (by decide +kernel)⟩
theorem lw_p37 : lw_okq (⟨"PocketCompiler$Parser", "innerStat", "()V"⟩, 7) := ⟨⟨by decide +kernel, by decide +kernel⟩, List.mem_of_getElem? (i := 180) (by decide +kernel), List.mem_of_getElem? (i := 910) (by decide +kernel), List.mem_of_getElem? (i := 911) (by decide +kernel)⟩
theorem lw_p38 : lw_okq (⟨"PocketCompiler$Parser", "loopStat", "(I)V"⟩, 7) := ⟨⟨by decide +kernel, by decide +kernel⟩, List.mem_of_getElem? (i := 180) (by decide +kernel), List.mem_of_getElem? (i := 915) (by decide +kernel), List.mem_of_getElem? (i := 916) (by decide +kernel)⟩
theorem lw_p39 : lw_okq (⟨"PocketCompiler$Parser", "whileRest", "()V"⟩, 7) := ⟨⟨by decide +kernel, by decide +kernel⟩, List.mem_of_getElem? (i := 180) (by decide +kernel), List.mem_of_getElem? (i := 919) (by decide +kernel), List.mem_of_getElem? (i := 920) (by decide +kernel)⟩
theorem lw_p40 : lw_okq (⟨"PocketCompiler$Parser", "doRest", "()V"⟩, 7) := ⟨⟨by decide +kernel, by decide +kernel⟩, List.mem_of_getElem? (i := 180) (by decide +kernel), List.mem_of_getElem? (i := 923) (by decide +kernel), List.mem_of_getElem? (i := 924) (by decide +kernel)⟩
theorem lw_p41 : lw_okq (⟨"PocketCompiler$Parser", "forRest", "()V"⟩, 7) := ⟨⟨by decide +kernel, by decide +kernel⟩, List.mem_of_getElem? (i := 180) (by decide +kernel), List.mem_of_getElem? (i := 927) (by decide +kernel), List.mem_of_getElem? (i := 928) (by decide +kernel)⟩
theorem lw_p42 : lw_okq (⟨"PocketCompiler$Parser", "optional", "(I)Z"⟩, 7) := ⟨⟨by decide +kernel, by decide +kernel⟩, List.mem_of_getElem? (i := 180) (by decide +kernel), List.mem_of_getElem? (i := 931) (by decide +kernel), List.mem_of_getElem? (i := 932) (by decide +kernel)⟩
theorem lw_p43 : lw_okq (⟨"PocketCompiler$Parser", "jumpStat", "(I)V"⟩, 7) := ⟨⟨by decide +kernel, by decide +kernel⟩, List.mem_of_getElem? (i := 180) (by decide +kernel), List.mem_of_getElem? (i := 935) (by decide +kernel), List.mem_of_getElem? (i := 936) (by decide +kernel)⟩
theorem lw_p44 : lw_okq (⟨"PocketCompiler$Parser", "returnStat", "()V"⟩, 7) := ⟨⟨by decide +kernel, by decide +kernel⟩, List.mem_of_getElem? (i := 180) (by decide +kernel), List.mem_of_getElem? (i := 939) (by decide +kernel), List.mem_of_getElem? (i := 940) (by decide +kernel)⟩
theorem lw_p45 : lw_okq (⟨"PocketCompiler$Parser", "globalItem", "(I)V"⟩, 7) := ⟨⟨by decide +kernel, by decide +kernel⟩, List.mem_of_getElem? (i := 180) (by decide +kernel), List.mem_of_getElem? (i := 947) (by decide +kernel), List.mem_of_getElem? (i := 948) (by decide +kernel)⟩
theorem lw_p46 : lw_okq (⟨"PocketCompiler$Parser", "rowSize", "()I"⟩, 7) := ⟨⟨by decide +kernel, by decide +kernel⟩, List.mem_of_getElem? (i := 180) (by decide +kernel), List.mem_of_getElem? (i := 955) (by decide +kernel), List.mem_of_getElem? (i := 956) (by decide +kernel)⟩
theorem lw_p47 : lw_okq (⟨"PocketCompiler$Parser", "checkCalls", "()V"⟩, 7) := ⟨⟨by decide +kernel, by decide +kernel⟩, List.mem_of_getElem? (i := 180) (by decide +kernel), List.mem_of_getElem? (i := 959) (by decide +kernel), List.mem_of_getElem? (i := 960) (by decide +kernel)⟩
def lw_privs_3 : List (MethodName × Nat) := [(⟨"PocketCompiler$Expressions", "beginSign", "(I)V"⟩, 5), (⟨"PocketCompiler$Expressions", "push", "(II)V"⟩, 5), (⟨"PocketCompiler$Expressions", "choice", "()V"⟩, 5), (⟨"PocketCompiler$Parser", "ifStat", "()V"⟩, 7), (⟨"PocketCompiler$Parser", "condition", "()V"⟩, 7), (⟨"PocketCompiler$Parser", "innerStat", "()V"⟩, 7), (⟨"PocketCompiler$Parser", "loopStat", "(I)V"⟩, 7), (⟨"PocketCompiler$Parser", "whileRest", "()V"⟩, 7), (⟨"PocketCompiler$Parser", "doRest", "()V"⟩, 7), (⟨"PocketCompiler$Parser", "forRest", "()V"⟩, 7), (⟨"PocketCompiler$Parser", "optional", "(I)Z"⟩, 7), (⟨"PocketCompiler$Parser", "jumpStat", "(I)V"⟩, 7), (⟨"PocketCompiler$Parser", "returnStat", "()V"⟩, 7), (⟨"PocketCompiler$Parser", "globalItem", "(I)V"⟩, 7), (⟨"PocketCompiler$Parser", "rowSize", "()I"⟩, 7), (⟨"PocketCompiler$Parser", "checkCalls", "()V"⟩, 7)]
theorem lw_r3 : ∀ q ∈ lw_privs_3, lw_okq q := List.forall_mem_cons.mpr ⟨lw_p32, List.forall_mem_cons.mpr ⟨lw_p33, List.forall_mem_cons.mpr ⟨lw_p34, List.forall_mem_cons.mpr ⟨lw_p35, List.forall_mem_cons.mpr ⟨lw_p36, List.forall_mem_cons.mpr ⟨lw_p37, List.forall_mem_cons.mpr ⟨lw_p38, List.forall_mem_cons.mpr ⟨lw_p39, List.forall_mem_cons.mpr ⟨lw_p40, List.forall_mem_cons.mpr ⟨lw_p41, List.forall_mem_cons.mpr ⟨lw_p42, List.forall_mem_cons.mpr ⟨lw_p43, List.forall_mem_cons.mpr ⟨lw_p44, List.forall_mem_cons.mpr ⟨lw_p45, List.forall_mem_cons.mpr ⟨lw_p46, List.forall_mem_cons.mpr ⟨lw_p47, fun _ h => absurd h List.not_mem_nil⟩⟩⟩⟩⟩⟩⟩⟩⟩⟩⟩⟩⟩⟩⟩⟩
theorem lw_p48 : lw_okq (⟨"PocketCompiler$Assembler", "layAll", "()V"⟩, 9) := ⟨⟨by decide +kernel, by decide +kernel⟩, List.mem_of_getElem? (i := 318) (by decide +kernel), List.mem_of_getElem? (i := 986) (by decide +kernel), List.mem_of_getElem? (i := 987) (by decide +kernel)⟩
theorem lw_p49 : lw_okq (⟨"PocketCompiler$Assembler", "immediate", "(IIII)V"⟩, 9) := ⟨⟨by decide +kernel, by decide +kernel⟩, List.mem_of_getElem? (i := 318) (by decide +kernel), List.mem_of_getElem? (i := 990) (by decide +kernel), List.mem_of_getElem? (i := 991) (by decide +kernel)⟩
theorem lw_p50 : lw_okq (⟨"PocketCompiler$Assembler", "emit", "(I)V"⟩, 9) := ⟨⟨by decide +kernel, by decide +kernel⟩, List.mem_of_getElem? (i := 318) (by decide +kernel), List.mem_of_getElem? (i := 994) (by decide +kernel), List.mem_of_getElem? (i := 995) (by decide +kernel)⟩
theorem lw_p51 : lw_okq (⟨"PocketCompiler$Assembler", "lay", "(III)V"⟩, 9) := ⟨⟨by decide +kernel, by decide +kernel⟩, List.mem_of_getElem? (i := 318) (by decide +kernel), List.mem_of_getElem? (i := 999) (by decide +kernel), List.mem_of_getElem? (i := 1000) (by decide +kernel)⟩
theorem lw_p52 : lw_okq (⟨"PocketCompiler$Assembler", "layEnter", "(I)V"⟩, 9) := ⟨⟨by decide +kernel, by decide +kernel⟩, List.mem_of_getElem? (i := 318) (by decide +kernel), List.mem_of_getElem? (i := 1003) (by decide +kernel), List.mem_of_getElem? (i := 1004) (by decide +kernel)⟩
theorem lw_p53 : lw_okq (⟨"PocketCompiler$Assembler", "upper", "(II)V"⟩, 9) := ⟨⟨by decide +kernel, by decide +kernel⟩, List.mem_of_getElem? (i := 318) (by decide +kernel), List.mem_of_getElem? (i := 1009) (by decide +kernel), List.mem_of_getElem? (i := 1010) (by decide +kernel)⟩
theorem lw_p54 : lw_okq (⟨"PocketCompiler$Assembler", "branch", "(IIII)V"⟩, 9) := ⟨⟨by decide +kernel, by decide +kernel⟩, List.mem_of_getElem? (i := 318) (by decide +kernel), List.mem_of_getElem? (i := 1019) (by decide +kernel), List.mem_of_getElem? (i := 1020) (by decide +kernel)⟩
theorem lw_p55 : lw_okq (⟨"PocketCompiler$Assembler", "halt", "(I)V"⟩, 9) := ⟨⟨by decide +kernel, by decide +kernel⟩, List.mem_of_getElem? (i := 318) (by decide +kernel), List.mem_of_getElem? (i := 1023) (by decide +kernel), List.mem_of_getElem? (i := 1024) (by decide +kernel)⟩
theorem lw_p56 : lw_okq (⟨"PocketCompiler$Assembler", "storeWord", "(III)V"⟩, 9) := ⟨⟨by decide +kernel, by decide +kernel⟩, List.mem_of_getElem? (i := 318) (by decide +kernel), List.mem_of_getElem? (i := 1027) (by decide +kernel), List.mem_of_getElem? (i := 1028) (by decide +kernel)⟩
theorem lw_p57 : lw_okq (⟨"PocketCompiler$Assembler", "layLeave", "()V"⟩, 9) := ⟨⟨by decide +kernel, by decide +kernel⟩, List.mem_of_getElem? (i := 318) (by decide +kernel), List.mem_of_getElem? (i := 1034) (by decide +kernel), List.mem_of_getElem? (i := 1035) (by decide +kernel)⟩
theorem lw_p58 : lw_okq (⟨"PocketCompiler$Assembler", "layNumber", "(I)V"⟩, 9) := ⟨⟨by decide +kernel, by decide +kernel⟩, List.mem_of_getElem? (i := 318) (by decide +kernel), List.mem_of_getElem? (i := 1038) (by decide +kernel), List.mem_of_getElem? (i := 1039) (by decide +kernel)⟩
theorem lw_p59 : lw_okq (⟨"PocketCompiler$Assembler", "loadSlot", "(II)V"⟩, 9) := ⟨⟨by decide +kernel, by decide +kernel⟩, List.mem_of_getElem? (i := 318) (by decide +kernel), List.mem_of_getElem? (i := 1042) (by decide +kernel), List.mem_of_getElem? (i := 1043) (by decide +kernel)⟩
theorem lw_p60 : lw_okq (⟨"PocketCompiler$Assembler", "storeSlot", "(I)V"⟩, 9) := ⟨⟨by decide +kernel, by decide +kernel⟩, List.mem_of_getElem? (i := 318) (by decide +kernel), List.mem_of_getElem? (i := 1046) (by decide +kernel), List.mem_of_getElem? (i := 1047) (by decide +kernel)⟩
theorem lw_p61 : lw_okq (⟨"PocketCompiler$Assembler", "three", "(IIII)V"⟩, 9) := ⟨⟨by decide +kernel, by decide +kernel⟩, List.mem_of_getElem? (i := 318) (by decide +kernel), List.mem_of_getElem? (i := 1051) (by decide +kernel), List.mem_of_getElem? (i := 1052) (by decide +kernel)⟩
theorem lw_p62 : lw_okq (⟨"PocketCompiler$Assembler", "laySign", "(I)V"⟩, 9) := ⟨⟨by decide +kernel, by decide +kernel⟩, List.mem_of_getElem? (i := 318) (by decide +kernel), List.mem_of_getElem? (i := 1055) (by decide +kernel), List.mem_of_getElem? (i := 1056) (by decide +kernel)⟩
theorem lw_p63 : lw_okq (⟨"PocketCompiler$Assembler", "jump", "(II)V"⟩, 9) := ⟨⟨by decide +kernel, by decide +kernel⟩, List.mem_of_getElem? (i := 318) (by decide +kernel), List.mem_of_getElem? (i := 1060) (by decide +kernel), List.mem_of_getElem? (i := 1061) (by decide +kernel)⟩
def lw_privs_4 : List (MethodName × Nat) := [(⟨"PocketCompiler$Assembler", "layAll", "()V"⟩, 9), (⟨"PocketCompiler$Assembler", "immediate", "(IIII)V"⟩, 9), (⟨"PocketCompiler$Assembler", "emit", "(I)V"⟩, 9), (⟨"PocketCompiler$Assembler", "lay", "(III)V"⟩, 9), (⟨"PocketCompiler$Assembler", "layEnter", "(I)V"⟩, 9), (⟨"PocketCompiler$Assembler", "upper", "(II)V"⟩, 9), (⟨"PocketCompiler$Assembler", "branch", "(IIII)V"⟩, 9), (⟨"PocketCompiler$Assembler", "halt", "(I)V"⟩, 9), (⟨"PocketCompiler$Assembler", "storeWord", "(III)V"⟩, 9), (⟨"PocketCompiler$Assembler", "layLeave", "()V"⟩, 9), (⟨"PocketCompiler$Assembler", "layNumber", "(I)V"⟩, 9), (⟨"PocketCompiler$Assembler", "loadSlot", "(II)V"⟩, 9), (⟨"PocketCompiler$Assembler", "storeSlot", "(I)V"⟩, 9), (⟨"PocketCompiler$Assembler", "three", "(IIII)V"⟩, 9), (⟨"PocketCompiler$Assembler", "laySign", "(I)V"⟩, 9), (⟨"PocketCompiler$Assembler", "jump", "(II)V"⟩, 9)]
theorem lw_r4 : ∀ q ∈ lw_privs_4, lw_okq q := List.forall_mem_cons.mpr ⟨lw_p48, List.forall_mem_cons.mpr ⟨lw_p49, List.forall_mem_cons.mpr ⟨lw_p50, List.forall_mem_cons.mpr ⟨lw_p51, List.forall_mem_cons.mpr ⟨lw_p52, List.forall_mem_cons.mpr ⟨lw_p53, List.forall_mem_cons.mpr ⟨lw_p54, List.forall_mem_cons.mpr ⟨lw_p55, List.forall_mem_cons.mpr ⟨lw_p56, List.forall_mem_cons.mpr ⟨lw_p57, List.forall_mem_cons.mpr ⟨lw_p58, List.forall_mem_cons.mpr ⟨lw_p59, List.forall_mem_cons.mpr ⟨lw_p60, List.forall_mem_cons.mpr ⟨lw_p61, List.forall_mem_cons.mpr ⟨lw_p62, List.forall_mem_cons.mpr ⟨lw_p63, fun _ h => absurd h List.not_mem_nil⟩⟩⟩⟩⟩⟩⟩⟩⟩⟩⟩⟩⟩⟩⟩⟩
theorem lw_p64 : lw_okq (⟨"PocketCompiler$Assembler", "layComparison", "(I)V"⟩, 9) := ⟨⟨by decide +kernel, by decide +kernel⟩, List.mem_of_getElem? (i := 318) (by decide +kernel), List.mem_of_getElem? (i := 1064) (by decide +kernel), List.mem_of_getElem? (i := 1065) (by decide +kernel)⟩
theorem lw_p65 : lw_okq (⟨"PocketCompiler$Assembler", "layCall", "(II)V"⟩, 9) := ⟨⟨by decide +kernel, by decide +kernel⟩, List.mem_of_getElem? (i := 318) (by decide +kernel), List.mem_of_getElem? (i := 1068) (by decide +kernel), List.mem_of_getElem? (i := 1069) (by decide +kernel)⟩
theorem lw_p66 : lw_okq (⟨"PocketCompiler$Assembler", "outside", "(I)V"⟩, 9) := ⟨⟨by decide +kernel, by decide +kernel⟩, List.mem_of_getElem? (i := 318) (by decide +kernel), List.mem_of_getElem? (i := 1072) (by decide +kernel), List.mem_of_getElem? (i := 1073) (by decide +kernel)⟩
theorem lw_p67 : lw_okq (⟨"PocketCompiler$Assembler", "layJump", "(II)V"⟩, 9) := ⟨⟨by decide +kernel, by decide +kernel⟩, List.mem_of_getElem? (i := 318) (by decide +kernel), List.mem_of_getElem? (i := 1076) (by decide +kernel), List.mem_of_getElem? (i := 1077) (by decide +kernel)⟩
theorem lw_p68 : lw_okq (⟨"PocketCompiler$Assembler", "addressOfDeed", "(I)I"⟩, 9) := ⟨⟨by decide +kernel, by decide +kernel⟩, List.mem_of_getElem? (i := 318) (by decide +kernel), List.mem_of_getElem? (i := 1080) (by decide +kernel), List.mem_of_getElem? (i := 1081) (by decide +kernel)⟩
theorem lw_p69 : lw_okq (⟨"PocketCompiler$Assembler", "layPlace", "(III)V"⟩, 9) := ⟨⟨by decide +kernel, by decide +kernel⟩, List.mem_of_getElem? (i := 318) (by decide +kernel), List.mem_of_getElem? (i := 1084) (by decide +kernel), List.mem_of_getElem? (i := 1085) (by decide +kernel)⟩
theorem lw_p70 : lw_okq (⟨"PocketCompiler$Assembler", "addressOfGlobal", "(I)I"⟩, 9) := ⟨⟨by decide +kernel, by decide +kernel⟩, List.mem_of_getElem? (i := 318) (by decide +kernel), List.mem_of_getElem? (i := 1088) (by decide +kernel), List.mem_of_getElem? (i := 1089) (by decide +kernel)⟩
theorem lw_p71 : lw_okq (⟨"PocketCompiler$Assembler", "layIndex", "(II)V"⟩, 9) := ⟨⟨by decide +kernel, by decide +kernel⟩, List.mem_of_getElem? (i := 318) (by decide +kernel), List.mem_of_getElem? (i := 1093) (by decide +kernel), List.mem_of_getElem? (i := 1094) (by decide +kernel)⟩
theorem lw_p72 : lw_okq (⟨"PocketCompiler$Assembler", "layTimes", "()V"⟩, 9) := ⟨⟨by decide +kernel, by decide +kernel⟩, List.mem_of_getElem? (i := 318) (by decide +kernel), List.mem_of_getElem? (i := 1097) (by decide +kernel), List.mem_of_getElem? (i := 1098) (by decide +kernel)⟩
theorem lw_p73 : lw_okq (⟨"PocketCompiler$Assembler", "layOver", "()V"⟩, 9) := ⟨⟨by decide +kernel, by decide +kernel⟩, List.mem_of_getElem? (i := 318) (by decide +kernel), List.mem_of_getElem? (i := 1101) (by decide +kernel), List.mem_of_getElem? (i := 1102) (by decide +kernel)⟩
theorem lw_p74 : lw_okq (⟨"PocketCompiler$Assembler", "placeGlobals", "()V"⟩, 9) := ⟨⟨by decide +kernel, by decide +kernel⟩, List.mem_of_getElem? (i := 318) (by decide +kernel), List.mem_of_getElem? (i := 1105) (by decide +kernel), List.mem_of_getElem? (i := 1106) (by decide +kernel)⟩
theorem lw_p75 : lw_okq (⟨"PocketCompiler", "tapeNumber", "(I)V"⟩, 12) := ⟨⟨by decide +kernel, by decide +kernel⟩, List.mem_of_getElem? (i := 36) (by decide +kernel), List.mem_of_getElem? (i := 1151) (by decide +kernel), List.mem_of_getElem? (i := 1152) (by decide +kernel)⟩
theorem lw_p76 : lw_okq (⟨"PocketCompiler$Processor", "write", "(II)V"⟩, 9) := ⟨⟨by decide +kernel, by decide +kernel⟩, List.mem_of_getElem? (i := 352) (by decide +kernel), List.mem_of_getElem? (i := 1224) (by decide +kernel), List.mem_of_getElem? (i := 1225) (by decide +kernel)⟩
theorem lw_p77 : lw_okq (⟨"PocketCompiler$Processor", "perform", "(II)V"⟩, 9) := ⟨⟨by decide +kernel, by decide +kernel⟩, List.mem_of_getElem? (i := 352) (by decide +kernel), List.mem_of_getElem? (i := 1268) (by decide +kernel), List.mem_of_getElem? (i := 1269) (by decide +kernel)⟩
theorem lw_p78 : lw_okq (⟨"PocketCompiler$Processor", "jump", "(II)V"⟩, 9) := ⟨⟨by decide +kernel, by decide +kernel⟩, List.mem_of_getElem? (i := 352) (by decide +kernel), List.mem_of_getElem? (i := 1289) (by decide +kernel), List.mem_of_getElem? (i := 1290) (by decide +kernel)⟩
theorem lw_p79 : lw_okq (⟨"PocketCompiler$Processor", "branch", "(ZI)V"⟩, 9) := ⟨⟨by decide +kernel, by decide +kernel⟩, List.mem_of_getElem? (i := 352) (by decide +kernel), List.mem_of_getElem? (i := 1293) (by decide +kernel), List.mem_of_getElem? (i := 1294) (by decide +kernel)⟩
def lw_privs_5 : List (MethodName × Nat) := [(⟨"PocketCompiler$Assembler", "layComparison", "(I)V"⟩, 9), (⟨"PocketCompiler$Assembler", "layCall", "(II)V"⟩, 9), (⟨"PocketCompiler$Assembler", "outside", "(I)V"⟩, 9), (⟨"PocketCompiler$Assembler", "layJump", "(II)V"⟩, 9), (⟨"PocketCompiler$Assembler", "addressOfDeed", "(I)I"⟩, 9), (⟨"PocketCompiler$Assembler", "layPlace", "(III)V"⟩, 9), (⟨"PocketCompiler$Assembler", "addressOfGlobal", "(I)I"⟩, 9), (⟨"PocketCompiler$Assembler", "layIndex", "(II)V"⟩, 9), (⟨"PocketCompiler$Assembler", "layTimes", "()V"⟩, 9), (⟨"PocketCompiler$Assembler", "layOver", "()V"⟩, 9), (⟨"PocketCompiler$Assembler", "placeGlobals", "()V"⟩, 9), (⟨"PocketCompiler", "tapeNumber", "(I)V"⟩, 12), (⟨"PocketCompiler$Processor", "write", "(II)V"⟩, 9), (⟨"PocketCompiler$Processor", "perform", "(II)V"⟩, 9), (⟨"PocketCompiler$Processor", "jump", "(II)V"⟩, 9), (⟨"PocketCompiler$Processor", "branch", "(ZI)V"⟩, 9)]
theorem lw_r5 : ∀ q ∈ lw_privs_5, lw_okq q := List.forall_mem_cons.mpr ⟨lw_p64, List.forall_mem_cons.mpr ⟨lw_p65, List.forall_mem_cons.mpr ⟨lw_p66, List.forall_mem_cons.mpr ⟨lw_p67, List.forall_mem_cons.mpr ⟨lw_p68, List.forall_mem_cons.mpr ⟨lw_p69, List.forall_mem_cons.mpr ⟨lw_p70, List.forall_mem_cons.mpr ⟨lw_p71, List.forall_mem_cons.mpr ⟨lw_p72, List.forall_mem_cons.mpr ⟨lw_p73, List.forall_mem_cons.mpr ⟨lw_p74, List.forall_mem_cons.mpr ⟨lw_p75, List.forall_mem_cons.mpr ⟨lw_p76, List.forall_mem_cons.mpr ⟨lw_p77, List.forall_mem_cons.mpr ⟨lw_p78, List.forall_mem_cons.mpr ⟨lw_p79, fun _ h => absurd h List.not_mem_nil⟩⟩⟩⟩⟩⟩⟩⟩⟩⟩⟩⟩⟩⟩⟩⟩
theorem lw_p80 : lw_okq (⟨"PocketCompiler$Processor", "fetch", "(III)V"⟩, 9) := ⟨⟨by decide +kernel, by decide +kernel⟩, List.mem_of_getElem? (i := 352) (by decide +kernel), List.mem_of_getElem? (i := 1310) (by decide +kernel), List.mem_of_getElem? (i := 1311) (by decide +kernel)⟩
theorem lw_p81 : lw_okq (⟨"PocketCompiler$Processor", "isReached", "(II)Z"⟩, 9) := ⟨⟨by decide +kernel, by decide +kernel⟩, List.mem_of_getElem? (i := 352) (by decide +kernel), List.mem_of_getElem? (i := 1317) (by decide +kernel), List.mem_of_getElem? (i := 1318) (by decide +kernel)⟩
theorem lw_p82 : lw_okq (⟨"PocketCompiler$Processor", "store", "(III)V"⟩, 9) := ⟨⟨by decide +kernel, by decide +kernel⟩, List.mem_of_getElem? (i := 352) (by decide +kernel), List.mem_of_getElem? (i := 1322) (by decide +kernel), List.mem_of_getElem? (i := 1323) (by decide +kernel)⟩
theorem lw_p83 : lw_okq (⟨"PocketCompiler$Processor", "service", "()V"⟩, 9) := ⟨⟨by decide +kernel, by decide +kernel⟩, List.mem_of_getElem? (i := 352) (by decide +kernel), List.mem_of_getElem? (i := 1332) (by decide +kernel), List.mem_of_getElem? (i := 1333) (by decide +kernel)⟩
theorem lw_p84 : lw_okq (⟨"PocketCompiler$Shower", "addName", "(I)V"⟩, 1) := ⟨⟨by decide +kernel, by decide +kernel⟩, List.mem_of_getElem? (i := 62) (by decide +kernel), List.mem_of_getElem? (i := 1621) (by decide +kernel), List.mem_of_getElem? (i := 1622) (by decide +kernel)⟩
theorem lw_p85 : lw_okq (⟨"PocketCompiler$Shower", "addHex", "(I)V"⟩, 1) := ⟨⟨by decide +kernel, by decide +kernel⟩, List.mem_of_getElem? (i := 62) (by decide +kernel), List.mem_of_getElem? (i := 1641) (by decide +kernel), List.mem_of_getElem? (i := 1642) (by decide +kernel)⟩
theorem lw_p86 : lw_okq (⟨"PocketCompiler$Shower", "addOperands", "(II)V"⟩, 1) := ⟨⟨by decide +kernel, by decide +kernel⟩, List.mem_of_getElem? (i := 62) (by decide +kernel), List.mem_of_getElem? (i := 1648) (by decide +kernel), List.mem_of_getElem? (i := 1649) (by decide +kernel)⟩
theorem lw_p87 : lw_okq (⟨"PocketCompiler$Shower", "addPair", "(II)V"⟩, 1) := ⟨⟨by decide +kernel, by decide +kernel⟩, List.mem_of_getElem? (i := 62) (by decide +kernel), List.mem_of_getElem? (i := 1656) (by decide +kernel), List.mem_of_getElem? (i := 1657) (by decide +kernel)⟩
theorem lw_p88 : lw_okq (⟨"PocketCompiler$Shower", "addRegister", "(I)V"⟩, 1) := ⟨⟨by decide +kernel, by decide +kernel⟩, List.mem_of_getElem? (i := 62) (by decide +kernel), List.mem_of_getElem? (i := 1660) (by decide +kernel), List.mem_of_getElem? (i := 1661) (by decide +kernel)⟩
theorem lw_p89 : lw_okq (⟨"PocketCompiler$Shower", "addReach", "(III)V"⟩, 1) := ⟨⟨by decide +kernel, by decide +kernel⟩, List.mem_of_getElem? (i := 62) (by decide +kernel), List.mem_of_getElem? (i := 1666) (by decide +kernel), List.mem_of_getElem? (i := 1667) (by decide +kernel)⟩
theorem lw_p90 : lw_okq (⟨"PocketCompiler", "checkAddress", "(I)V"⟩, 12) := ⟨⟨by decide +kernel, by decide +kernel⟩, List.mem_of_getElem? (i := 36) (by decide +kernel), List.mem_of_getElem? (i := 1786) (by decide +kernel), List.mem_of_getElem? (i := 1787) (by decide +kernel)⟩
theorem lw_p91 : lw_okq (⟨"PocketCompiler$Worker", "enter", "(II)V"⟩, 17) := ⟨⟨by decide +kernel, by decide +kernel⟩, List.mem_of_getElem? (i := 391) (by decide +kernel), List.mem_of_getElem? (i := 1845) (by decide +kernel), List.mem_of_getElem? (i := 1846) (by decide +kernel)⟩
theorem lw_p92 : lw_okq (⟨"PocketCompiler$Worker", "takeTurn", "()V"⟩, 17) := ⟨⟨by decide +kernel, by decide +kernel⟩, List.mem_of_getElem? (i := 391) (by decide +kernel), List.mem_of_getElem? (i := 1849) (by decide +kernel), List.mem_of_getElem? (i := 1850) (by decide +kernel)⟩
theorem lw_p93 : lw_okq (⟨"PocketCompiler$Worker", "changeFrameWord", "(II)V"⟩, 17) := ⟨⟨by decide +kernel, by decide +kernel⟩, List.mem_of_getElem? (i := 391) (by decide +kernel), List.mem_of_getElem? (i := 1853) (by decide +kernel), List.mem_of_getElem? (i := 1854) (by decide +kernel)⟩
theorem lw_p94 : lw_okq (⟨"PocketCompiler$Worker", "changeSlot", "(II)V"⟩, 17) := ⟨⟨by decide +kernel, by decide +kernel⟩, List.mem_of_getElem? (i := 391) (by decide +kernel), List.mem_of_getElem? (i := 1858) (by decide +kernel), List.mem_of_getElem? (i := 1859) (by decide +kernel)⟩
theorem lw_p95 : lw_okq (⟨"PocketCompiler$Worker", "placeOfSlot", "(I)I"⟩, 17) := ⟨⟨by decide +kernel, by decide +kernel⟩, List.mem_of_getElem? (i := 391) (by decide +kernel), List.mem_of_getElem? (i := 1862) (by decide +kernel), List.mem_of_getElem? (i := 1863) (by decide +kernel)⟩
def lw_privs_6 : List (MethodName × Nat) := [(⟨"PocketCompiler$Processor", "fetch", "(III)V"⟩, 9), (⟨"PocketCompiler$Processor", "isReached", "(II)Z"⟩, 9), (⟨"PocketCompiler$Processor", "store", "(III)V"⟩, 9), (⟨"PocketCompiler$Processor", "service", "()V"⟩, 9), (⟨"PocketCompiler$Shower", "addName", "(I)V"⟩, 1), (⟨"PocketCompiler$Shower", "addHex", "(I)V"⟩, 1), (⟨"PocketCompiler$Shower", "addOperands", "(II)V"⟩, 1), (⟨"PocketCompiler$Shower", "addPair", "(II)V"⟩, 1), (⟨"PocketCompiler$Shower", "addRegister", "(I)V"⟩, 1), (⟨"PocketCompiler$Shower", "addReach", "(III)V"⟩, 1), (⟨"PocketCompiler", "checkAddress", "(I)V"⟩, 12), (⟨"PocketCompiler$Worker", "enter", "(II)V"⟩, 17), (⟨"PocketCompiler$Worker", "takeTurn", "()V"⟩, 17), (⟨"PocketCompiler$Worker", "changeFrameWord", "(II)V"⟩, 17), (⟨"PocketCompiler$Worker", "changeSlot", "(II)V"⟩, 17), (⟨"PocketCompiler$Worker", "placeOfSlot", "(I)I"⟩, 17)]
theorem lw_r6 : ∀ q ∈ lw_privs_6, lw_okq q := List.forall_mem_cons.mpr ⟨lw_p80, List.forall_mem_cons.mpr ⟨lw_p81, List.forall_mem_cons.mpr ⟨lw_p82, List.forall_mem_cons.mpr ⟨lw_p83, List.forall_mem_cons.mpr ⟨lw_p84, List.forall_mem_cons.mpr ⟨lw_p85, List.forall_mem_cons.mpr ⟨lw_p86, List.forall_mem_cons.mpr ⟨lw_p87, List.forall_mem_cons.mpr ⟨lw_p88, List.forall_mem_cons.mpr ⟨lw_p89, List.forall_mem_cons.mpr ⟨lw_p90, List.forall_mem_cons.mpr ⟨lw_p91, List.forall_mem_cons.mpr ⟨lw_p92, List.forall_mem_cons.mpr ⟨lw_p93, List.forall_mem_cons.mpr ⟨lw_p94, List.forall_mem_cons.mpr ⟨lw_p95, fun _ h => absurd h List.not_mem_nil⟩⟩⟩⟩⟩⟩⟩⟩⟩⟩⟩⟩⟩⟩⟩⟩
theorem lw_p96 : lw_okq (⟨"PocketCompiler$Worker", "doDeed", "()V"⟩, 17) := ⟨⟨by decide +kernel, by decide +kernel⟩, List.mem_of_getElem? (i := 391) (by decide +kernel), List.mem_of_getElem? (i := 1867) (by decide +kernel), List.mem_of_getElem? (i := 1868) (by decide +kernel)⟩
theorem lw_p97 : lw_okq (⟨"PocketCompiler$Worker", "leaveFunction", "()V"⟩, 17) := ⟨⟨by decide +kernel, by decide +kernel⟩, List.mem_of_getElem? (i := 391) (by decide +kernel), List.mem_of_getElem? (i := 1871) (by decide +kernel), List.mem_of_getElem? (i := 1872) (by decide +kernel)⟩
theorem lw_p98 : lw_okq (⟨"PocketCompiler$Worker", "frameWord", "(I)I"⟩, 17) := ⟨⟨by decide +kernel, by decide +kernel⟩, List.mem_of_getElem? (i := 391) (by decide +kernel), List.mem_of_getElem? (i := 1875) (by decide +kernel), List.mem_of_getElem? (i := 1876) (by decide +kernel)⟩
theorem lw_p99 : lw_okq (⟨"PocketCompiler$Worker", "slotAt", "(I)I"⟩, 17) := ⟨⟨by decide +kernel, by decide +kernel⟩, List.mem_of_getElem? (i := 391) (by decide +kernel), List.mem_of_getElem? (i := 1879) (by decide +kernel), List.mem_of_getElem? (i := 1880) (by decide +kernel)⟩
theorem lw_p100 : lw_okq (⟨"PocketCompiler$Worker", "join", "(II)V"⟩, 17) := ⟨⟨by decide +kernel, by decide +kernel⟩, List.mem_of_getElem? (i := 391) (by decide +kernel), List.mem_of_getElem? (i := 1883) (by decide +kernel), List.mem_of_getElem? (i := 1884) (by decide +kernel)⟩
theorem lw_p101 : lw_okq (⟨"PocketCompiler$Worker", "divide", "(ZI)V"⟩, 17) := ⟨⟨by decide +kernel, by decide +kernel⟩, List.mem_of_getElem? (i := 391) (by decide +kernel), List.mem_of_getElem? (i := 1887) (by decide +kernel), List.mem_of_getElem? (i := 1888) (by decide +kernel)⟩
theorem lw_p102 : lw_okq (⟨"PocketCompiler$Worker", "callFunction", "(II)V"⟩, 17) := ⟨⟨by decide +kernel, by decide +kernel⟩, List.mem_of_getElem? (i := 391) (by decide +kernel), List.mem_of_getElem? (i := 1894) (by decide +kernel), List.mem_of_getElem? (i := 1895) (by decide +kernel)⟩
theorem lw_p103 : lw_okq (⟨"PocketCompiler$Worker", "putHand", "()V"⟩, 17) := ⟨⟨by decide +kernel, by decide +kernel⟩, List.mem_of_getElem? (i := 391) (by decide +kernel), List.mem_of_getElem? (i := 1898) (by decide +kernel), List.mem_of_getElem? (i := 1899) (by decide +kernel)⟩
theorem lw_p104 : lw_okq (⟨"PocketCompiler$Worker", "doJump", "(II)V"⟩, 17) := ⟨⟨by decide +kernel, by decide +kernel⟩, List.mem_of_getElem? (i := 391) (by decide +kernel), List.mem_of_getElem? (i := 1903) (by decide +kernel), List.mem_of_getElem? (i := 1904) (by decide +kernel)⟩
theorem lw_p105 : lw_okq (⟨"PocketCompiler$Worker", "doPlace", "(III)V"⟩, 17) := ⟨⟨by decide +kernel, by decide +kernel⟩, List.mem_of_getElem? (i := 391) (by decide +kernel), List.mem_of_getElem? (i := 1907) (by decide +kernel), List.mem_of_getElem? (i := 1908) (by decide +kernel)⟩
theorem lw_p106 : lw_okq (⟨"PocketCompiler$Worker", "changeCell", "(II)V"⟩, 17) := ⟨⟨by decide +kernel, by decide +kernel⟩, List.mem_of_getElem? (i := 391) (by decide +kernel), List.mem_of_getElem? (i := 1919) (by decide +kernel), List.mem_of_getElem? (i := 1920) (by decide +kernel)⟩
theorem lw_p107 : lw_okq (⟨"PocketCompiler$Worker", "index", "(I)V"⟩, 17) := ⟨⟨by decide +kernel, by decide +kernel⟩, List.mem_of_getElem? (i := 391) (by decide +kernel), List.mem_of_getElem? (i := 1923) (by decide +kernel), List.mem_of_getElem? (i := 1924) (by decide +kernel)⟩
theorem lw_p108 : lw_okq (⟨"PocketCompilerModel", "four", "(I)V"⟩, 124) := ⟨⟨by decide +kernel, by decide +kernel⟩, List.mem_of_getElem? (i := 1955) (by decide +kernel), List.mem_of_getElem? (i := 1953) (by decide +kernel), List.mem_of_getElem? (i := 1954) (by decide +kernel)⟩
theorem lw_p109 : lw_okq (⟨"PocketCompilerModel", "cut", "()V"⟩, 124) := ⟨⟨by decide +kernel, by decide +kernel⟩, List.mem_of_getElem? (i := 1955) (by decide +kernel), List.mem_of_getElem? (i := 1992) (by decide +kernel), List.mem_of_getElem? (i := 1993) (by decide +kernel)⟩
theorem lw_p110 : lw_okq (⟨"PocketCompilerModel", "at", "(I)I"⟩, 124) := ⟨⟨by decide +kernel, by decide +kernel⟩, List.mem_of_getElem? (i := 1955) (by decide +kernel), List.mem_of_getElem? (i := 1999) (by decide +kernel), List.mem_of_getElem? (i := 2000) (by decide +kernel)⟩
theorem lw_p111 : lw_okq (⟨"PocketCompilerModel", "token", "(I)I"⟩, 124) := ⟨⟨by decide +kernel, by decide +kernel⟩, List.mem_of_getElem? (i := 1955) (by decide +kernel), List.mem_of_getElem? (i := 2003) (by decide +kernel), List.mem_of_getElem? (i := 2004) (by decide +kernel)⟩
def lw_privs_7 : List (MethodName × Nat) := [(⟨"PocketCompiler$Worker", "doDeed", "()V"⟩, 17), (⟨"PocketCompiler$Worker", "leaveFunction", "()V"⟩, 17), (⟨"PocketCompiler$Worker", "frameWord", "(I)I"⟩, 17), (⟨"PocketCompiler$Worker", "slotAt", "(I)I"⟩, 17), (⟨"PocketCompiler$Worker", "join", "(II)V"⟩, 17), (⟨"PocketCompiler$Worker", "divide", "(ZI)V"⟩, 17), (⟨"PocketCompiler$Worker", "callFunction", "(II)V"⟩, 17), (⟨"PocketCompiler$Worker", "putHand", "()V"⟩, 17), (⟨"PocketCompiler$Worker", "doJump", "(II)V"⟩, 17), (⟨"PocketCompiler$Worker", "doPlace", "(III)V"⟩, 17), (⟨"PocketCompiler$Worker", "changeCell", "(II)V"⟩, 17), (⟨"PocketCompiler$Worker", "index", "(I)V"⟩, 17), (⟨"PocketCompilerModel", "four", "(I)V"⟩, 124), (⟨"PocketCompilerModel", "cut", "()V"⟩, 124), (⟨"PocketCompilerModel", "at", "(I)I"⟩, 124), (⟨"PocketCompilerModel", "token", "(I)I"⟩, 124)]
theorem lw_r7 : ∀ q ∈ lw_privs_7, lw_okq q := List.forall_mem_cons.mpr ⟨lw_p96, List.forall_mem_cons.mpr ⟨lw_p97, List.forall_mem_cons.mpr ⟨lw_p98, List.forall_mem_cons.mpr ⟨lw_p99, List.forall_mem_cons.mpr ⟨lw_p100, List.forall_mem_cons.mpr ⟨lw_p101, List.forall_mem_cons.mpr ⟨lw_p102, List.forall_mem_cons.mpr ⟨lw_p103, List.forall_mem_cons.mpr ⟨lw_p104, List.forall_mem_cons.mpr ⟨lw_p105, List.forall_mem_cons.mpr ⟨lw_p106, List.forall_mem_cons.mpr ⟨lw_p107, List.forall_mem_cons.mpr ⟨lw_p108, List.forall_mem_cons.mpr ⟨lw_p109, List.forall_mem_cons.mpr ⟨lw_p110, List.forall_mem_cons.mpr ⟨lw_p111, fun _ h => absurd h List.not_mem_nil⟩⟩⟩⟩⟩⟩⟩⟩⟩⟩⟩⟩⟩⟩⟩⟩
theorem lw_p112 : lw_okq (⟨"PocketCompilerModel", "number", "(I)I"⟩, 124) := ⟨⟨by decide +kernel, by decide +kernel⟩, List.mem_of_getElem? (i := 1955) (by decide +kernel), List.mem_of_getElem? (i := 2010) (by decide +kernel), List.mem_of_getElem? (i := 2011) (by decide +kernel)⟩
theorem lw_p113 : lw_okq (⟨"PocketCompilerModel", "wordOf", "(Ljava/lang/String;II)I"⟩, 124) := ⟨⟨by decide +kernel, by decide +kernel⟩, List.mem_of_getElem? (i := 1955) (by decide +kernel), List.mem_of_getElem? (i := 2024) (by decide +kernel), List.mem_of_getElem? (i := 2025) (by decide +kernel)⟩
theorem lw_p114 : lw_okq (⟨"PocketCompilerModel", "sign", "(I)I"⟩, 124) := ⟨⟨by decide +kernel, by decide +kernel⟩, List.mem_of_getElem? (i := 1955) (by decide +kernel), List.mem_of_getElem? (i := 2030) (by decide +kernel), List.mem_of_getElem? (i := 2031) (by decide +kernel)⟩
theorem lw_p115 : lw_okq (⟨"PocketCompilerModel", "walk", "()V"⟩, 124) := ⟨⟨by decide +kernel, by decide +kernel⟩, List.mem_of_getElem? (i := 1955) (by decide +kernel), List.mem_of_getElem? (i := 2035) (by decide +kernel), List.mem_of_getElem? (i := 2036) (by decide +kernel)⟩
theorem lw_p116 : lw_okq (⟨"PocketCompilerModel", "emit", "(I)I"⟩, 124) := ⟨⟨by decide +kernel, by decide +kernel⟩, List.mem_of_getElem? (i := 1955) (by decide +kernel), List.mem_of_getElem? (i := 2045) (by decide +kernel), List.mem_of_getElem? (i := 2046) (by decide +kernel)⟩
theorem lw_p117 : lw_okq (⟨"PocketCompilerModel", "item", "()V"⟩, 124) := ⟨⟨by decide +kernel, by decide +kernel⟩, List.mem_of_getElem? (i := 1955) (by decide +kernel), List.mem_of_getElem? (i := 2050) (by decide +kernel), List.mem_of_getElem? (i := 2051) (by decide +kernel)⟩
theorem lw_p118 : lw_okq (⟨"PocketCompilerModel", "isKey", "(I)Z"⟩, 124) := ⟨⟨by decide +kernel, by decide +kernel⟩, List.mem_of_getElem? (i := 1955) (by decide +kernel), List.mem_of_getElem? (i := 2054) (by decide +kernel), List.mem_of_getElem? (i := 2055) (by decide +kernel)⟩
theorem lw_p119 : lw_okq (⟨"PocketCompilerModel", "bad", "()LPocketCompilerModel$Halt;"⟩, 124) := ⟨⟨by decide +kernel, by decide +kernel⟩, List.mem_of_getElem? (i := 1955) (by decide +kernel), List.mem_of_getElem? (i := 2058) (by decide +kernel), List.mem_of_getElem? (i := 2059) (by decide +kernel)⟩
theorem lw_p120 : lw_okq (⟨"PocketCompilerModel", "fail", "(II)LPocketCompilerModel$Halt;"⟩, 124) := ⟨⟨by decide +kernel, by decide +kernel⟩, List.mem_of_getElem? (i := 1955) (by decide +kernel), List.mem_of_getElem? (i := 2062) (by decide +kernel), List.mem_of_getElem? (i := 2063) (by decide +kernel)⟩
theorem lw_p121 : lw_okq (⟨"PocketCompilerModel", "take", "()V"⟩, 124) := ⟨⟨by decide +kernel, by decide +kernel⟩, List.mem_of_getElem? (i := 1955) (by decide +kernel), List.mem_of_getElem? (i := 2066) (by decide +kernel), List.mem_of_getElem? (i := 2067) (by decide +kernel)⟩
theorem lw_p122 : lw_okq (⟨"PocketCompilerModel", "globalOf", "(I)I"⟩, 124) := ⟨⟨by decide +kernel, by decide +kernel⟩, List.mem_of_getElem? (i := 1955) (by decide +kernel), List.mem_of_getElem? (i := 2070) (by decide +kernel), List.mem_of_getElem? (i := 2071) (by decide +kernel)⟩
theorem lw_p123 : lw_okq (⟨"PocketCompilerModel", "isSame", "(II)Z"⟩, 124) := ⟨⟨by decide +kernel, by decide +kernel⟩, List.mem_of_getElem? (i := 1955) (by decide +kernel), List.mem_of_getElem? (i := 2074) (by decide +kernel), List.mem_of_getElem? (i := 2075) (by decide +kernel)⟩
theorem lw_p124 : lw_okq (⟨"PocketCompilerModel", "functionOf", "(I)I"⟩, 124) := ⟨⟨by decide +kernel, by decide +kernel⟩, List.mem_of_getElem? (i := 1955) (by decide +kernel), List.mem_of_getElem? (i := 2078) (by decide +kernel), List.mem_of_getElem? (i := 2079) (by decide +kernel)⟩
theorem lw_p125 : lw_okq (⟨"PocketCompilerModel", "isSign", "(II)Z"⟩, 124) := ⟨⟨by decide +kernel, by decide +kernel⟩, List.mem_of_getElem? (i := 1955) (by decide +kernel), List.mem_of_getElem? (i := 2082) (by decide +kernel), List.mem_of_getElem? (i := 2083) (by decide +kernel)⟩
theorem lw_p126 : lw_okq (⟨"PocketCompilerModel", "function0", "(I)V"⟩, 124) := ⟨⟨by decide +kernel, by decide +kernel⟩, List.mem_of_getElem? (i := 1955) (by decide +kernel), List.mem_of_getElem? (i := 2086) (by decide +kernel), List.mem_of_getElem? (i := 2087) (by decide +kernel)⟩
theorem lw_p127 : lw_okq (⟨"PocketCompilerModel", "open", "(I)V"⟩, 124) := ⟨⟨by decide +kernel, by decide +kernel⟩, List.mem_of_getElem? (i := 1955) (by decide +kernel), List.mem_of_getElem? (i := 2090) (by decide +kernel), List.mem_of_getElem? (i := 2091) (by decide +kernel)⟩
def lw_privs_8 : List (MethodName × Nat) := [(⟨"PocketCompilerModel", "number", "(I)I"⟩, 124), (⟨"PocketCompilerModel", "wordOf", "(Ljava/lang/String;II)I"⟩, 124), (⟨"PocketCompilerModel", "sign", "(I)I"⟩, 124), (⟨"PocketCompilerModel", "walk", "()V"⟩, 124), (⟨"PocketCompilerModel", "emit", "(I)I"⟩, 124), (⟨"PocketCompilerModel", "item", "()V"⟩, 124), (⟨"PocketCompilerModel", "isKey", "(I)Z"⟩, 124), (⟨"PocketCompilerModel", "bad", "()LPocketCompilerModel$Halt;"⟩, 124), (⟨"PocketCompilerModel", "fail", "(II)LPocketCompilerModel$Halt;"⟩, 124), (⟨"PocketCompilerModel", "take", "()V"⟩, 124), (⟨"PocketCompilerModel", "globalOf", "(I)I"⟩, 124), (⟨"PocketCompilerModel", "isSame", "(II)Z"⟩, 124), (⟨"PocketCompilerModel", "functionOf", "(I)I"⟩, 124), (⟨"PocketCompilerModel", "isSign", "(II)Z"⟩, 124), (⟨"PocketCompilerModel", "function0", "(I)V"⟩, 124), (⟨"PocketCompilerModel", "open", "(I)V"⟩, 124)]
theorem lw_r8 : ∀ q ∈ lw_privs_8, lw_okq q := List.forall_mem_cons.mpr ⟨lw_p112, List.forall_mem_cons.mpr ⟨lw_p113, List.forall_mem_cons.mpr ⟨lw_p114, List.forall_mem_cons.mpr ⟨lw_p115, List.forall_mem_cons.mpr ⟨lw_p116, List.forall_mem_cons.mpr ⟨lw_p117, List.forall_mem_cons.mpr ⟨lw_p118, List.forall_mem_cons.mpr ⟨lw_p119, List.forall_mem_cons.mpr ⟨lw_p120, List.forall_mem_cons.mpr ⟨lw_p121, List.forall_mem_cons.mpr ⟨lw_p122, List.forall_mem_cons.mpr ⟨lw_p123, List.forall_mem_cons.mpr ⟨lw_p124, List.forall_mem_cons.mpr ⟨lw_p125, List.forall_mem_cons.mpr ⟨lw_p126, List.forall_mem_cons.mpr ⟨lw_p127, fun _ h => absurd h List.not_mem_nil⟩⟩⟩⟩⟩⟩⟩⟩⟩⟩⟩⟩⟩⟩⟩⟩
theorem lw_p128 : lw_okq (⟨"PocketCompilerModel", "is", "(I)Z"⟩, 124) := ⟨⟨by decide +kernel, by decide +kernel⟩, List.mem_of_getElem? (i := 1955) (by decide +kernel), List.mem_of_getElem? (i := 2094) (by decide +kernel), List.mem_of_getElem? (i := 2095) (by decide +kernel)⟩
theorem lw_p129 : lw_okq (⟨"PocketCompilerModel", "opens", "()V"⟩, 124) := ⟨⟨by decide +kernel, by decide +kernel⟩, List.mem_of_getElem? (i := 1955) (by decide +kernel), List.mem_of_getElem? (i := 2098) (by decide +kernel), List.mem_of_getElem? (i := 2099) (by decide +kernel)⟩
theorem lw_p130 : lw_okq (⟨"PocketCompilerModel", "local", "(I)I"⟩, 124) := ⟨⟨by decide +kernel, by decide +kernel⟩, List.mem_of_getElem? (i := 1955) (by decide +kernel), List.mem_of_getElem? (i := 2102) (by decide +kernel), List.mem_of_getElem? (i := 2103) (by decide +kernel)⟩
theorem lw_p131 : lw_okq (⟨"PocketCompilerModel", "slots", "(I)I"⟩, 124) := ⟨⟨by decide +kernel, by decide +kernel⟩, List.mem_of_getElem? (i := 1955) (by decide +kernel), List.mem_of_getElem? (i := 2106) (by decide +kernel), List.mem_of_getElem? (i := 2107) (by decide +kernel)⟩
theorem lw_p132 : lw_okq (⟨"PocketCompilerModel", "close", "(I)V"⟩, 124) := ⟨⟨by decide +kernel, by decide +kernel⟩, List.mem_of_getElem? (i := 1955) (by decide +kernel), List.mem_of_getElem? (i := 2110) (by decide +kernel), List.mem_of_getElem? (i := 2111) (by decide +kernel)⟩
theorem lw_p133 : lw_okq (⟨"PocketCompilerModel", "need", "(I)V"⟩, 124) := ⟨⟨by decide +kernel, by decide +kernel⟩, List.mem_of_getElem? (i := 1955) (by decide +kernel), List.mem_of_getElem? (i := 2114) (by decide +kernel), List.mem_of_getElem? (i := 2115) (by decide +kernel)⟩
theorem lw_p134 : lw_okq (⟨"PocketCompilerModel", "body0", "()V"⟩, 124) := ⟨⟨by decide +kernel, by decide +kernel⟩, List.mem_of_getElem? (i := 1955) (by decide +kernel), List.mem_of_getElem? (i := 2127) (by decide +kernel), List.mem_of_getElem? (i := 2128) (by decide +kernel)⟩
theorem lw_p135 : lw_okq (⟨"PocketCompilerModel", "statement", "()V"⟩, 124) := ⟨⟨by decide +kernel, by decide +kernel⟩, List.mem_of_getElem? (i := 1955) (by decide +kernel), List.mem_of_getElem? (i := 2131) (by decide +kernel), List.mem_of_getElem? (i := 2132) (by decide +kernel)⟩
theorem lw_p136 : lw_okq (⟨"PocketCompilerModel", "block", "()V"⟩, 124) := ⟨⟨by decide +kernel, by decide +kernel⟩, List.mem_of_getElem? (i := 1955) (by decide +kernel), List.mem_of_getElem? (i := 2135) (by decide +kernel), List.mem_of_getElem? (i := 2136) (by decide +kernel)⟩
theorem lw_p137 : lw_okq (⟨"PocketCompilerModel", "declared", "()V"⟩, 124) := ⟨⟨by decide +kernel, by decide +kernel⟩, List.mem_of_getElem? (i := 1955) (by decide +kernel), List.mem_of_getElem? (i := 2139) (by decide +kernel), List.mem_of_getElem? (i := 2140) (by decide +kernel)⟩
theorem lw_p138 : lw_okq (⟨"PocketCompilerModel", "expression", "()V"⟩, 124) := ⟨⟨by decide +kernel, by decide +kernel⟩, List.mem_of_getElem? (i := 1955) (by decide +kernel), List.mem_of_getElem? (i := 2143) (by decide +kernel), List.mem_of_getElem? (i := 2144) (by decide +kernel)⟩
theorem lw_p139 : lw_okq (⟨"PocketCompilerModel", "named", "(Z)V"⟩, 124) := ⟨⟨by decide +kernel, by decide +kernel⟩, List.mem_of_getElem? (i := 1955) (by decide +kernel), List.mem_of_getElem? (i := 2147) (by decide +kernel), List.mem_of_getElem? (i := 2148) (by decide +kernel)⟩
theorem lw_p140 : lw_okq (⟨"PocketCompilerModel", "index", "(I)V"⟩, 124) := ⟨⟨by decide +kernel, by decide +kernel⟩, List.mem_of_getElem? (i := 1955) (by decide +kernel), List.mem_of_getElem? (i := 2151) (by decide +kernel), List.mem_of_getElem? (i := 2152) (by decide +kernel)⟩
theorem lw_p141 : lw_okq (⟨"PocketCompilerModel", "fix", "(III)V"⟩, 124) := ⟨⟨by decide +kernel, by decide +kernel⟩, List.mem_of_getElem? (i := 1955) (by decide +kernel), List.mem_of_getElem? (i := 2167) (by decide +kernel), List.mem_of_getElem? (i := 2168) (by decide +kernel)⟩
theorem lw_p142 : lw_okq (⟨"PocketCompilerModel", "say", "(II)I"⟩, 124) := ⟨⟨by decide +kernel, by decide +kernel⟩, List.mem_of_getElem? (i := 1955) (by decide +kernel), List.mem_of_getElem? (i := 2174) (by decide +kernel), List.mem_of_getElem? (i := 2175) (by decide +kernel)⟩
theorem lw_p143 : lw_okq (⟨"PocketCompilerModel", "setting", "()I"⟩, 124) := ⟨⟨by decide +kernel, by decide +kernel⟩, List.mem_of_getElem? (i := 1955) (by decide +kernel), List.mem_of_getElem? (i := 2178) (by decide +kernel), List.mem_of_getElem? (i := 2179) (by decide +kernel)⟩
def lw_privs_9 : List (MethodName × Nat) := [(⟨"PocketCompilerModel", "is", "(I)Z"⟩, 124), (⟨"PocketCompilerModel", "opens", "()V"⟩, 124), (⟨"PocketCompilerModel", "local", "(I)I"⟩, 124), (⟨"PocketCompilerModel", "slots", "(I)I"⟩, 124), (⟨"PocketCompilerModel", "close", "(I)V"⟩, 124), (⟨"PocketCompilerModel", "need", "(I)V"⟩, 124), (⟨"PocketCompilerModel", "body0", "()V"⟩, 124), (⟨"PocketCompilerModel", "statement", "()V"⟩, 124), (⟨"PocketCompilerModel", "block", "()V"⟩, 124), (⟨"PocketCompilerModel", "declared", "()V"⟩, 124), (⟨"PocketCompilerModel", "expression", "()V"⟩, 124), (⟨"PocketCompilerModel", "named", "(Z)V"⟩, 124), (⟨"PocketCompilerModel", "index", "(I)V"⟩, 124), (⟨"PocketCompilerModel", "fix", "(III)V"⟩, 124), (⟨"PocketCompilerModel", "say", "(II)I"⟩, 124), (⟨"PocketCompilerModel", "setting", "()I"⟩, 124)]
theorem lw_r9 : ∀ q ∈ lw_privs_9, lw_okq q := List.forall_mem_cons.mpr ⟨lw_p128, List.forall_mem_cons.mpr ⟨lw_p129, List.forall_mem_cons.mpr ⟨lw_p130, List.forall_mem_cons.mpr ⟨lw_p131, List.forall_mem_cons.mpr ⟨lw_p132, List.forall_mem_cons.mpr ⟨lw_p133, List.forall_mem_cons.mpr ⟨lw_p134, List.forall_mem_cons.mpr ⟨lw_p135, List.forall_mem_cons.mpr ⟨lw_p136, List.forall_mem_cons.mpr ⟨lw_p137, List.forall_mem_cons.mpr ⟨lw_p138, List.forall_mem_cons.mpr ⟨lw_p139, List.forall_mem_cons.mpr ⟨lw_p140, List.forall_mem_cons.mpr ⟨lw_p141, List.forall_mem_cons.mpr ⟨lw_p142, List.forall_mem_cons.mpr ⟨lw_p143, fun _ h => absurd h List.not_mem_nil⟩⟩⟩⟩⟩⟩⟩⟩⟩⟩⟩⟩⟩⟩⟩⟩
theorem lw_p144 : lw_okq (⟨"PocketCompilerModel", "sets", "(IIZI)V"⟩, 124) := ⟨⟨by decide +kernel, by decide +kernel⟩, List.mem_of_getElem? (i := 1955) (by decide +kernel), List.mem_of_getElem? (i := 2185) (by decide +kernel), List.mem_of_getElem? (i := 2186) (by decide +kernel)⟩
theorem lw_p145 : lw_okq (⟨"PocketCompilerModel", "remember", "(I)V"⟩, 124) := ⟨⟨by decide +kernel, by decide +kernel⟩, List.mem_of_getElem? (i := 1955) (by decide +kernel), List.mem_of_getElem? (i := 2189) (by decide +kernel), List.mem_of_getElem? (i := 2190) (by decide +kernel)⟩
theorem lw_p146 : lw_okq (⟨"PocketCompilerModel", "fetch", "(II)V"⟩, 124) := ⟨⟨by decide +kernel, by decide +kernel⟩, List.mem_of_getElem? (i := 1955) (by decide +kernel), List.mem_of_getElem? (i := 2193) (by decide +kernel), List.mem_of_getElem? (i := 2194) (by decide +kernel)⟩
theorem lw_p147 : lw_okq (⟨"PocketCompilerModel", "operate", "(I)V"⟩, 124) := ⟨⟨by decide +kernel, by decide +kernel⟩, List.mem_of_getElem? (i := 1955) (by decide +kernel), List.mem_of_getElem? (i := 2197) (by decide +kernel), List.mem_of_getElem? (i := 2198) (by decide +kernel)⟩
theorem lw_p148 : lw_okq (⟨"PocketCompilerModel", "store", "(II)V"⟩, 124) := ⟨⟨by decide +kernel, by decide +kernel⟩, List.mem_of_getElem? (i := 1955) (by decide +kernel), List.mem_of_getElem? (i := 2201) (by decide +kernel), List.mem_of_getElem? (i := 2202) (by decide +kernel)⟩
theorem lw_p149 : lw_okq (⟨"PocketCompilerModel", "choice", "(Z)V"⟩, 124) := ⟨⟨by decide +kernel, by decide +kernel⟩, List.mem_of_getElem? (i := 1955) (by decide +kernel), List.mem_of_getElem? (i := 2205) (by decide +kernel), List.mem_of_getElem? (i := 2206) (by decide +kernel)⟩
theorem lw_p150 : lw_okq (⟨"PocketCompilerModel", "joined", "(IZ)V"⟩, 124) := ⟨⟨by decide +kernel, by decide +kernel⟩, List.mem_of_getElem? (i := 1955) (by decide +kernel), List.mem_of_getElem? (i := 2209) (by decide +kernel), List.mem_of_getElem? (i := 2210) (by decide +kernel)⟩
theorem lw_p151 : lw_okq (⟨"PocketCompilerModel", "operand", "()V"⟩, 124) := ⟨⟨by decide +kernel, by decide +kernel⟩, List.mem_of_getElem? (i := 1955) (by decide +kernel), List.mem_of_getElem? (i := 2213) (by decide +kernel), List.mem_of_getElem? (i := 2214) (by decide +kernel)⟩
theorem lw_p152 : lw_okq (⟨"PocketCompilerModel", "loads", "(I)V"⟩, 124) := ⟨⟨by decide +kernel, by decide +kernel⟩, List.mem_of_getElem? (i := 1955) (by decide +kernel), List.mem_of_getElem? (i := 2218) (by decide +kernel), List.mem_of_getElem? (i := 2219) (by decide +kernel)⟩
theorem lw_p153 : lw_okq (⟨"PocketCompilerModel", "call", "()V"⟩, 124) := ⟨⟨by decide +kernel, by decide +kernel⟩, List.mem_of_getElem? (i := 1955) (by decide +kernel), List.mem_of_getElem? (i := 2222) (by decide +kernel), List.mem_of_getElem? (i := 2223) (by decide +kernel)⟩
theorem lw_p154 : lw_okq (⟨"PocketCompilerModel", "strength", "()I"⟩, 124) := ⟨⟨by decide +kernel, by decide +kernel⟩, List.mem_of_getElem? (i := 1955) (by decide +kernel), List.mem_of_getElem? (i := 2226) (by decide +kernel), List.mem_of_getElem? (i := 2227) (by decide +kernel)⟩
theorem lw_p155 : lw_okq (⟨"PocketCompilerModel", "both", "(ZI)V"⟩, 124) := ⟨⟨by decide +kernel, by decide +kernel⟩, List.mem_of_getElem? (i := 1955) (by decide +kernel), List.mem_of_getElem? (i := 2230) (by decide +kernel), List.mem_of_getElem? (i := 2231) (by decide +kernel)⟩
theorem lw_p156 : lw_okq (⟨"PocketCompilerModel", "wait", "(I)I"⟩, 124) := ⟨⟨by decide +kernel, by decide +kernel⟩, List.mem_of_getElem? (i := 1955) (by decide +kernel), List.mem_of_getElem? (i := 2234) (by decide +kernel), List.mem_of_getElem? (i := 2235) (by decide +kernel)⟩
theorem lw_p157 : lw_okq (⟨"PocketCompilerModel", "jump", "(III)V"⟩, 124) := ⟨⟨by decide +kernel, by decide +kernel⟩, List.mem_of_getElem? (i := 1955) (by decide +kernel), List.mem_of_getElem? (i := 2238) (by decide +kernel), List.mem_of_getElem? (i := 2239) (by decide +kernel)⟩
theorem lw_p158 : lw_okq (⟨"PocketCompilerModel", "choices", "()V"⟩, 124) := ⟨⟨by decide +kernel, by decide +kernel⟩, List.mem_of_getElem? (i := 1955) (by decide +kernel), List.mem_of_getElem? (i := 2245) (by decide +kernel), List.mem_of_getElem? (i := 2246) (by decide +kernel)⟩
theorem lw_p159 : lw_okq (⟨"PocketCompilerModel", "condition", "()I"⟩, 124) := ⟨⟨by decide +kernel, by decide +kernel⟩, List.mem_of_getElem? (i := 1955) (by decide +kernel), List.mem_of_getElem? (i := 2249) (by decide +kernel), List.mem_of_getElem? (i := 2250) (by decide +kernel)⟩
def lw_privs_10 : List (MethodName × Nat) := [(⟨"PocketCompilerModel", "sets", "(IIZI)V"⟩, 124), (⟨"PocketCompilerModel", "remember", "(I)V"⟩, 124), (⟨"PocketCompilerModel", "fetch", "(II)V"⟩, 124), (⟨"PocketCompilerModel", "operate", "(I)V"⟩, 124), (⟨"PocketCompilerModel", "store", "(II)V"⟩, 124), (⟨"PocketCompilerModel", "choice", "(Z)V"⟩, 124), (⟨"PocketCompilerModel", "joined", "(IZ)V"⟩, 124), (⟨"PocketCompilerModel", "operand", "()V"⟩, 124), (⟨"PocketCompilerModel", "loads", "(I)V"⟩, 124), (⟨"PocketCompilerModel", "call", "()V"⟩, 124), (⟨"PocketCompilerModel", "strength", "()I"⟩, 124), (⟨"PocketCompilerModel", "both", "(ZI)V"⟩, 124), (⟨"PocketCompilerModel", "wait", "(I)I"⟩, 124), (⟨"PocketCompilerModel", "jump", "(III)V"⟩, 124), (⟨"PocketCompilerModel", "choices", "()V"⟩, 124), (⟨"PocketCompilerModel", "condition", "()I"⟩, 124)]
theorem lw_r10 : ∀ q ∈ lw_privs_10, lw_okq q := List.forall_mem_cons.mpr ⟨lw_p144, List.forall_mem_cons.mpr ⟨lw_p145, List.forall_mem_cons.mpr ⟨lw_p146, List.forall_mem_cons.mpr ⟨lw_p147, List.forall_mem_cons.mpr ⟨lw_p148, List.forall_mem_cons.mpr ⟨lw_p149, List.forall_mem_cons.mpr ⟨lw_p150, List.forall_mem_cons.mpr ⟨lw_p151, List.forall_mem_cons.mpr ⟨lw_p152, List.forall_mem_cons.mpr ⟨lw_p153, List.forall_mem_cons.mpr ⟨lw_p154, List.forall_mem_cons.mpr ⟨lw_p155, List.forall_mem_cons.mpr ⟨lw_p156, List.forall_mem_cons.mpr ⟨lw_p157, List.forall_mem_cons.mpr ⟨lw_p158, List.forall_mem_cons.mpr ⟨lw_p159, fun _ h => absurd h List.not_mem_nil⟩⟩⟩⟩⟩⟩⟩⟩⟩⟩⟩⟩⟩⟩⟩⟩
theorem lw_p160 : lw_okq (⟨"PocketCompilerModel", "unlessTrue", "()I"⟩, 124) := ⟨⟨by decide +kernel, by decide +kernel⟩, List.mem_of_getElem? (i := 1955) (by decide +kernel), List.mem_of_getElem? (i := 2253) (by decide +kernel), List.mem_of_getElem? (i := 2254) (by decide +kernel)⟩
theorem lw_p161 : lw_okq (⟨"PocketCompilerModel", "part", "()V"⟩, 124) := ⟨⟨by decide +kernel, by decide +kernel⟩, List.mem_of_getElem? (i := 1955) (by decide +kernel), List.mem_of_getElem? (i := 2257) (by decide +kernel), List.mem_of_getElem? (i := 2258) (by decide +kernel)⟩
theorem lw_p162 : lw_okq (⟨"PocketCompilerModel", "rounds", "()V"⟩, 124) := ⟨⟨by decide +kernel, by decide +kernel⟩, List.mem_of_getElem? (i := 1955) (by decide +kernel), List.mem_of_getElem? (i := 2261) (by decide +kernel), List.mem_of_getElem? (i := 2262) (by decide +kernel)⟩
theorem lw_p163 : lw_okq (⟨"PocketCompilerModel", "body", "(II)V"⟩, 124) := ⟨⟨by decide +kernel, by decide +kernel⟩, List.mem_of_getElem? (i := 1955) (by decide +kernel), List.mem_of_getElem? (i := 2265) (by decide +kernel), List.mem_of_getElem? (i := 2266) (by decide +kernel)⟩
theorem lw_p164 : lw_okq (⟨"PocketCompilerModel", "ends", "()V"⟩, 124) := ⟨⟨by decide +kernel, by decide +kernel⟩, List.mem_of_getElem? (i := 1955) (by decide +kernel), List.mem_of_getElem? (i := 2269) (by decide +kernel), List.mem_of_getElem? (i := 2270) (by decide +kernel)⟩
theorem lw_p165 : lw_okq (⟨"PocketCompilerModel", "land", "(II)V"⟩, 124) := ⟨⟨by decide +kernel, by decide +kernel⟩, List.mem_of_getElem? (i := 1955) (by decide +kernel), List.mem_of_getElem? (i := 2273) (by decide +kernel), List.mem_of_getElem? (i := 2274) (by decide +kernel)⟩
theorem lw_p166 : lw_okq (⟨"PocketCompilerModel", "arrive", "(II)V"⟩, 124) := ⟨⟨by decide +kernel, by decide +kernel⟩, List.mem_of_getElem? (i := 1955) (by decide +kernel), List.mem_of_getElem? (i := 2277) (by decide +kernel), List.mem_of_getElem? (i := 2278) (by decide +kernel)⟩
theorem lw_p167 : lw_okq (⟨"PocketCompilerModel", "doing", "()V"⟩, 124) := ⟨⟨by decide +kernel, by decide +kernel⟩, List.mem_of_getElem? (i := 1955) (by decide +kernel), List.mem_of_getElem? (i := 2281) (by decide +kernel), List.mem_of_getElem? (i := 2282) (by decide +kernel)⟩
theorem lw_p168 : lw_okq (⟨"PocketCompilerModel", "counting", "()V"⟩, 124) := ⟨⟨by decide +kernel, by decide +kernel⟩, List.mem_of_getElem? (i := 1955) (by decide +kernel), List.mem_of_getElem? (i := 2285) (by decide +kernel), List.mem_of_getElem? (i := 2286) (by decide +kernel)⟩
theorem lw_p169 : lw_okq (⟨"PocketCompilerModel", "leaving", "()V"⟩, 124) := ⟨⟨by decide +kernel, by decide +kernel⟩, List.mem_of_getElem? (i := 1955) (by decide +kernel), List.mem_of_getElem? (i := 2289) (by decide +kernel), List.mem_of_getElem? (i := 2290) (by decide +kernel)⟩
theorem lw_p170 : lw_okq (⟨"PocketCompilerModel", "returning", "()V"⟩, 124) := ⟨⟨by decide +kernel, by decide +kernel⟩, List.mem_of_getElem? (i := 1955) (by decide +kernel), List.mem_of_getElem? (i := 2293) (by decide +kernel), List.mem_of_getElem? (i := 2294) (by decide +kernel)⟩
theorem lw_p171 : lw_okq (⟨"PocketCompilerModel", "plain", "()V"⟩, 124) := ⟨⟨by decide +kernel, by decide +kernel⟩, List.mem_of_getElem? (i := 1955) (by decide +kernel), List.mem_of_getElem? (i := 2297) (by decide +kernel), List.mem_of_getElem? (i := 2298) (by decide +kernel)⟩
theorem lw_p172 : lw_okq (⟨"PocketCompilerModel", "multiplying", "()V"⟩, 124) := ⟨⟨by decide +kernel, by decide +kernel⟩, List.mem_of_getElem? (i := 1955) (by decide +kernel), List.mem_of_getElem? (i := 2302) (by decide +kernel), List.mem_of_getElem? (i := 2303) (by decide +kernel)⟩
theorem lw_p173 : lw_okq (⟨"PocketCompilerModel", "dividing", "()V"⟩, 124) := ⟨⟨by decide +kernel, by decide +kernel⟩, List.mem_of_getElem? (i := 1955) (by decide +kernel), List.mem_of_getElem? (i := 2306) (by decide +kernel), List.mem_of_getElem? (i := 2307) (by decide +kernel)⟩
theorem lw_p174 : lw_okq (⟨"PocketCompilerModel", "addresses", "()V"⟩, 124) := ⟨⟨by decide +kernel, by decide +kernel⟩, List.mem_of_getElem? (i := 1955) (by decide +kernel), List.mem_of_getElem? (i := 2310) (by decide +kernel), List.mem_of_getElem? (i := 2311) (by decide +kernel)⟩
theorem lw_p175 : lw_okq (⟨"PocketCompilerModel", "accept", "()V"⟩, 124) := ⟨⟨by decide +kernel, by decide +kernel⟩, List.mem_of_getElem? (i := 1955) (by decide +kernel), List.mem_of_getElem? (i := 2314) (by decide +kernel), List.mem_of_getElem? (i := 2315) (by decide +kernel)⟩
def lw_privs_11 : List (MethodName × Nat) := [(⟨"PocketCompilerModel", "unlessTrue", "()I"⟩, 124), (⟨"PocketCompilerModel", "part", "()V"⟩, 124), (⟨"PocketCompilerModel", "rounds", "()V"⟩, 124), (⟨"PocketCompilerModel", "body", "(II)V"⟩, 124), (⟨"PocketCompilerModel", "ends", "()V"⟩, 124), (⟨"PocketCompilerModel", "land", "(II)V"⟩, 124), (⟨"PocketCompilerModel", "arrive", "(II)V"⟩, 124), (⟨"PocketCompilerModel", "doing", "()V"⟩, 124), (⟨"PocketCompilerModel", "counting", "()V"⟩, 124), (⟨"PocketCompilerModel", "leaving", "()V"⟩, 124), (⟨"PocketCompilerModel", "returning", "()V"⟩, 124), (⟨"PocketCompilerModel", "plain", "()V"⟩, 124), (⟨"PocketCompilerModel", "multiplying", "()V"⟩, 124), (⟨"PocketCompilerModel", "dividing", "()V"⟩, 124), (⟨"PocketCompilerModel", "addresses", "()V"⟩, 124), (⟨"PocketCompilerModel", "accept", "()V"⟩, 124)]
theorem lw_r11 : ∀ q ∈ lw_privs_11, lw_okq q := List.forall_mem_cons.mpr ⟨lw_p160, List.forall_mem_cons.mpr ⟨lw_p161, List.forall_mem_cons.mpr ⟨lw_p162, List.forall_mem_cons.mpr ⟨lw_p163, List.forall_mem_cons.mpr ⟨lw_p164, List.forall_mem_cons.mpr ⟨lw_p165, List.forall_mem_cons.mpr ⟨lw_p166, List.forall_mem_cons.mpr ⟨lw_p167, List.forall_mem_cons.mpr ⟨lw_p168, List.forall_mem_cons.mpr ⟨lw_p169, List.forall_mem_cons.mpr ⟨lw_p170, List.forall_mem_cons.mpr ⟨lw_p171, List.forall_mem_cons.mpr ⟨lw_p172, List.forall_mem_cons.mpr ⟨lw_p173, List.forall_mem_cons.mpr ⟨lw_p174, List.forall_mem_cons.mpr ⟨lw_p175, fun _ h => absurd h List.not_mem_nil⟩⟩⟩⟩⟩⟩⟩⟩⟩⟩⟩⟩⟩⟩⟩⟩
theorem lw_p176 : lw_okq (⟨"PocketCompilerModel", "isTape", "(II)Z"⟩, 124) := ⟨⟨by decide +kernel, by decide +kernel⟩, List.mem_of_getElem? (i := 1955) (by decide +kernel), List.mem_of_getElem? (i := 2715) (by decide +kernel), List.mem_of_getElem? (i := 2716) (by decide +kernel)⟩
theorem lw_p177 : lw_okq (⟨"PocketCompilerModel", "doStep", "()V"⟩, 124) := ⟨⟨by decide +kernel, by decide +kernel⟩, List.mem_of_getElem? (i := 1955) (by decide +kernel), List.mem_of_getElem? (i := 2735) (by decide +kernel), List.mem_of_getElem? (i := 2736) (by decide +kernel)⟩
theorem lw_p178 : lw_okq (⟨"PocketCompilerModel", "isIn", "(II)Z"⟩, 124) := ⟨⟨by decide +kernel, by decide +kernel⟩, List.mem_of_getElem? (i := 1955) (by decide +kernel), List.mem_of_getElem? (i := 2739) (by decide +kernel), List.mem_of_getElem? (i := 2740) (by decide +kernel)⟩
theorem lw_p179 : lw_okq (⟨"PocketCompilerModel", "goes", "(II)V"⟩, 124) := ⟨⟨by decide +kernel, by decide +kernel⟩, List.mem_of_getElem? (i := 1955) (by decide +kernel), List.mem_of_getElem? (i := 2745) (by decide +kernel), List.mem_of_getElem? (i := 2746) (by decide +kernel)⟩
theorem lw_p180 : lw_okq (⟨"PocketCompilerModel", "jumps", "(II)V"⟩, 124) := ⟨⟨by decide +kernel, by decide +kernel⟩, List.mem_of_getElem? (i := 1955) (by decide +kernel), List.mem_of_getElem? (i := 2752) (by decide +kernel), List.mem_of_getElem? (i := 2753) (by decide +kernel)⟩
theorem lw_p181 : lw_okq (⟨"PocketCompilerModel", "branches", "(IIII)V"⟩, 124) := ⟨⟨by decide +kernel, by decide +kernel⟩, List.mem_of_getElem? (i := 1955) (by decide +kernel), List.mem_of_getElem? (i := 2756) (by decide +kernel), List.mem_of_getElem? (i := 2757) (by decide +kernel)⟩
theorem lw_p182 : lw_okq (⟨"PocketCompilerModel", "reads", "(IIII)V"⟩, 124) := ⟨⟨by decide +kernel, by decide +kernel⟩, List.mem_of_getElem? (i := 1955) (by decide +kernel), List.mem_of_getElem? (i := 2764) (by decide +kernel), List.mem_of_getElem? (i := 2765) (by decide +kernel)⟩
theorem lw_p183 : lw_okq (⟨"PocketCompilerModel", "byteAt", "(I)I"⟩, 124) := ⟨⟨by decide +kernel, by decide +kernel⟩, List.mem_of_getElem? (i := 1955) (by decide +kernel), List.mem_of_getElem? (i := 2768) (by decide +kernel), List.mem_of_getElem? (i := 2769) (by decide +kernel)⟩
theorem lw_p184 : lw_okq (⟨"PocketCompilerModel", "writes", "(III)V"⟩, 124) := ⟨⟨by decide +kernel, by decide +kernel⟩, List.mem_of_getElem? (i := 1955) (by decide +kernel), List.mem_of_getElem? (i := 2772) (by decide +kernel), List.mem_of_getElem? (i := 2773) (by decide +kernel)⟩
theorem lw_p185 : lw_okq (⟨"PocketCompilerModel", "setByte", "(II)V"⟩, 124) := ⟨⟨by decide +kernel, by decide +kernel⟩, List.mem_of_getElem? (i := 1955) (by decide +kernel), List.mem_of_getElem? (i := 2776) (by decide +kernel), List.mem_of_getElem? (i := 2777) (by decide +kernel)⟩
theorem lw_p186 : lw_okq (⟨"PocketCompilerModel", "byNumber", "(IIII)V"⟩, 124) := ⟨⟨by decide +kernel, by decide +kernel⟩, List.mem_of_getElem? (i := 1955) (by decide +kernel), List.mem_of_getElem? (i := 2780) (by decide +kernel), List.mem_of_getElem? (i := 2781) (by decide +kernel)⟩
theorem lw_p187 : lw_okq (⟨"PocketCompilerModel", "byRegister", "(IIIII)V"⟩, 124) := ⟨⟨by decide +kernel, by decide +kernel⟩, List.mem_of_getElem? (i := 1955) (by decide +kernel), List.mem_of_getElem? (i := 2787) (by decide +kernel), List.mem_of_getElem? (i := 2788) (by decide +kernel)⟩
theorem lw_p188 : lw_okq (⟨"PocketCompilerModel", "calls", "(I)V"⟩, 124) := ⟨⟨by decide +kernel, by decide +kernel⟩, List.mem_of_getElem? (i := 1955) (by decide +kernel), List.mem_of_getElem? (i := 2791) (by decide +kernel), List.mem_of_getElem? (i := 2792) (by decide +kernel)⟩
theorem lw_p189 : lw_okq (⟨"PocketCompilerModel", "words", "(Ljava/lang/String;)V"⟩, 124) := ⟨⟨by decide +kernel, by decide +kernel⟩, List.mem_of_getElem? (i := 1955) (by decide +kernel), List.mem_of_getElem? (i := 2874) (by decide +kernel), List.mem_of_getElem? (i := 2875) (by decide +kernel)⟩
theorem lw_p190 : lw_okq (⟨"PocketCompilerModel", "sign0", "(I)V"⟩, 124) := ⟨⟨by decide +kernel, by decide +kernel⟩, List.mem_of_getElem? (i := 1955) (by decide +kernel), List.mem_of_getElem? (i := 2878) (by decide +kernel), List.mem_of_getElem? (i := 2879) (by decide +kernel)⟩
theorem lw_p191 : lw_okq (⟨"PocketCompilerModel", "named", "(I)V"⟩, 124) := ⟨⟨by decide +kernel, by decide +kernel⟩, List.mem_of_getElem? (i := 1955) (by decide +kernel), List.mem_of_getElem? (i := 2883) (by decide +kernel), List.mem_of_getElem? (i := 2884) (by decide +kernel)⟩
def lw_privs_12 : List (MethodName × Nat) := [(⟨"PocketCompilerModel", "isTape", "(II)Z"⟩, 124), (⟨"PocketCompilerModel", "doStep", "()V"⟩, 124), (⟨"PocketCompilerModel", "isIn", "(II)Z"⟩, 124), (⟨"PocketCompilerModel", "goes", "(II)V"⟩, 124), (⟨"PocketCompilerModel", "jumps", "(II)V"⟩, 124), (⟨"PocketCompilerModel", "branches", "(IIII)V"⟩, 124), (⟨"PocketCompilerModel", "reads", "(IIII)V"⟩, 124), (⟨"PocketCompilerModel", "byteAt", "(I)I"⟩, 124), (⟨"PocketCompilerModel", "writes", "(III)V"⟩, 124), (⟨"PocketCompilerModel", "setByte", "(II)V"⟩, 124), (⟨"PocketCompilerModel", "byNumber", "(IIII)V"⟩, 124), (⟨"PocketCompilerModel", "byRegister", "(IIIII)V"⟩, 124), (⟨"PocketCompilerModel", "calls", "(I)V"⟩, 124), (⟨"PocketCompilerModel", "words", "(Ljava/lang/String;)V"⟩, 124), (⟨"PocketCompilerModel", "sign0", "(I)V"⟩, 124), (⟨"PocketCompilerModel", "named", "(I)V"⟩, 124)]
theorem lw_r12 : ∀ q ∈ lw_privs_12, lw_okq q := List.forall_mem_cons.mpr ⟨lw_p176, List.forall_mem_cons.mpr ⟨lw_p177, List.forall_mem_cons.mpr ⟨lw_p178, List.forall_mem_cons.mpr ⟨lw_p179, List.forall_mem_cons.mpr ⟨lw_p180, List.forall_mem_cons.mpr ⟨lw_p181, List.forall_mem_cons.mpr ⟨lw_p182, List.forall_mem_cons.mpr ⟨lw_p183, List.forall_mem_cons.mpr ⟨lw_p184, List.forall_mem_cons.mpr ⟨lw_p185, List.forall_mem_cons.mpr ⟨lw_p186, List.forall_mem_cons.mpr ⟨lw_p187, List.forall_mem_cons.mpr ⟨lw_p188, List.forall_mem_cons.mpr ⟨lw_p189, List.forall_mem_cons.mpr ⟨lw_p190, List.forall_mem_cons.mpr ⟨lw_p191, fun _ h => absurd h List.not_mem_nil⟩⟩⟩⟩⟩⟩⟩⟩⟩⟩⟩⟩⟩⟩⟩⟩
theorem lw_p192 : lw_okq (⟨"PocketCompilerModel", "decimal", "(I)V"⟩, 124) := ⟨⟨by decide +kernel, by decide +kernel⟩, List.mem_of_getElem? (i := 1955) (by decide +kernel), List.mem_of_getElem? (i := 2887) (by decide +kernel), List.mem_of_getElem? (i := 2888) (by decide +kernel)⟩
theorem lw_p193 : lw_okq (⟨"PocketCompilerModel", "comma", "()V"⟩, 124) := ⟨⟨by decide +kernel, by decide +kernel⟩, List.mem_of_getElem? (i := 1955) (by decide +kernel), List.mem_of_getElem? (i := 2891) (by decide +kernel), List.mem_of_getElem? (i := 2892) (by decide +kernel)⟩
theorem lw_p194 : lw_okq (⟨"PocketCompilerModel", "at", "(II)V"⟩, 124) := ⟨⟨by decide +kernel, by decide +kernel⟩, List.mem_of_getElem? (i := 1955) (by decide +kernel), List.mem_of_getElem? (i := 2895) (by decide +kernel), List.mem_of_getElem? (i := 2896) (by decide +kernel)⟩
theorem lw_p195 : lw_okq (⟨"PocketCompilerModel", "three", "(II)V"⟩, 124) := ⟨⟨by decide +kernel, by decide +kernel⟩, List.mem_of_getElem? (i := 1955) (by decide +kernel), List.mem_of_getElem? (i := 2899) (by decide +kernel), List.mem_of_getElem? (i := 2900) (by decide +kernel)⟩
theorem lw_p196 : lw_okq (⟨"PocketCompilerModel", "push", "(I)V"⟩, 124) := ⟨⟨by decide +kernel, by decide +kernel⟩, List.mem_of_getElem? (i := 1955) (by decide +kernel), List.mem_of_getElem? (i := 2911) (by decide +kernel), List.mem_of_getElem? (i := 2912) (by decide +kernel)⟩
theorem lw_p197 : lw_okq (⟨"PocketCompilerModel", "enter", "(I)I"⟩, 124) := ⟨⟨by decide +kernel, by decide +kernel⟩, List.mem_of_getElem? (i := 1955) (by decide +kernel), List.mem_of_getElem? (i := 2915) (by decide +kernel), List.mem_of_getElem? (i := 2916) (by decide +kernel)⟩
theorem lw_p198 : lw_okq (⟨"PocketCompilerModel", "turn", "()I"⟩, 124) := ⟨⟨by decide +kernel, by decide +kernel⟩, List.mem_of_getElem? (i := 1955) (by decide +kernel), List.mem_of_getElem? (i := 2919) (by decide +kernel), List.mem_of_getElem? (i := 2920) (by decide +kernel)⟩
theorem lw_p199 : lw_okq (⟨"PocketCompilerModel", "obey", "()I"⟩, 124) := ⟨⟨by decide +kernel, by decide +kernel⟩, List.mem_of_getElem? (i := 1955) (by decide +kernel), List.mem_of_getElem? (i := 2923) (by decide +kernel), List.mem_of_getElem? (i := 2924) (by decide +kernel)⟩
theorem lw_p200 : lw_okq (⟨"PocketCompilerModel", "pop", "()I"⟩, 124) := ⟨⟨by decide +kernel, by decide +kernel⟩, List.mem_of_getElem? (i := 1955) (by decide +kernel), List.mem_of_getElem? (i := 2927) (by decide +kernel), List.mem_of_getElem? (i := 2928) (by decide +kernel)⟩
theorem lw_p201 : lw_okq (⟨"PocketCompilerModel", "leave", "()I"⟩, 124) := ⟨⟨by decide +kernel, by decide +kernel⟩, List.mem_of_getElem? (i := 1955) (by decide +kernel), List.mem_of_getElem? (i := 2931) (by decide +kernel), List.mem_of_getElem? (i := 2932) (by decide +kernel)⟩
theorem lw_p202 : lw_okq (⟨"PocketCompilerModel", "operates", "(I)I"⟩, 124) := ⟨⟨by decide +kernel, by decide +kernel⟩, List.mem_of_getElem? (i := 1955) (by decide +kernel), List.mem_of_getElem? (i := 2935) (by decide +kernel), List.mem_of_getElem? (i := 2936) (by decide +kernel)⟩
theorem lw_p203 : lw_okq (⟨"PocketCompilerModel", "others", "(II)V"⟩, 124) := ⟨⟨by decide +kernel, by decide +kernel⟩, List.mem_of_getElem? (i := 1955) (by decide +kernel), List.mem_of_getElem? (i := 2942) (by decide +kernel), List.mem_of_getElem? (i := 2943) (by decide +kernel)⟩
def lw_privs_13 : List (MethodName × Nat) := [(⟨"PocketCompilerModel", "decimal", "(I)V"⟩, 124), (⟨"PocketCompilerModel", "comma", "()V"⟩, 124), (⟨"PocketCompilerModel", "at", "(II)V"⟩, 124), (⟨"PocketCompilerModel", "three", "(II)V"⟩, 124), (⟨"PocketCompilerModel", "push", "(I)V"⟩, 124), (⟨"PocketCompilerModel", "enter", "(I)I"⟩, 124), (⟨"PocketCompilerModel", "turn", "()I"⟩, 124), (⟨"PocketCompilerModel", "obey", "()I"⟩, 124), (⟨"PocketCompilerModel", "pop", "()I"⟩, 124), (⟨"PocketCompilerModel", "leave", "()I"⟩, 124), (⟨"PocketCompilerModel", "operates", "(I)I"⟩, 124), (⟨"PocketCompilerModel", "others", "(II)V"⟩, 124)]
theorem lw_r13 : ∀ q ∈ lw_privs_13, lw_okq q := List.forall_mem_cons.mpr ⟨lw_p192, List.forall_mem_cons.mpr ⟨lw_p193, List.forall_mem_cons.mpr ⟨lw_p194, List.forall_mem_cons.mpr ⟨lw_p195, List.forall_mem_cons.mpr ⟨lw_p196, List.forall_mem_cons.mpr ⟨lw_p197, List.forall_mem_cons.mpr ⟨lw_p198, List.forall_mem_cons.mpr ⟨lw_p199, List.forall_mem_cons.mpr ⟨lw_p200, List.forall_mem_cons.mpr ⟨lw_p201, List.forall_mem_cons.mpr ⟨lw_p202, List.forall_mem_cons.mpr ⟨lw_p203, fun _ h => absurd h List.not_mem_nil⟩⟩⟩⟩⟩⟩⟩⟩⟩⟩⟩⟩
def lw_privs : List (MethodName × Nat) := lw_privs_1 ++ (lw_privs_2 ++ (lw_privs_3 ++ (lw_privs_4 ++ (lw_privs_5 ++ (lw_privs_6 ++ (lw_privs_7 ++ (lw_privs_8 ++ (lw_privs_9 ++ (lw_privs_10 ++ (lw_privs_11 ++ (lw_privs_12 ++ (lw_privs_13))))))))))))
def lw_tbl : List Cond := k2_sels lw_privs ++ tables_1
theorem lw_privs_ok : ∀ q ∈ lw_privs, lw_okq q := by
  show ∀ q ∈ lw_privs_1 ++ (lw_privs_2 ++ (lw_privs_3 ++ (lw_privs_4 ++ (lw_privs_5 ++ (lw_privs_6 ++ (lw_privs_7 ++ (lw_privs_8 ++ (lw_privs_9 ++ (lw_privs_10 ++ (lw_privs_11 ++ (lw_privs_12 ++ (lw_privs_13)))))))))))), lw_okq q
  exact List.forall_mem_append.mpr ⟨lw_r1, List.forall_mem_append.mpr ⟨lw_r2, List.forall_mem_append.mpr ⟨lw_r3, List.forall_mem_append.mpr ⟨lw_r4, List.forall_mem_append.mpr ⟨lw_r5, List.forall_mem_append.mpr ⟨lw_r6, List.forall_mem_append.mpr ⟨lw_r7, List.forall_mem_append.mpr ⟨lw_r8, List.forall_mem_append.mpr ⟨lw_r9, List.forall_mem_append.mpr ⟨lw_r10, List.forall_mem_append.mpr ⟨lw_r11, List.forall_mem_append.mpr ⟨lw_r12, lw_r13⟩⟩⟩⟩⟩⟩⟩⟩⟩⟩⟩⟩
-- ===== end of PART A; then your names; then what follows =====
end
section
/-! the word 'somebody has made an array of arrays of this type', kept under calls (my own; the printed rows below ask for it) -/
def va_AOA (ty : FieldType) (U : State) : Prop := (Cond.arrayOver (.array ty)).before #[] U = true
theorem va_AOA.of {ty : FieldType} {A : Array Value} {U : State} (h : (Cond.arrayOver (.array ty)).before A U = true) : va_AOA ty U := h
theorem va_AOA.use {ty : FieldType} {A : Array Value} {U : State} (h : va_AOA ty U) : (Cond.arrayOver (.array ty)).before A U = true := h
theorem va_AOA.moved {ty : FieldType} {u U : State} (hvm : u.vm.Alike U.vm) (h : va_AOA ty u) : va_AOA ty U := arrayOver_alikeB (s := u) hvm h
/-! ===== BEGIN words of one list among another's, by their places ===== -/
theorem goodIn_r {big : List Cond} (ws : List Cond) (ps : List Nat) (hp : ws = ps.filterMap (fun i => big[i]?)) (h : ws.all goodWord = true) : GoodIn big ws := by
  intro w hw
  have h1 := List.all_eq_true.mp h w hw
  rw [hp] at hw
  obtain ⟨i, -, hi⟩ := List.mem_filterMap.mp hw
  have hm : w ∈ big := by first | exact List.mem_of_getElem? hi | exact List.getElem?_mem hi
  exact ⟨hm, good_of_word h1⟩
theorem goodIn_app {big a b : List Cond} (ha : GoodIn big a) (hb : GoodIn big b) : GoodIn big (a ++ b) := fun w h => (List.mem_append.mp h).elim (ha w) (hb w)
theorem goodIn_ca {big a b : List Cond} {c : Cond} (ha : GoodIn big (c :: a)) (hb : GoodIn big b) : GoodIn big (c :: (a ++ b)) := fun w h => (List.mem_cons.mp h).elim (fun e => ha w (List.mem_cons.mpr (Or.inl e))) (fun h => (List.mem_append.mp h).elim (fun h => ha w (List.mem_cons.mpr (Or.inr h))) (hb w))
theorem goodIn_sub {big ws : List Cond} (hm : ∀ w ∈ ws, w ∈ big) (h : ws.all goodWord = true) : GoodIn big ws := fun w hw => ⟨hm w hw, good_of_word (List.all_eq_true.mp h w hw)⟩
/-! ===== END ===== -/

/-! ===== BEGIN new T[n][m]: the outer array a place, the inner ones among the pooled ===== -/
/-- f, but v at every address of l -/
def vr_up {α : Type} (f : Nat → α) (l : List Nat) (v : α) : Nat → α := fun a => if a ∈ l then v else f a
theorem vr_up_in {α : Type} {f : Nat → α} {l : List Nat} {v : α} {a : Nat} (h : a ∈ l) : vr_up f l v a = v := if_pos h
theorem vr_up_ne {α : Type} {f : Nat → α} {l : List Nat} {v : α} {a : Nat} (h : a ∉ l) : vr_up f l v a = f a := if_neg h
theorem vr_rows {L l : List Nat} {f : Nat → va_E} {e : va_E} (h : ∀ a, a ∈ l → a ∉ L) : va_pl L f ++ l.map (fun a => (a, e)) = va_pl (L ++ l) (vr_up f l e) := by
  unfold va_pl
  rw [List.map_append]
  congr 1
  · apply List.map_congr_left
    intro a ha
    rw [vr_up_ne (fun q => h a q ha)]
  · apply List.map_congr_left
    intro a ha
    rw [vr_up_in ha]
theorem vr_lay {X rows : va_W} {x : Nat × va_E} {pl : va_W} {D : va_G} {cl : List vw_C} {H : Heap} (hP : va_P D cl (((X ++ pl) ++ [x]) ++ rows) H) : va_P D cl ((X ++ [x]) ++ (pl ++ rows)) H := by
  rw [List.append_assoc (X ++ pl)] at hP
  have h := va_P.swap hP
  rw [← List.append_assoc X] at h
  have h2 := va_P.swap h
  rw [List.append_assoc (X ++ [x])] at h2
  exact h2
theorem vr_layD {X rows : va_W} {x : Nat × va_E} {pl : va_W} {A : Nat → Prop} (hD : va_D A (((X ++ pl) ++ [x]) ++ rows)) : va_D A ((X ++ [x]) ++ (pl ++ rows)) := by
  rw [List.append_assoc (X ++ pl)] at hD
  have h := va_D.swap hD
  rw [← List.append_assoc X] at h
  have h2 := va_D.swap h
  rw [List.append_assoc (X ++ [x])] at h2
  exact h2
theorem vr_outer (c : ClassId) (N h0 : Nat) : ∀ i : Nat, Jvm.Free.Multi.outerC c N h0 i = arrV c N (fun j => va_rf (if j < i then some (h0 + 1 + j) else none))
  | 0 => by
    show ({ cls := c, slots := Array.replicate N .null, vm := .none } : Cell) = _
    rw [arrV_new]
    refine congrArg (arrV c N) (funext fun j => ?_)
    simp [va_rf]
  | i + 1 => by
    show (Jvm.Free.Multi.outerC c N h0 i).setSlot i (.ref (h0 + 1 + i)) = _
    rw [vr_outer c N h0 i, arrV_store]
    refine congrArg (arrV c N) (funext fun j => ?_)
    by_cases e : j = i
    · subst e
      simp [updV, va_rf]
    · by_cases h : j < i
      · simp [updV, e, h, Nat.lt_succ_of_lt h]
      · simp [updV, e, h, show ¬ j < i + 1 by omega]
section VGM
variable {p : Program} {l : Launch} {e : Env} {R : Room} {s : State} {m : MethodId} {args : Array Value} {below : List Frame} {meth : Method} {c : Code} {H : Heap} {locs : List Loc} {cells slots : Nat} {Q : State → Prop}
variable {cc : ByteArray} {pc : Nat} {ls : Array Slot} {rest : List Value} {D : va_G} {cl : List vw_C} {A : Nat → Prop} {a : Nat} {tys : List (ClassId × FieldType)} {ws : va_W} {H0 : Heap}
theorem va_mna {X : va_W} {L : List Nat} {f : Nat → va_E} {cc : ByteArray} (hexec : p.tables.exec = Jvm.exec) (hb : c.code = cc) {own : String} {index : Nat} {ty : FieldType} {cy : ClassId} (hown : s.vm.findClass own = some m.cls) (hclink : (Cond.classLink own index ("[" ++ (FieldType.array ty).toString)).before args s = true) (hover : va_AOA ty s) (harr : (Cond.arrayClass ty).before args s = true) (hcy : s.vm.findClass (FieldType.array ty).toString = some cy)
    (hK : va_K D cl tys s) (hP : va_P D cl (X ++ va_pl L f) H) (hD : va_D A (X ++ va_pl L f)) (hS : va_S A H0 H locs) (hA : ∀ q, H0.size ≤ q → A q) {n k : Int32} {N' K' : Nat} {z : vp_A} (hn : ¬ n < 0) (hk : ¬ k < 0) (hN : n.toNatClampNeg = N') (hM : k.toNatClampNeg = K')
    (hb1 : N' * 4 ≤ 536870912) (hb2 : K' * componentBytes ty ≤ 536870912) (hb3 : K' ≤ 536870912) (hdf : fits ty (defaultValue ty) = true) (hdd : (defaultValue ty).isDefault = true) (hcells : cells + (1 + N') ≤ R.cells) (hslots : slots + (N' + N' * K') ≤ R.slots) (hz : ∀ c : ClassId, Jvm.Free.Multi.innerC c K' (defaultValue ty) = vp_cell c z) (hdg : decode cc pc = .ok (.multianewarray index 2, 4))
    (kk : ∀ (q : Nat) (r : Nat → Nat) (cA : ClassId) (H1 : Heap), (∀ i j : Nat, i < N' → j < N' → r i = r j → i = j) → (∀ i : Nat, i < N' → r i ∉ L) → va_K D cl (tys ++ [(cA, .array ty)]) s →
      va_P D cl ((X ++ [(q, .inl (cA, N', .inr (.inr (.inr (.inr (fun i => if i < N' then some (r i) else none))))))]) ++ va_pl (L ++ (List.range N').map r) (vr_up f ((List.range N').map r) (.inl (cy, z)))) H1 → va_D A ((X ++ [(q, .inl (cA, N', .inr (.inr (.inr (.inr (fun i => if i < N' then some (r i) else none))))))]) ++ va_pl (L ++ (List.range N').map r) (vr_up f ((List.range N').map r) (.inl (cy, z)))) → va_S A H0 H1 locs →
      W p l e R s m args below meth c H1 locs (cells + 1 + N') (slots + N' + N' * K') Q (F0 m (pc + 4) ls (.ref q :: rest))) : W p l e R s m args below meth c H locs cells slots Q (F0 m pc ls (.int k :: .int n :: rest)) := by
  subst hN
  subst hM
  intro T hT Xs
  obtain ⟨vm₁, cA, comp, -, fA, fC, hO, -, X', step⟩ := Xs.multianewarray2F hexec hown hclink (va_AOA.use hover) harr (g := F0 m pc ls (.int k :: .int n :: rest)) rfl (by rw [hb]; exact hdg) rfl hn hk hb1 hb2 hb3 hdf hdd hcells hslots
  have ec : some cy = some comp := hcy.symm.trans fC
  cases ec
  generalize hF : Jvm.Free.Multi.fill (T.setVm vm₁) cA cy n.toNatClampNeg k.toNatClampNeg (defaultValue ty) n.toNatClampNeg = F at X' step
  have hTh : (T.setVm vm₁).heap = H := hT
  obtain ⟨f1, f2, -, -⟩ := Jvm.Free.Multi.fill_facts (T.setVm vm₁) cA cy n.toNatClampNeg k.toNatClampNeg (defaultValue ty) n.toNatClampNeg
  rw [hF, hTh] at f1 f2
  have hold : ∀ x : Nat, x < H.size → F.heap[x]? = H[x]? := fun x hx => by
    have := Jvm.Free.Multi.fill_old (T.setVm vm₁) cA cy n.toNatClampNeg k.toNatClampNeg (defaultValue ty) (a := x) (by rw [hTh]; exact hx) n.toNatClampNeg
    rw [hF, hTh] at this
    exact this
  have hrow : ∀ j : Nat, j < n.toNatClampNeg → F.heap[H.size + 1 + j]? = some (vp_cell cy z) := fun j hj => by
    have := Jvm.Free.Multi.fill_inner (T.setVm vm₁) cA cy n.toNatClampNeg k.toNatClampNeg (defaultValue ty) n.toNatClampNeg j hj
    rw [hF, hTh, hz] at this
    exact this
  have hout : Jvm.Free.Multi.outerC cA n.toNatClampNeg H.size n.toNatClampNeg = vp_cell cA (n.toNatClampNeg, .inr (.inr (.inr (.inr (fun i => if i < n.toNatClampNeg then some (H.size + 1 + i) else none))))) := by
    rw [vp_cell_q]
    exact vr_outer cA n.toNatClampNeg H.size n.toNatClampNeg
  rw [hout] at f2
  have hlt : ∀ a, a ∈ L → a < H.size := fun a ha => by
    obtain ⟨k9, hk9⟩ := va_pl_get (X := X) (f := f) ha
    exact (hP k9 _ hk9).lt
  have hnl : ∀ i : Nat, i < n.toNatClampNeg → H.size + 1 + i ∉ L := fun i _ h => by
    have := hlt _ h
    omega
  have hnm : ∀ a, a ∈ (List.range n.toNatClampNeg).map (fun i => H.size + 1 + i) → a ∉ L := fun a ha h => by
    obtain ⟨i, -, rfl⟩ := List.mem_map.mp ha
    have := hlt _ h
    omega
  have hP0 : va_P D cl (X ++ va_pl L f) F.heap := hP.kept (fun k9 x hx => hold x.1 ((hP k9 x hx).lt))
  have hP1 : va_P D cl ((X ++ va_pl L f) ++ [(H.size, .inl (cA, n.toNatClampNeg, .inr (.inr (.inr (.inr (fun i => if i < n.toNatClampNeg then some (H.size + 1 + i) else none))))))]) F.heap := hP0.app (fun k9 x hx => by
    have h0 : k9 < 1 := (List.getElem?_eq_some_iff.mp hx).1
    rw [show k9 = 0 by omega] at hx
    cases hx
    exact f2)
  have hP2 : va_P D cl (((X ++ va_pl L f) ++ [(H.size, .inl (cA, n.toNatClampNeg, .inr (.inr (.inr (.inr (fun i => if i < n.toNatClampNeg then some (H.size + 1 + i) else none))))))]) ++ ((List.range n.toNatClampNeg).map (fun i => H.size + 1 + i)).map (fun a => (a, .inl (cy, z)))) F.heap := hP1.app (fun k9 x hx => by
    obtain ⟨a, ha, rfl⟩ := List.mem_map.mp (List.mem_of_getElem? hx)
    obtain ⟨i, hi, rfl⟩ := List.mem_map.mp ha
    exact hrow i (List.mem_range.mp hi))
  have hD2 : va_D A (((X ++ va_pl L f) ++ [(H.size, .inl (cA, n.toNatClampNeg, .inr (.inr (.inr (.inr (fun i => if i < n.toNatClampNeg then some (H.size + 1 + i) else none))))))]) ++ ((List.range n.toNatClampNeg).map (fun i => H.size + 1 + i)).map (fun a => (a, .inl (cy, z)))) := by
    have hD1 := hD.push (e := .inl (cA, n.toNatClampNeg, .inr (.inr (.inr (.inr (fun i => if i < n.toNatClampNeg then some (H.size + 1 + i) else none)))))) hP rfl (hA _ hS.1)
    generalize hW1 : (X ++ va_pl L f) ++ [(H.size, .inl (cA, n.toNatClampNeg, .inr (.inr (.inr (.inr (fun i => if i < n.toNatClampNeg then some (H.size + 1 + i) else none))))))] = W1 at hD1 hP1 ⊢
    have hle : ∀ (k9 : Nat) (x : Nat × va_E), W1[k9]? = some x → x.1 ≤ H.size := fun k9 x hx => by
      rw [← hW1] at hx
      by_cases hl : k9 < (X ++ va_pl L f).length
      · rw [List.getElem?_append_left hl] at hx
        exact Nat.le_of_lt ((hP k9 x hx).lt)
      · rw [List.getElem?_append_right (by omega)] at hx
        have h0 : k9 - (X ++ va_pl L f).length < 1 := (List.getElem?_eq_some_iff.mp hx).1
        rw [show k9 - (X ++ va_pl L f).length = 0 by omega] at hx
        cases hx
        exact Nat.le_refl _
    have hr : ∀ (k9 : Nat) (x : Nat × va_E), (((List.range n.toNatClampNeg).map (fun i => H.size + 1 + i)).map (fun a => ((a, .inl (cy, z)) : Nat × va_E)))[k9]? = some x → x.1 = H.size + 1 + k9 := fun k9 x hx => by
      rw [List.getElem?_map, List.getElem?_map] at hx
      by_cases h9 : k9 < n.toNatClampNeg
      · rw [List.getElem?_range h9] at hx
        cases hx
        rfl
      · have hn0 : (List.range n.toNatClampNeg)[k9]? = none := List.getElem?_eq_none (by rw [List.length_range]; omega)
        rw [hn0] at hx
        cases hx
    refine ⟨fun i j x y hi hj hxy => ?_, fun k9 x hx => ?_⟩
    · by_cases h1 : i < W1.length <;> by_cases h2 : j < W1.length
      · rw [List.getElem?_append_left h1] at hi
        rw [List.getElem?_append_left h2] at hj
        exact hD1.1 i j x y hi hj hxy
      · rw [List.getElem?_append_left h1] at hi
        rw [List.getElem?_append_right (by omega)] at hj
        have := hle _ _ hi
        have := hr _ _ hj
        omega
      · rw [List.getElem?_append_right (by omega)] at hi
        rw [List.getElem?_append_left h2] at hj
        have := hle _ _ hj
        have := hr _ _ hi
        omega
      · rw [List.getElem?_append_right (by omega)] at hi hj
        have := hr _ _ hi
        have := hr _ _ hj
        omega
    · by_cases h1 : k9 < W1.length
      · rw [List.getElem?_append_left h1] at hx
        exact hD1.2 k9 x hx
      · rw [List.getElem?_append_right (by omega)] at hx
        have := hr _ _ hx
        exact hA _ (by have := hS.1; omega)
  have hAr : ArrOfT s cA (.array ty) := fun N9 z9 => by
    obtain ⟨-, k9, hk9, cm9, hkk9⟩ := (hO 0 0 0).1
    exact ⟨(fun q hq => by cases hq), k9, hk9, cm9, hkk9⟩
  have hK2 : va_K D cl (tys ++ [(cA, .array ty)]) s := ⟨hK.1, fun k9 x hx => by
    by_cases hl : k9 < tys.length
    · rw [List.getElem?_append_left hl] at hx
      exact hK.2 k9 x hx
    · rw [List.getElem?_append_right (by omega)] at hx
      have h0 : k9 - tys.length < 1 := (List.getElem?_eq_some_iff.mp hx).1
      rw [show k9 - tys.length = 0 by omega] at hx
      cases hx
      exact ⟨hAr, fA⟩⟩
  obtain ⟨t, a1, b1⟩ := kk H.size (fun i => H.size + 1 + i) cA F.heap (fun i j _ _ h => by have h9 : H.size + 1 + i = H.size + 1 + j := h; omega) hnl hK2 (by rw [← vr_rows hnm]; exact vr_lay hP2) (by rw [← vr_rows hnm]; exact vr_layD hD2) ⟨by rw [f1]; have := hS.1; omega, fun x h1 h2 => (hold x (Nat.lt_of_lt_of_le h1 hS.1)).trans (hS.2.1 x h1 h2), hS.2.2⟩ F rfl X'
  refine ⟨t, step t ?_, b1⟩
  have e : T.heap.size = H.size := by rw [hT]
  rw [e]
  exact a1
end VGM
/-! ===== END ===== -/
end
section
/-! ===== BEGIN printed: names, fields, word lists, decode rows ===== -/
def RX0 : String := "PocketCompiler$Assembler"
def TX0 : u_T := fun k => match k with
  | 0 => ("PocketCompiler$Assembler", "program", "LPocketCompiler$Program;", false)
  | 1 => ("PocketCompiler$Assembler", "memoryBytes", "I", true)
  | 2 => ("PocketCompiler$Assembler", "addresses", "[I", true)
  | 3 => ("PocketCompiler$Assembler", "size", "I", false)
  | 4 => ("PocketCompiler$Assembler", "isWriting", "Z", false)
  | 5 => ("PocketCompiler$Assembler", "hasTimes", "Z", false)
  | 6 => ("PocketCompiler$Assembler", "hasOver", "Z", false)
  | 7 => ("PocketCompiler$Assembler", "timesAddress", "I", false)
  | _ => ("PocketCompiler$Assembler", "overAddress", "I", false)
def tyX0 : Nat → FieldType := fun k => match k with
  | 0 => .object "PocketCompiler$Program"
  | 1 => .int
  | 2 => .array .int
  | 3 => .int
  | 4 => .boolean
  | 5 => .boolean
  | 6 => .boolean
  | 7 => .int
  | _ => .int
abbrev wsX00 : List Cond := u_ws RX0 TX0 9
theorem nmX0 : ∀ a, a < 9 → ∀ b, b < 9 → a ≠ b → (TX0 a).2.1 ≠ (TX0 b).2.1 := by decide +kernel
theorem tyX0_ok : ∀ k, k < 9 → parseFieldDescriptor (TX0 k).2.2.1 = some (tyX0 k) := by decide +kernel
abbrev cX0_init : ByteArray := prog_2_method_1_code
def yX0_init : MethodName := ⟨RX0, "<init>", "(LPocketCompiler$Program;I)V"⟩
abbrev cX0_assemble : ByteArray := prog_2_method_2_code
def yX0_assemble : MethodName := ⟨RX0, "assemble", "(LPocketCompiler$Program;)Z"⟩
abbrev cX0_layAll : ByteArray := prog_2_method_3_code
def yX0_layAll : MethodName := ⟨RX0, "layAll", "()V"⟩
abbrev cX0_placeGlobals : ByteArray := prog_2_method_4_code
def yX0_placeGlobals : MethodName := ⟨RX0, "placeGlobals", "()V"⟩
abbrev cX0_emit : ByteArray := prog_2_method_5_code
def yX0_emit : MethodName := ⟨RX0, "emit", "(I)V"⟩
abbrev cX0_immediate : ByteArray := prog_2_method_6_code
def yX0_immediate : MethodName := ⟨RX0, "immediate", "(IIII)V"⟩
abbrev cX0_three : ByteArray := prog_2_method_7_code
def yX0_three : MethodName := ⟨RX0, "three", "(IIII)V"⟩
abbrev cX0_storeWord : ByteArray := prog_2_method_8_code
def yX0_storeWord : MethodName := ⟨RX0, "storeWord", "(III)V"⟩
abbrev cX0_branch : ByteArray := prog_2_method_9_code
def yX0_branch : MethodName := ⟨RX0, "branch", "(IIII)V"⟩
abbrev cX0_upper : ByteArray := prog_2_method_10_code
def yX0_upper : MethodName := ⟨RX0, "upper", "(II)V"⟩
abbrev cX0_jump : ByteArray := prog_2_method_11_code
def yX0_jump : MethodName := ⟨RX0, "jump", "(II)V"⟩
abbrev cX0_halt : ByteArray := prog_2_method_12_code
def yX0_halt : MethodName := ⟨RX0, "halt", "(I)V"⟩
abbrev cX0_outside : ByteArray := prog_2_method_13_code
def yX0_outside : MethodName := ⟨RX0, "outside", "(I)V"⟩
abbrev cX0_high : ByteArray := prog_2_method_14_code
def yX0_high : MethodName := ⟨RX0, "high", "(I)I"⟩
abbrev cX0_low : ByteArray := prog_2_method_15_code
def yX0_low : MethodName := ⟨RX0, "low", "(I)I"⟩
abbrev cX0_fromFrame : ByteArray := prog_2_method_16_code
def yX0_fromFrame : MethodName := ⟨RX0, "fromFrame", "(I)I"⟩
abbrev cX0_loadSlot : ByteArray := prog_2_method_17_code
def yX0_loadSlot : MethodName := ⟨RX0, "loadSlot", "(II)V"⟩
abbrev cX0_storeSlot : ByteArray := prog_2_method_18_code
def yX0_storeSlot : MethodName := ⟨RX0, "storeSlot", "(I)V"⟩
abbrev cX0_addressOfGlobal : ByteArray := prog_2_method_19_code
def yX0_addressOfGlobal : MethodName := ⟨RX0, "addressOfGlobal", "(I)I"⟩
abbrev cX0_addressOfDeed : ByteArray := prog_2_method_20_code
def yX0_addressOfDeed : MethodName := ⟨RX0, "addressOfDeed", "(I)I"⟩
abbrev cX0_lay : ByteArray := prog_2_method_21_code
def yX0_lay : MethodName := ⟨RX0, "lay", "(III)V"⟩
abbrev cX0_layEnter : ByteArray := prog_2_method_22_code
def yX0_layEnter : MethodName := ⟨RX0, "layEnter", "(I)V"⟩
abbrev cX0_layLeave : ByteArray := prog_2_method_23_code
def yX0_layLeave : MethodName := ⟨RX0, "layLeave", "()V"⟩
abbrev cX0_layNumber : ByteArray := prog_2_method_24_code
def yX0_layNumber : MethodName := ⟨RX0, "layNumber", "(I)V"⟩
abbrev cX0_layPlace : ByteArray := prog_2_method_25_code
def yX0_layPlace : MethodName := ⟨RX0, "layPlace", "(III)V"⟩
abbrev cX0_layIndex : ByteArray := prog_2_method_26_code
def yX0_layIndex : MethodName := ⟨RX0, "layIndex", "(II)V"⟩
abbrev cX0_layJump : ByteArray := prog_2_method_27_code
def yX0_layJump : MethodName := ⟨RX0, "layJump", "(II)V"⟩
abbrev cX0_layCall : ByteArray := prog_2_method_28_code
def yX0_layCall : MethodName := ⟨RX0, "layCall", "(II)V"⟩
abbrev cX0_laySign : ByteArray := prog_2_method_29_code
def yX0_laySign : MethodName := ⟨RX0, "laySign", "(I)V"⟩
abbrev cX0_layComparison : ByteArray := prog_2_method_30_code
def yX0_layComparison : MethodName := ⟨RX0, "layComparison", "(I)V"⟩
abbrev cX0_layTimes : ByteArray := prog_2_method_31_code
def yX0_layTimes : MethodName := ⟨RX0, "layTimes", "()V"⟩
abbrev cX0_layOver : ByteArray := prog_2_method_32_code
def yX0_layOver : MethodName := ⟨RX0, "layOver", "()V"⟩
def RX1 : String := "PocketCompiler$Builder"
def TX1 : u_T := fun k => match k with
  | 0 => ("PocketCompiler$Builder", "program", "LPocketCompiler$Program;", false)
  | 1 => ("PocketCompiler$Builder", "known", "[I", true)
  | 2 => ("PocketCompiler$Builder", "knownCount", "I", false)
  | 3 => ("PocketCompiler$Builder", "blockStart", "I", false)
  | 4 => ("PocketCompiler$Builder", "putBy", "I", false)
  | 5 => ("PocketCompiler$Builder", "mostSlots", "I", false)
  | 6 => ("PocketCompiler$Builder", "labels", "[I", true)
  | 7 => ("PocketCompiler$Builder", "labelCount", "I", false)
  | 8 => ("PocketCompiler$Builder", "callNames", "[I", true)
  | 9 => ("PocketCompiler$Builder", "callPlaces", "[I", true)
  | 10 => ("PocketCompiler$Builder", "callArguments", "[I", true)
  | _ => ("PocketCompiler$Builder", "callCount", "I", false)
def tyX1 : Nat → FieldType := fun k => match k with
  | 0 => .object "PocketCompiler$Program"
  | 1 => .array .int
  | 2 => .int
  | 3 => .int
  | 4 => .int
  | 5 => .int
  | 6 => .array .int
  | 7 => .int
  | 8 => .array .int
  | 9 => .array .int
  | 10 => .array .int
  | _ => .int
abbrev wsX10 : List Cond := u_ws RX1 TX1 12
theorem nmX1 : ∀ a, a < 12 → ∀ b, b < 12 → a ≠ b → (TX1 a).2.1 ≠ (TX1 b).2.1 := by decide +kernel
theorem tyX1_ok : ∀ k, k < 12 → parseFieldDescriptor (TX1 k).2.2.1 = some (tyX1 k) := by decide +kernel
abbrev cX1_init : ByteArray := prog_3_method_1_code
def yX1_init : MethodName := ⟨RX1, "<init>", "(LPocketCompiler$Program;)V"⟩
abbrev cX1_begin : ByteArray := prog_3_method_2_code
def yX1_begin : MethodName := ⟨RX1, "begin", "(LPocketCompiler$Program;)V"⟩
abbrev cX1_beginFunction : ByteArray := prog_3_method_3_code
def yX1_beginFunction : MethodName := ⟨RX1, "beginFunction", "()V"⟩
abbrev cX1_frame : ByteArray := prog_3_method_4_code
def yX1_frame : MethodName := ⟨RX1, "frame", "()I"⟩
abbrev cX1_isToldInBlock : ByteArray := prog_3_method_5_code
def yX1_isToldInBlock : MethodName := ⟨RX1, "isToldInBlock", "(I)Z"⟩
abbrev cX1_slotNamed : ByteArray := prog_3_method_6_code
def yX1_slotNamed : MethodName := ⟨RX1, "slotNamed", "(I)I"⟩
abbrev cX1_learn : ByteArray := prog_3_method_7_code
def yX1_learn : MethodName := ⟨RX1, "learn", "(I)V"⟩
abbrev cX1_nextSlot : ByteArray := prog_3_method_8_code
def yX1_nextSlot : MethodName := ⟨RX1, "nextSlot", "()I"⟩
abbrev cX1_wantSlots : ByteArray := prog_3_method_9_code
def yX1_wantSlots : MethodName := ⟨RX1, "wantSlots", "(I)Z"⟩
abbrev cX1_add : ByteArray := prog_3_method_10_code
def yX1_add : MethodName := ⟨RX1, "add", "(III)V"⟩
abbrev cX1_newLabel : ByteArray := prog_3_method_11_code
def yX1_newLabel : MethodName := ⟨RX1, "newLabel", "()I"⟩
abbrev cX1_setLabel : ByteArray := prog_3_method_12_code
def yX1_setLabel : MethodName := ⟨RX1, "setLabel", "(I)V"⟩
abbrev cX1_addCall : ByteArray := prog_3_method_13_code
def yX1_addCall : MethodName := ⟨RX1, "addCall", "(II)I"⟩
abbrev cX1_addArgument : ByteArray := prog_3_method_14_code
def yX1_addArgument : MethodName := ⟨RX1, "addArgument", "(I)V"⟩
abbrev cX1_functionOfCall : ByteArray := prog_3_method_15_code
def yX1_functionOfCall : MethodName := ⟨RX1, "functionOfCall", "(I)I"⟩
abbrev cX1_hasItsArguments : ByteArray := prog_3_method_16_code
def yX1_hasItsArguments : MethodName := ⟨RX1, "hasItsArguments", "(I)Z"⟩
abbrev cX1_placeOfCall : ByteArray := prog_3_method_17_code
def yX1_placeOfCall : MethodName := ⟨RX1, "placeOfCall", "(I)I"⟩
abbrev cX1_link : ByteArray := prog_3_method_18_code
def yX1_link : MethodName := ⟨RX1, "link", "()V"⟩
def RX2 : String := "PocketCompiler$Expressions"
def TX2 : u_T := fun k => match k with
  | 0 => ("PocketCompiler$Expressions", "tokens", "LPocketCompiler$Tokens;", true)
  | 1 => ("PocketCompiler$Expressions", "builder", "LPocketCompiler$Builder;", true)
  | 2 => ("PocketCompiler$Expressions", "signs", "[I", true)
  | 3 => ("PocketCompiler$Expressions", "marks", "[I", true)
  | _ => ("PocketCompiler$Expressions", "top", "I", false)
def tyX2 : Nat → FieldType := fun k => match k with
  | 0 => .object "PocketCompiler$Tokens"
  | 1 => .object "PocketCompiler$Builder"
  | 2 => .array .int
  | 3 => .array .int
  | _ => .int
abbrev wsX20 : List Cond := u_ws RX2 TX2 5
theorem nmX2 : ∀ a, a < 5 → ∀ b, b < 5 → a ≠ b → (TX2 a).2.1 ≠ (TX2 b).2.1 := by decide +kernel
theorem tyX2_ok : ∀ k, k < 5 → parseFieldDescriptor (TX2 k).2.2.1 = some (tyX2 k) := by decide +kernel
abbrev cX2_init : ByteArray := prog_4_method_1_code
def yX2_init : MethodName := ⟨RX2, "<init>", "(LPocketCompiler$Tokens;LPocketCompiler$Builder;)V"⟩
abbrev cX2_begin : ByteArray := prog_4_method_2_code
def yX2_begin : MethodName := ⟨RX2, "begin", "()V"⟩
abbrev cX2_expression : ByteArray := prog_4_method_3_code
def yX2_expression : MethodName := ⟨RX2, "expression", "(Z)V"⟩
abbrev cX2_beginSign : ByteArray := prog_4_method_4_code
def yX2_beginSign : MethodName := ⟨RX2, "beginSign", "(I)V"⟩
abbrev cX2_push : ByteArray := prog_4_method_5_code
def yX2_push : MethodName := ⟨RX2, "push", "(II)V"⟩
abbrev cX2_finishSigns : ByteArray := prog_4_method_6_code
def yX2_finishSigns : MethodName := ⟨RX2, "finishSigns", "(II)V"⟩
abbrev cX2_choice : ByteArray := prog_4_method_7_code
def yX2_choice : MethodName := ⟨RX2, "choice", "()V"⟩
abbrev cX2_operand : ByteArray := prog_4_method_8_code
def yX2_operand : MethodName := ⟨RX2, "operand", "(Z)Z"⟩
abbrev cX2_unary : ByteArray := prog_4_method_9_code
def yX2_unary : MethodName := ⟨RX2, "unary", "(I)V"⟩
abbrev cX2_named : ByteArray := prog_4_method_10_code
def yX2_named : MethodName := ⟨RX2, "named", "(Z)Z"⟩
abbrev cX2_index : ByteArray := prog_4_method_11_code
def yX2_index : MethodName := ⟨RX2, "index", "(I)V"⟩
abbrev cX2_read : ByteArray := prog_4_method_12_code
def yX2_read : MethodName := ⟨RX2, "read", "(II)V"⟩
abbrev cX2_change : ByteArray := prog_4_method_13_code
def yX2_change : MethodName := ⟨RX2, "change", "(IIZ)V"⟩
abbrev cX2_changeBy : ByteArray := prog_4_method_14_code
def yX2_changeBy : MethodName := ⟨RX2, "changeBy", "(IIIZ)V"⟩
abbrev cX2_callFunction : ByteArray := prog_4_method_15_code
def yX2_callFunction : MethodName := ⟨RX2, "callFunction", "()V"⟩
abbrev cX2_argument : ByteArray := prog_4_method_16_code
def yX2_argument : MethodName := ⟨RX2, "argument", "(II)V"⟩
def RX3 : String := "PocketCompiler$Gifts"
def TX3 : u_T := fun k => match k with
  | 0 => ("PocketCompiler$Gifts", "numbers", "[I", true)
  | 1 => ("PocketCompiler$Gifts", "size", "I", false)
  | _ => ("PocketCompiler$Gifts", "used", "I", false)
def tyX3 : Nat → FieldType := fun k => match k with
  | 0 => .array .int
  | 1 => .int
  | _ => .int
abbrev wsX30 : List Cond := u_ws RX3 TX3 3
theorem nmX3 : ∀ a, a < 3 → ∀ b, b < 3 → a ≠ b → (TX3 a).2.1 ≠ (TX3 b).2.1 := by decide +kernel
theorem tyX3_ok : ∀ k, k < 3 → parseFieldDescriptor (TX3 k).2.2.1 = some (tyX3 k) := by decide +kernel
abbrev cX3_init : ByteArray := prog_5_method_1_code
def yX3_init : MethodName := ⟨RX3, "<init>", "()V"⟩
abbrev cX3_add : ByteArray := prog_5_method_2_code
def yX3_add : MethodName := ⟨RX3, "add", "(I)I"⟩
abbrev cX3_clear : ByteArray := prog_5_method_3_code
def yX3_clear : MethodName := ⟨RX3, "clear", "()I"⟩
abbrev cX3_beginAnew : ByteArray := prog_5_method_4_code
def yX3_beginAnew : MethodName := ⟨RX3, "beginAnew", "()V"⟩
abbrev cX3_next : ByteArray := prog_5_method_5_code
def yX3_next : MethodName := ⟨RX3, "next", "()I"⟩
abbrev cX3_numberAt : ByteArray := prog_5_method_6_code
def yX3_numberAt : MethodName := ⟨RX3, "numberAt", "(I)I"⟩
def RX4 : String := "PocketCompiler$Instruction"
def TX4 : u_T := fun k => match k with
  | _ => ("", "", "", false)
def tyX4 : Nat → FieldType := fun k => match k with
  | _ => .int
abbrev wsX40 : List Cond := u_ws RX4 TX4 0
theorem nmX4 : ∀ a, a < 0 → ∀ b, b < 0 → a ≠ b → (TX4 a).2.1 ≠ (TX4 b).2.1 := by decide +kernel
theorem tyX4_ok : ∀ k, k < 0 → parseFieldDescriptor (TX4 k).2.2.1 = some (tyX4 k) := by decide +kernel
abbrev cX4_kindOf : ByteArray := prog_6_method_2_code
def yX4_kindOf : MethodName := ⟨RX4, "kindOf", "(I)I"⟩
abbrev cX4_numberedKind : ByteArray := prog_6_method_3_code
def yX4_numberedKind : MethodName := ⟨RX4, "numberedKind", "(II)I"⟩
abbrev cX4_plainKind : ByteArray := prog_6_method_4_code
def yX4_plainKind : MethodName := ⟨RX4, "plainKind", "(II)I"⟩
abbrev cX4_target : ByteArray := prog_6_method_5_code
def yX4_target : MethodName := ⟨RX4, "target", "(I)I"⟩
abbrev cX4_first : ByteArray := prog_6_method_6_code
def yX4_first : MethodName := ⟨RX4, "first", "(I)I"⟩
abbrev cX4_second : ByteArray := prog_6_method_7_code
def yX4_second : MethodName := ⟨RX4, "second", "(I)I"⟩
abbrev cX4_number : ByteArray := prog_6_method_8_code
def yX4_number : MethodName := ⟨RX4, "number", "(II)I"⟩
def RX5 : String := "PocketCompiler$Parser"
def TX5 : u_T := fun k => match k with
  | 0 => ("PocketCompiler$Parser", "program", "LPocketCompiler$Program;", false)
  | 1 => ("PocketCompiler$Parser", "tokens", "LPocketCompiler$Tokens;", true)
  | 2 => ("PocketCompiler$Parser", "builder", "LPocketCompiler$Builder;", true)
  | 3 => ("PocketCompiler$Parser", "expressions", "LPocketCompiler$Expressions;", true)
  | 4 => ("PocketCompiler$Parser", "breakTo", "I", false)
  | 5 => ("PocketCompiler$Parser", "continueTo", "I", false)
  | _ => ("PocketCompiler$Parser", "returnTo", "I", false)
def tyX5 : Nat → FieldType := fun k => match k with
  | 0 => .object "PocketCompiler$Program"
  | 1 => .object "PocketCompiler$Tokens"
  | 2 => .object "PocketCompiler$Builder"
  | 3 => .object "PocketCompiler$Expressions"
  | 4 => .int
  | 5 => .int
  | _ => .int
abbrev wsX50 : List Cond := u_ws RX5 TX5 7
theorem nmX5 : ∀ a, a < 7 → ∀ b, b < 7 → a ≠ b → (TX5 a).2.1 ≠ (TX5 b).2.1 := by decide +kernel
theorem tyX5_ok : ∀ k, k < 7 → parseFieldDescriptor (TX5 k).2.2.1 = some (tyX5 k) := by decide +kernel
abbrev cX5_init : ByteArray := prog_7_method_1_code
def yX5_init : MethodName := ⟨RX5, "<init>", "(LPocketCompiler$Program;)V"⟩
abbrev cX5_readText : ByteArray := prog_7_method_2_code
def yX5_readText : MethodName := ⟨RX5, "readText", "(LPocketCompiler$Program;)V"⟩
abbrev cX5_checkCalls : ByteArray := prog_7_method_3_code
def yX5_checkCalls : MethodName := ⟨RX5, "checkCalls", "()V"⟩
abbrev cX5_headOfItem : ByteArray := prog_7_method_4_code
def yX5_headOfItem : MethodName := ⟨RX5, "headOfItem", "()I"⟩
abbrev cX5_globalItem : ByteArray := prog_7_method_5_code
def yX5_globalItem : MethodName := ⟨RX5, "globalItem", "(I)V"⟩
abbrev cX5_rowSize : ByteArray := prog_7_method_6_code
def yX5_rowSize : MethodName := ⟨RX5, "rowSize", "()I"⟩
abbrev cX5_functionItem : ByteArray := prog_7_method_7_code
def yX5_functionItem : MethodName := ⟨RX5, "functionItem", "()V"⟩
abbrev cX5_parameters : ByteArray := prog_7_method_8_code
def yX5_parameters : MethodName := ⟨RX5, "parameters", "()V"⟩
abbrev cX5_parameter : ByteArray := prog_7_method_9_code
def yX5_parameter : MethodName := ⟨RX5, "parameter", "()V"⟩
abbrev cX5_newName : ByteArray := prog_7_method_10_code
def yX5_newName : MethodName := ⟨RX5, "newName", "()I"⟩
abbrev cX5_wantSlot : ByteArray := prog_7_method_11_code
def yX5_wantSlot : MethodName := ⟨RX5, "wantSlot", "()V"⟩
abbrev cX5_stats : ByteArray := prog_7_method_12_code
def yX5_stats : MethodName := ⟨RX5, "stats", "()V"⟩
abbrev cX5_stat : ByteArray := prog_7_method_13_code
def yX5_stat : MethodName := ⟨RX5, "stat", "()V"⟩
abbrev cX5_block : ByteArray := prog_7_method_14_code
def yX5_block : MethodName := ⟨RX5, "block", "()V"⟩
abbrev cX5_innerStat : ByteArray := prog_7_method_15_code
def yX5_innerStat : MethodName := ⟨RX5, "innerStat", "()V"⟩
abbrev cX5_local : ByteArray := prog_7_method_16_code
def yX5_local : MethodName := ⟨RX5, "local", "()V"⟩
abbrev cX5_condition : ByteArray := prog_7_method_17_code
def yX5_condition : MethodName := ⟨RX5, "condition", "()V"⟩
abbrev cX5_ifStat : ByteArray := prog_7_method_18_code
def yX5_ifStat : MethodName := ⟨RX5, "ifStat", "()V"⟩
abbrev cX5_loopStat : ByteArray := prog_7_method_19_code
def yX5_loopStat : MethodName := ⟨RX5, "loopStat", "(I)V"⟩
abbrev cX5_whileRest : ByteArray := prog_7_method_20_code
def yX5_whileRest : MethodName := ⟨RX5, "whileRest", "()V"⟩
abbrev cX5_doRest : ByteArray := prog_7_method_21_code
def yX5_doRest : MethodName := ⟨RX5, "doRest", "()V"⟩
abbrev cX5_forRest : ByteArray := prog_7_method_22_code
def yX5_forRest : MethodName := ⟨RX5, "forRest", "()V"⟩
abbrev cX5_optional : ByteArray := prog_7_method_23_code
def yX5_optional : MethodName := ⟨RX5, "optional", "(I)Z"⟩
abbrev cX5_jumpStat : ByteArray := prog_7_method_24_code
def yX5_jumpStat : MethodName := ⟨RX5, "jumpStat", "(I)V"⟩
abbrev cX5_returnStat : ByteArray := prog_7_method_25_code
def yX5_returnStat : MethodName := ⟨RX5, "returnStat", "()V"⟩
def RX6 : String := "PocketCompiler$Processor"
def TX6 : u_T := fun k => match k with
  | 0 => ("PocketCompiler$Processor", "memory", "[I", true)
  | 1 => ("PocketCompiler$Processor", "registers", "[I", true)
  | 2 => ("PocketCompiler$Processor", "pc", "I", false)
  | 3 => ("PocketCompiler$Processor", "next", "I", false)
  | 4 => ("PocketCompiler$Processor", "status", "I", false)
  | 5 => ("PocketCompiler$Processor", "steps", "I", false)
  | 6 => ("PocketCompiler$Processor", "puts", "[I", true)
  | 7 => ("PocketCompiler$Processor", "putCount", "I", false)
  | _ => ("PocketCompiler$Processor", "gifts", "LPocketCompiler$Gifts;", true)
def tyX6 : Nat → FieldType := fun k => match k with
  | 0 => .array .int
  | 1 => .array .int
  | 2 => .int
  | 3 => .int
  | 4 => .int
  | 5 => .int
  | 6 => .array .int
  | 7 => .int
  | _ => .object "PocketCompiler$Gifts"
abbrev wsX60 : List Cond := u_ws RX6 TX6 9
theorem nmX6 : ∀ a, a < 9 → ∀ b, b < 9 → a ≠ b → (TX6 a).2.1 ≠ (TX6 b).2.1 := by decide +kernel
theorem tyX6_ok : ∀ k, k < 9 → parseFieldDescriptor (TX6 k).2.2.1 = some (tyX6 k) := by decide +kernel
abbrev cX6_init : ByteArray := prog_8_method_1_code
def yX6_init : MethodName := ⟨RX6, "<init>", "(ILPocketCompiler$Gifts;)V"⟩
abbrev cX6_size : ByteArray := prog_8_method_2_code
def yX6_size : MethodName := ⟨RX6, "size", "()I"⟩
abbrev cX6_valueOf : ByteArray := prog_8_method_3_code
def yX6_valueOf : MethodName := ⟨RX6, "valueOf", "(I)I"⟩
abbrev cX6_change : ByteArray := prog_8_method_4_code
def yX6_change : MethodName := ⟨RX6, "change", "(II)V"⟩
abbrev cX6_write : ByteArray := prog_8_method_5_code
def yX6_write : MethodName := ⟨RX6, "write", "(II)V"⟩
abbrev cX6_hasWord : ByteArray := prog_8_method_6_code
def yX6_hasWord : MethodName := ⟨RX6, "hasWord", "(I)Z"⟩
abbrev cX6_wordAt : ByteArray := prog_8_method_7_code
def yX6_wordAt : MethodName := ⟨RX6, "wordAt", "(I)I"⟩
abbrev cX6_layWord : ByteArray := prog_8_method_8_code
def yX6_layWord : MethodName := ⟨RX6, "layWord", "(II)V"⟩
abbrev cX6_begin : ByteArray := prog_8_method_9_code
def yX6_begin : MethodName := ⟨RX6, "begin", "(LPocketCompiler$Program;III)V"⟩
abbrev cX6_ticks : ByteArray := prog_8_method_10_code
def yX6_ticks : MethodName := ⟨RX6, "ticks", "(I)I"⟩
abbrev cX6_tick : ByteArray := prog_8_method_11_code
def yX6_tick : MethodName := ⟨RX6, "tick", "()V"⟩
abbrev cX6_perform : ByteArray := prog_8_method_12_code
def yX6_perform : MethodName := ⟨RX6, "perform", "(II)V"⟩
abbrev cX6_jump : ByteArray := prog_8_method_13_code
def yX6_jump : MethodName := ⟨RX6, "jump", "(II)V"⟩
abbrev cX6_branch : ByteArray := prog_8_method_14_code
def yX6_branch : MethodName := ⟨RX6, "branch", "(ZI)V"⟩
abbrev cX6_isTaken : ByteArray := prog_8_method_15_code
def yX6_isTaken : MethodName := ⟨RX6, "isTaken", "(III)Z"⟩
abbrev cX6_isBelow : ByteArray := prog_8_method_16_code
def yX6_isBelow : MethodName := ⟨RX6, "isBelow", "(II)Z"⟩
abbrev cX6_bytesOf : ByteArray := prog_8_method_17_code
def yX6_bytesOf : MethodName := ⟨RX6, "bytesOf", "(I)I"⟩
abbrev cX6_isReached : ByteArray := prog_8_method_18_code
def yX6_isReached : MethodName := ⟨RX6, "isReached", "(II)Z"⟩
abbrev cX6_fetch : ByteArray := prog_8_method_19_code
def yX6_fetch : MethodName := ⟨RX6, "fetch", "(III)V"⟩
abbrev cX6_store : ByteArray := prog_8_method_20_code
def yX6_store : MethodName := ⟨RX6, "store", "(III)V"⟩
abbrev cX6_numbered : ByteArray := prog_8_method_21_code
def yX6_numbered : MethodName := ⟨RX6, "numbered", "(III)I"⟩
abbrev cX6_joined : ByteArray := prog_8_method_22_code
def yX6_joined : MethodName := ⟨RX6, "joined", "(III)I"⟩
abbrev cX6_service : ByteArray := prog_8_method_23_code
def yX6_service : MethodName := ⟨RX6, "service", "()V"⟩
def RX7 : String := "PocketCompiler$Program"
def TX7 : u_T := fun k => match k with
  | 0 => ("PocketCompiler$Program", "text", "[I", true)
  | 1 => ("PocketCompiler$Program", "length", "I", false)
  | 2 => ("PocketCompiler$Program", "functions", "[[I", true)
  | 3 => ("PocketCompiler$Program", "functionCount", "I", false)
  | 4 => ("PocketCompiler$Program", "globals", "[[I", true)
  | 5 => ("PocketCompiler$Program", "globalCount", "I", false)
  | 6 => ("PocketCompiler$Program", "deeds", "[I", true)
  | 7 => ("PocketCompiler$Program", "xs", "[I", true)
  | 8 => ("PocketCompiler$Program", "ys", "[I", true)
  | 9 => ("PocketCompiler$Program", "deedCount", "I", false)
  | 10 => ("PocketCompiler$Program", "words", "[I", true)
  | 11 => ("PocketCompiler$Program", "wordCount", "I", false)
  | _ => ("PocketCompiler$Program", "limit", "I", false)
def tyX7 : Nat → FieldType := fun k => match k with
  | 0 => .array .int
  | 1 => .int
  | 2 => .array (.array .int)
  | 3 => .int
  | 4 => .array (.array .int)
  | 5 => .int
  | 6 => .array .int
  | 7 => .array .int
  | 8 => .array .int
  | 9 => .int
  | 10 => .array .int
  | 11 => .int
  | _ => .int
abbrev wsX70 : List Cond := u_ws RX7 TX7 13
theorem nmX7 : ∀ a, a < 13 → ∀ b, b < 13 → a ≠ b → (TX7 a).2.1 ≠ (TX7 b).2.1 := by decide +kernel
theorem tyX7_ok : ∀ k, k < 13 → parseFieldDescriptor (TX7 k).2.2.1 = some (tyX7 k) := by decide +kernel
abbrev cX7_init : ByteArray := prog_9_method_1_code
def yX7_init : MethodName := ⟨RX7, "<init>", "(I)V"⟩
abbrev cX7_copyText : ByteArray := prog_9_method_2_code
def yX7_copyText : MethodName := ⟨RX7, "copyText", "([II)V"⟩
abbrev cX7_clear : ByteArray := prog_9_method_3_code
def yX7_clear : MethodName := ⟨RX7, "clear", "()V"⟩
abbrev cX7_byteAt : ByteArray := prog_9_method_4_code
def yX7_byteAt : MethodName := ⟨RX7, "byteAt", "(I)I"⟩
abbrev cX7_nameBytes : ByteArray := prog_9_method_5_code
def yX7_nameBytes : MethodName := ⟨RX7, "nameBytes", "(I)I"⟩
abbrev cX7_isNameAt : ByteArray := prog_9_method_6_code
def yX7_isNameAt : MethodName := ⟨RX7, "isNameAt", "(I[II)Z"⟩
abbrev cX7_functionFact : ByteArray := prog_9_method_7_code
def yX7_functionFact : MethodName := ⟨RX7, "functionFact", "(II)I"⟩
abbrev cX7_globalFact : ByteArray := prog_9_method_8_code
def yX7_globalFact : MethodName := ⟨RX7, "globalFact", "(II)I"⟩
abbrev cX7_changeFunction : ByteArray := prog_9_method_9_code
def yX7_changeFunction : MethodName := ⟨RX7, "changeFunction", "(III)V"⟩
abbrev cX7_changeGlobal : ByteArray := prog_9_method_10_code
def yX7_changeGlobal : MethodName := ⟨RX7, "changeGlobal", "(III)V"⟩
abbrev cX7_functionNamed : ByteArray := prog_9_method_11_code
def yX7_functionNamed : MethodName := ⟨RX7, "functionNamed", "(I)I"⟩
abbrev cX7_globalNamed : ByteArray := prog_9_method_12_code
def yX7_globalNamed : MethodName := ⟨RX7, "globalNamed", "(I)I"⟩
abbrev cX7_firstCell : ByteArray := prog_9_method_13_code
def yX7_firstCell : MethodName := ⟨RX7, "firstCell", "(I)I"⟩
abbrev cX7_wordAt : ByteArray := prog_9_method_14_code
def yX7_wordAt : MethodName := ⟨RX7, "wordAt", "(I)I"⟩
def RX8 : String := "PocketCompiler$Shower"
def TX8 : u_T := fun k => match k with
  | _ => ("PocketCompiler$Shower", "text", "Ljava/lang/StringBuilder;", true)
def tyX8 : Nat → FieldType := fun k => match k with
  | _ => .object "java/lang/StringBuilder"
abbrev wsX80 : List Cond := u_ws RX8 TX8 1
theorem nmX8 : ∀ a, a < 1 → ∀ b, b < 1 → a ≠ b → (TX8 a).2.1 ≠ (TX8 b).2.1 := by decide +kernel
theorem tyX8_ok : ∀ k, k < 1 → parseFieldDescriptor (TX8 k).2.2.1 = some (tyX8 k) := by decide +kernel
abbrev cX8_init : ByteArray := prog_10_method_1_code
def yX8_init : MethodName := ⟨RX8, "<init>", "()V"⟩
abbrev cX8_byteAt : ByteArray := prog_10_method_2_code
def yX8_byteAt : MethodName := ⟨RX8, "byteAt", "(I)I"⟩
abbrev cX8_spell : ByteArray := prog_10_method_3_code
def yX8_spell : MethodName := ⟨RX8, "spell", "(I)I"⟩
abbrev cX8_addName : ByteArray := prog_10_method_4_code
def yX8_addName : MethodName := ⟨RX8, "addName", "(I)V"⟩
abbrev cX8_addHex : ByteArray := prog_10_method_5_code
def yX8_addHex : MethodName := ⟨RX8, "addHex", "(I)V"⟩
abbrev cX8_addOperands : ByteArray := prog_10_method_6_code
def yX8_addOperands : MethodName := ⟨RX8, "addOperands", "(II)V"⟩
abbrev cX8_addRegister : ByteArray := prog_10_method_7_code
def yX8_addRegister : MethodName := ⟨RX8, "addRegister", "(I)V"⟩
abbrev cX8_addPair : ByteArray := prog_10_method_8_code
def yX8_addPair : MethodName := ⟨RX8, "addPair", "(II)V"⟩
abbrev cX8_addReach : ByteArray := prog_10_method_9_code
def yX8_addReach : MethodName := ⟨RX8, "addReach", "(III)V"⟩
def RX9 : String := "PocketCompiler$Tokens"
def TX9 : u_T := fun k => match k with
  | 0 => ("PocketCompiler$Tokens", "source", "LPocketCompiler$Program;", false)
  | 1 => ("PocketCompiler$Tokens", "kinds", "[I", true)
  | 2 => ("PocketCompiler$Tokens", "places", "[I", true)
  | 3 => ("PocketCompiler$Tokens", "values", "[I", true)
  | 4 => ("PocketCompiler$Tokens", "size", "I", false)
  | 5 => ("PocketCompiler$Tokens", "at", "I", false)
  | 6 => ("PocketCompiler$Tokens", "opened", "I", false)
  | 7 => ("PocketCompiler$Tokens", "dueAt", "I", false)
  | 8 => ("PocketCompiler$Tokens", "faultKind", "I", false)
  | _ => ("PocketCompiler$Tokens", "faultPlace", "I", false)
def tyX9 : Nat → FieldType := fun k => match k with
  | 0 => .object "PocketCompiler$Program"
  | 1 => .array .int
  | 2 => .array .int
  | 3 => .array .int
  | 4 => .int
  | 5 => .int
  | 6 => .int
  | 7 => .int
  | 8 => .int
  | _ => .int
abbrev wsX90 : List Cond := u_ws RX9 TX9 10
theorem nmX9 : ∀ a, a < 10 → ∀ b, b < 10 → a ≠ b → (TX9 a).2.1 ≠ (TX9 b).2.1 := by decide +kernel
theorem tyX9_ok : ∀ k, k < 10 → parseFieldDescriptor (TX9 k).2.2.1 = some (tyX9 k) := by decide +kernel
abbrev cX9_init : ByteArray := prog_11_method_1_code
def yX9_init : MethodName := ⟨RX9, "<init>", "(LPocketCompiler$Program;)V"⟩
abbrev cX9_isDigit : ByteArray := prog_11_method_2_code
def yX9_isDigit : MethodName := ⟨RX9, "isDigit", "(I)Z"⟩
abbrev cX9_isLetter : ByteArray := prog_11_method_3_code
def yX9_isLetter : MethodName := ⟨RX9, "isLetter", "(I)Z"⟩
abbrev cX9_isNamePart : ByteArray := prog_11_method_4_code
def yX9_isNamePart : MethodName := ⟨RX9, "isNamePart", "(I)Z"⟩
abbrev cX9_isSet : ByteArray := prog_11_method_5_code
def yX9_isSet : MethodName := ⟨RX9, "isSet", "(I)Z"⟩
abbrev cX9_strength : ByteArray := prog_11_method_6_code
def yX9_strength : MethodName := ⟨RX9, "strength", "(I)I"⟩
abbrev cX9_scan : ByteArray := prog_11_method_7_code
def yX9_scan : MethodName := ⟨RX9, "scan", "(LPocketCompiler$Program;)V"⟩
abbrev cX9_behindBlanks : ByteArray := prog_11_method_8_code
def yX9_behindBlanks : MethodName := ⟨RX9, "behindBlanks", "(I)I"⟩
abbrev cX9_scanOne : ByteArray := prog_11_method_9_code
def yX9_scanOne : MethodName := ⟨RX9, "scanOne", "(I)I"⟩
abbrev cX9_add : ByteArray := prog_11_method_10_code
def yX9_add : MethodName := ⟨RX9, "add", "(IIII)I"⟩
abbrev cX9_scanName : ByteArray := prog_11_method_11_code
def yX9_scanName : MethodName := ⟨RX9, "scanName", "(I)I"⟩
abbrev cX9_firstAlike : ByteArray := prog_11_method_12_code
def yX9_firstAlike : MethodName := ⟨RX9, "firstAlike", "(II)I"⟩
abbrev cX9_isAlike : ByteArray := prog_11_method_13_code
def yX9_isAlike : MethodName := ⟨RX9, "isAlike", "(III)Z"⟩
abbrev cX9_scanNumber : ByteArray := prog_11_method_14_code
def yX9_scanNumber : MethodName := ⟨RX9, "scanNumber", "(I)I"⟩
abbrev cX9_digitValue : ByteArray := prog_11_method_15_code
def yX9_digitValue : MethodName := ⟨RX9, "digitValue", "(II)I"⟩
abbrev cX9_scanCharacter : ByteArray := prog_11_method_16_code
def yX9_scanCharacter : MethodName := ⟨RX9, "scanCharacter", "(I)I"⟩
abbrev cX9_scanSign : ByteArray := prog_11_method_17_code
def yX9_scanSign : MethodName := ⟨RX9, "scanSign", "(I)I"⟩
abbrev cX9_spelled : ByteArray := prog_11_method_18_code
def yX9_spelled : MethodName := ⟨RX9, "spelled", "(Ljava/lang/String;III)I"⟩
abbrev cX9_kind : ByteArray := prog_11_method_19_code
def yX9_kind : MethodName := ⟨RX9, "kind", "()I"⟩
abbrev cX9_kindBehind : ByteArray := prog_11_method_20_code
def yX9_kindBehind : MethodName := ⟨RX9, "kindBehind", "()I"⟩
abbrev cX9_value : ByteArray := prog_11_method_21_code
def yX9_value : MethodName := ⟨RX9, "value", "()I"⟩
abbrev cX9_place : ByteArray := prog_11_method_22_code
def yX9_place : MethodName := ⟨RX9, "place", "()I"⟩
abbrev cX9_refuse : ByteArray := prog_11_method_23_code
def yX9_refuse : MethodName := ⟨RX9, "refuse", "(II)V"⟩
abbrev cX9_refuseMisfit : ByteArray := prog_11_method_24_code
def yX9_refuseMisfit : MethodName := ⟨RX9, "refuseMisfit", "()V"⟩
abbrev cX9_need : ByteArray := prog_11_method_25_code
def yX9_need : MethodName := ⟨RX9, "need", "(I)V"⟩
abbrev cX9_isTooMuch : ByteArray := prog_11_method_26_code
def yX9_isTooMuch : MethodName := ⟨RX9, "isTooMuch", "()Z"⟩
abbrev cX9_take : ByteArray := prog_11_method_27_code
def yX9_take : MethodName := ⟨RX9, "take", "()V"⟩
abbrev cX9_expect : ByteArray := prog_11_method_28_code
def yX9_expect : MethodName := ⟨RX9, "expect", "(I)V"⟩
abbrev cX9_open : ByteArray := prog_11_method_29_code
def yX9_open : MethodName := ⟨RX9, "open", "()V"⟩
abbrev cX9_close : ByteArray := prog_11_method_30_code
def yX9_close : MethodName := ⟨RX9, "close", "()V"⟩
abbrev cX9_makeDue : ByteArray := prog_11_method_31_code
def yX9_makeDue : MethodName := ⟨RX9, "makeDue", "()V"⟩
def RX10 : String := "PocketCompiler$Worker"
def TX10 : u_T := fun k => match k with
  | 0 => ("PocketCompiler$Worker", "program", "LPocketCompiler$Program;", false)
  | 1 => ("PocketCompiler$Worker", "gifts", "LPocketCompiler$Gifts;", true)
  | 2 => ("PocketCompiler$Worker", "memoryBytes", "I", true)
  | 3 => ("PocketCompiler$Worker", "frames", "[I", true)
  | 4 => ("PocketCompiler$Worker", "cells", "[I", true)
  | 5 => ("PocketCompiler$Worker", "puts", "[I", true)
  | 6 => ("PocketCompiler$Worker", "hasWorked", "Z", false)
  | 7 => ("PocketCompiler$Worker", "outcome", "I", false)
  | 8 => ("PocketCompiler$Worker", "hand", "I", false)
  | 9 => ("PocketCompiler$Worker", "at", "I", false)
  | 10 => ("PocketCompiler$Worker", "base", "I", false)
  | 11 => ("PocketCompiler$Worker", "top", "I", false)
  | 12 => ("PocketCompiler$Worker", "mostTurns", "I", false)
  | 13 => ("PocketCompiler$Worker", "turns", "I", false)
  | 14 => ("PocketCompiler$Worker", "mostBytes", "I", false)
  | 15 => ("PocketCompiler$Worker", "putCount", "I", false)
  | _ => ("PocketCompiler$Worker", "gotCount", "I", false)
def tyX10 : Nat → FieldType := fun k => match k with
  | 0 => .object "PocketCompiler$Program"
  | 1 => .object "PocketCompiler$Gifts"
  | 2 => .int
  | 3 => .array .int
  | 4 => .array .int
  | 5 => .array .int
  | 6 => .boolean
  | 7 => .int
  | 8 => .int
  | 9 => .int
  | 10 => .int
  | 11 => .int
  | 12 => .int
  | 13 => .int
  | 14 => .int
  | 15 => .int
  | _ => .int
abbrev wsX100 : List Cond := u_ws RX10 TX10 17
theorem nmX10 : ∀ a, a < 17 → ∀ b, b < 17 → a ≠ b → (TX10 a).2.1 ≠ (TX10 b).2.1 := by decide +kernel
theorem tyX10_ok : ∀ k, k < 17 → parseFieldDescriptor (TX10 k).2.2.1 = some (tyX10 k) := by decide +kernel
abbrev cX10_init : ByteArray := prog_12_method_1_code
def yX10_init : MethodName := ⟨RX10, "<init>", "(LPocketCompiler$Program;ILPocketCompiler$Gifts;)V"⟩
abbrev cX10_drop : ByteArray := prog_12_method_2_code
def yX10_drop : MethodName := ⟨RX10, "drop", "()V"⟩
abbrev cX10_fact : ByteArray := prog_12_method_3_code
def yX10_fact : MethodName := ⟨RX10, "fact", "(I)I"⟩
abbrev cX10_cellAt : ByteArray := prog_12_method_4_code
def yX10_cellAt : MethodName := ⟨RX10, "cellAt", "(I)I"⟩
abbrev cX10_changeCell : ByteArray := prog_12_method_5_code
def yX10_changeCell : MethodName := ⟨RX10, "changeCell", "(II)V"⟩
abbrev cX10_frameWord : ByteArray := prog_12_method_6_code
def yX10_frameWord : MethodName := ⟨RX10, "frameWord", "(I)I"⟩
abbrev cX10_changeFrameWord : ByteArray := prog_12_method_7_code
def yX10_changeFrameWord : MethodName := ⟨RX10, "changeFrameWord", "(II)V"⟩
abbrev cX10_placeOfSlot : ByteArray := prog_12_method_8_code
def yX10_placeOfSlot : MethodName := ⟨RX10, "placeOfSlot", "(I)I"⟩
abbrev cX10_slotAt : ByteArray := prog_12_method_9_code
def yX10_slotAt : MethodName := ⟨RX10, "slotAt", "(I)I"⟩
abbrev cX10_changeSlot : ByteArray := prog_12_method_10_code
def yX10_changeSlot : MethodName := ⟨RX10, "changeSlot", "(II)V"⟩
abbrev cX10_begin : ByteArray := prog_12_method_11_code
def yX10_begin : MethodName := ⟨RX10, "begin", "(LPocketCompiler$Program;I)V"⟩
abbrev cX10_perform : ByteArray := prog_12_method_12_code
def yX10_perform : MethodName := ⟨RX10, "perform", "(III)I"⟩
abbrev cX10_takeTurn : ByteArray := prog_12_method_13_code
def yX10_takeTurn : MethodName := ⟨RX10, "takeTurn", "()V"⟩
abbrev cX10_enter : ByteArray := prog_12_method_14_code
def yX10_enter : MethodName := ⟨RX10, "enter", "(II)V"⟩
abbrev cX10_callFunction : ByteArray := prog_12_method_15_code
def yX10_callFunction : MethodName := ⟨RX10, "callFunction", "(II)V"⟩
abbrev cX10_leaveFunction : ByteArray := prog_12_method_16_code
def yX10_leaveFunction : MethodName := ⟨RX10, "leaveFunction", "()V"⟩
abbrev cX10_doDeed : ByteArray := prog_12_method_17_code
def yX10_doDeed : MethodName := ⟨RX10, "doDeed", "()V"⟩
abbrev cX10_doPlace : ByteArray := prog_12_method_18_code
def yX10_doPlace : MethodName := ⟨RX10, "doPlace", "(III)V"⟩
abbrev cX10_index : ByteArray := prog_12_method_19_code
def yX10_index : MethodName := ⟨RX10, "index", "(I)V"⟩
abbrev cX10_doJump : ByteArray := prog_12_method_20_code
def yX10_doJump : MethodName := ⟨RX10, "doJump", "(II)V"⟩
abbrev cX10_putHand : ByteArray := prog_12_method_21_code
def yX10_putHand : MethodName := ⟨RX10, "putHand", "()V"⟩
abbrev cX10_join : ByteArray := prog_12_method_22_code
def yX10_join : MethodName := ⟨RX10, "join", "(II)V"⟩
abbrev cX10_divide : ByteArray := prog_12_method_23_code
def yX10_divide : MethodName := ⟨RX10, "divide", "(ZI)V"⟩
abbrev cX10_compares : ByteArray := prog_12_method_24_code
def yX10_compares : MethodName := ⟨RX10, "compares", "(III)Z"⟩
def RX11 : String := "PocketCompiler"
def TX11 : u_T := fun k => match k with
  | 0 => ("PocketCompiler", "tape", "[I", true)
  | 1 => ("PocketCompiler", "taped", "I", false)
  | 2 => ("PocketCompiler", "loaded", "LPocketCompiler$Program;", false)
  | 3 => ("PocketCompiler", "spare", "LPocketCompiler$Program;", false)
  | 4 => ("PocketCompiler", "parser", "LPocketCompiler$Parser;", true)
  | 5 => ("PocketCompiler", "assembler", "LPocketCompiler$Assembler;", true)
  | 6 => ("PocketCompiler", "latestFault", "I", false)
  | 7 => ("PocketCompiler", "latestPlace", "I", false)
  | 8 => ("PocketCompiler", "gifts", "LPocketCompiler$Gifts;", true)
  | 9 => ("PocketCompiler", "processor", "LPocketCompiler$Processor;", true)
  | 10 => ("PocketCompiler", "worker", "LPocketCompiler$Worker;", true)
  | _ => ("PocketCompiler", "shower", "LPocketCompiler$Shower;", true)
def tyX11 : Nat → FieldType := fun k => match k with
  | 0 => .array .int
  | 1 => .int
  | 2 => .object "PocketCompiler$Program"
  | 3 => .object "PocketCompiler$Program"
  | 4 => .object "PocketCompiler$Parser"
  | 5 => .object "PocketCompiler$Assembler"
  | 6 => .int
  | 7 => .int
  | 8 => .object "PocketCompiler$Gifts"
  | 9 => .object "PocketCompiler$Processor"
  | 10 => .object "PocketCompiler$Worker"
  | _ => .object "PocketCompiler$Shower"
abbrev wsX110 : List Cond := u_ws RX11 TX11 12
theorem nmX11 : ∀ a, a < 12 → ∀ b, b < 12 → a ≠ b → (TX11 a).2.1 ≠ (TX11 b).2.1 := by decide +kernel
theorem tyX11_ok : ∀ k, k < 12 → parseFieldDescriptor (TX11 k).2.2.1 = some (tyX11 k) := by decide +kernel
abbrev cX11_init : ByteArray := prog_1_method_1_code
def yX11_init : MethodName := ⟨RX11, "<init>", "(I)V"⟩
abbrev cX11_feed : ByteArray := prog_1_method_2_code
def yX11_feed : MethodName := ⟨RX11, "feed", "(IIIII)Z"⟩
abbrev cX11_tapeNumber : ByteArray := prog_1_method_3_code
def yX11_tapeNumber : MethodName := ⟨RX11, "tapeNumber", "(I)V"⟩
abbrev cX11_end : ByteArray := prog_1_method_4_code
def yX11_end : MethodName := ⟨RX11, "end", "(I)Z"⟩
abbrev cX11_load : ByteArray := prog_1_method_5_code
def yX11_load : MethodName := ⟨RX11, "load", "()I"⟩
abbrev cX11_fault : ByteArray := prog_1_method_6_code
def yX11_fault : MethodName := ⟨RX11, "fault", "(I)I"⟩
abbrev cX11_code : ByteArray := prog_1_method_7_code
def yX11_code : MethodName := ⟨RX11, "code", "(I)I"⟩
abbrev cX11_function : ByteArray := prog_1_method_8_code
def yX11_function : MethodName := ⟨RX11, "function", "(II)I"⟩
abbrev cX11_global : ByteArray := prog_1_method_9_code
def yX11_global : MethodName := ⟨RX11, "global", "(II)I"⟩
abbrev cX11_find : ByteArray := prog_1_method_10_code
def yX11_find : MethodName := ⟨RX11, "find", "(I)I"⟩
abbrev cX11_give : ByteArray := prog_1_method_11_code
def yX11_give : MethodName := ⟨RX11, "give", "(I)I"⟩
abbrev cX11_forget : ByteArray := prog_1_method_12_code
def yX11_forget : MethodName := ⟨RX11, "forget", "()I"⟩
abbrev cX11_start : ByteArray := prog_1_method_13_code
def yX11_start : MethodName := ⟨RX11, "start", "(III)Z"⟩
abbrev cX11_step : ByteArray := prog_1_method_14_code
def yX11_step : MethodName := ⟨RX11, "step", "()I"⟩
abbrev cX11_run : ByteArray := prog_1_method_15_code
def yX11_run : MethodName := ⟨RX11, "run", "(I)I"⟩
abbrev cX11_result : ByteArray := prog_1_method_16_code
def yX11_result : MethodName := ⟨RX11, "result", "()I"⟩
abbrev cX11_register : ByteArray := prog_1_method_17_code
def yX11_register : MethodName := ⟨RX11, "register", "(I)I"⟩
abbrev cX11_set : ByteArray := prog_1_method_18_code
def yX11_set : MethodName := ⟨RX11, "set", "(II)V"⟩
abbrev cX11_word : ByteArray := prog_1_method_19_code
def yX11_word : MethodName := ⟨RX11, "word", "(I)I"⟩
abbrev cX11_poke : ByteArray := prog_1_method_20_code
def yX11_poke : MethodName := ⟨RX11, "poke", "(II)V"⟩
abbrev cX11_checkAddress : ByteArray := prog_1_method_21_code
def yX11_checkAddress : MethodName := ⟨RX11, "checkAddress", "(I)V"⟩
abbrev cX11_put : ByteArray := prog_1_method_22_code
def yX11_put : MethodName := ⟨RX11, "put", "(I)I"⟩
abbrev cX11_show : ByteArray := prog_1_method_23_code
def yX11_show : MethodName := ⟨RX11, "show", "(I)I"⟩
abbrev cX11_octet : ByteArray := prog_1_method_24_code
def yX11_octet : MethodName := ⟨RX11, "octet", "(I)I"⟩
abbrev cX11_work : ByteArray := prog_1_method_25_code
def yX11_work : MethodName := ⟨RX11, "work", "(IIII)I"⟩
abbrev cX11_told : ByteArray := prog_1_method_26_code
def yX11_told : MethodName := ⟨RX11, "told", "(I)I"⟩
abbrev cX11_worked : ByteArray := prog_1_method_27_code
def yX11_worked : MethodName := ⟨RX11, "worked", "(I)I"⟩
abbrev cX11_left : ByteArray := prog_1_method_28_code
def yX11_left : MethodName := ⟨RX11, "left", "(II)I"⟩
abbrev cX11_count : ByteArray := prog_1_method_29_code
def yX11_count : MethodName := ⟨RX11, "count", "(I)I"⟩
def RX12 : String := "PocketCompilerModel$Halt"
def TX12 : u_T := fun k => match k with
  | 0 => ("java/lang/Throwable", "cause", "Ljava/lang/Throwable;", false)
  | 1 => ("java/lang/Throwable", "stackTrace", "[Ljava/lang/StackTraceElement;", false)
  | 2 => ("java/lang/Throwable", "suppressedExceptions", "Ljava/util/List;", false)
  | 3 => ("java/lang/Throwable", "detailMessage", "Ljava/lang/String;", false)
  | 4 => ("java/lang/Throwable", "backtrace", "Ljava/lang/Object;", false)
  | _ => ("java/lang/Throwable", "depth", "I", false)
def tyX12 : Nat → FieldType := fun k => match k with
  | 0 => .object "java/lang/Throwable"
  | 1 => .array (.object "java/lang/StackTraceElement")
  | 2 => .object "java/util/List"
  | 3 => .object "java/lang/String"
  | 4 => .object "java/lang/Object"
  | _ => .int
abbrev wsX120 : List Cond := u_ws RX12 TX12 6
theorem nmX12 : ∀ a, a < 6 → ∀ b, b < 6 → a ≠ b → (TX12 a).2.1 ≠ (TX12 b).2.1 := by decide +kernel
theorem tyX12_ok : ∀ k, k < 6 → parseFieldDescriptor (TX12 k).2.2.1 = some (tyX12 k) := by decide +kernel
abbrev cX12_init : ByteArray := prog_15_method_1_code
def yX12_init : MethodName := ⟨RX12, "<init>", "()V"⟩
def RX13 : String := "PocketCompilerModel"
def TX13 : u_T := fun k => match k with
  | 0 => ("PocketCompilerModel", "thrown", "I", false)
  | 1 => ("PocketCompilerModel", "tape", "[I", true)
  | 2 => ("PocketCompilerModel", "taped", "I", false)
  | 3 => ("PocketCompilerModel", "text", "[I", true)
  | 4 => ("PocketCompilerModel", "size", "I", false)
  | 5 => ("PocketCompilerModel", "tokens", "I", false)
  | 6 => ("PocketCompilerModel", "kind", "[I", true)
  | 7 => ("PocketCompilerModel", "place", "[I", true)
  | 8 => ("PocketCompilerModel", "until", "[I", true)
  | 9 => ("PocketCompilerModel", "value", "[J", true)
  | 10 => ("PocketCompilerModel", "digits", "[Z", true)
  | 11 => ("PocketCompilerModel", "code", "[I", true)
  | 12 => ("PocketCompilerModel", "words", "I", false)
  | 13 => ("PocketCompilerModel", "order", "[I", true)
  | 14 => ("PocketCompilerModel", "argument", "[I", true)
  | 15 => ("PocketCompilerModel", "orders", "I", false)
  | 16 => ("PocketCompilerModel", "fName", "[I", true)
  | 17 => ("PocketCompilerModel", "fMany", "[I", true)
  | 18 => ("PocketCompilerModel", "fFrame", "[I", true)
  | 19 => ("PocketCompilerModel", "fAt", "[I", true)
  | 20 => ("PocketCompilerModel", "fOrder", "[I", true)
  | 21 => ("PocketCompilerModel", "fLocals", "[I", true)
  | 22 => ("PocketCompilerModel", "functions", "I", false)
  | 23 => ("PocketCompilerModel", "gName", "[I", true)
  | 24 => ("PocketCompilerModel", "gMany", "[I", true)
  | 25 => ("PocketCompilerModel", "gFrom", "[I", true)
  | 26 => ("PocketCompilerModel", "gRow", "[Z", true)
  | 27 => ("PocketCompilerModel", "globals", "I", false)
  | 28 => ("PocketCompilerModel", "numbers", "I", false)
  | 29 => ("PocketCompilerModel", "sName", "[I", true)
  | 30 => ("PocketCompilerModel", "known", "I", false)
  | 31 => ("PocketCompilerModel", "blockFrom", "I", false)
  | 32 => ("PocketCompilerModel", "putBy", "I", false)
  | 33 => ("PocketCompilerModel", "highest", "I", false)
  | 34 => ("PocketCompilerModel", "mostKnown", "I", false)
  | 35 => ("PocketCompilerModel", "cName", "[I", true)
  | 36 => ("PocketCompilerModel", "cMany", "[I", true)
  | 37 => ("PocketCompilerModel", "cWord", "[I", true)
  | 38 => ("PocketCompilerModel", "cOrder", "[I", true)
  | 39 => ("PocketCompilerModel", "calls", "I", false)
  | 40 => ("PocketCompilerModel", "fixAt", "[I", true)
  | 41 => ("PocketCompilerModel", "fixOf", "[I", true)
  | 42 => ("PocketCompilerModel", "fixKind", "[I", true)
  | 43 => ("PocketCompilerModel", "fixes", "I", false)
  | 44 => ("PocketCompilerModel", "multiplies", "Z", false)
  | 45 => ("PocketCompilerModel", "divides", "Z", false)
  | 46 => ("PocketCompilerModel", "halt", "LPocketCompilerModel$Halt;", true)
  | 47 => ("PocketCompilerModel", "t", "I", false)
  | 48 => ("PocketCompilerModel", "opened", "I", false)
  | 49 => ("PocketCompilerModel", "boundAt", "I", false)
  | 50 => ("PocketCompilerModel", "fault", "I", false)
  | 51 => ("PocketCompilerModel", "faultPlace", "I", false)
  | 52 => ("PocketCompilerModel", "loops", "I", false)
  | 53 => ("PocketCompilerModel", "breaks", "I", false)
  | 54 => ("PocketCompilerModel", "mBreaks", "I", false)
  | 55 => ("PocketCompilerModel", "again", "I", false)
  | 56 => ("PocketCompilerModel", "mAgain", "I", false)
  | 57 => ("PocketCompilerModel", "agains", "I", false)
  | 58 => ("PocketCompilerModel", "mAgains", "I", false)
  | 59 => ("PocketCompilerModel", "returns", "I", false)
  | 60 => ("PocketCompilerModel", "mJump", "I", false)
  | 61 => ("PocketCompilerModel", "hadBreaks", "[I", true)
  | 62 => ("PocketCompilerModel", "hadMBreaks", "[I", true)
  | 63 => ("PocketCompilerModel", "hadAgain", "[I", true)
  | 64 => ("PocketCompilerModel", "hadMAgain", "[I", true)
  | 65 => ("PocketCompilerModel", "hadAgains", "[I", true)
  | 66 => ("PocketCompilerModel", "hadMAgains", "[I", true)
  | 67 => ("PocketCompilerModel", "multiplyAt", "I", false)
  | 68 => ("PocketCompilerModel", "divideAt", "I", false)
  | 69 => ("PocketCompilerModel", "limit", "I", false)
  | 70 => ("PocketCompilerModel", "bCode", "[I", false)
  | 71 => ("PocketCompilerModel", "bOrder", "[I", false)
  | 72 => ("PocketCompilerModel", "bArgument", "[I", false)
  | 73 => ("PocketCompilerModel", "bWords", "I", false)
  | 74 => ("PocketCompilerModel", "bFunctions", "I", false)
  | 75 => ("PocketCompilerModel", "bGlobals", "I", false)
  | 76 => ("PocketCompilerModel", "bNumbers", "I", false)
  | 77 => ("PocketCompilerModel", "bLimit", "I", false)
  | 78 => ("PocketCompilerModel", "bMany", "[I", true)
  | 79 => ("PocketCompilerModel", "bFrame", "[I", true)
  | 80 => ("PocketCompilerModel", "bAt", "[I", true)
  | 81 => ("PocketCompilerModel", "bGo", "[I", true)
  | 82 => ("PocketCompilerModel", "bLocals", "[I", true)
  | 83 => ("PocketCompilerModel", "bPlace", "[I", true)
  | 84 => ("PocketCompilerModel", "bEnd", "[I", true)
  | 85 => ("PocketCompilerModel", "dMany", "[I", true)
  | 86 => ("PocketCompilerModel", "dFrom", "[I", true)
  | 87 => ("PocketCompilerModel", "dPlace", "[I", true)
  | 88 => ("PocketCompilerModel", "dEnd", "[I", true)
  | 89 => ("PocketCompilerModel", "dRow", "[Z", true)
  | 90 => ("PocketCompilerModel", "bText", "[I", true)
  | 91 => ("PocketCompilerModel", "toldFault", "I", false)
  | 92 => ("PocketCompilerModel", "toldPlace", "I", false)
  | 93 => ("PocketCompilerModel", "given", "[I", true)
  | 94 => ("PocketCompilerModel", "givenMany", "I", false)
  | 95 => ("PocketCompilerModel", "used", "I", false)
  | 96 => ("PocketCompilerModel", "memory", "[I", true)
  | 97 => ("PocketCompilerModel", "registers", "[I", true)
  | 98 => ("PocketCompilerModel", "pc", "I", false)
  | 99 => ("PocketCompilerModel", "status", "I", false)
  | 100 => ("PocketCompilerModel", "steps", "I", false)
  | 101 => ("PocketCompilerModel", "puts", "[I", true)
  | 102 => ("PocketCompilerModel", "putMany", "I", false)
  | 103 => ("PocketCompilerModel", "shown", "[I", true)
  | 104 => ("PocketCompilerModel", "shownMany", "I", false)
  | 105 => ("PocketCompilerModel", "pile", "[I", true)
  | 106 => ("PocketCompilerModel", "piled", "I", false)
  | 107 => ("PocketCompilerModel", "backTo", "[I", true)
  | 108 => ("PocketCompilerModel", "baseOf", "[I", true)
  | 109 => ("PocketCompilerModel", "called", "[I", true)
  | 110 => ("PocketCompilerModel", "frames", "I", false)
  | 111 => ("PocketCompilerModel", "base", "I", false)
  | 112 => ("PocketCompilerModel", "next", "I", false)
  | 113 => ("PocketCompilerModel", "turns", "I", false)
  | 114 => ("PocketCompilerModel", "mostTurns", "I", false)
  | 115 => ("PocketCompilerModel", "frameBytes", "I", false)
  | 116 => ("PocketCompilerModel", "mostBytes", "I", false)
  | 117 => ("PocketCompilerModel", "held", "[I", true)
  | 118 => ("PocketCompilerModel", "worked", "[I", true)
  | 119 => ("PocketCompilerModel", "workedMany", "I", false)
  | 120 => ("PocketCompilerModel", "gotMany", "I", false)
  | 121 => ("PocketCompilerModel", "answer", "I", false)
  | 122 => ("PocketCompilerModel", "answerValue", "I", false)
  | _ => ("PocketCompilerModel", "isWorked", "Z", false)
def tyX13 : Nat → FieldType := fun k => match k with
  | 0 => .int
  | 1 => .array .int
  | 2 => .int
  | 3 => .array .int
  | 4 => .int
  | 5 => .int
  | 6 => .array .int
  | 7 => .array .int
  | 8 => .array .int
  | 9 => .array .long
  | 10 => .array .boolean
  | 11 => .array .int
  | 12 => .int
  | 13 => .array .int
  | 14 => .array .int
  | 15 => .int
  | 16 => .array .int
  | 17 => .array .int
  | 18 => .array .int
  | 19 => .array .int
  | 20 => .array .int
  | 21 => .array .int
  | 22 => .int
  | 23 => .array .int
  | 24 => .array .int
  | 25 => .array .int
  | 26 => .array .boolean
  | 27 => .int
  | 28 => .int
  | 29 => .array .int
  | 30 => .int
  | 31 => .int
  | 32 => .int
  | 33 => .int
  | 34 => .int
  | 35 => .array .int
  | 36 => .array .int
  | 37 => .array .int
  | 38 => .array .int
  | 39 => .int
  | 40 => .array .int
  | 41 => .array .int
  | 42 => .array .int
  | 43 => .int
  | 44 => .boolean
  | 45 => .boolean
  | 46 => .object "PocketCompilerModel$Halt"
  | 47 => .int
  | 48 => .int
  | 49 => .int
  | 50 => .int
  | 51 => .int
  | 52 => .int
  | 53 => .int
  | 54 => .int
  | 55 => .int
  | 56 => .int
  | 57 => .int
  | 58 => .int
  | 59 => .int
  | 60 => .int
  | 61 => .array .int
  | 62 => .array .int
  | 63 => .array .int
  | 64 => .array .int
  | 65 => .array .int
  | 66 => .array .int
  | 67 => .int
  | 68 => .int
  | 69 => .int
  | 70 => .array .int
  | 71 => .array .int
  | 72 => .array .int
  | 73 => .int
  | 74 => .int
  | 75 => .int
  | 76 => .int
  | 77 => .int
  | 78 => .array .int
  | 79 => .array .int
  | 80 => .array .int
  | 81 => .array .int
  | 82 => .array .int
  | 83 => .array .int
  | 84 => .array .int
  | 85 => .array .int
  | 86 => .array .int
  | 87 => .array .int
  | 88 => .array .int
  | 89 => .array .boolean
  | 90 => .array .int
  | 91 => .int
  | 92 => .int
  | 93 => .array .int
  | 94 => .int
  | 95 => .int
  | 96 => .array .int
  | 97 => .array .int
  | 98 => .int
  | 99 => .int
  | 100 => .int
  | 101 => .array .int
  | 102 => .int
  | 103 => .array .int
  | 104 => .int
  | 105 => .array .int
  | 106 => .int
  | 107 => .array .int
  | 108 => .array .int
  | 109 => .array .int
  | 110 => .int
  | 111 => .int
  | 112 => .int
  | 113 => .int
  | 114 => .int
  | 115 => .int
  | 116 => .int
  | 117 => .array .int
  | 118 => .array .int
  | 119 => .int
  | 120 => .int
  | 121 => .int
  | 122 => .int
  | _ => .boolean
abbrev wsX130 : List Cond := u_ws RX13 TX13 124
theorem nmX13 : ∀ a, a < 124 → ∀ b, b < 124 → a ≠ b → (TX13 a).2.1 ≠ (TX13 b).2.1 := by decide +kernel
theorem tyX13_ok : ∀ k, k < 124 → parseFieldDescriptor (TX13 k).2.2.1 = some (tyX13 k) := by decide +kernel
abbrev cX13_thrown : ByteArray := prog_14_method_1_code
def yX13_thrown : MethodName := ⟨RX13, "thrown", "()I"⟩
abbrev cX13_feed : ByteArray := prog_14_method_2_code
def yX13_feed : MethodName := ⟨RX13, "feed", "(IIIII)Z"⟩
abbrev cX13_four : ByteArray := prog_14_method_3_code
def yX13_four : MethodName := ⟨RX13, "four", "(I)V"⟩
abbrev cX13_end : ByteArray := prog_14_method_4_code
def yX13_end : MethodName := ⟨RX13, "end", "(I)Z"⟩
abbrev cX13_at : ByteArray := prog_14_method_5_code
def yX13_at : MethodName := ⟨RX13, "at", "(I)I"⟩
abbrev cX13_isDigit : ByteArray := prog_14_method_6_code
def yX13_isDigit : MethodName := ⟨RX13, "isDigit", "(I)Z"⟩
abbrev cX13_isOfName : ByteArray := prog_14_method_7_code
def yX13_isOfName : MethodName := ⟨RX13, "isOfName", "(I)Z"⟩
abbrev cX13_hex : ByteArray := prog_14_method_8_code
def yX13_hex : MethodName := ⟨RX13, "hex", "(I)I"⟩
abbrev cX13_isBlank : ByteArray := prog_14_method_9_code
def yX13_isBlank : MethodName := ⟨RX13, "isBlank", "(I)Z"⟩
abbrev cX13_cut : ByteArray := prog_14_method_10_code
def yX13_cut : MethodName := ⟨RX13, "cut", "()V"⟩
abbrev cX13_token : ByteArray := prog_14_method_11_code
def yX13_token : MethodName := ⟨RX13, "token", "(I)I"⟩
abbrev cX13_number : ByteArray := prog_14_method_12_code
def yX13_number : MethodName := ⟨RX13, "number", "(I)I"⟩
abbrev cX13_sign : ByteArray := prog_14_method_13_code
def yX13_sign : MethodName := ⟨RX13, "sign", "(I)I"⟩
abbrev cX13_wordOf : ByteArray := prog_14_method_14_code
def yX13_wordOf : MethodName := ⟨RX13, "wordOf", "(Ljava/lang/String;II)I"⟩
abbrev cX13_isSame : ByteArray := prog_14_method_15_code
def yX13_isSame : MethodName := ⟨RX13, "isSame", "(II)Z"⟩
abbrev cX13_byI : ByteArray := prog_14_method_16_code
def yX13_byI : MethodName := ⟨RX13, "byI", "(IIIII)I"⟩
abbrev cX13_byR : ByteArray := prog_14_method_17_code
def yX13_byR : MethodName := ⟨RX13, "byR", "(IIIII)I"⟩
abbrev cX13_byB : ByteArray := prog_14_method_18_code
def yX13_byB : MethodName := ⟨RX13, "byB", "(IIII)I"⟩
abbrev cX13_byJ : ByteArray := prog_14_method_19_code
def yX13_byJ : MethodName := ⟨RX13, "byJ", "(II)I"⟩
abbrev cX13_hi : ByteArray := prog_14_method_20_code
def yX13_hi : MethodName := ⟨RX13, "hi", "(I)I"⟩
abbrev cX13_lo : ByteArray := prog_14_method_21_code
def yX13_lo : MethodName := ⟨RX13, "lo", "(I)I"⟩
abbrev cX13_addi : ByteArray := prog_14_method_22_code
def yX13_addi : MethodName := ⟨RX13, "addi", "(III)I"⟩
abbrev cX13_lui : ByteArray := prog_14_method_23_code
def yX13_lui : MethodName := ⟨RX13, "lui", "(II)I"⟩
abbrev cX13_lw : ByteArray := prog_14_method_24_code
def yX13_lw : MethodName := ⟨RX13, "lw", "(III)I"⟩
abbrev cX13_sw : ByteArray := prog_14_method_25_code
def yX13_sw : MethodName := ⟨RX13, "sw", "(III)I"⟩
abbrev cX13_emit : ByteArray := prog_14_method_26_code
def yX13_emit : MethodName := ⟨RX13, "emit", "(I)I"⟩
abbrev cX13_jump : ByteArray := prog_14_method_27_code
def yX13_jump : MethodName := ⟨RX13, "jump", "(III)V"⟩
abbrev cX13_wait : ByteArray := prog_14_method_28_code
def yX13_wait : MethodName := ⟨RX13, "wait", "(I)I"⟩
abbrev cX13_land : ByteArray := prog_14_method_29_code
def yX13_land : MethodName := ⟨RX13, "land", "(II)V"⟩
abbrev cX13_say : ByteArray := prog_14_method_30_code
def yX13_say : MethodName := ⟨RX13, "say", "(II)I"⟩
abbrev cX13_arrive : ByteArray := prog_14_method_31_code
def yX13_arrive : MethodName := ⟨RX13, "arrive", "(II)V"⟩
abbrev cX13_fail : ByteArray := prog_14_method_32_code
def yX13_fail : MethodName := ⟨RX13, "fail", "(II)LPocketCompilerModel$Halt;"⟩
abbrev cX13_bad : ByteArray := prog_14_method_33_code
def yX13_bad : MethodName := ⟨RX13, "bad", "()LPocketCompilerModel$Halt;"⟩
abbrev cX13_isSign : ByteArray := prog_14_method_34_code
def yX13_isSign : MethodName := ⟨RX13, "isSign", "(II)Z"⟩
abbrev cX13_is : ByteArray := prog_14_method_35_code
def yX13_is : MethodName := ⟨RX13, "is", "(I)Z"⟩
abbrev cX13_isKey : ByteArray := prog_14_method_36_code
def yX13_isKey : MethodName := ⟨RX13, "isKey", "(I)Z"⟩
abbrev cX13_take : ByteArray := prog_14_method_37_code
def yX13_take : MethodName := ⟨RX13, "take", "()V"⟩
abbrev cX13_opens : ByteArray := prog_14_method_38_code
def yX13_opens : MethodName := ⟨RX13, "opens", "()V"⟩
abbrev cX13_need : ByteArray := prog_14_method_39_code
def yX13_need : MethodName := ⟨RX13, "need", "(I)V"⟩
abbrev cX13_open : ByteArray := prog_14_method_40_code
def yX13_open : MethodName := ⟨RX13, "open", "(I)V"⟩
abbrev cX13_close : ByteArray := prog_14_method_41_code
def yX13_close : MethodName := ⟨RX13, "close", "(I)V"⟩
abbrev cX13_slots : ByteArray := prog_14_method_42_code
def yX13_slots : MethodName := ⟨RX13, "slots", "(I)I"⟩
abbrev cX13_slotAt : ByteArray := prog_14_method_43_code
def yX13_slotAt : MethodName := ⟨RX13, "slotAt", "(I)I"⟩
abbrev cX13_local : ByteArray := prog_14_method_44_code
def yX13_local : MethodName := ⟨RX13, "local", "(I)I"⟩
abbrev cX13_globalOf : ByteArray := prog_14_method_45_code
def yX13_globalOf : MethodName := ⟨RX13, "globalOf", "(I)I"⟩
abbrev cX13_functionOf : ByteArray := prog_14_method_46_code
def yX13_functionOf : MethodName := ⟨RX13, "functionOf", "(I)I"⟩
abbrev cX13_fix : ByteArray := prog_14_method_47_code
def yX13_fix : MethodName := ⟨RX13, "fix", "(III)V"⟩
abbrev cX13_operate : ByteArray := prog_14_method_48_code
def yX13_operate : MethodName := ⟨RX13, "operate", "(I)V"⟩
abbrev cX13_loads : ByteArray := prog_14_method_49_code
def yX13_loads : MethodName := ⟨RX13, "loads", "(I)V"⟩
abbrev cX13_strength : ByteArray := prog_14_method_50_code
def yX13_strength : MethodName := ⟨RX13, "strength", "()I"⟩
abbrev cX13_setting : ByteArray := prog_14_method_51_code
def yX13_setting : MethodName := ⟨RX13, "setting", "()I"⟩
abbrev cX13_remember : ByteArray := prog_14_method_52_code
def yX13_remember : MethodName := ⟨RX13, "remember", "(I)V"⟩
abbrev cX13_expression : ByteArray := prog_14_method_53_code
def yX13_expression : MethodName := ⟨RX13, "expression", "()V"⟩
abbrev cX13_named : ByteArray := prog_14_method_54_code
def yX13_named : MethodName := ⟨RX13, "named", "(Z)V"⟩
abbrev cX13_fetch : ByteArray := prog_14_method_55_code
def yX13_fetch : MethodName := ⟨RX13, "fetch", "(II)V"⟩
abbrev cX13_store : ByteArray := prog_14_method_56_code
def yX13_store : MethodName := ⟨RX13, "store", "(II)V"⟩
abbrev cX13_index : ByteArray := prog_14_method_57_code
def yX13_index : MethodName := ⟨RX13, "index", "(I)V"⟩
abbrev cX13_sets : ByteArray := prog_14_method_58_code
def yX13_sets : MethodName := ⟨RX13, "sets", "(IIZI)V"⟩
abbrev cX13_choice : ByteArray := prog_14_method_59_code
def yX13_choice : MethodName := ⟨RX13, "choice", "(Z)V"⟩
abbrev cX13_joined : ByteArray := prog_14_method_60_code
def yX13_joined : MethodName := ⟨RX13, "joined", "(IZ)V"⟩
abbrev cX13_both : ByteArray := prog_14_method_61_code
def yX13_both : MethodName := ⟨RX13, "both", "(ZI)V"⟩
abbrev cX13_operand : ByteArray := prog_14_method_62_code
def yX13_operand : MethodName := ⟨RX13, "operand", "()V"⟩
abbrev cX13_call : ByteArray := prog_14_method_63_code
def yX13_call : MethodName := ⟨RX13, "call", "()V"⟩
abbrev cX13_block : ByteArray := prog_14_method_64_code
def yX13_block : MethodName := ⟨RX13, "block", "()V"⟩
abbrev cX13_part : ByteArray := prog_14_method_65_code
def yX13_part : MethodName := ⟨RX13, "part", "()V"⟩
abbrev cX13_condition : ByteArray := prog_14_method_66_code
def yX13_condition : MethodName := ⟨RX13, "condition", "()I"⟩
abbrev cX13_unlessTrue : ByteArray := prog_14_method_67_code
def yX13_unlessTrue : MethodName := ⟨RX13, "unlessTrue", "()I"⟩
abbrev cX13_declared : ByteArray := prog_14_method_68_code
def yX13_declared : MethodName := ⟨RX13, "declared", "()V"⟩
abbrev cX13_statement : ByteArray := prog_14_method_69_code
def yX13_statement : MethodName := ⟨RX13, "statement", "()V"⟩
abbrev cX13_plain : ByteArray := prog_14_method_70_code
def yX13_plain : MethodName := ⟨RX13, "plain", "()V"⟩
abbrev cX13_choices : ByteArray := prog_14_method_71_code
def yX13_choices : MethodName := ⟨RX13, "choices", "()V"⟩
abbrev cX13_rounds : ByteArray := prog_14_method_72_code
def yX13_rounds : MethodName := ⟨RX13, "rounds", "()V"⟩
abbrev cX13_body : ByteArray := prog_14_method_73_code
def yX13_body : MethodName := ⟨RX13, "body", "(II)V"⟩
abbrev cX13_ends : ByteArray := prog_14_method_74_code
def yX13_ends : MethodName := ⟨RX13, "ends", "()V"⟩
abbrev cX13_doing : ByteArray := prog_14_method_75_code
def yX13_doing : MethodName := ⟨RX13, "doing", "()V"⟩
abbrev cX13_counting : ByteArray := prog_14_method_76_code
def yX13_counting : MethodName := ⟨RX13, "counting", "()V"⟩
abbrev cX13_leaving : ByteArray := prog_14_method_77_code
def yX13_leaving : MethodName := ⟨RX13, "leaving", "()V"⟩
abbrev cX13_returning : ByteArray := prog_14_method_78_code
def yX13_returning : MethodName := ⟨RX13, "returning", "()V"⟩
abbrev cX13_item : ByteArray := prog_14_method_79_code
def yX13_item : MethodName := ⟨RX13, "item", "()V"⟩
abbrev cX13_function0 : ByteArray := prog_14_method_80_code
def yX13_function0 : MethodName := ⟨RX13, "function0", "(I)V"⟩
abbrev cX13_body0 : ByteArray := prog_14_method_81_code
def yX13_body0 : MethodName := ⟨RX13, "body0", "()V"⟩
abbrev cX13_multiplying : ByteArray := prog_14_method_82_code
def yX13_multiplying : MethodName := ⟨RX13, "multiplying", "()V"⟩
abbrev cX13_dividing : ByteArray := prog_14_method_83_code
def yX13_dividing : MethodName := ⟨RX13, "dividing", "()V"⟩
abbrev cX13_addresses : ByteArray := prog_14_method_84_code
def yX13_addresses : MethodName := ⟨RX13, "addresses", "()V"⟩
abbrev cX13_walk : ByteArray := prog_14_method_85_code
def yX13_walk : MethodName := ⟨RX13, "walk", "()V"⟩
abbrev cX13_init : ByteArray := prog_14_method_86_code
def yX13_init : MethodName := ⟨RX13, "<init>", "(I)V"⟩
abbrev cX13_accept : ByteArray := prog_14_method_87_code
def yX13_accept : MethodName := ⟨RX13, "accept", "()V"⟩
abbrev cX13_load : ByteArray := prog_14_method_88_code
def yX13_load : MethodName := ⟨RX13, "load", "()I"⟩
abbrev cX13_fault : ByteArray := prog_14_method_89_code
def yX13_fault : MethodName := ⟨RX13, "fault", "(I)I"⟩
abbrev cX13_code : ByteArray := prog_14_method_90_code
def yX13_code : MethodName := ⟨RX13, "code", "(I)I"⟩
abbrev cX13_function : ByteArray := prog_14_method_91_code
def yX13_function : MethodName := ⟨RX13, "function", "(II)I"⟩
abbrev cX13_global : ByteArray := prog_14_method_92_code
def yX13_global : MethodName := ⟨RX13, "global", "(II)I"⟩
abbrev cX13_isTape : ByteArray := prog_14_method_93_code
def yX13_isTape : MethodName := ⟨RX13, "isTape", "(II)Z"⟩
abbrev cX13_find : ByteArray := prog_14_method_94_code
def yX13_find : MethodName := ⟨RX13, "find", "(I)I"⟩
abbrev cX13_give : ByteArray := prog_14_method_95_code
def yX13_give : MethodName := ⟨RX13, "give", "(I)I"⟩
abbrev cX13_forget : ByteArray := prog_14_method_96_code
def yX13_forget : MethodName := ⟨RX13, "forget", "()I"⟩
abbrev cX13_start : ByteArray := prog_14_method_97_code
def yX13_start : MethodName := ⟨RX13, "start", "(III)Z"⟩
abbrev cX13_step : ByteArray := prog_14_method_98_code
def yX13_step : MethodName := ⟨RX13, "step", "()I"⟩
abbrev cX13_run : ByteArray := prog_14_method_99_code
def yX13_run : MethodName := ⟨RX13, "run", "(I)I"⟩
abbrev cX13_isIn : ByteArray := prog_14_method_100_code
def yX13_isIn : MethodName := ⟨RX13, "isIn", "(II)Z"⟩
abbrev cX13_byteAt : ByteArray := prog_14_method_101_code
def yX13_byteAt : MethodName := ⟨RX13, "byteAt", "(I)I"⟩
abbrev cX13_setByte : ByteArray := prog_14_method_102_code
def yX13_setByte : MethodName := ⟨RX13, "setByte", "(II)V"⟩
abbrev cX13_doStep : ByteArray := prog_14_method_103_code
def yX13_doStep : MethodName := ⟨RX13, "doStep", "()V"⟩
abbrev cX13_goes : ByteArray := prog_14_method_104_code
def yX13_goes : MethodName := ⟨RX13, "goes", "(II)V"⟩
abbrev cX13_jumps : ByteArray := prog_14_method_105_code
def yX13_jumps : MethodName := ⟨RX13, "jumps", "(II)V"⟩
abbrev cX13_imJ : ByteArray := prog_14_method_106_code
def yX13_imJ : MethodName := ⟨RX13, "imJ", "(I)I"⟩
abbrev cX13_imB : ByteArray := prog_14_method_107_code
def yX13_imB : MethodName := ⟨RX13, "imB", "(I)I"⟩
abbrev cX13_branches : ByteArray := prog_14_method_108_code
def yX13_branches : MethodName := ⟨RX13, "branches", "(IIII)V"⟩
abbrev cX13_reads : ByteArray := prog_14_method_109_code
def yX13_reads : MethodName := ⟨RX13, "reads", "(IIII)V"⟩
abbrev cX13_writes : ByteArray := prog_14_method_110_code
def yX13_writes : MethodName := ⟨RX13, "writes", "(III)V"⟩
abbrev cX13_less : ByteArray := prog_14_method_111_code
def yX13_less : MethodName := ⟨RX13, "less", "(Z)I"⟩
abbrev cX13_byNumber : ByteArray := prog_14_method_112_code
def yX13_byNumber : MethodName := ⟨RX13, "byNumber", "(IIII)V"⟩
abbrev cX13_byRegister : ByteArray := prog_14_method_113_code
def yX13_byRegister : MethodName := ⟨RX13, "byRegister", "(IIIII)V"⟩
abbrev cX13_calls : ByteArray := prog_14_method_114_code
def yX13_calls : MethodName := ⟨RX13, "calls", "(I)V"⟩
abbrev cX13_result : ByteArray := prog_14_method_115_code
def yX13_result : MethodName := ⟨RX13, "result", "()I"⟩
abbrev cX13_register : ByteArray := prog_14_method_116_code
def yX13_register : MethodName := ⟨RX13, "register", "(I)I"⟩
abbrev cX13_set : ByteArray := prog_14_method_117_code
def yX13_set : MethodName := ⟨RX13, "set", "(II)V"⟩
abbrev cX13_word : ByteArray := prog_14_method_118_code
def yX13_word : MethodName := ⟨RX13, "word", "(I)I"⟩
abbrev cX13_poke : ByteArray := prog_14_method_119_code
def yX13_poke : MethodName := ⟨RX13, "poke", "(II)V"⟩
abbrev cX13_put : ByteArray := prog_14_method_120_code
def yX13_put : MethodName := ⟨RX13, "put", "(I)I"⟩
abbrev cX13_sign0 : ByteArray := prog_14_method_121_code
def yX13_sign0 : MethodName := ⟨RX13, "sign0", "(I)V"⟩
abbrev cX13_words : ByteArray := prog_14_method_122_code
def yX13_words : MethodName := ⟨RX13, "words", "(Ljava/lang/String;)V"⟩
abbrev cX13_decimal : ByteArray := prog_14_method_123_code
def yX13_decimal : MethodName := ⟨RX13, "decimal", "(I)V"⟩
abbrev cX13_named_ : ByteArray := prog_14_method_124_code
def yX13_named_ : MethodName := ⟨RX13, "named", "(I)V"⟩
abbrev cX13_comma : ByteArray := prog_14_method_125_code
def yX13_comma : MethodName := ⟨RX13, "comma", "()V"⟩
abbrev cX13_three : ByteArray := prog_14_method_126_code
def yX13_three : MethodName := ⟨RX13, "three", "(II)V"⟩
abbrev cX13_at_ : ByteArray := prog_14_method_127_code
def yX13_at_ : MethodName := ⟨RX13, "at", "(II)V"⟩
abbrev cX13_nameOf : ByteArray := prog_14_method_128_code
def yX13_nameOf : MethodName := ⟨RX13, "nameOf", "(I)Ljava/lang/String;"⟩
abbrev cX13_show : ByteArray := prog_14_method_129_code
def yX13_show : MethodName := ⟨RX13, "show", "(I)I"⟩
abbrev cX13_octet : ByteArray := prog_14_method_130_code
def yX13_octet : MethodName := ⟨RX13, "octet", "(I)I"⟩
abbrev cX13_push : ByteArray := prog_14_method_131_code
def yX13_push : MethodName := ⟨RX13, "push", "(I)V"⟩
abbrev cX13_pop : ByteArray := prog_14_method_132_code
def yX13_pop : MethodName := ⟨RX13, "pop", "()I"⟩
abbrev cX13_turn : ByteArray := prog_14_method_133_code
def yX13_turn : MethodName := ⟨RX13, "turn", "()I"⟩
abbrev cX13_enter : ByteArray := prog_14_method_134_code
def yX13_enter : MethodName := ⟨RX13, "enter", "(I)I"⟩
abbrev cX13_leave : ByteArray := prog_14_method_135_code
def yX13_leave : MethodName := ⟨RX13, "leave", "()I"⟩
abbrev cX13_worked : ByteArray := prog_14_method_136_code
def yX13_worked : MethodName := ⟨RX13, "worked", "(III)I"⟩
abbrev cX13_operates : ByteArray := prog_14_method_137_code
def yX13_operates : MethodName := ⟨RX13, "operates", "(I)I"⟩
abbrev cX13_obey : ByteArray := prog_14_method_138_code
def yX13_obey : MethodName := ⟨RX13, "obey", "()I"⟩
abbrev cX13_others : ByteArray := prog_14_method_139_code
def yX13_others : MethodName := ⟨RX13, "others", "(II)V"⟩
abbrev cX13_work : ByteArray := prog_14_method_140_code
def yX13_work : MethodName := ⟨RX13, "work", "(IIII)I"⟩
abbrev cX13_told : ByteArray := prog_14_method_141_code
def yX13_told : MethodName := ⟨RX13, "told", "(I)I"⟩
abbrev cX13_worked_ : ByteArray := prog_14_method_142_code
def yX13_worked_ : MethodName := ⟨RX13, "worked", "(I)I"⟩
abbrev cX13_left : ByteArray := prog_14_method_143_code
def yX13_left : MethodName := ⟨RX13, "left", "(II)I"⟩
abbrev cX13_count : ByteArray := prog_14_method_144_code
def yX13_count : MethodName := ⟨RX13, "count", "(I)I"⟩
def RJ5 : String := "java/lang/AbstractStringBuilder"
def TJ5 : u_T := fun k => match k with
  | _ => ("", "", "", false)
def tyJ5 : Nat → FieldType := fun k => match k with
  | _ => .int
abbrev wsJ50 : List Cond := u_ws RJ5 TJ5 0
theorem nmJ5 : ∀ a, a < 0 → ∀ b, b < 0 → a ≠ b → (TJ5 a).2.1 ≠ (TJ5 b).2.1 := by decide +kernel
theorem tyJ5_ok : ∀ k, k < 0 → parseFieldDescriptor (TJ5 k).2.2.1 = some (tyJ5 k) := by decide +kernel
abbrev cJ5_init_d00df : ByteArray := prog_16_method_2_code
def yJ5_init_d00df : MethodName := ⟨RJ5, "<init>", "(I)V"⟩
abbrev cJ5_length_8abf5 : ByteArray := prog_16_method_6_code
def yJ5_length_8abf5 : MethodName := ⟨RJ5, "length", "()I"⟩
abbrev cJ5_ensureCapacityInternal_d00df : ByteArray := prog_16_method_9_code
def yJ5_ensureCapacityInternal_d00df : MethodName := ⟨RJ5, "ensureCapacityInternal", "(I)V"⟩
abbrev cJ5_newCapacity_0f7a4 : ByteArray := prog_16_method_10_code
def yJ5_newCapacity_0f7a4 : MethodName := ⟨RJ5, "newCapacity", "(I)I"⟩
abbrev cJ5_inflate_da8c8 : ByteArray := prog_16_method_11_code
def yJ5_inflate_da8c8 : MethodName := ⟨RJ5, "inflate", "()V"⟩
abbrev cJ5_setLength_d00df : ByteArray := prog_16_method_13_code
def yJ5_setLength_d00df : MethodName := ⟨RJ5, "setLength", "(I)V"⟩
abbrev cJ5_charAt_5068e : ByteArray := prog_16_method_14_code
def yJ5_charAt_5068e : MethodName := ⟨RJ5, "charAt", "(I)C"⟩
abbrev cJ5_append_cf1ce : ByteArray := prog_16_method_22_code
def yJ5_append_cf1ce : MethodName := ⟨RJ5, "append", "(Ljava/lang/String;)Ljava/lang/AbstractStringBuilder;"⟩
abbrev cJ5_appendNull_278bc : ByteArray := prog_16_method_26_code
def yJ5_appendNull_278bc : MethodName := ⟨RJ5, "appendNull", "()Ljava/lang/AbstractStringBuilder;"⟩
abbrev cJ5_append_3fe6f : ByteArray := prog_16_method_31_code
def yJ5_append_3fe6f : MethodName := ⟨RJ5, "append", "(C)Ljava/lang/AbstractStringBuilder;"⟩
abbrev cJ5_append_c97b9 : ByteArray := prog_16_method_32_code
def yJ5_append_c97b9 : MethodName := ⟨RJ5, "append", "(I)Ljava/lang/AbstractStringBuilder;"⟩
abbrev cJ5_getValue_6d5f1 : ByteArray := prog_16_method_64_code
def yJ5_getValue_6d5f1 : MethodName := ⟨RJ5, "getValue", "()[B"⟩
abbrev cJ5_isLatin1_aae02 : ByteArray := prog_16_method_68_code
def yJ5_isLatin1_aae02 : MethodName := ⟨RJ5, "isLatin1", "()Z"⟩
abbrev cJ5_inflateIfNeededFor_a7421 : ByteArray := prog_16_method_71_code
def yJ5_inflateIfNeededFor_a7421 : MethodName := ⟨RJ5, "inflateIfNeededFor", "(Ljava/lang/String;)V"⟩
abbrev cJ5_putStringAt_47b60 : ByteArray := prog_16_method_73_code
def yJ5_putStringAt_47b60 : MethodName := ⟨RJ5, "putStringAt", "(ILjava/lang/String;)V"⟩
def RJx00060 : String := "java/lang/ArrayIndexOutOfBoundsException"
def TJx00060 : u_T := fun k => match k with
  | 0 => ("java/lang/Throwable", "cause", "Ljava/lang/Throwable;", false)
  | 1 => ("java/lang/Throwable", "stackTrace", "[Ljava/lang/StackTraceElement;", false)
  | 2 => ("java/lang/Throwable", "suppressedExceptions", "Ljava/util/List;", false)
  | 3 => ("java/lang/Throwable", "detailMessage", "Ljava/lang/String;", false)
  | 4 => ("java/lang/Throwable", "backtrace", "Ljava/lang/Object;", false)
  | _ => ("java/lang/Throwable", "depth", "I", false)
def tyJx00060 : Nat → FieldType := fun k => match k with
  | 0 => .object "java/lang/Throwable"
  | 1 => .array (.object "java/lang/StackTraceElement")
  | 2 => .object "java/util/List"
  | 3 => .object "java/lang/String"
  | 4 => .object "java/lang/Object"
  | _ => .int
abbrev wsJx000600 : List Cond := u_ws RJx00060 TJx00060 6
theorem nmJx00060 : ∀ a, a < 6 → ∀ b, b < 6 → a ≠ b → (TJx00060 a).2.1 ≠ (TJx00060 b).2.1 := by decide +kernel
theorem tyJx00060_ok : ∀ k, k < 6 → parseFieldDescriptor (TJx00060 k).2.2.1 = some (tyJx00060 k) := by decide +kernel
abbrev cJx00060_init_d00df : ByteArray := prog_17_method_3_code
def yJx00060_init_d00df : MethodName := ⟨RJx00060, "<init>", "(I)V"⟩
def RJx8e188 : String := "java/lang/Cloneable"
def TJx8e188 : u_T := fun k => match k with
  | _ => ("", "", "", false)
def tyJx8e188 : Nat → FieldType := fun k => match k with
  | _ => .int
abbrev wsJx8e1880 : List Cond := u_ws RJx8e188 TJx8e188 0
theorem nmJx8e188 : ∀ a, a < 0 → ∀ b, b < 0 → a ≠ b → (TJx8e188 a).2.1 ≠ (TJx8e188 b).2.1 := by decide +kernel
theorem tyJx8e188_ok : ∀ k, k < 0 → parseFieldDescriptor (TJx8e188 k).2.2.1 = some (tyJx8e188 k) := by decide +kernel
def RJ6 : String := "java/lang/Integer"
def TJ6 : u_T := fun k => match k with
  | _ => ("", "", "", false)
def tyJ6 : Nat → FieldType := fun k => match k with
  | _ => .int
abbrev wsJ60 : List Cond := u_ws RJ6 TJ6 0
theorem nmJ6 : ∀ a, a < 0 → ∀ b, b < 0 → a ≠ b → (TJ6 a).2.1 ≠ (TJ6 b).2.1 := by decide +kernel
theorem tyJ6_ok : ∀ k, k < 0 → parseFieldDescriptor (TJ6 k).2.2.1 = some (tyJ6 k) := by decide +kernel
abbrev cJ6_getChars_ba4f3 : ByteArray := prog_23_method_12_code
def yJ6_getChars_ba4f3 : MethodName := ⟨RJ6, "getChars", "(II[B)I"⟩
abbrev cJ6_stringSize_0f7a4 : ByteArray := prog_23_method_13_code
def yJ6_stringSize_0f7a4 : MethodName := ⟨RJ6, "stringSize", "(I)I"⟩
abbrev cJ6_compare_7cf53 : ByteArray := prog_23_method_40_code
def yJ6_compare_7cf53 : MethodName := ⟨RJ6, "compare", "(II)I"⟩
abbrev cJ6_compareUnsigned_7cf53 : ByteArray := prog_23_method_41_code
def yJ6_compareUnsigned_7cf53 : MethodName := ⟨RJ6, "compareUnsigned", "(II)I"⟩
def RJ9 : String := "java/lang/Math"
def TJ9 : u_T := fun k => match k with
  | _ => ("", "", "", false)
def tyJ9 : Nat → FieldType := fun k => match k with
  | _ => .int
abbrev wsJ90 : List Cond := u_ws RJ9 TJ9 0
theorem nmJ9 : ∀ a, a < 0 → ∀ b, b < 0 → a ≠ b → (TJ9 a).2.1 ≠ (TJ9 b).2.1 := by decide +kernel
theorem tyJ9_ok : ∀ k, k < 0 → parseFieldDescriptor (TJ9 k).2.2.1 = some (tyJ9 k) := by decide +kernel
abbrev cJ9_max_7cf53 : ByteArray := prog_24_method_65_code
def yJ9_max_7cf53 : MethodName := ⟨RJ9, "max", "(II)I"⟩
abbrev cJ9_min_7cf53 : ByteArray := prog_24_method_69_code
def yJ9_min_7cf53 : MethodName := ⟨RJ9, "min", "(II)I"⟩
def RJ0 : String := "java/lang/String"
def TJ0 : u_T := fun k => match k with
  | 0 => ("java/lang/String", "value", "[B", true)
  | 1 => ("java/lang/String", "coder", "B", true)
  | 2 => ("java/lang/String", "hash", "I", false)
  | _ => ("java/lang/String", "hashIsZero", "Z", false)
def tyJ0 : Nat → FieldType := fun k => match k with
  | 0 => .array .byte
  | 1 => .byte
  | 2 => .int
  | _ => .boolean
abbrev wsJ00 : List Cond := u_ws RJ0 TJ0 4
theorem nmJ0 : ∀ a, a < 4 → ∀ b, b < 4 → a ≠ b → (TJ0 a).2.1 ≠ (TJ0 b).2.1 := by decide +kernel
theorem tyJ0_ok : ∀ k, k < 4 → parseFieldDescriptor (TJ0 k).2.2.1 = some (tyJ0 k) := by decide +kernel
abbrev cJ0_init_81219 : ByteArray := prog_26_method_53_code
def yJ0_init_81219 : MethodName := ⟨RJ0, "<init>", "(Ljava/lang/StringBuilder;)V"⟩
abbrev cJ0_length_8abf5 : ByteArray := prog_26_method_54_code
def yJ0_length_8abf5 : MethodName := ⟨RJ0, "length", "()I"⟩
abbrev cJ0_charAt_5068e : ByteArray := prog_26_method_56_code
def yJ0_charAt_5068e : MethodName := ⟨RJ0, "charAt", "(I)C"⟩
abbrev cJ0_getBytes_840e7 : ByteArray := prog_26_method_147_code
def yJ0_getBytes_840e7 : MethodName := ⟨RJ0, "getBytes", "([BIB)V"⟩
abbrev cJ0_init_db425 : ByteArray := prog_26_method_150_code
def yJ0_init_db425 : MethodName := ⟨RJ0, "<init>", "(Ljava/lang/AbstractStringBuilder;Ljava/lang/Void;)V"⟩
abbrev cJ0_coder_7d493 : ByteArray := prog_26_method_152_code
def yJ0_coder_7d493 : MethodName := ⟨RJ0, "coder", "()B"⟩
abbrev cJ0_isLatin1_aae02 : ByteArray := prog_26_method_154_code
def yJ0_isLatin1_aae02 : MethodName := ⟨RJ0, "isLatin1", "()Z"⟩
abbrev cJ0_checkIndex_df160 : ByteArray := prog_26_method_155_code
def yJ0_checkIndex_df160 : MethodName := ⟨RJ0, "checkIndex", "(II)V"⟩
abbrev cJ0_checkBoundsOffCount_cabcc : ByteArray := prog_26_method_157_code
def yJ0_checkBoundsOffCount_cabcc : MethodName := ⟨RJ0, "checkBoundsOffCount", "(III)I"⟩
abbrev cJ0_checkBoundsBeginEnd_23922 : ByteArray := prog_26_method_158_code
def yJ0_checkBoundsBeginEnd_23922 : MethodName := ⟨RJ0, "checkBoundsBeginEnd", "(III)V"⟩
def RJ4 : String := "java/lang/StringBuilder"
def TJ4 : u_T := fun k => match k with
  | 0 => ("java/lang/AbstractStringBuilder", "value", "[B", false)
  | 1 => ("java/lang/AbstractStringBuilder", "coder", "B", false)
  | 2 => ("java/lang/AbstractStringBuilder", "maybeLatin1", "Z", false)
  | _ => ("java/lang/AbstractStringBuilder", "count", "I", false)
def tyJ4 : Nat → FieldType := fun k => match k with
  | 0 => .array .byte
  | 1 => .byte
  | 2 => .boolean
  | _ => .int
abbrev wsJ40 : List Cond := u_ws RJ4 TJ4 4
theorem nmJ4 : ∀ a, a < 4 → ∀ b, b < 4 → a ≠ b → (TJ4 a).2.1 ≠ (TJ4 b).2.1 := by decide +kernel
theorem tyJ4_ok : ∀ k, k < 4 → parseFieldDescriptor (TJ4 k).2.2.1 = some (tyJ4 k) := by decide +kernel
abbrev cJ4_init_da8c8 : ByteArray := prog_27_method_1_code
def yJ4_init_da8c8 : MethodName := ⟨RJ4, "<init>", "()V"⟩
abbrev cJ4_append_15ec4 : ByteArray := prog_27_method_7_code
def yJ4_append_15ec4 : MethodName := ⟨RJ4, "append", "(Ljava/lang/String;)Ljava/lang/StringBuilder;"⟩
abbrev cJ4_append_cf468 : ByteArray := prog_27_method_14_code
def yJ4_append_cf468 : MethodName := ⟨RJ4, "append", "(C)Ljava/lang/StringBuilder;"⟩
abbrev cJ4_append_bf812 : ByteArray := prog_27_method_15_code
def yJ4_append_bf812 : MethodName := ⟨RJ4, "append", "(I)Ljava/lang/StringBuilder;"⟩
abbrev cJ4_toString_0e30d : ByteArray := prog_27_method_42_code
def yJ4_toString_0e30d : MethodName := ⟨RJ4, "toString", "()Ljava/lang/String;"⟩
abbrev cJ4_charAt_5068e : ByteArray := prog_27_method_88_code
def yJ4_charAt_5068e : MethodName := ⟨RJ4, "charAt", "(I)C"⟩
abbrev cJ4_setLength_d00df : ByteArray := prog_27_method_89_code
def yJ4_setLength_d00df : MethodName := ⟨RJ4, "setLength", "(I)V"⟩
abbrev cJ4_length_8abf5 : ByteArray := prog_27_method_93_code
def yJ4_length_8abf5 : MethodName := ⟨RJ4, "length", "()I"⟩
def RJx7c733 : String := "java/lang/StringIndexOutOfBoundsException"
def TJx7c733 : u_T := fun k => match k with
  | 0 => ("java/lang/Throwable", "backtrace", "Ljava/lang/Object;", false)
  | 1 => ("java/lang/Throwable", "detailMessage", "Ljava/lang/String;", false)
  | 2 => ("java/lang/Throwable", "cause", "Ljava/lang/Throwable;", false)
  | 3 => ("java/lang/Throwable", "stackTrace", "[Ljava/lang/StackTraceElement;", false)
  | 4 => ("java/lang/Throwable", "depth", "I", false)
  | _ => ("java/lang/Throwable", "suppressedExceptions", "Ljava/util/List;", false)
def tyJx7c733 : Nat → FieldType := fun k => match k with
  | 0 => .object "java/lang/Object"
  | 1 => .object "java/lang/String"
  | 2 => .object "java/lang/Throwable"
  | 3 => .array (.object "java/lang/StackTraceElement")
  | 4 => .int
  | _ => .object "java/util/List"
abbrev wsJx7c7330 : List Cond := u_ws RJx7c733 TJx7c733 6
theorem nmJx7c733 : ∀ a, a < 6 → ∀ b, b < 6 → a ≠ b → (TJx7c733 a).2.1 ≠ (TJx7c733 b).2.1 := by decide +kernel
theorem tyJx7c733_ok : ∀ k, k < 6 → parseFieldDescriptor (TJx7c733 k).2.2.1 = some (tyJx7c733 k) := by decide +kernel
abbrev cJx7c733_init_d00df : ByteArray := prog_28_method_3_code
def yJx7c733_init_d00df : MethodName := ⟨RJx7c733, "<init>", "(I)V"⟩
def RJ1 : String := "java/lang/StringLatin1"
def TJ1 : u_T := fun k => match k with
  | _ => ("", "", "", false)
def tyJ1 : Nat → FieldType := fun k => match k with
  | _ => .int
abbrev wsJ10 : List Cond := u_ws RJ1 TJ1 0
theorem nmJ1 : ∀ a, a < 0 → ∀ b, b < 0 → a ≠ b → (TJ1 a).2.1 ≠ (TJ1 b).2.1 := by decide +kernel
theorem tyJ1_ok : ∀ k, k < 0 → parseFieldDescriptor (TJ1 k).2.2.1 = some (tyJ1 k) := by decide +kernel
abbrev cJ1_charAt_3b067 : ByteArray := prog_29_method_2_code
def yJ1_charAt_3b067 : MethodName := ⟨RJ1, "charAt", "([BI)C"⟩
abbrev cJ1_canEncode_fc78d : ByteArray := prog_29_method_3_code
def yJ1_canEncode_fc78d : MethodName := ⟨RJ1, "canEncode", "(C)Z"⟩
abbrev cJ1_fillNull_b72d1 : ByteArray := prog_29_method_48_code
def yJ1_fillNull_b72d1 : MethodName := ⟨RJ1, "fillNull", "([BII)V"⟩
abbrev cJ1_inflate_0e8fd : ByteArray := prog_29_method_50_code
def yJ1_inflate_0e8fd : MethodName := ⟨RJ1, "inflate", "([BI[BII)V"⟩
def RJ2 : String := "java/lang/StringUTF16"
def TJ2 : u_T := fun k => match k with
  | _ => ("", "", "", false)
def tyJ2 : Nat → FieldType := fun k => match k with
  | _ => .int
abbrev wsJ20 : List Cond := u_ws RJ2 TJ2 0
theorem nmJ2 : ∀ a, a < 0 → ∀ b, b < 0 → a ≠ b → (TJ2 a).2.1 ≠ (TJ2 b).2.1 := by decide +kernel
theorem tyJ2_ok : ∀ k, k < 0 → parseFieldDescriptor (TJ2 k).2.2.1 = some (tyJ2 k) := by decide +kernel
abbrev cJ2_newBytesFor_77867 : ByteArray := prog_30_method_2_code
def yJ2_newBytesFor_77867 : MethodName := ⟨RJ2, "newBytesFor", "(I)[B"⟩
abbrev cJ2_newBytesLength_0f7a4 : ByteArray := prog_30_method_3_code
def yJ2_newBytesLength_0f7a4 : MethodName := ⟨RJ2, "newBytesLength", "(I)I"⟩
abbrev cJ2_putChar_b72d1 : ByteArray := prog_30_method_4_code
def yJ2_putChar_b72d1 : MethodName := ⟨RJ2, "putChar", "([BII)V"⟩
abbrev cJ2_getChar_3b067 : ByteArray := prog_30_method_5_code
def yJ2_getChar_3b067 : MethodName := ⟨RJ2, "getChar", "([BI)C"⟩
abbrev cJ2_length_9d52b : ByteArray := prog_30_method_6_code
def yJ2_length_9d52b : MethodName := ⟨RJ2, "length", "([B)I"⟩
abbrev cJ2_coderFromArrayLen_85cad : ByteArray := prog_30_method_15_code
def yJ2_coderFromArrayLen_85cad : MethodName := ⟨RJ2, "coderFromArrayLen", "([BI)B"⟩
abbrev cJ2_compress_39247 : ByteArray := prog_30_method_17_code
def yJ2_compress_39247 : MethodName := ⟨RJ2, "compress", "([BII)[B"⟩
abbrev cJ2_compress_5af95 : ByteArray := prog_30_method_22_code
def yJ2_compress_5af95 : MethodName := ⟨RJ2, "compress", "([BI[BII)I"⟩
abbrev cJ2_fillNull_b72d1 : ByteArray := prog_30_method_70_code
def yJ2_fillNull_b72d1 : MethodName := ⟨RJ2, "fillNull", "([BII)V"⟩
abbrev cJ2_putCharSB_b72d1 : ByteArray := prog_30_method_71_code
def yJ2_putCharSB_b72d1 : MethodName := ⟨RJ2, "putCharSB", "([BII)V"⟩
abbrev cJ2_getChars_46870 : ByteArray := prog_30_method_77_code
def yJ2_getChars_46870 : MethodName := ⟨RJ2, "getChars", "(III[B)I"⟩
abbrev cJ2_putCharsAt_cd4e5 : ByteArray := prog_30_method_81_code
def yJ2_putCharsAt_cd4e5 : MethodName := ⟨RJ2, "putCharsAt", "([BICCCC)I"⟩
abbrev cJ2_charAt_3b067 : ByteArray := prog_30_method_83_code
def yJ2_charAt_3b067 : MethodName := ⟨RJ2, "charAt", "([BI)C"⟩
abbrev cJ2_inflate_0e8fd : ByteArray := prog_30_method_86_code
def yJ2_inflate_0e8fd : MethodName := ⟨RJ2, "inflate", "([BI[BII)V"⟩
abbrev cJ2_getChars_ba4f3 : ByteArray := prog_30_method_89_code
def yJ2_getChars_ba4f3 : MethodName := ⟨RJ2, "getChars", "(II[B)I"⟩
abbrev cJ2_checkIndex_2214a : ByteArray := prog_30_method_91_code
def yJ2_checkIndex_2214a : MethodName := ⟨RJ2, "checkIndex", "(I[B)V"⟩
abbrev cJ2_checkBoundsBeginEnd_d044e : ByteArray := prog_30_method_93_code
def yJ2_checkBoundsBeginEnd_d044e : MethodName := ⟨RJ2, "checkBoundsBeginEnd", "(II[B)V"⟩
abbrev cJ2_checkBoundsOffCount_d044e : ByteArray := prog_30_method_94_code
def yJ2_checkBoundsOffCount_d044e : MethodName := ⟨RJ2, "checkBoundsOffCount", "(II[B)V"⟩
def RJ10 : String := "java/lang/System"
def TJ10 : u_T := fun k => match k with
  | _ => ("", "", "", false)
def tyJ10 : Nat → FieldType := fun k => match k with
  | _ => .int
abbrev wsJ100 : List Cond := u_ws RJ10 TJ10 0
theorem nmJ10 : ∀ a, a < 0 → ∀ b, b < 0 → a ≠ b → (TJ10 a).2.1 ≠ (TJ10 b).2.1 := by decide +kernel
theorem tyJ10_ok : ∀ k, k < 0 → parseFieldDescriptor (TJ10 k).2.2.1 = some (tyJ10 k) := by decide +kernel
def RJ7 : String := "java/util/Arrays"
def TJ7 : u_T := fun k => match k with
  | _ => ("", "", "", false)
def tyJ7 : Nat → FieldType := fun k => match k with
  | _ => .int
abbrev wsJ70 : List Cond := u_ws RJ7 TJ7 0
theorem nmJ7 : ∀ a, a < 0 → ∀ b, b < 0 → a ≠ b → (TJ7 a).2.1 ≠ (TJ7 b).2.1 := by decide +kernel
theorem tyJ7_ok : ∀ k, k < 0 → parseFieldDescriptor (TJ7 k).2.2.1 = some (tyJ7 k) := by decide +kernel
abbrev cJ7_rangeCheck_23922 : ByteArray := prog_33_method_30_code
def yJ7_rangeCheck_23922 : MethodName := ⟨RJ7, "rangeCheck", "(III)V"⟩
abbrev cJ7_fill_53178 : ByteArray := prog_33_method_103_code
def yJ7_fill_53178 : MethodName := ⟨RJ7, "fill", "([II)V"⟩
abbrev cJ7_fill_eb02e : ByteArray := prog_33_method_110_code
def yJ7_fill_eb02e : MethodName := ⟨RJ7, "fill", "([BIIB)V"⟩
abbrev cJ7_copyOf_9075b : ByteArray := prog_33_method_121_code
def yJ7_copyOf_9075b : MethodName := ⟨RJ7, "copyOf", "([BI)[B"⟩
abbrev cJ7_checkLength_df160 : ByteArray := prog_33_method_131_code
def yJ7_checkLength_df160 : MethodName := ⟨RJ7, "checkLength", "(II)V"⟩
abbrev cJ7_copyOfRange_39247 : ByteArray := prog_33_method_132_code
def yJ7_copyOfRange_39247 : MethodName := ⟨RJ7, "copyOfRange", "([BII)[B"⟩
abbrev cJ7_copyOfRangeByte_39247 : ByteArray := prog_33_method_133_code
def yJ7_copyOfRangeByte_39247 : MethodName := ⟨RJ7, "copyOfRangeByte", "([BII)[B"⟩
def RJ8 : String := "jdk/internal/util/ArraysSupport"
def TJ8 : u_T := fun k => match k with
  | _ => ("", "", "", false)
def tyJ8 : Nat → FieldType := fun k => match k with
  | _ => .int
abbrev wsJ80 : List Cond := u_ws RJ8 TJ8 0
theorem nmJ8 : ∀ a, a < 0 → ∀ b, b < 0 → a ≠ b → (TJ8 a).2.1 ≠ (TJ8 b).2.1 := by decide +kernel
theorem tyJ8_ok : ∀ k, k < 0 → parseFieldDescriptor (TJ8 k).2.2.1 = some (tyJ8 k) := by decide +kernel
abbrev cJ8_newLength_cabcc : ByteArray := prog_35_method_27_code
def yJ8_newLength_cabcc : MethodName := ⟨RJ8, "newLength", "(III)I"⟩
abbrev cJ8_hugeLength_7cf53 : ByteArray := prog_35_method_28_code
def yJ8_hugeLength_7cf53 : MethodName := ⟨RJ8, "hugeLength", "(II)I"⟩
def RJ3 : String := "jdk/internal/util/Preconditions"
def TJ3 : u_T := fun k => match k with
  | _ => ("", "", "", false)
def tyJ3 : Nat → FieldType := fun k => match k with
  | _ => .int
abbrev wsJ30 : List Cond := u_ws RJ3 TJ3 0
theorem nmJ3 : ∀ a, a < 0 → ∀ b, b < 0 → a ≠ b → (TJ3 a).2.1 ≠ (TJ3 b).2.1 := by decide +kernel
theorem tyJ3_ok : ∀ k, k < 0 → parseFieldDescriptor (TJ3 k).2.2.1 = some (tyJ3 k) := by decide +kernel
abbrev cJ3_checkIndex_8e157 : ByteArray := prog_36_method_11_code
def yJ3_checkIndex_8e157 : MethodName := ⟨RJ3, "checkIndex", "(IILjava/util/function/BiFunction;)I"⟩
abbrev cJ3_checkFromToIndex_8c36e : ByteArray := prog_36_method_12_code
def yJ3_checkFromToIndex_8c36e : MethodName := ⟨RJ3, "checkFromToIndex", "(IIILjava/util/function/BiFunction;)I"⟩
abbrev cJ3_checkFromIndexSize_8c36e : ByteArray := prog_36_method_13_code
def yJ3_checkFromIndexSize_8c36e : MethodName := ⟨RJ3, "checkFromIndexSize", "(IIILjava/util/function/BiFunction;)I"⟩
def RL : String := "PocketCompilerLaw"
abbrev cL_cell : ByteArray := method_2_code
def yL_cell : MethodName := ⟨RL, "cell", "([II)I"⟩
abbrev cL_code : ByteArray := method_3_code
def yL_code : MethodName := ⟨RL, "code", "(LPocketCompiler;I[J)I"⟩
abbrev cL_find : ByteArray := method_4_code
def yL_find : MethodName := ⟨RL, "find", "(LPocketCompiler;I[J)I"⟩
abbrev cL_run : ByteArray := method_5_code
def yL_run : MethodName := ⟨RL, "run", "(LPocketCompiler;I[J)I"⟩
abbrev cL_register : ByteArray := method_6_code
def yL_register : MethodName := ⟨RL, "register", "(LPocketCompiler;I[J)I"⟩
abbrev cL_set : ByteArray := method_7_code
def yL_set : MethodName := ⟨RL, "set", "(LPocketCompiler;II)I"⟩
abbrev cL_word : ByteArray := method_8_code
def yL_word : MethodName := ⟨RL, "word", "(LPocketCompiler;I[J)I"⟩
abbrev cL_poke : ByteArray := method_9_code
def yL_poke : MethodName := ⟨RL, "poke", "(LPocketCompiler;II)I"⟩
abbrev cL_put : ByteArray := method_10_code
def yL_put : MethodName := ⟨RL, "put", "(LPocketCompiler;I[J)I"⟩
abbrev cL_work : ByteArray := method_11_code
def yL_work : MethodName := ⟨RL, "work", "(LPocketCompiler;IIII[J)I"⟩
abbrev cL_worked : ByteArray := method_12_code
def yL_worked : MethodName := ⟨RL, "worked", "(LPocketCompiler;I[J)I"⟩
abbrev cL_left : ByteArray := method_13_code
def yL_left : MethodName := ⟨RL, "left", "(LPocketCompiler;II[J)I"⟩
abbrev cL_law : ByteArray := code
def yL_law : MethodName := ⟨RL, "law", "([I)Z"⟩
abbrev vwCl : List vw_C := [(RJ0, TJ0, 4), (RJ4, TJ4, 4), (RJx00060, TJx00060, 6), (RJx7c733, TJx7c733, 6), (RX0, TX0, 9), (RX1, TX1, 12), (RX2, TX2, 5), (RX3, TX3, 3), (RX5, TX5, 7), (RX6, TX6, 9), (RX7, TX7, 13), (RX8, TX8, 1), (RX9, TX9, 10), (RX10, TX10, 17), (RX11, TX11, 12), (RX12, TX12, 6), (RX13, TX13, 124)]
end
section
/-! MY OWN ROWS: one list of words for every contract, a contract's form, a call in one row -/
/-- the words that every contract here stands on: the tables' good ones -/
def tw_W : List Cond := lw_tbl.filter goodWord
theorem tw_in {w : Cond} (h : w ∈ lw_tbl) (g : goodWord w = true) : w ∈ tw_W := List.mem_filter.mpr ⟨h, g⟩
theorem tw_all {ws : List Cond} (h : ws.all (fun w => lw_tbl.contains w && goodWord w) = true) : ∀ w ∈ ws, w ∈ tw_W := by
  intro w hw
  have h1 := List.all_eq_true.mp h w hw
  rw [Bool.and_eq_true] at h1
  exact tw_in (List.contains_iff_mem.mp h1.1) h1.2
theorem tw_g : GoodIn tw_W tw_W := fun w h => ⟨h, good_of_word (List.mem_filter.mp h).2⟩
theorem tw_c {d : Cond} (hd : d ∈ tw_W) : GoodIn tw_W (d :: tw_W) := fun w h => (List.mem_cons.mp h).elim (fun e => by rw [e]; exact tw_g d hd) (fun h => tw_g w h)
theorem tw_V {d : Cond} {own C : String} {idx : Nat} {y : MethodName} (hd : d ∈ tw_W) (h : ∀ w ∈ ([.methodLink own idx y, .instanceMethod y, .selects C y y, .initialized C] : List Cond), w ∈ tw_W) : GoodIn tw_W (wsV own idx C y (d :: tw_W)) := fun w hw => (List.mem_append.mp hw).elim (fun k => tw_g w (h w k)) (fun k => tw_c hd w k)
theorem tw_S {d : Cond} {own : String} {idx : Nat} {y : MethodName} (hd : d ∈ tw_W) (h : ∀ w ∈ ([.methodLink own idx y, .static y, .initialized y.cls] : List Cond), w ∈ tw_W) : GoodIn tw_W (va_wsS own idx y (d :: tw_W)) := fun w hw => (List.mem_append.mp hw).elim (fun k => tw_g w (h w k)) (fun k => tw_c hd w k)
/-- private members of nest mates that are used: owner, index, class, name, descriptor -/
def nwF : List (String × Nat × String × String × String) := [("PocketCompiler", 255, "PocketCompiler$Gifts", "size", "I"), ("PocketCompiler", 105, "PocketCompiler$Tokens", "faultKind", "I"), ("PocketCompiler", 110, "PocketCompiler$Tokens", "faultPlace", "I"), ("PocketCompiler$Expressions", 125, "PocketCompiler$Builder", "program", "LPocketCompiler$Program;"), ("PocketCompiler$Parser", 141, "PocketCompiler$Builder", "knownCount", "I"), ("PocketCompiler$Parser", 217, "PocketCompiler$Builder", "blockStart", "I"), ("PocketCompiler$Expressions", 85, "PocketCompiler$Builder", "putBy", "I"), ("PocketCompiler$Parser", 68, "PocketCompiler$Builder", "callCount", "I"), ("PocketCompiler", 101, "PocketCompiler$Parser", "tokens", "LPocketCompiler$Tokens;"), ("PocketCompiler", 180, "PocketCompiler$Processor", "pc", "I"), ("PocketCompiler", 166, "PocketCompiler$Processor", "status", "I"), ("PocketCompiler", 252, "PocketCompiler$Processor", "steps", "I"), ("PocketCompiler", 210, "PocketCompiler$Processor", "puts", "[I"), ("PocketCompiler", 202, "PocketCompiler$Processor", "putCount", "I"), ("PocketCompiler", 237, "PocketCompiler$Worker", "puts", "[I"), ("PocketCompiler", 232, "PocketCompiler$Worker", "hasWorked", "Z"), ("PocketCompiler", 236, "PocketCompiler$Worker", "putCount", "I")]
def nwM : List (String × Nat × MethodName) := [("PocketCompiler", 19, yX3_init), ("PocketCompiler", 26, yX8_init)]
/-- what the tables say, wherever a method is called -/
def kk_ (D : va_G) (tys : List (ClassId × FieldType)) (U : State) : Prop := va_K D vwCl tys U ∧ va_AOA .int U ∧ (∀ q ∈ nwF, va_Nw (.fieldLinkNest q.1 q.2.1 q.2.2.1 q.2.2.2.1 q.2.2.2.2 "PocketCompiler") U) ∧ (∀ q ∈ nwM, va_Nw (.methodLinkNest q.1 q.2.1 q.2.2 "PocketCompiler") U)
theorem kk_.same {D : va_G} {tys : List (ClassId × FieldType)} {u U : State} (h0 : u.vm = U.vm) (h : kk_ D tys u) : kk_ D tys U := ⟨h.1.moved (by rw [h0]; exact Vm.Alike.refl U.vm), h.2.1.moved (by rw [h0]; exact Vm.Alike.refl U.vm), fun q hq => va_Nw.same rfl h0 (h.2.2.1 q hq), fun q hq => va_Nw.same rfl h0 (h.2.2.2 q hq)⟩
theorem kk_.warm {D : va_G} {tys : List (ClassId × FieldType)} {s U : State} (hW : s.WarmedH U.vm) (h : kk_ D tys s) : kk_ D tys U := ⟨h.1.moved hW.alike, h.2.1.moved hW.alike, fun q hq => (h.2.2.1 q hq).warmF hW, fun q hq => (h.2.2.2 q hq).warmM hW⟩
theorem kk_.fld {D : va_G} {tys : List (ClassId × FieldType)} {s : State} {args : Array Value} (h : kk_ D tys s) {q : String × Nat × String × String × String} (k : Nat) (hq : nwF[k]? = some q) : (Cond.fieldLinkNest q.1 q.2.1 q.2.2.1 q.2.2.2.1 q.2.2.2.2 "PocketCompiler").before args s = true := va_Nw.use rfl (h.2.2.1 q (List.mem_of_getElem? hq))
/-- a contract's start: its world, its tables -/
def pc_ (D : va_G) (tys : List (ClassId × FieldType)) (W : va_W) (sz : Nat) (av : List Value) : Array Value → State → Prop := va_Pc av (fun U => U.heap.size = sz ∧ va_P D vwCl W U.heap ∧ kk_ D tys U ∧ va_D (fun _ => True) W)
/-- a contract's end: an int, nothing, a cell -/
def qi_ {S : Type} (D : va_G) (W : va_W) (sz : Nat) (post : Int32 → S → Prop) (Wf : S → va_W) : Array Value → State → Outcome → State → Prop := va_Qi post (fun u t => va_P D vwCl (Wf u) t.heap ∧ va_D (va_A W sz) (Wf u)) (va_A W sz)
def qv_ {S : Type} (D : va_G) (W : va_W) (sz : Nat) (post : S → Prop) (Wf : S → va_W) : Array Value → State → Outcome → State → Prop := va_Qv post (fun u t => va_P D vwCl (Wf u) t.heap ∧ va_D (va_A W sz) (Wf u)) (va_A W sz)
theorem pc_blind {D : va_G} {tys : List (ClassId × FieldType)} {W : va_W} {sz : Nat} {av : List Value} : FrameBlind (pc_ D tys W sz av) := fun a U g mk q => by
  obtain ⟨q0, q1, qP, qK, qD⟩ := q
  exact ⟨q0, q1, qP, kk_.same (u := U) (U := U.calling g mk a) rfl qK, qD⟩
theorem is_fm {ws Wc : va_W} {is : List Nat} (h : is.map (fun i => ws[i]?) = Wc.map some) : is.filterMap (fun i => ws[i]?) = Wc := by
  have h2 : is.filterMap (fun i => ws[i]?) = (is.map (fun i => ws[i]?)).filterMap id := by rw [List.filterMap_map]; rfl
  rw [h2, h]
  clear h h2
  induction Wc with
  | nil => rfl
  | cons a t ih => simp [ih]
theorem pc_at {D : va_G} {tys : List (ClassId × FieldType)} {ws Wc : va_W} {A : Nat → Prop} {s : State} {H : Heap} {As : List Value} (hK : kk_ D tys s) (hP : va_P D vwCl ws H) (hD : va_D A ws) {is : List Nat} (hn : va_nd is = true) (h : is.map (fun i => ws[i]?) = Wc.map some) : ∀ U : State, U.heap = H → s.WarmedH U.vm → pc_ D tys Wc H.size As As.toArray U := fun U hU hW =>
  ⟨rfl, by rw [hU], by rw [hU]; exact hP.sub is (is_fm h), kk_.warm hW hK, (hD.sub is hn h).weaken (fun _ _ _ _ => trivial)⟩
section CLX
variable {p : Program} {l : Launch} {e : Env} {R : Room} {s : State} {m : MethodId} {args : Array Value} {below : List Frame} {meth : Method} {c : Code} {H H0 : Heap} {locs : List Loc} {cells slots : Nat} {Q : State → Prop}
variable {cc bytes : ByteArray} {pc nL maxL mc ms n index ci b : Nat} {ls : Array Slot} {rest st0 As fs : List Value} {D : va_G} {A : Nat → Prop} {tys : List (ClassId × FieldType)} {ws Wc wr : va_W} {own C : String} {y : MethodName} {ret : Option FieldType} {rm : Room} {q : vw_C} {isC isR : List Nat} {S : Type}
theorem ca_i {post : Int32 → S → Prop} {Wf : S → va_W} {a : Array Value} (hr : va_Run p l e R s m args below meth c H locs cells slots mc ms (F0 m pc ls st0) rest (qi_ D Wc H.size post Wf a) (va_A Wc H.size)) (hP : va_P D vwCl ws H) (hD : va_D A ws) (hS : va_S A H0 H locs) (hA : ∀ q, H0.size ≤ q → A q)
    (hC : isC.map (fun i => ws[i]?) = Wc.map some) (hR : isR.map (fun i => ws[i]?) = wr.map some) (hn : va_nd isR = true) (hdis : ∀ i ∈ isR, i ∉ isC)
    (kk : ∀ (r : Int32) (u : S) (H1 : Heap) (locs1 : List Loc), post r u → va_P D vwCl (wr ++ Wf u) H1 → va_D A (wr ++ Wf u) → va_S A H0 H1 locs1 → W p l e R s m args below meth c H1 locs1 (cells + mc) (slots + ms) Q (F0 m (pc + 3) ls (.int r :: rest))) : W p l e R s m args below meth c H locs cells slots Q (F0 m pc ls st0) := by
  have hF := va_free hD hS hA isC hC
  refine va_calli hr hS (fun q _ h => hF q h) hF (fun r u t H1 locs1 ht hvm hw hB hz hk hS1 => ?_)
  obtain ⟨hP1, hD1⟩ := hB
  rw [ht] at hP1
  obtain ⟨hP2, hD2⟩ := va_join (wr := wr) (w1 := Wf u) hP hD isC isR hC hR hn hdis hk hF hP1 hD1
  exact kk r u H1 locs1 hw hP2 hD2 hS1
theorem ca_v {post : S → Prop} {Wf : S → va_W} {a : Array Value} (hr : va_Run p l e R s m args below meth c H locs cells slots mc ms (F0 m pc ls st0) rest (qv_ D Wc H.size post Wf a) (va_A Wc H.size)) (hP : va_P D vwCl ws H) (hD : va_D A ws) (hS : va_S A H0 H locs) (hA : ∀ q, H0.size ≤ q → A q)
    (hC : isC.map (fun i => ws[i]?) = Wc.map some) (hR : isR.map (fun i => ws[i]?) = wr.map some) (hn : va_nd isR = true) (hdis : ∀ i ∈ isR, i ∉ isC)
    (kk : ∀ (u : S) (H1 : Heap) (locs1 : List Loc), post u → va_P D vwCl (wr ++ Wf u) H1 → va_D A (wr ++ Wf u) → va_S A H0 H1 locs1 → W p l e R s m args below meth c H1 locs1 (cells + mc) (slots + ms) Q (F0 m (pc + 3) ls rest)) : W p l e R s m args below meth c H locs cells slots Q (F0 m pc ls st0) := by
  have hF := va_free hD hS hA isC hC
  refine va_callv hr hS (fun q _ h => hF q h) hF (fun u t H1 locs1 ht hvm hw hB hz hk hS1 => ?_)
  obtain ⟨hP1, hD1⟩ := hB
  rw [ht] at hP1
  obtain ⟨hP2, hD2⟩ := va_join (wr := wr) (w1 := Wf u) hP hD isC isR hC hR hn hdis hk hF hP1 hD1
  exact kk u H1 locs1 hw hP2 hD2 hS1
theorem rn_V {Qc : Array Value → State → Outcome → State → Prop} (hx : p.tables.exec = Jvm.exec) (hb : c.code = cc) (hml : c.maxLocals = nL) (hown : s.vm.findClass own = some m.cls) (ht : ∀ w ∈ tw_W, w.before args s = true) (hK : kk_ D tys s) (hP : va_P D vwCl ws H) (hD : va_D A ws)
    (hM : Met l y (Cond.code y bytes maxL ret :: tw_W) rm (pc_ D tys Wc H.size (.ref b :: As)) Qc mc ms (va_A Wc H.size)) (hcw : Cond.code y bytes maxL ret ∈ tw_W) (hws : ∀ w ∈ ([.methodLink own index y, .instanceMethod y, .selects C y y, .initialized C] : List Cond), w ∈ tw_W)
    (hd : y.cls = C ∧ y.cls ≠ "java/lang/invoke/MethodHandle" ∧ y.cls ≠ "java/lang/invoke/VarHandle" ∧ (parseMethodDescriptor y.desc).map (fun d => d.parameters.length) = some n) (hrc : rm.cells = mc) (hrs : rm.slots = ms) (hR : rm.frames + 1 ≤ R.frames ∧ 8 + (maxL + 11) + rm.locals ≤ R.locals)
    (isC : List Nat) (hC : isC.map (fun i => ws[i]?) = Wc.map some) (hnC : va_nd isC = true) (hrecv : Wc[0]? = some (b, .inr (ci, fs))) (hc : vwCl[ci]? = some q) (hq : q.1 = C)
    (hnA : As.length = n) (hls : ls.size = nL) (hst : st0 = As.reverse ++ .ref b :: rest) (hW : (rest.map fun v => v.category).sum ≤ 8) (hdg : decode cc pc = .ok (.invokevirtual index, 3)) (hf : cells + mc ≤ R.cells ∧ slots + ms ≤ R.slots) :
    va_Run p l e R s m args below meth c H locs cells slots mc ms (F0 m pc ls st0) rest (Qc (Value.ref b :: As).toArray) (va_A Wc H.size) := by
  subst hq
  exact va_runV ⟨hx, hb, hml, hown, ht⟩ hM (cwV n ht (tw_V hcw hws) rfl hrc hrs hd hR) ⟨pc_blind, va_recv hK.1 (hP.sub isC (is_fm hC)) hc hrecv, pc_at hK hP hD hnC hC⟩ rfl hnA hls hst (lv_room hW) hdg hf
theorem rn_S {Qc : Array Value → State → Outcome → State → Prop} (hx : p.tables.exec = Jvm.exec) (hb : c.code = cc) (hml : c.maxLocals = nL) (hown : s.vm.findClass own = some m.cls) (ht : ∀ w ∈ tw_W, w.before args s = true) (hK : kk_ D tys s) (hP : va_P D vwCl ws H) (hD : va_D A ws)
    (hM : Met l y (Cond.code y bytes maxL ret :: tw_W) rm (pc_ D tys Wc H.size As) Qc mc ms (va_A Wc H.size)) (hcw : Cond.code y bytes maxL ret ∈ tw_W) (hws : ∀ w ∈ ([.methodLink own index y, .static y, .initialized y.cls] : List Cond), w ∈ tw_W)
    (hd : y.cls ≠ "java/lang/invoke/MethodHandle" ∧ y.cls ≠ "java/lang/invoke/VarHandle" ∧ (parseMethodDescriptor y.desc).map (fun d => d.parameters.length) = some n) (hrc : rm.cells = mc) (hrs : rm.slots = ms) (hR : rm.frames + 1 ≤ R.frames ∧ 8 + (maxL + 11) + rm.locals ≤ R.locals)
    (isC : List Nat) (hC : isC.map (fun i => ws[i]?) = Wc.map some) (hnC : va_nd isC = true)
    (hnA : As.length = n) (hls : ls.size = nL) (hst : st0 = As.reverse ++ rest) (hW : (rest.map fun v => v.category).sum ≤ 8) (hdg : decode cc pc = .ok (.invokestatic index, 3)) (hf : cells + mc ≤ R.cells ∧ slots + ms ≤ R.slots) :
    va_Run p l e R s m args below meth c H locs cells slots mc ms (F0 m pc ls st0) rest (Qc As.toArray) (va_A Wc H.size) :=
  va_runS ⟨hx, hb, hml, hown, ht⟩ hM (va_cwS n ht (tw_S hcw hws) rfl hrc hrs hd hR) ⟨pc_blind, pc_at hK hP hD hnC hC⟩ rfl hnA hls hst (lv_room hW) hdg hf
theorem rn_I {Qc : Array Value → State → Outcome → State → Prop} (hx : p.tables.exec = Jvm.exec) (hb : c.code = cc) (hml : c.maxLocals = nL) (hown : s.vm.findClass own = some m.cls) (ht : ∀ w ∈ tw_W, w.before args s = true) (hK : kk_ D tys s) (hP : va_P D vwCl ws H) (hD : va_D A ws)
    (hM : Met l y (Cond.code y bytes maxL none :: tw_W) rm (pc_ D tys Wc H.size (.ref b :: As)) Qc mc ms (va_A Wc H.size)) (hcw : Cond.code y bytes maxL none ∈ tw_W) (hini : Cond.initialized y.cls ∈ tw_W) (hlk : Cond.methodLink own index y ∈ tw_W) (hin : Cond.instanceMethod y ∈ tw_W) (hy : y.name = "<init>")
    (hd : y.cls ≠ "java/lang/invoke/MethodHandle" ∧ y.cls ≠ "java/lang/invoke/VarHandle" ∧ (parseMethodDescriptor y.desc).map (fun d => d.parameters.length) = some n) (hrc : rm.cells = mc) (hrs : rm.slots = ms) (hR : rm.frames + 1 ≤ R.frames ∧ 8 + (maxL + 11) + rm.locals ≤ R.locals)
    (isC : List Nat) (hC : isC.map (fun i => ws[i]?) = Wc.map some) (hnC : va_nd isC = true)
    (hnA : As.length = n) (hls : ls.size = nL) (hst : st0 = As.reverse ++ .ref b :: rest) (hW : (rest.map fun v => v.category).sum ≤ 8) (hdg : decode cc pc = .ok (.invokespecial index, 3)) (hf : cells + mc ≤ R.cells ∧ slots + ms ≤ R.slots) :
    va_Run p l e R s m args below meth c H locs cells slots mc ms (F0 m pc ls st0) rest (Qc (Value.ref b :: As).toArray) (va_A Wc H.size) :=
  va_runI ⟨hx, hb, hml, hown, ht⟩ hM (cwI n ht (tw_c hcw) rfl hrc hrs (ht _ hini) (ht _ hlk) (ht _ hin) hy hd hR) ⟨pc_blind, pc_at hK hP hD hnC hC⟩ rfl hnA hls hst (lv_room hW) hdg hf
/-- a new array of a type whose class is known already -/
theorem va_newE {cc : ByteArray} (hexec : p.tables.exec = Jvm.exec) (hb : c.code = cc) {atype : ArrayType} (harr : (Cond.arrayClass (newarray.typeOf atype)).before args s = true) {ty : FieldType} (hty : newarray.typeOf atype = ty) (hK : va_K D vwCl tys s) (hP : va_P D vwCl ws H) (hD : va_D A ws) (hS : va_S A H0 H locs) (hA : ∀ q, H0.size ≤ q → A q) (t0 : Nat) {cE : ClassId} (ht0 : tys[t0]? = some (cE, ty))
    {n : Int32} {N' : Nat} {a0 : vp_A} (ha : ∀ cA : ClassId, vp_cell cA a0 = arrV cA N' (fun _ => defaultValue ty)) (hn : ¬ n < 0) (hN : n.toNatClampNeg = N') (hbytes : N' * componentBytes ty ≤ 536870912) (hcells : cells + 1 ≤ R.cells) (hslots : slots + N' ≤ R.slots) (hdg : decode cc pc = .ok (.newarray atype, 2))
    (kk : ∀ (q : Nat) (H1 : Heap), va_P D vwCl (ws ++ [(q, .inl (cE, a0))]) H1 → va_D A (ws ++ [(q, .inl (cE, a0))]) → va_S A H0 H1 locs →
      W p l e R s m args below meth c H1 locs (cells + 1) (slots + N') Q (F0 m (pc + 2) ls (.ref q :: rest))) : W p l e R s m args below meth c H locs cells slots Q (F0 m pc ls (.int n :: rest)) := by
  refine va_newa hexec hb harr hty hK hP hD hS hA ha hn hN hbytes hcells hslots hdg (fun q cA H1 hK1 hP1 hD1 hS1 => ?_)
  have e1 := (hK.2 t0 _ ht0).2
  have e2 := (hK1.2 tys.length (cA, ty) (by simp)).2
  have e : cA = cE := by
    subst hty
    cases atype <;> exact Option.some.inj (Eq.trans (Eq.symm e2) e1)
  subst e
  exact kk q H1 hP1 hD1 hS1
end CLX
section TPI
variable {p : Program} {l : Launch} {e : Env} {R : Room} {s : State} {m : MethodId} {args : Array Value} {below : List Frame} {meth : Method} {c : Code} {H : Heap} {locs : List Loc} {cells slots : Nat} {Q : State → Prop} {pc : Nat} {ls : Array Slot} {rest : List Value}
theorem tp_i {x y : Int32} (h : x = y) (k : W p l e R s m args below meth c H locs cells slots Q (F0 m pc ls (.int y :: rest))) : W p l e R s m args below meth c H locs cells slots Q (F0 m pc ls (.int x :: rest)) := by rw [h]; exact k
end TPI
/-- the array classes that the worlds speak of -/
abbrev tyS (cI cB cZ cJ cR : ClassId) : List (ClassId × FieldType) := [(cI, .int), (cB, .byte), (cZ, .boolean), (cJ, .long), (cR, .array .int)]
end
section
section CLY
variable {p : Program} {l : Launch} {e : Env} {R : Room} {s : State} {m : MethodId} {args : Array Value} {below : List Frame} {meth : Method} {c : Code} {H H0 : Heap} {locs : List Loc} {cells slots : Nat} {Q : State → Prop}
variable {cc bytes : ByteArray} {pc nL maxL mc ms n index ci b : Nat} {ls : Array Slot} {rest st0 As fs : List Value} {D : va_G} {A : Nat → Prop} {tys : List (ClassId × FieldType)} {ws Wc wr : va_W} {own C : String} {y : MethodName} {ret : Option FieldType} {rm : Room} {q : vw_C} {isC isR : List Nat} {S : Type}
/-- several roads that meet at one place -/
theorem jn_ {P : Array Slot → Prop} (pc2 : Nat) (st2 : List Value) (k : ∀ ls, P ls → W p l e R s m args below meth c H locs cells slots Q (F0 m pc2 ls st2)) {g : JFrame} (f : (∀ ls, P ls → W p l e R s m args below meth c H locs cells slots Q (F0 m pc2 ls st2)) → W p l e R s m args below meth c H locs cells slots Q g) : W p l e R s m args below meth c H locs cells slots Q g := f k
/-- a private constructor of a nest mate -/
theorem rn_IN {Qc : Array Value → State → Outcome → State → Prop} (hx : p.tables.exec = Jvm.exec) (hb : c.code = cc) (hml : c.maxLocals = nL) (hown : s.vm.findClass own = some m.cls) (ht : ∀ w ∈ tw_W, w.before args s = true) (hK : kk_ D tys s) (hP : va_P D vwCl ws H) (hD : va_D A ws)
    (hM : Met l y (Cond.code y bytes maxL none :: tw_W) rm (pc_ D tys Wc H.size (.ref b :: As)) Qc mc ms (va_A Wc H.size)) (hcw : Cond.code y bytes maxL none ∈ tw_W) (hini : Cond.initialized y.cls ∈ tw_W) (kx : Nat) (hlk : nwM[kx]? = some (own, index, y)) (hin : Cond.instanceMethod y ∈ tw_W) (hy : y.name = "<init>")
    (hd : y.cls ≠ "java/lang/invoke/MethodHandle" ∧ y.cls ≠ "java/lang/invoke/VarHandle" ∧ (parseMethodDescriptor y.desc).map (fun d => d.parameters.length) = some n) (hrc : rm.cells = mc) (hrs : rm.slots = ms) (hR : rm.frames + 1 ≤ R.frames ∧ 8 + (maxL + 11) + rm.locals ≤ R.locals)
    (isC : List Nat) (hC : isC.map (fun i => ws[i]?) = Wc.map some) (hnC : va_nd isC = true)
    (hnA : As.length = n) (hls : ls.size = nL) (hst : st0 = As.reverse ++ .ref b :: rest) (hW : (rest.map fun v => v.category).sum ≤ 8) (hdg : decode cc pc = .ok (.invokespecial index, 3)) (hf : cells + mc ≤ R.cells ∧ slots + ms ≤ R.slots) :
    va_Run p l e R s m args below meth c H locs cells slots mc ms (F0 m pc ls st0) rest (Qc (Value.ref b :: As).toArray) (va_A Wc H.size) :=
  va_runIN (host := "PocketCompiler") ⟨hx, hb, hml, hown, ht⟩ hM ⟨va_cnB n ht (tw_c hcw) rfl hrc hrs (hK.2.2.2 _ (List.mem_of_getElem? hlk)) (ht _ hini) hd hR, hy, ht _ hin⟩ ⟨pc_blind, pc_at hK hP hD hnC hC⟩ rfl hnA hls hst (lv_room hW) hdg hf
/-- an array of arrays of ints that nobody will look into: only its address is kept -/
theorem va_mnD {cc : ByteArray} (hexec : p.tables.exec = Jvm.exec) (hb : c.code = cc) {own : String} {index : Nat} (hown : s.vm.findClass own = some m.cls) (hclink : (Cond.classLink own index ("[" ++ (FieldType.array .int).toString)).before args s = true) (harr : (Cond.arrayClass .int).before args s = true)
    (hKK : kk_ D tys s) {cI : ClassId} (t0 : Nat) (ht0 : tys[t0]? = some (cI, .int)) (hP : va_P D vwCl ws H) (hD : va_D A ws) (hS : va_S A H0 H locs) (hA : ∀ q, H0.size ≤ q → A q) {n k : Int32} {N' K' : Nat} (hn : ¬ n < 0) (hk : ¬ k < 0) (hN : n.toNatClampNeg = N') (hM : k.toNatClampNeg = K')
    (hb1 : N' * 4 ≤ 536870912) (hb2 : K' * 4 ≤ 536870912) (hcells : cells + (1 + N') ≤ R.cells) (hslots : slots + (N' + N' * K') ≤ R.slots) (hdg : decode cc pc = .ok (.multianewarray index 2, 4))
    (kk : ∀ (q : Nat) (H1 : Heap), va_P D vwCl ws H1 → va_D A ws → va_S A H0 H1 locs → W p l e R s m args below meth c H1 locs (cells + 1 + N') (slots + N' + N' * K') Q (F0 m (pc + 4) ls (.ref q :: rest))) : W p l e R s m args below meth c H locs cells slots Q (F0 m pc ls (.int k :: .int n :: rest)) := by
  refine va_mna (X := ws) (L := []) (f := fun _ => .inl (cI, (0, .inl (fun _ => 0)))) (z := (K', .inl (fun _ => 0))) (cy := cI) hexec hb hown hclink hKK.2.1 harr ?_ hKK.1 (by rw [show va_pl [] (fun _ => (.inl (cI, (0, .inl (fun _ => 0))) : va_E)) = [] from rfl, List.append_nil]; exact hP) (by rw [show va_pl [] (fun _ => (.inl (cI, (0, .inl (fun _ => 0))) : va_E)) = [] from rfl, List.append_nil]; exact hD) hS hA hn hk hN hM hb1 hb2 (by omega) rfl rfl hcells hslots ?_ hdg (fun q r cA H1 _ _ _ hP1 hD1 hS1 => ?_)
  · exact (hKK.1.2 t0 _ ht0).2
  · intro c
    exact (arrV_new c K' _)
  · have hs : ∀ (k : Nat) (x : Nat × va_E), ws[k]? = some x → ∀ (Y : va_W), (ws ++ Y)[k]? = some x := fun k x hx Y => by rw [List.getElem?_append_left (List.getElem?_eq_some_iff.mp hx).1]; exact hx
    refine kk q H1 (fun k x hx => hP1 k x ?_) hD hS1
    rw [List.append_assoc]
    exact hs k x hx _
end CLY
end
section
theorem dX7_init_0 : decode cX7_init 0 = .ok (.aload_n 0, 1) := by decide +kernel
theorem dX7_init_1 : decode cX7_init 1 = .ok (.invokespecial 3, 3) := by decide +kernel
theorem tw_0 : (.methodLink RX7 3 objectInit : Cond) ∈ tw_W := tw_in (by decide +kernel) (by decide +kernel)
theorem tw_1 : (.instanceMethod objectInit : Cond) ∈ tw_W := tw_in (by decide +kernel) (by decide +kernel)
theorem tw_2 : (.code objectInit ⟨#[0xb1]⟩ 1 none : Cond) ∈ tw_W := tw_in (by decide +kernel) (by decide +kernel)
theorem dX7_init_4 : decode cX7_init 4 = .ok (.aload_n 0, 1) := by decide +kernel
theorem dX7_init_5 : decode cX7_init 5 = .ok (.sipush 4000, 3) := by decide +kernel
theorem dX7_init_8 : decode cX7_init 8 = .ok (.newarray .int, 2) := by decide +kernel
theorem tw_3 : (.arrayClass .int : Cond) ∈ tw_W := tw_in (by decide +kernel) (by decide +kernel)
theorem dX7_init_10 : decode cX7_init 10 = .ok (.putfield 9, 3) := by decide +kernel
theorem tw_4 : (.fieldLink RX7 9 "PocketCompiler$Program" "text" "[I" : Cond) ∈ tw_W := tw_in (by decide +kernel) (by decide +kernel)
theorem itX7 : ∀ w ∈ wsX70, w ∈ tw_W := tw_all (by decide +kernel)
theorem dX7_init_13 : decode cX7_init 13 = .ok (.aload_n 0, 1) := by decide +kernel
theorem dX7_init_14 : decode cX7_init 14 = .ok (.bipush 40, 2) := by decide +kernel
theorem dX7_init_16 : decode cX7_init 16 = .ok (.bipush 6, 2) := by decide +kernel
theorem dX7_init_18 : decode cX7_init 18 = .ok (.multianewarray 15 2, 4) := by decide +kernel
theorem tw_5 : (.classLink RX7 15 "[[I" : Cond) ∈ tw_W := tw_in (by decide +kernel) (by decide +kernel)
theorem dX7_init_22 : decode cX7_init 22 = .ok (.putfield 17, 3) := by decide +kernel
theorem tw_6 : (.fieldLink RX7 17 "PocketCompiler$Program" "functions" "[[I" : Cond) ∈ tw_W := tw_in (by decide +kernel) (by decide +kernel)
theorem dX7_init_25 : decode cX7_init 25 = .ok (.aload_n 0, 1) := by decide +kernel
theorem dX7_init_26 : decode cX7_init 26 = .ok (.bipush 60, 2) := by decide +kernel
theorem dX7_init_28 : decode cX7_init 28 = .ok (.iconst 5, 1) := by decide +kernel
theorem dX7_init_29 : decode cX7_init 29 = .ok (.multianewarray 15 2, 4) := by decide +kernel
theorem dX7_init_33 : decode cX7_init 33 = .ok (.putfield 20, 3) := by decide +kernel
theorem tw_7 : (.fieldLink RX7 20 "PocketCompiler$Program" "globals" "[[I" : Cond) ∈ tw_W := tw_in (by decide +kernel) (by decide +kernel)
theorem dX7_init_36 : decode cX7_init 36 = .ok (.aload_n 0, 1) := by decide +kernel
theorem dX7_init_37 : decode cX7_init 37 = .ok (.sipush 3008, 3) := by decide +kernel
theorem dX7_init_40 : decode cX7_init 40 = .ok (.newarray .int, 2) := by decide +kernel
theorem dX7_init_42 : decode cX7_init 42 = .ok (.putfield 23, 3) := by decide +kernel
theorem tw_8 : (.fieldLink RX7 23 "PocketCompiler$Program" "deeds" "[I" : Cond) ∈ tw_W := tw_in (by decide +kernel) (by decide +kernel)
theorem dX7_init_45 : decode cX7_init 45 = .ok (.aload_n 0, 1) := by decide +kernel
theorem dX7_init_46 : decode cX7_init 46 = .ok (.sipush 3008, 3) := by decide +kernel
theorem dX7_init_49 : decode cX7_init 49 = .ok (.newarray .int, 2) := by decide +kernel
theorem dX7_init_51 : decode cX7_init 51 = .ok (.putfield 26, 3) := by decide +kernel
theorem tw_9 : (.fieldLink RX7 26 "PocketCompiler$Program" "xs" "[I" : Cond) ∈ tw_W := tw_in (by decide +kernel) (by decide +kernel)
theorem dX7_init_54 : decode cX7_init 54 = .ok (.aload_n 0, 1) := by decide +kernel
theorem dX7_init_55 : decode cX7_init 55 = .ok (.sipush 3008, 3) := by decide +kernel
theorem dX7_init_58 : decode cX7_init 58 = .ok (.newarray .int, 2) := by decide +kernel
theorem dX7_init_60 : decode cX7_init 60 = .ok (.putfield 29, 3) := by decide +kernel
theorem tw_10 : (.fieldLink RX7 29 "PocketCompiler$Program" "ys" "[I" : Cond) ∈ tw_W := tw_in (by decide +kernel) (by decide +kernel)
theorem dX7_init_63 : decode cX7_init 63 = .ok (.aload_n 0, 1) := by decide +kernel
theorem dX7_init_64 : decode cX7_init 64 = .ok (.iload_n 1, 1) := by decide +kernel
theorem dX7_init_65 : decode cX7_init 65 = .ok (.newarray .int, 2) := by decide +kernel
theorem dX7_init_67 : decode cX7_init 67 = .ok (.putfield 32, 3) := by decide +kernel
theorem tw_11 : (.fieldLink RX7 32 "PocketCompiler$Program" "words" "[I" : Cond) ∈ tw_W := tw_in (by decide +kernel) (by decide +kernel)
theorem dX7_init_70 : decode cX7_init 70 = .ok (.return_, 1) := by decide +kernel
theorem dX9_init_0 : decode cX9_init 0 = .ok (.aload_n 0, 1) := by decide +kernel
theorem dX9_init_1 : decode cX9_init 1 = .ok (.invokespecial 5, 3) := by decide +kernel
theorem tw_12 : (.methodLink RX9 5 objectInit : Cond) ∈ tw_W := tw_in (by decide +kernel) (by decide +kernel)
theorem dX9_init_4 : decode cX9_init 4 = .ok (.aload_n 0, 1) := by decide +kernel
theorem dX9_init_5 : decode cX9_init 5 = .ok (.sipush 1503, 3) := by decide +kernel
theorem dX9_init_8 : decode cX9_init 8 = .ok (.newarray .int, 2) := by decide +kernel
theorem dX9_init_10 : decode cX9_init 10 = .ok (.putfield 11, 3) := by decide +kernel
theorem tw_13 : (.fieldLink RX9 11 "PocketCompiler$Tokens" "kinds" "[I" : Cond) ∈ tw_W := tw_in (by decide +kernel) (by decide +kernel)
theorem itX9 : ∀ w ∈ wsX90, w ∈ tw_W := tw_all (by decide +kernel)
theorem dX9_init_13 : decode cX9_init 13 = .ok (.aload_n 0, 1) := by decide +kernel
theorem dX9_init_14 : decode cX9_init 14 = .ok (.sipush 1503, 3) := by decide +kernel
theorem dX9_init_17 : decode cX9_init 17 = .ok (.newarray .int, 2) := by decide +kernel
theorem dX9_init_19 : decode cX9_init 19 = .ok (.putfield 15, 3) := by decide +kernel
theorem tw_14 : (.fieldLink RX9 15 "PocketCompiler$Tokens" "places" "[I" : Cond) ∈ tw_W := tw_in (by decide +kernel) (by decide +kernel)
theorem dX9_init_22 : decode cX9_init 22 = .ok (.aload_n 0, 1) := by decide +kernel
theorem dX9_init_23 : decode cX9_init 23 = .ok (.sipush 1503, 3) := by decide +kernel
theorem dX9_init_26 : decode cX9_init 26 = .ok (.newarray .int, 2) := by decide +kernel
theorem dX9_init_28 : decode cX9_init 28 = .ok (.putfield 18, 3) := by decide +kernel
theorem tw_15 : (.fieldLink RX9 18 "PocketCompiler$Tokens" "values" "[I" : Cond) ∈ tw_W := tw_in (by decide +kernel) (by decide +kernel)
theorem dX9_init_31 : decode cX9_init 31 = .ok (.aload_n 0, 1) := by decide +kernel
theorem dX9_init_32 : decode cX9_init 32 = .ok (.aload_n 1, 1) := by decide +kernel
theorem dX9_init_33 : decode cX9_init 33 = .ok (.putfield 21, 3) := by decide +kernel
theorem tw_16 : (.fieldLink RX9 21 "PocketCompiler$Tokens" "source" "LPocketCompiler$Program;" : Cond) ∈ tw_W := tw_in (by decide +kernel) (by decide +kernel)
theorem dX9_init_36 : decode cX9_init 36 = .ok (.return_, 1) := by decide +kernel
theorem dX3_init_0 : decode cX3_init 0 = .ok (.aload_n 0, 1) := by decide +kernel
theorem dX3_init_1 : decode cX3_init 1 = .ok (.invokespecial 3, 3) := by decide +kernel
theorem tw_17 : (.methodLink RX3 3 objectInit : Cond) ∈ tw_W := tw_in (by decide +kernel) (by decide +kernel)
theorem dX3_init_4 : decode cX3_init 4 = .ok (.aload_n 0, 1) := by decide +kernel
theorem dX3_init_5 : decode cX3_init 5 = .ok (.bipush 64, 2) := by decide +kernel
theorem dX3_init_7 : decode cX3_init 7 = .ok (.newarray .int, 2) := by decide +kernel
theorem dX3_init_9 : decode cX3_init 9 = .ok (.putfield 11, 3) := by decide +kernel
theorem tw_18 : (.fieldLink RX3 11 "PocketCompiler$Gifts" "numbers" "[I" : Cond) ∈ tw_W := tw_in (by decide +kernel) (by decide +kernel)
theorem itX3 : ∀ w ∈ wsX30, w ∈ tw_W := tw_all (by decide +kernel)
theorem dX3_init_12 : decode cX3_init 12 = .ok (.return_, 1) := by decide +kernel
set_option maxHeartbeats 4000000 in
set_option maxRecDepth 100000 in
/-- Program(N) -/
theorem c_X7_init (l : Launch) (dC : Nat → ClassId) (dI : Nat → Nat → Nat) (cI cB cZ cJ cR : ClassId) (sz : Nat) (h0 : Nat) (N : Nat) (hf_N_0 : 256 ≤ N) (hf_N_1 : N ≤ 4096) : Met l yX7_init (Cond.code yX7_init cX7_init 2 none :: tw_W) ({ frames := 1, cells := 107, slots := 17760, locals := 12 }) (pc_ (dC, dI) (tyS cI cB cZ cJ cR) [(h0, .inr (10, [.null, .int 0, .null, .int 0, .null, .int 0, .null, .null, .null, .int 0, .null, .int 0, .int 0]))] sz [.ref h0, .int (nI N)]) (qv_ (dC, dI) [(h0, .inr (10, [.null, .int 0, .null, .int 0, .null, .int 0, .null, .null, .null, .int 0, .null, .int 0, .int 0]))] sz (fun (u : Nat × Nat × Nat × Nat × Nat × Nat × Nat) => True) (fun (u : Nat × Nat × Nat × Nat × Nat × Nat × Nat) => [(h0, .inr (10, [.ref u.1, .int 0, .ref u.2.1, .int 0, .ref u.2.2.1, .int 0, .ref u.2.2.2.1, .ref u.2.2.2.2.1, .ref u.2.2.2.2.2.1, .int 0, .ref u.2.2.2.2.2.2, .int 0, .int 0])), (u.1, .inl (cI, 4000, .inl (fun _ => 0))), (u.2.2.2.2.2.2, .inl (cI, N, .inl (fun _ => 0)))])) 107 17760 (va_A [(h0, .inr (10, [.null, .int 0, .null, .int 0, .null, .int 0, .null, .null, .null, .int 0, .null, .int 0, .int 0]))] sz) := by
  refine Met.ofW (cc := cX7_init) (maxL := 2) (ret := none) (by decide) rfl ?_
  intro p e s m args below meth c s₁ B hml hv
  obtain ⟨rfl, hsz, hP, hKK, hD0⟩ := hv
  have hK := hKK.1
  have hx := B.exec
  have hb := B.bytes
  have hr := B.returns
  have ht : ∀ w ∈ tw_W, w.before _ s = true := fun w h => atoms_spec (ws := Cond.code yX7_init cX7_init 2 none :: tw_W) B.pre w (List.mem_cons_of_mem _ h)
  have hown : s.vm.findClass RX7 = some m.cls := findClass_of_methodNamed B.named
  have hlocks := B.notSynchronized
  have hin : meth.name = "<init>" := (name_of_methodNamed B.named B.method).1
  subst hsz
  unfold qv_
  have hD := hD0.self (sz := s.heap.size)
  generalize hAe : va_A [(h0, .inr (10, [.null, .int 0, .null, .int 0, .null, .int 0, .null, .null, .null, .int 0, .null, .int 0, .int 0]))] s.heap.size = A at hD ⊢
  have hA : ∀ q : Nat, s.heap.size ≤ q → A q := fun q h => by rw [← hAe]; exact Or.inr h
  have hS : va_S A s.heap s.heap [] := va_S.rf
  have hP : va_P (dC, dI) vwCl [(h0, .inr (10, [.null, .int 0, .null, .int 0, .null, .int 0, .null, .null, .null, .int 0, .null, .int 0, .int 0]))] s.heap := hP
  have hl := lv_entry ([.ref h0, .int (nI N)]) (n := 2) (Nat.le_of_ble_eq_true rfl)
  rw [lg_entry_eq]
  generalize (lg_sl ([.ref h0, .int (nI N)]) ++ List.replicate (2 - (lg_sl ([.ref h0, .int (nI N)])).length) Slot.unset).toArray = ls at hl ⊢
  have hl : lv_has ls 2 [(0, .ref h0), (1, .int (nI N))] := hl
  refine lv_aload_n hx hb dX7_init_0 rfl (lv_at hl 0 rfl) ?_
  refine W.objInit hx hb hown (ht _ tw_0) (ht _ tw_1) (ht _ tw_2) rfl (by rw [hml]; exact hl.1) rfl dX7_init_1 (Nat.le_of_ble_eq_true rfl) (Nat.le_of_ble_eq_true rfl) ?_
  refine W.eq (g2 := F0 m 4 ls []) rfl ?_
  refine lv_aload_n hx hb dX7_init_4 rfl (lv_at hl 0 rfl) ?_
  refine lv_sipush (v := 4000) hx hb dX7_init_5 (by decide) ?_
  refine va_newE (atype := .int) (ty := .int) (a0 := (4000, .inl (fun _ => 0))) (cE := cI) hx hb (ht _ tw_3) rfl hK hP hD hS hA 0 rfl (fun _ => rfl) (by decide) (by decide) (by decide) (Nat.le_of_ble_eq_true rfl) (Nat.le_of_ble_eq_true rfl) dX7_init_8 (fun q1 H hP hD hS => ?_)
  have hP : va_P (dC, dI) vwCl [(h0, .inr (10, [.null, .int 0, .null, .int 0, .null, .int 0, .null, .null, .null, .int 0, .null, .int 0, .int 0])), (q1, .inl (cI, 4000, .inl (fun _ => 0)))] H := hP
  have hD : va_D A [(h0, .inr (10, [.null, .int 0, .null, .int 0, .null, .int 0, .null, .null, .null, .int 0, .null, .int 0, .int 0])), (q1, .inl (cI, 4000, .inl (fun _ => 0)))] := hD
  refine W.widen (k := 1) (n := 4000) (by omega) (by omega) ?_
  refine va_putF (D := (dC, dI)) (ci := 10) (v := .ref q1) (ty := .array .int) (C := RX7) (T := TX7) (N := 13) hx hb ht itX7 tyX7 tyX7_ok nmX7 hown hK hP hD hS 0 rfl rfl 0 (by decide) (ht _ tw_4) (fun _ h9 => h9) rfl hin rfl (by decide +kernel) rfl rfl (Nat.le_of_ble_eq_true rfl) dX7_init_10 (fun H locs hP hD hS => ?_)
  have hP : va_P (dC, dI) vwCl [(h0, .inr (10, [.ref q1, .int 0, .null, .int 0, .null, .int 0, .null, .null, .null, .int 0, .null, .int 0, .int 0])), (q1, .inl (cI, 4000, .inl (fun _ => 0)))] H := hP
  have hD : va_D A [(h0, .inr (10, [.ref q1, .int 0, .null, .int 0, .null, .int 0, .null, .null, .null, .int 0, .null, .int 0, .int 0])), (q1, .inl (cI, 4000, .inl (fun _ => 0)))] := hD
  refine lv_aload_n hx hb dX7_init_13 rfl (lv_at hl 0 rfl) ?_
  refine lv_bipush (v := 40) hx hb dX7_init_14 (by decide) ?_
  refine lv_bipush (v := 6) hx hb dX7_init_16 (by decide) ?_
  refine va_mnD (N' := 40) (K' := 6) hx hb hown (ht _ tw_5) (ht _ tw_3) hKK 0 rfl hP hD hS hA (by decide) (by decide) (by decide) (by decide) (by decide) (by decide) (Nat.le_of_ble_eq_true rfl) (Nat.le_of_ble_eq_true rfl) dX7_init_18 (fun q2 H hP hD hS => ?_)
  refine W.widen (k := 42) (n := 4280) (by omega) (by omega) ?_
  refine va_putF (D := (dC, dI)) (ci := 10) (v := .ref q2) (ty := .array (.array .int)) (C := RX7) (T := TX7) (N := 13) hx hb ht itX7 tyX7 tyX7_ok nmX7 hown hK hP hD hS 0 rfl rfl 2 (by decide) (ht _ tw_6) (fun _ h9 => h9) rfl hin rfl (by decide +kernel) rfl rfl (Nat.le_of_ble_eq_true rfl) dX7_init_22 (fun H locs hP hD hS => ?_)
  have hP : va_P (dC, dI) vwCl [(h0, .inr (10, [.ref q1, .int 0, .ref q2, .int 0, .null, .int 0, .null, .null, .null, .int 0, .null, .int 0, .int 0])), (q1, .inl (cI, 4000, .inl (fun _ => 0)))] H := hP
  have hD : va_D A [(h0, .inr (10, [.ref q1, .int 0, .ref q2, .int 0, .null, .int 0, .null, .null, .null, .int 0, .null, .int 0, .int 0])), (q1, .inl (cI, 4000, .inl (fun _ => 0)))] := hD
  refine lv_aload_n hx hb dX7_init_25 rfl (lv_at hl 0 rfl) ?_
  refine lv_bipush (v := 60) hx hb dX7_init_26 (by decide) ?_
  refine lv_iconst (v := 5) hx hb dX7_init_28 (by decide) ?_
  refine va_mnD (N' := 60) (K' := 5) hx hb hown (ht _ tw_5) (ht _ tw_3) hKK 0 rfl hP hD hS hA (by decide) (by decide) (by decide) (by decide) (by decide) (by decide) (Nat.le_of_ble_eq_true rfl) (Nat.le_of_ble_eq_true rfl) dX7_init_29 (fun q3 H hP hD hS => ?_)
  refine W.widen (k := 103) (n := 4640) (by omega) (by omega) ?_
  refine va_putF (D := (dC, dI)) (ci := 10) (v := .ref q3) (ty := .array (.array .int)) (C := RX7) (T := TX7) (N := 13) hx hb ht itX7 tyX7 tyX7_ok nmX7 hown hK hP hD hS 0 rfl rfl 4 (by decide) (ht _ tw_7) (fun _ h9 => h9) rfl hin rfl (by decide +kernel) rfl rfl (Nat.le_of_ble_eq_true rfl) dX7_init_33 (fun H locs hP hD hS => ?_)
  have hP : va_P (dC, dI) vwCl [(h0, .inr (10, [.ref q1, .int 0, .ref q2, .int 0, .ref q3, .int 0, .null, .null, .null, .int 0, .null, .int 0, .int 0])), (q1, .inl (cI, 4000, .inl (fun _ => 0)))] H := hP
  have hD : va_D A [(h0, .inr (10, [.ref q1, .int 0, .ref q2, .int 0, .ref q3, .int 0, .null, .null, .null, .int 0, .null, .int 0, .int 0])), (q1, .inl (cI, 4000, .inl (fun _ => 0)))] := hD
  refine lv_aload_n hx hb dX7_init_36 rfl (lv_at hl 0 rfl) ?_
  refine lv_sipush (v := 3008) hx hb dX7_init_37 (by decide) ?_
  refine va_newE (atype := .int) (ty := .int) (a0 := (3008, .inl (fun _ => 0))) (cE := cI) hx hb (ht _ tw_3) rfl hK hP hD hS hA 0 rfl (fun _ => rfl) (by decide) (by decide) (by decide) (Nat.le_of_ble_eq_true rfl) (Nat.le_of_ble_eq_true rfl) dX7_init_40 (fun q4 H hP hD hS => ?_)
  have hP : va_P (dC, dI) vwCl [(h0, .inr (10, [.ref q1, .int 0, .ref q2, .int 0, .ref q3, .int 0, .null, .null, .null, .int 0, .null, .int 0, .int 0])), (q1, .inl (cI, 4000, .inl (fun _ => 0))), (q4, .inl (cI, 3008, .inl (fun _ => 0)))] H := hP
  have hD : va_D A [(h0, .inr (10, [.ref q1, .int 0, .ref q2, .int 0, .ref q3, .int 0, .null, .null, .null, .int 0, .null, .int 0, .int 0])), (q1, .inl (cI, 4000, .inl (fun _ => 0))), (q4, .inl (cI, 3008, .inl (fun _ => 0)))] := hD
  refine W.widen (k := 104) (n := 7648) (by omega) (by omega) ?_
  refine va_putF (D := (dC, dI)) (ci := 10) (v := .ref q4) (ty := .array .int) (C := RX7) (T := TX7) (N := 13) hx hb ht itX7 tyX7 tyX7_ok nmX7 hown hK hP hD hS 0 rfl rfl 6 (by decide) (ht _ tw_8) (fun _ h9 => h9) rfl hin rfl (by decide +kernel) rfl rfl (Nat.le_of_ble_eq_true rfl) dX7_init_42 (fun H locs hP hD hS => ?_)
  have hP : va_P (dC, dI) vwCl [(h0, .inr (10, [.ref q1, .int 0, .ref q2, .int 0, .ref q3, .int 0, .ref q4, .null, .null, .int 0, .null, .int 0, .int 0])), (q1, .inl (cI, 4000, .inl (fun _ => 0))), (q4, .inl (cI, 3008, .inl (fun _ => 0)))] H := hP
  have hD : va_D A [(h0, .inr (10, [.ref q1, .int 0, .ref q2, .int 0, .ref q3, .int 0, .ref q4, .null, .null, .int 0, .null, .int 0, .int 0])), (q1, .inl (cI, 4000, .inl (fun _ => 0))), (q4, .inl (cI, 3008, .inl (fun _ => 0)))] := hD
  refine lv_aload_n hx hb dX7_init_45 rfl (lv_at hl 0 rfl) ?_
  refine lv_sipush (v := 3008) hx hb dX7_init_46 (by decide) ?_
  refine va_newE (atype := .int) (ty := .int) (a0 := (3008, .inl (fun _ => 0))) (cE := cI) hx hb (ht _ tw_3) rfl hK hP hD hS hA 0 rfl (fun _ => rfl) (by decide) (by decide) (by decide) (Nat.le_of_ble_eq_true rfl) (Nat.le_of_ble_eq_true rfl) dX7_init_49 (fun q5 H hP hD hS => ?_)
  have hP : va_P (dC, dI) vwCl [(h0, .inr (10, [.ref q1, .int 0, .ref q2, .int 0, .ref q3, .int 0, .ref q4, .null, .null, .int 0, .null, .int 0, .int 0])), (q1, .inl (cI, 4000, .inl (fun _ => 0))), (q4, .inl (cI, 3008, .inl (fun _ => 0))), (q5, .inl (cI, 3008, .inl (fun _ => 0)))] H := hP
  have hD : va_D A [(h0, .inr (10, [.ref q1, .int 0, .ref q2, .int 0, .ref q3, .int 0, .ref q4, .null, .null, .int 0, .null, .int 0, .int 0])), (q1, .inl (cI, 4000, .inl (fun _ => 0))), (q4, .inl (cI, 3008, .inl (fun _ => 0))), (q5, .inl (cI, 3008, .inl (fun _ => 0)))] := hD
  refine W.widen (k := 105) (n := 10656) (by omega) (by omega) ?_
  refine va_putF (D := (dC, dI)) (ci := 10) (v := .ref q5) (ty := .array .int) (C := RX7) (T := TX7) (N := 13) hx hb ht itX7 tyX7 tyX7_ok nmX7 hown hK hP hD hS 0 rfl rfl 7 (by decide) (ht _ tw_9) (fun _ h9 => h9) rfl hin rfl (by decide +kernel) rfl rfl (Nat.le_of_ble_eq_true rfl) dX7_init_51 (fun H locs hP hD hS => ?_)
  have hP : va_P (dC, dI) vwCl [(h0, .inr (10, [.ref q1, .int 0, .ref q2, .int 0, .ref q3, .int 0, .ref q4, .ref q5, .null, .int 0, .null, .int 0, .int 0])), (q1, .inl (cI, 4000, .inl (fun _ => 0))), (q4, .inl (cI, 3008, .inl (fun _ => 0))), (q5, .inl (cI, 3008, .inl (fun _ => 0)))] H := hP
  have hD : va_D A [(h0, .inr (10, [.ref q1, .int 0, .ref q2, .int 0, .ref q3, .int 0, .ref q4, .ref q5, .null, .int 0, .null, .int 0, .int 0])), (q1, .inl (cI, 4000, .inl (fun _ => 0))), (q4, .inl (cI, 3008, .inl (fun _ => 0))), (q5, .inl (cI, 3008, .inl (fun _ => 0)))] := hD
  refine lv_aload_n hx hb dX7_init_54 rfl (lv_at hl 0 rfl) ?_
  refine lv_sipush (v := 3008) hx hb dX7_init_55 (by decide) ?_
  refine va_newE (atype := .int) (ty := .int) (a0 := (3008, .inl (fun _ => 0))) (cE := cI) hx hb (ht _ tw_3) rfl hK hP hD hS hA 0 rfl (fun _ => rfl) (by decide) (by decide) (by decide) (Nat.le_of_ble_eq_true rfl) (Nat.le_of_ble_eq_true rfl) dX7_init_58 (fun q6 H hP hD hS => ?_)
  have hP : va_P (dC, dI) vwCl [(h0, .inr (10, [.ref q1, .int 0, .ref q2, .int 0, .ref q3, .int 0, .ref q4, .ref q5, .null, .int 0, .null, .int 0, .int 0])), (q1, .inl (cI, 4000, .inl (fun _ => 0))), (q4, .inl (cI, 3008, .inl (fun _ => 0))), (q5, .inl (cI, 3008, .inl (fun _ => 0))), (q6, .inl (cI, 3008, .inl (fun _ => 0)))] H := hP
  have hD : va_D A [(h0, .inr (10, [.ref q1, .int 0, .ref q2, .int 0, .ref q3, .int 0, .ref q4, .ref q5, .null, .int 0, .null, .int 0, .int 0])), (q1, .inl (cI, 4000, .inl (fun _ => 0))), (q4, .inl (cI, 3008, .inl (fun _ => 0))), (q5, .inl (cI, 3008, .inl (fun _ => 0))), (q6, .inl (cI, 3008, .inl (fun _ => 0)))] := hD
  refine W.widen (k := 106) (n := 13664) (by omega) (by omega) ?_
  refine va_putF (D := (dC, dI)) (ci := 10) (v := .ref q6) (ty := .array .int) (C := RX7) (T := TX7) (N := 13) hx hb ht itX7 tyX7 tyX7_ok nmX7 hown hK hP hD hS 0 rfl rfl 8 (by decide) (ht _ tw_10) (fun _ h9 => h9) rfl hin rfl (by decide +kernel) rfl rfl (Nat.le_of_ble_eq_true rfl) dX7_init_60 (fun H locs hP hD hS => ?_)
  have hP : va_P (dC, dI) vwCl [(h0, .inr (10, [.ref q1, .int 0, .ref q2, .int 0, .ref q3, .int 0, .ref q4, .ref q5, .ref q6, .int 0, .null, .int 0, .int 0])), (q1, .inl (cI, 4000, .inl (fun _ => 0))), (q4, .inl (cI, 3008, .inl (fun _ => 0))), (q5, .inl (cI, 3008, .inl (fun _ => 0))), (q6, .inl (cI, 3008, .inl (fun _ => 0)))] H := hP
  have hD : va_D A [(h0, .inr (10, [.ref q1, .int 0, .ref q2, .int 0, .ref q3, .int 0, .ref q4, .ref q5, .ref q6, .int 0, .null, .int 0, .int 0])), (q1, .inl (cI, 4000, .inl (fun _ => 0))), (q4, .inl (cI, 3008, .inl (fun _ => 0))), (q5, .inl (cI, 3008, .inl (fun _ => 0))), (q6, .inl (cI, 3008, .inl (fun _ => 0)))] := hD
  refine lv_aload_n hx hb dX7_init_63 rfl (lv_at hl 0 rfl) ?_
  refine lv_iload_n hx hb dX7_init_64 rfl (lv_at hl 1 rfl) ?_
  refine va_newE (atype := .int) (ty := .int) (a0 := (N, .inl (fun _ => 0))) (cE := cI) hx hb (ht _ tw_3) rfl hK hP hD hS hA 0 rfl (fun _ => rfl) (nI_pos (by omega)) (nI_clamp (by omega)) (show N * 4 ≤ 536870912 by omega) (Nat.le_of_ble_eq_true rfl) (show 13664 + N ≤ 17760 by omega) dX7_init_65 (fun q7 H hP hD hS => ?_)
  have hP : va_P (dC, dI) vwCl [(h0, .inr (10, [.ref q1, .int 0, .ref q2, .int 0, .ref q3, .int 0, .ref q4, .ref q5, .ref q6, .int 0, .null, .int 0, .int 0])), (q1, .inl (cI, 4000, .inl (fun _ => 0))), (q4, .inl (cI, 3008, .inl (fun _ => 0))), (q5, .inl (cI, 3008, .inl (fun _ => 0))), (q6, .inl (cI, 3008, .inl (fun _ => 0))), (q7, .inl (cI, N, .inl (fun _ => 0)))] H := hP
  have hD : va_D A [(h0, .inr (10, [.ref q1, .int 0, .ref q2, .int 0, .ref q3, .int 0, .ref q4, .ref q5, .ref q6, .int 0, .null, .int 0, .int 0])), (q1, .inl (cI, 4000, .inl (fun _ => 0))), (q4, .inl (cI, 3008, .inl (fun _ => 0))), (q5, .inl (cI, 3008, .inl (fun _ => 0))), (q6, .inl (cI, 3008, .inl (fun _ => 0))), (q7, .inl (cI, N, .inl (fun _ => 0)))] := hD
  refine W.widen (k := 107) (n := 17760) (by omega) (by omega) ?_
  refine va_putF (D := (dC, dI)) (ci := 10) (v := .ref q7) (ty := .array .int) (C := RX7) (T := TX7) (N := 13) hx hb ht itX7 tyX7 tyX7_ok nmX7 hown hK hP hD hS 0 rfl rfl 10 (by decide) (ht _ tw_11) (fun _ h9 => h9) rfl hin rfl (by decide +kernel) rfl rfl (Nat.le_of_ble_eq_true rfl) dX7_init_67 (fun H locs hP hD hS => ?_)
  have hP : va_P (dC, dI) vwCl [(h0, .inr (10, [.ref q1, .int 0, .ref q2, .int 0, .ref q3, .int 0, .ref q4, .ref q5, .ref q6, .int 0, .ref q7, .int 0, .int 0])), (q1, .inl (cI, 4000, .inl (fun _ => 0))), (q4, .inl (cI, 3008, .inl (fun _ => 0))), (q5, .inl (cI, 3008, .inl (fun _ => 0))), (q6, .inl (cI, 3008, .inl (fun _ => 0))), (q7, .inl (cI, N, .inl (fun _ => 0)))] H := hP
  have hD : va_D A [(h0, .inr (10, [.ref q1, .int 0, .ref q2, .int 0, .ref q3, .int 0, .ref q4, .ref q5, .ref q6, .int 0, .ref q7, .int 0, .int 0])), (q1, .inl (cI, 4000, .inl (fun _ => 0))), (q4, .inl (cI, 3008, .inl (fun _ => 0))), (q5, .inl (cI, 3008, .inl (fun _ => 0))), (q6, .inl (cI, 3008, .inl (fun _ => 0))), (q7, .inl (cI, N, .inl (fun _ => 0)))] := hD
  have hP9 := hP.sub (ws' := [(h0, .inr (10, [.ref q1, .int 0, .ref q2, .int 0, .ref q3, .int 0, .ref q4, .ref q5, .ref q6, .int 0, .ref q7, .int 0, .int 0])), (q1, .inl (cI, 4000, .inl (fun _ => 0))), (q7, .inl (cI, N, .inl (fun _ => 0)))]) [0, 1, 5] rfl
  have hD9 := hD.sub (ws' := [(h0, .inr (10, [.ref q1, .int 0, .ref q2, .int 0, .ref q3, .int 0, .ref q4, .ref q5, .ref q6, .int 0, .ref q7, .int 0, .int 0])), (q1, .inl (cI, 4000, .inl (fun _ => 0))), (q7, .inl (cI, N, .inl (fun _ => 0)))]) [0, 1, 5] (by decide) rfl
  refine W.widen (k := 107) (n := 17760) (by omega) (by omega) ?_
  exact W.vret hx hb hr (fun t ht9 hW => ⟨⟨(q1, q2, q3, q4, q5, q6, q7), rfl, trivial, by rw [ht9]; exact hP9, hD9⟩, hS.F ht9⟩) hS.2.2 dX7_init_70
set_option maxHeartbeats 4000000 in
set_option maxRecDepth 100000 in
/-- Tokens -/
theorem c_X9_init (l : Launch) (dC : Nat → ClassId) (dI : Nat → Nat → Nat) (cI cB cZ cJ cR : ClassId) (sz : Nat) (h0 : Nat) (h1 : Nat)  : Met l yX9_init (Cond.code yX9_init cX9_init 2 none :: tw_W) ({ frames := 1, cells := 3, slots := 4509, locals := 12 }) (pc_ (dC, dI) (tyS cI cB cZ cJ cR) [(h0, .inr (12, [.null, .null, .null, .null, .int 0, .int 0, .int 0, .int 0, .int 0, .int 0]))] sz [.ref h0, .ref h1]) (qv_ (dC, dI) [(h0, .inr (12, [.null, .null, .null, .null, .int 0, .int 0, .int 0, .int 0, .int 0, .int 0]))] sz (fun (u : Nat × Nat × Nat) => True) (fun (u : Nat × Nat × Nat) => [(h0, .inr (12, [.ref h1, .ref u.1, .ref u.2.1, .ref u.2.2, .int 0, .int 0, .int 0, .int 0, .int 0, .int 0])), (u.1, .inl (cI, 1503, .inl (fun _ => 0))), (u.2.1, .inl (cI, 1503, .inl (fun _ => 0))), (u.2.2, .inl (cI, 1503, .inl (fun _ => 0)))])) 3 4509 (va_A [(h0, .inr (12, [.null, .null, .null, .null, .int 0, .int 0, .int 0, .int 0, .int 0, .int 0]))] sz) := by
  refine Met.ofW (cc := cX9_init) (maxL := 2) (ret := none) (by decide) rfl ?_
  intro p e s m args below meth c s₁ B hml hv
  obtain ⟨rfl, hsz, hP, hKK, hD0⟩ := hv
  have hK := hKK.1
  have hx := B.exec
  have hb := B.bytes
  have hr := B.returns
  have ht : ∀ w ∈ tw_W, w.before _ s = true := fun w h => atoms_spec (ws := Cond.code yX9_init cX9_init 2 none :: tw_W) B.pre w (List.mem_cons_of_mem _ h)
  have hown : s.vm.findClass RX9 = some m.cls := findClass_of_methodNamed B.named
  have hlocks := B.notSynchronized
  have hin : meth.name = "<init>" := (name_of_methodNamed B.named B.method).1
  subst hsz
  unfold qv_
  have hD := hD0.self (sz := s.heap.size)
  generalize hAe : va_A [(h0, .inr (12, [.null, .null, .null, .null, .int 0, .int 0, .int 0, .int 0, .int 0, .int 0]))] s.heap.size = A at hD ⊢
  have hA : ∀ q : Nat, s.heap.size ≤ q → A q := fun q h => by rw [← hAe]; exact Or.inr h
  have hS : va_S A s.heap s.heap [] := va_S.rf
  have hP : va_P (dC, dI) vwCl [(h0, .inr (12, [.null, .null, .null, .null, .int 0, .int 0, .int 0, .int 0, .int 0, .int 0]))] s.heap := hP
  have hl := lv_entry ([.ref h0, .ref h1]) (n := 2) (Nat.le_of_ble_eq_true rfl)
  rw [lg_entry_eq]
  generalize (lg_sl ([.ref h0, .ref h1]) ++ List.replicate (2 - (lg_sl ([.ref h0, .ref h1])).length) Slot.unset).toArray = ls at hl ⊢
  have hl : lv_has ls 2 [(0, .ref h0), (1, .ref h1)] := hl
  refine lv_aload_n hx hb dX9_init_0 rfl (lv_at hl 0 rfl) ?_
  refine W.objInit hx hb hown (ht _ tw_12) (ht _ tw_1) (ht _ tw_2) rfl (by rw [hml]; exact hl.1) rfl dX9_init_1 (Nat.le_of_ble_eq_true rfl) (Nat.le_of_ble_eq_true rfl) ?_
  refine W.eq (g2 := F0 m 4 ls []) rfl ?_
  refine lv_aload_n hx hb dX9_init_4 rfl (lv_at hl 0 rfl) ?_
  refine lv_sipush (v := 1503) hx hb dX9_init_5 (by decide) ?_
  refine va_newE (atype := .int) (ty := .int) (a0 := (1503, .inl (fun _ => 0))) (cE := cI) hx hb (ht _ tw_3) rfl hK hP hD hS hA 0 rfl (fun _ => rfl) (by decide) (by decide) (by decide) (Nat.le_of_ble_eq_true rfl) (Nat.le_of_ble_eq_true rfl) dX9_init_8 (fun q1 H hP hD hS => ?_)
  have hP : va_P (dC, dI) vwCl [(h0, .inr (12, [.null, .null, .null, .null, .int 0, .int 0, .int 0, .int 0, .int 0, .int 0])), (q1, .inl (cI, 1503, .inl (fun _ => 0)))] H := hP
  have hD : va_D A [(h0, .inr (12, [.null, .null, .null, .null, .int 0, .int 0, .int 0, .int 0, .int 0, .int 0])), (q1, .inl (cI, 1503, .inl (fun _ => 0)))] := hD
  refine W.widen (k := 1) (n := 1503) (by omega) (by omega) ?_
  refine va_putF (D := (dC, dI)) (ci := 12) (v := .ref q1) (ty := .array .int) (C := RX9) (T := TX9) (N := 10) hx hb ht itX9 tyX9 tyX9_ok nmX9 hown hK hP hD hS 0 rfl rfl 1 (by decide) (ht _ tw_13) (fun _ h9 => h9) rfl hin rfl (by decide +kernel) rfl rfl (Nat.le_of_ble_eq_true rfl) dX9_init_10 (fun H locs hP hD hS => ?_)
  have hP : va_P (dC, dI) vwCl [(h0, .inr (12, [.null, .ref q1, .null, .null, .int 0, .int 0, .int 0, .int 0, .int 0, .int 0])), (q1, .inl (cI, 1503, .inl (fun _ => 0)))] H := hP
  have hD : va_D A [(h0, .inr (12, [.null, .ref q1, .null, .null, .int 0, .int 0, .int 0, .int 0, .int 0, .int 0])), (q1, .inl (cI, 1503, .inl (fun _ => 0)))] := hD
  refine lv_aload_n hx hb dX9_init_13 rfl (lv_at hl 0 rfl) ?_
  refine lv_sipush (v := 1503) hx hb dX9_init_14 (by decide) ?_
  refine va_newE (atype := .int) (ty := .int) (a0 := (1503, .inl (fun _ => 0))) (cE := cI) hx hb (ht _ tw_3) rfl hK hP hD hS hA 0 rfl (fun _ => rfl) (by decide) (by decide) (by decide) (Nat.le_of_ble_eq_true rfl) (Nat.le_of_ble_eq_true rfl) dX9_init_17 (fun q2 H hP hD hS => ?_)
  have hP : va_P (dC, dI) vwCl [(h0, .inr (12, [.null, .ref q1, .null, .null, .int 0, .int 0, .int 0, .int 0, .int 0, .int 0])), (q1, .inl (cI, 1503, .inl (fun _ => 0))), (q2, .inl (cI, 1503, .inl (fun _ => 0)))] H := hP
  have hD : va_D A [(h0, .inr (12, [.null, .ref q1, .null, .null, .int 0, .int 0, .int 0, .int 0, .int 0, .int 0])), (q1, .inl (cI, 1503, .inl (fun _ => 0))), (q2, .inl (cI, 1503, .inl (fun _ => 0)))] := hD
  refine W.widen (k := 2) (n := 3006) (by omega) (by omega) ?_
  refine va_putF (D := (dC, dI)) (ci := 12) (v := .ref q2) (ty := .array .int) (C := RX9) (T := TX9) (N := 10) hx hb ht itX9 tyX9 tyX9_ok nmX9 hown hK hP hD hS 0 rfl rfl 2 (by decide) (ht _ tw_14) (fun _ h9 => h9) rfl hin rfl (by decide +kernel) rfl rfl (Nat.le_of_ble_eq_true rfl) dX9_init_19 (fun H locs hP hD hS => ?_)
  have hP : va_P (dC, dI) vwCl [(h0, .inr (12, [.null, .ref q1, .ref q2, .null, .int 0, .int 0, .int 0, .int 0, .int 0, .int 0])), (q1, .inl (cI, 1503, .inl (fun _ => 0))), (q2, .inl (cI, 1503, .inl (fun _ => 0)))] H := hP
  have hD : va_D A [(h0, .inr (12, [.null, .ref q1, .ref q2, .null, .int 0, .int 0, .int 0, .int 0, .int 0, .int 0])), (q1, .inl (cI, 1503, .inl (fun _ => 0))), (q2, .inl (cI, 1503, .inl (fun _ => 0)))] := hD
  refine lv_aload_n hx hb dX9_init_22 rfl (lv_at hl 0 rfl) ?_
  refine lv_sipush (v := 1503) hx hb dX9_init_23 (by decide) ?_
  refine va_newE (atype := .int) (ty := .int) (a0 := (1503, .inl (fun _ => 0))) (cE := cI) hx hb (ht _ tw_3) rfl hK hP hD hS hA 0 rfl (fun _ => rfl) (by decide) (by decide) (by decide) (Nat.le_of_ble_eq_true rfl) (Nat.le_of_ble_eq_true rfl) dX9_init_26 (fun q3 H hP hD hS => ?_)
  have hP : va_P (dC, dI) vwCl [(h0, .inr (12, [.null, .ref q1, .ref q2, .null, .int 0, .int 0, .int 0, .int 0, .int 0, .int 0])), (q1, .inl (cI, 1503, .inl (fun _ => 0))), (q2, .inl (cI, 1503, .inl (fun _ => 0))), (q3, .inl (cI, 1503, .inl (fun _ => 0)))] H := hP
  have hD : va_D A [(h0, .inr (12, [.null, .ref q1, .ref q2, .null, .int 0, .int 0, .int 0, .int 0, .int 0, .int 0])), (q1, .inl (cI, 1503, .inl (fun _ => 0))), (q2, .inl (cI, 1503, .inl (fun _ => 0))), (q3, .inl (cI, 1503, .inl (fun _ => 0)))] := hD
  refine W.widen (k := 3) (n := 4509) (by omega) (by omega) ?_
  refine va_putF (D := (dC, dI)) (ci := 12) (v := .ref q3) (ty := .array .int) (C := RX9) (T := TX9) (N := 10) hx hb ht itX9 tyX9 tyX9_ok nmX9 hown hK hP hD hS 0 rfl rfl 3 (by decide) (ht _ tw_15) (fun _ h9 => h9) rfl hin rfl (by decide +kernel) rfl rfl (Nat.le_of_ble_eq_true rfl) dX9_init_28 (fun H locs hP hD hS => ?_)
  have hP : va_P (dC, dI) vwCl [(h0, .inr (12, [.null, .ref q1, .ref q2, .ref q3, .int 0, .int 0, .int 0, .int 0, .int 0, .int 0])), (q1, .inl (cI, 1503, .inl (fun _ => 0))), (q2, .inl (cI, 1503, .inl (fun _ => 0))), (q3, .inl (cI, 1503, .inl (fun _ => 0)))] H := hP
  have hD : va_D A [(h0, .inr (12, [.null, .ref q1, .ref q2, .ref q3, .int 0, .int 0, .int 0, .int 0, .int 0, .int 0])), (q1, .inl (cI, 1503, .inl (fun _ => 0))), (q2, .inl (cI, 1503, .inl (fun _ => 0))), (q3, .inl (cI, 1503, .inl (fun _ => 0)))] := hD
  refine lv_aload_n hx hb dX9_init_31 rfl (lv_at hl 0 rfl) ?_
  refine lv_aload_n hx hb dX9_init_32 rfl (lv_at hl 1 rfl) ?_
  refine va_put (D := (dC, dI)) (ci := 12) (v := .ref h1) (ty := .object "PocketCompiler$Program") (C := RX9) (T := TX9) (N := 10) hx hb ht itX9 tyX9 tyX9_ok nmX9 hown hK hP hD hS 0 rfl rfl 0 (by decide) (ht _ tw_16) (fun _ h9 => h9) rfl (by decide +kernel) rfl rfl (Nat.le_of_ble_eq_true rfl) dX9_init_33 (fun H locs hP hD hS => ?_)
  have hP : va_P (dC, dI) vwCl [(h0, .inr (12, [.ref h1, .ref q1, .ref q2, .ref q3, .int 0, .int 0, .int 0, .int 0, .int 0, .int 0])), (q1, .inl (cI, 1503, .inl (fun _ => 0))), (q2, .inl (cI, 1503, .inl (fun _ => 0))), (q3, .inl (cI, 1503, .inl (fun _ => 0)))] H := hP
  have hD : va_D A [(h0, .inr (12, [.ref h1, .ref q1, .ref q2, .ref q3, .int 0, .int 0, .int 0, .int 0, .int 0, .int 0])), (q1, .inl (cI, 1503, .inl (fun _ => 0))), (q2, .inl (cI, 1503, .inl (fun _ => 0))), (q3, .inl (cI, 1503, .inl (fun _ => 0)))] := hD
  have hP9 := hP.sub (ws' := [(h0, .inr (12, [.ref h1, .ref q1, .ref q2, .ref q3, .int 0, .int 0, .int 0, .int 0, .int 0, .int 0])), (q1, .inl (cI, 1503, .inl (fun _ => 0))), (q2, .inl (cI, 1503, .inl (fun _ => 0))), (q3, .inl (cI, 1503, .inl (fun _ => 0)))]) [0, 1, 2, 3] rfl
  have hD9 := hD.sub (ws' := [(h0, .inr (12, [.ref h1, .ref q1, .ref q2, .ref q3, .int 0, .int 0, .int 0, .int 0, .int 0, .int 0])), (q1, .inl (cI, 1503, .inl (fun _ => 0))), (q2, .inl (cI, 1503, .inl (fun _ => 0))), (q3, .inl (cI, 1503, .inl (fun _ => 0)))]) [0, 1, 2, 3] (by decide) rfl
  refine W.widen (k := 3) (n := 4509) (by omega) (by omega) ?_
  exact W.vret hx hb hr (fun t ht9 hW => ⟨⟨(q1, q2, q3), rfl, trivial, by rw [ht9]; exact hP9, hD9⟩, hS.F ht9⟩) hS.2.2 dX9_init_36
set_option maxHeartbeats 4000000 in
set_option maxRecDepth 100000 in
/-- Gifts -/
theorem c_X3_init (l : Launch) (dC : Nat → ClassId) (dI : Nat → Nat → Nat) (cI cB cZ cJ cR : ClassId) (sz : Nat) (h0 : Nat)  : Met l yX3_init (Cond.code yX3_init cX3_init 1 none :: tw_W) ({ frames := 1, cells := 1, slots := 64, locals := 12 }) (pc_ (dC, dI) (tyS cI cB cZ cJ cR) [(h0, .inr (7, [.null, .int 0, .int 0]))] sz [.ref h0]) (qv_ (dC, dI) [(h0, .inr (7, [.null, .int 0, .int 0]))] sz (fun (u : Nat) => True) (fun (u : Nat) => [(h0, .inr (7, [.ref u, .int 0, .int 0])), (u, .inl (cI, 64, .inl (fun _ => 0)))])) 1 64 (va_A [(h0, .inr (7, [.null, .int 0, .int 0]))] sz) := by
  refine Met.ofW (cc := cX3_init) (maxL := 1) (ret := none) (by decide) rfl ?_
  intro p e s m args below meth c s₁ B hml hv
  obtain ⟨rfl, hsz, hP, hKK, hD0⟩ := hv
  have hK := hKK.1
  have hx := B.exec
  have hb := B.bytes
  have hr := B.returns
  have ht : ∀ w ∈ tw_W, w.before _ s = true := fun w h => atoms_spec (ws := Cond.code yX3_init cX3_init 1 none :: tw_W) B.pre w (List.mem_cons_of_mem _ h)
  have hown : s.vm.findClass RX3 = some m.cls := findClass_of_methodNamed B.named
  have hlocks := B.notSynchronized
  have hin : meth.name = "<init>" := (name_of_methodNamed B.named B.method).1
  subst hsz
  unfold qv_
  have hD := hD0.self (sz := s.heap.size)
  generalize hAe : va_A [(h0, .inr (7, [.null, .int 0, .int 0]))] s.heap.size = A at hD ⊢
  have hA : ∀ q : Nat, s.heap.size ≤ q → A q := fun q h => by rw [← hAe]; exact Or.inr h
  have hS : va_S A s.heap s.heap [] := va_S.rf
  have hP : va_P (dC, dI) vwCl [(h0, .inr (7, [.null, .int 0, .int 0]))] s.heap := hP
  have hl := lv_entry ([.ref h0]) (n := 1) (Nat.le_of_ble_eq_true rfl)
  rw [lg_entry_eq]
  generalize (lg_sl ([.ref h0]) ++ List.replicate (1 - (lg_sl ([.ref h0])).length) Slot.unset).toArray = ls at hl ⊢
  have hl : lv_has ls 1 [(0, .ref h0)] := hl
  refine lv_aload_n hx hb dX3_init_0 rfl (lv_at hl 0 rfl) ?_
  refine W.objInit hx hb hown (ht _ tw_17) (ht _ tw_1) (ht _ tw_2) rfl (by rw [hml]; exact hl.1) rfl dX3_init_1 (Nat.le_of_ble_eq_true rfl) (Nat.le_of_ble_eq_true rfl) ?_
  refine W.eq (g2 := F0 m 4 ls []) rfl ?_
  refine lv_aload_n hx hb dX3_init_4 rfl (lv_at hl 0 rfl) ?_
  refine lv_bipush (v := 64) hx hb dX3_init_5 (by decide) ?_
  refine va_newE (atype := .int) (ty := .int) (a0 := (64, .inl (fun _ => 0))) (cE := cI) hx hb (ht _ tw_3) rfl hK hP hD hS hA 0 rfl (fun _ => rfl) (by decide) (by decide) (by decide) (Nat.le_of_ble_eq_true rfl) (Nat.le_of_ble_eq_true rfl) dX3_init_7 (fun q1 H hP hD hS => ?_)
  have hP : va_P (dC, dI) vwCl [(h0, .inr (7, [.null, .int 0, .int 0])), (q1, .inl (cI, 64, .inl (fun _ => 0)))] H := hP
  have hD : va_D A [(h0, .inr (7, [.null, .int 0, .int 0])), (q1, .inl (cI, 64, .inl (fun _ => 0)))] := hD
  refine W.widen (k := 1) (n := 64) (by omega) (by omega) ?_
  refine va_putF (D := (dC, dI)) (ci := 7) (v := .ref q1) (ty := .array .int) (C := RX3) (T := TX3) (N := 3) hx hb ht itX3 tyX3 tyX3_ok nmX3 hown hK hP hD hS 0 rfl rfl 0 (by decide) (ht _ tw_18) (fun _ h9 => h9) rfl hin rfl (by decide +kernel) rfl rfl (Nat.le_of_ble_eq_true rfl) dX3_init_9 (fun H locs hP hD hS => ?_)
  have hP : va_P (dC, dI) vwCl [(h0, .inr (7, [.ref q1, .int 0, .int 0])), (q1, .inl (cI, 64, .inl (fun _ => 0)))] H := hP
  have hD : va_D A [(h0, .inr (7, [.ref q1, .int 0, .int 0])), (q1, .inl (cI, 64, .inl (fun _ => 0)))] := hD
  have hP9 := hP.sub (ws' := [(h0, .inr (7, [.ref q1, .int 0, .int 0])), (q1, .inl (cI, 64, .inl (fun _ => 0)))]) [0, 1] rfl
  have hD9 := hD.sub (ws' := [(h0, .inr (7, [.ref q1, .int 0, .int 0])), (q1, .inl (cI, 64, .inl (fun _ => 0)))]) [0, 1] (by decide) rfl
  refine W.widen (k := 1) (n := 64) (by omega) (by omega) ?_
  exact W.vret hx hb hr (fun t ht9 hW => ⟨⟨q1, rfl, trivial, by rw [ht9]; exact hP9, hD9⟩, hS.F ht9⟩) hS.2.2 dX3_init_12
end
