section
-- ===== PART A: goes FIRST, ahead of the names: the tables' words, and 'selects' of the private methods out of them =====
/-- a private method of a class that the tables say can be made, by its rows of tables_1 -/
def lw_okq (q : MethodName × Nat) : Prop := (q.1.cls ≠ "java/lang/invoke/MethodHandle" ∧ q.1.cls ≠ "java/lang/invoke/VarHandle") ∧ Cond.instantiable q.1.cls q.2 ∈ tables_1 ∧ Cond.privateMethod q.1 ∈ tables_1 ∧ Cond.instanceMethod q.1 ∈ tables_1
theorem lw_p0 : lw_okq (⟨"PocketCompiler$Tokens", "behindBlanks", "(I)I"⟩, 10) := ⟨⟨by decide +kernel, by decide +kernel⟩, List.mem_of_getElem? (i := 186) (by decide +kernel), List.mem_of_getElem? (i := 460) (by decide +kernel), List.mem_of_getElem? (i := 461) (by decide +kernel)⟩
theorem lw_p1 : lw_okq (⟨"PocketCompiler$Tokens", "scanOne", "(I)I"⟩, 10) := ⟨⟨by decide +kernel, by decide +kernel⟩, List.mem_of_getElem? (i := 186) (by decide +kernel), List.mem_of_getElem? (i := 468) (by decide +kernel), List.mem_of_getElem? (i := 469) (by decide +kernel)⟩
theorem lw_p2 : lw_okq (⟨"PocketCompiler$Tokens", "add", "(IIII)I"⟩, 10) := ⟨⟨by decide +kernel, by decide +kernel⟩, List.mem_of_getElem? (i := 186) (by decide +kernel), List.mem_of_getElem? (i := 472) (by decide +kernel), List.mem_of_getElem? (i := 473) (by decide +kernel)⟩
theorem lw_p3 : lw_okq (⟨"PocketCompiler$Tokens", "scanName", "(I)I"⟩, 10) := ⟨⟨by decide +kernel, by decide +kernel⟩, List.mem_of_getElem? (i := 186) (by decide +kernel), List.mem_of_getElem? (i := 479) (by decide +kernel), List.mem_of_getElem? (i := 480) (by decide +kernel)⟩
theorem lw_p4 : lw_okq (⟨"PocketCompiler$Tokens", "spelled", "(Ljava/lang/String;III)I"⟩, 10) := ⟨⟨by decide +kernel, by decide +kernel⟩, List.mem_of_getElem? (i := 186) (by decide +kernel), List.mem_of_getElem? (i := 501) (by decide +kernel), List.mem_of_getElem? (i := 502) (by decide +kernel)⟩
theorem lw_p5 : lw_okq (⟨"PocketCompiler$Tokens", "firstAlike", "(II)I"⟩, 10) := ⟨⟨by decide +kernel, by decide +kernel⟩, List.mem_of_getElem? (i := 186) (by decide +kernel), List.mem_of_getElem? (i := 543) (by decide +kernel), List.mem_of_getElem? (i := 544) (by decide +kernel)⟩
theorem lw_p6 : lw_okq (⟨"PocketCompiler$Tokens", "isAlike", "(III)Z"⟩, 10) := ⟨⟨by decide +kernel, by decide +kernel⟩, List.mem_of_getElem? (i := 186) (by decide +kernel), List.mem_of_getElem? (i := 547) (by decide +kernel), List.mem_of_getElem? (i := 548) (by decide +kernel)⟩
theorem lw_p7 : lw_okq (⟨"PocketCompiler$Tokens", "scanNumber", "(I)I"⟩, 10) := ⟨⟨by decide +kernel, by decide +kernel⟩, List.mem_of_getElem? (i := 186) (by decide +kernel), List.mem_of_getElem? (i := 555) (by decide +kernel), List.mem_of_getElem? (i := 556) (by decide +kernel)⟩
theorem lw_p8 : lw_okq (⟨"PocketCompiler$Tokens", "scanCharacter", "(I)I"⟩, 10) := ⟨⟨by decide +kernel, by decide +kernel⟩, List.mem_of_getElem? (i := 186) (by decide +kernel), List.mem_of_getElem? (i := 563) (by decide +kernel), List.mem_of_getElem? (i := 564) (by decide +kernel)⟩
theorem lw_p9 : lw_okq (⟨"PocketCompiler$Tokens", "scanSign", "(I)I"⟩, 10) := ⟨⟨by decide +kernel, by decide +kernel⟩, List.mem_of_getElem? (i := 186) (by decide +kernel), List.mem_of_getElem? (i := 567) (by decide +kernel), List.mem_of_getElem? (i := 568) (by decide +kernel)⟩
theorem lw_p10 : lw_okq (⟨"PocketCompiler$Parser", "headOfItem", "()I"⟩, 7) := ⟨⟨by decide +kernel, by decide +kernel⟩, List.mem_of_getElem? (i := 180) (by decide +kernel), List.mem_of_getElem? (i := 588) (by decide +kernel), List.mem_of_getElem? (i := 589) (by decide +kernel)⟩
theorem lw_p11 : lw_okq (⟨"java/lang/Throwable", "fillInStackTrace", "(I)Ljava/lang/Throwable;"⟩, 6) := ⟨⟨by decide +kernel, by decide +kernel⟩, List.mem_of_getElem? (i := 647) (by decide +kernel), List.mem_of_getElem? (i := 645) (by decide +kernel), List.mem_of_getElem? (i := 646) (by decide +kernel)⟩
theorem lw_p12 : lw_okq (⟨"PocketCompiler$Tokens", "isTooMuch", "()Z"⟩, 10) := ⟨⟨by decide +kernel, by decide +kernel⟩, List.mem_of_getElem? (i := 186) (by decide +kernel), List.mem_of_getElem? (i := 676) (by decide +kernel), List.mem_of_getElem? (i := 677) (by decide +kernel)⟩
theorem lw_p13 : lw_okq (⟨"PocketCompiler$Parser", "functionItem", "()V"⟩, 7) := ⟨⟨by decide +kernel, by decide +kernel⟩, List.mem_of_getElem? (i := 180) (by decide +kernel), List.mem_of_getElem? (i := 710) (by decide +kernel), List.mem_of_getElem? (i := 711) (by decide +kernel)⟩
theorem lw_p14 : lw_okq (⟨"PocketCompiler$Parser", "parameters", "()V"⟩, 7) := ⟨⟨by decide +kernel, by decide +kernel⟩, List.mem_of_getElem? (i := 180) (by decide +kernel), List.mem_of_getElem? (i := 726) (by decide +kernel), List.mem_of_getElem? (i := 727) (by decide +kernel)⟩
theorem lw_p15 : lw_okq (⟨"PocketCompiler$Parser", "parameter", "()V"⟩, 7) := ⟨⟨by decide +kernel, by decide +kernel⟩, List.mem_of_getElem? (i := 180) (by decide +kernel), List.mem_of_getElem? (i := 734) (by decide +kernel), List.mem_of_getElem? (i := 735) (by decide +kernel)⟩
def lw_privs_1 : List (MethodName × Nat) := [(⟨"PocketCompiler$Tokens", "behindBlanks", "(I)I"⟩, 10), (⟨"PocketCompiler$Tokens", "scanOne", "(I)I"⟩, 10), (⟨"PocketCompiler$Tokens", "add", "(IIII)I"⟩, 10), (⟨"PocketCompiler$Tokens", "scanName", "(I)I"⟩, 10), (⟨"PocketCompiler$Tokens", "spelled", "(Ljava/lang/String;III)I"⟩, 10), (⟨"PocketCompiler$Tokens", "firstAlike", "(II)I"⟩, 10), (⟨"PocketCompiler$Tokens", "isAlike", "(III)Z"⟩, 10), (⟨"PocketCompiler$Tokens", "scanNumber", "(I)I"⟩, 10), (⟨"PocketCompiler$Tokens", "scanCharacter", "(I)I"⟩, 10), (⟨"PocketCompiler$Tokens", "scanSign", "(I)I"⟩, 10), (⟨"PocketCompiler$Parser", "headOfItem", "()I"⟩, 7), (⟨"java/lang/Throwable", "fillInStackTrace", "(I)Ljava/lang/Throwable;"⟩, 6), (⟨"PocketCompiler$Tokens", "isTooMuch", "()Z"⟩, 10), (⟨"PocketCompiler$Parser", "functionItem", "()V"⟩, 7), (⟨"PocketCompiler$Parser", "parameters", "()V"⟩, 7), (⟨"PocketCompiler$Parser", "parameter", "()V"⟩, 7)]
theorem lw_r1 : ∀ q ∈ lw_privs_1, lw_okq q := List.forall_mem_cons.mpr ⟨lw_p0, List.forall_mem_cons.mpr ⟨lw_p1, List.forall_mem_cons.mpr ⟨lw_p2, List.forall_mem_cons.mpr ⟨lw_p3, List.forall_mem_cons.mpr ⟨lw_p4, List.forall_mem_cons.mpr ⟨lw_p5, List.forall_mem_cons.mpr ⟨lw_p6, List.forall_mem_cons.mpr ⟨lw_p7, List.forall_mem_cons.mpr ⟨lw_p8, List.forall_mem_cons.mpr ⟨lw_p9, List.forall_mem_cons.mpr ⟨lw_p10, List.forall_mem_cons.mpr ⟨lw_p11, List.forall_mem_cons.mpr ⟨lw_p12, List.forall_mem_cons.mpr ⟨lw_p13, List.forall_mem_cons.mpr ⟨lw_p14, List.forall_mem_cons.mpr ⟨lw_p15, fun _ h => absurd h List.not_mem_nil⟩⟩⟩⟩⟩⟩⟩⟩⟩⟩⟩⟩⟩⟩⟩⟩
theorem lw_p16 : lw_okq (⟨"PocketCompiler$Parser", "newName", "()I"⟩, 7) := ⟨⟨by decide +kernel, by decide +kernel⟩, List.mem_of_getElem? (i := 180) (by decide +kernel), List.mem_of_getElem? (i := 738) (by decide +kernel), List.mem_of_getElem? (i := 739) (by decide +kernel)⟩
theorem lw_p17 : lw_okq (⟨"PocketCompiler$Parser", "wantSlot", "()V"⟩, 7) := ⟨⟨by decide +kernel, by decide +kernel⟩, List.mem_of_getElem? (i := 180) (by decide +kernel), List.mem_of_getElem? (i := 753) (by decide +kernel), List.mem_of_getElem? (i := 754) (by decide +kernel)⟩
theorem lw_p18 : lw_okq (⟨"PocketCompiler$Parser", "stats", "()V"⟩, 7) := ⟨⟨by decide +kernel, by decide +kernel⟩, List.mem_of_getElem? (i := 180) (by decide +kernel), List.mem_of_getElem? (i := 780) (by decide +kernel), List.mem_of_getElem? (i := 781) (by decide +kernel)⟩
theorem lw_p19 : lw_okq (⟨"PocketCompiler$Parser", "stat", "()V"⟩, 7) := ⟨⟨by decide +kernel, by decide +kernel⟩, List.mem_of_getElem? (i := 180) (by decide +kernel), List.mem_of_getElem? (i := 784) (by decide +kernel), List.mem_of_getElem? (i := 785) (by decide +kernel)⟩
theorem lw_p20 : lw_okq (⟨"PocketCompiler$Parser", "block", "()V"⟩, 7) := ⟨⟨by decide +kernel, by decide +kernel⟩, List.mem_of_getElem? (i := 180) (by decide +kernel), List.mem_of_getElem? (i := 788) (by decide +kernel), List.mem_of_getElem? (i := 789) (by decide +kernel)⟩
theorem lw_p21 : lw_okq (⟨"PocketCompiler$Parser", "local", "()V"⟩, 7) := ⟨⟨by decide +kernel, by decide +kernel⟩, List.mem_of_getElem? (i := 180) (by decide +kernel), List.mem_of_getElem? (i := 792) (by decide +kernel), List.mem_of_getElem? (i := 793) (by decide +kernel)⟩
theorem lw_p22 : lw_okq (⟨"PocketCompiler$Expressions", "operand", "(Z)Z"⟩, 5) := ⟨⟨by decide +kernel, by decide +kernel⟩, List.mem_of_getElem? (i := 273) (by decide +kernel), List.mem_of_getElem? (i := 804) (by decide +kernel), List.mem_of_getElem? (i := 805) (by decide +kernel)⟩
theorem lw_p23 : lw_okq (⟨"PocketCompiler$Expressions", "unary", "(I)V"⟩, 5) := ⟨⟨by decide +kernel, by decide +kernel⟩, List.mem_of_getElem? (i := 273) (by decide +kernel), List.mem_of_getElem? (i := 809) (by decide +kernel), List.mem_of_getElem? (i := 810) (by decide +kernel)⟩
theorem lw_p24 : lw_okq (⟨"PocketCompiler$Expressions", "named", "(Z)Z"⟩, 5) := ⟨⟨by decide +kernel, by decide +kernel⟩, List.mem_of_getElem? (i := 273) (by decide +kernel), List.mem_of_getElem? (i := 823) (by decide +kernel), List.mem_of_getElem? (i := 824) (by decide +kernel)⟩
theorem lw_p25 : lw_okq (⟨"PocketCompiler$Expressions", "callFunction", "()V"⟩, 5) := ⟨⟨by decide +kernel, by decide +kernel⟩, List.mem_of_getElem? (i := 273) (by decide +kernel), List.mem_of_getElem? (i := 830) (by decide +kernel), List.mem_of_getElem? (i := 831) (by decide +kernel)⟩
theorem lw_p26 : lw_okq (⟨"PocketCompiler$Expressions", "argument", "(II)V"⟩, 5) := ⟨⟨by decide +kernel, by decide +kernel⟩, List.mem_of_getElem? (i := 273) (by decide +kernel), List.mem_of_getElem? (i := 839) (by decide +kernel), List.mem_of_getElem? (i := 840) (by decide +kernel)⟩
theorem lw_p27 : lw_okq (⟨"PocketCompiler$Expressions", "index", "(I)V"⟩, 5) := ⟨⟨by decide +kernel, by decide +kernel⟩, List.mem_of_getElem? (i := 273) (by decide +kernel), List.mem_of_getElem? (i := 853) (by decide +kernel), List.mem_of_getElem? (i := 854) (by decide +kernel)⟩
theorem lw_p28 : lw_okq (⟨"PocketCompiler$Expressions", "change", "(IIZ)V"⟩, 5) := ⟨⟨by decide +kernel, by decide +kernel⟩, List.mem_of_getElem? (i := 273) (by decide +kernel), List.mem_of_getElem? (i := 860) (by decide +kernel), List.mem_of_getElem? (i := 861) (by decide +kernel)⟩
theorem lw_p29 : lw_okq (⟨"PocketCompiler$Expressions", "changeBy", "(IIIZ)V"⟩, 5) := ⟨⟨by decide +kernel, by decide +kernel⟩, List.mem_of_getElem? (i := 273) (by decide +kernel), List.mem_of_getElem? (i := 864) (by decide +kernel), List.mem_of_getElem? (i := 865) (by decide +kernel)⟩
theorem lw_p30 : lw_okq (⟨"PocketCompiler$Expressions", "read", "(II)V"⟩, 5) := ⟨⟨by decide +kernel, by decide +kernel⟩, List.mem_of_getElem? (i := 273) (by decide +kernel), List.mem_of_getElem? (i := 868) (by decide +kernel), List.mem_of_getElem? (i := 869) (by decide +kernel)⟩
theorem lw_p31 : lw_okq (⟨"PocketCompiler$Expressions", "finishSigns", "(II)V"⟩, 5) := ⟨⟨by decide +kernel, by decide +kernel⟩, List.mem_of_getElem? (i := 273) (by decide +kernel), List.mem_of_getElem? (i := 881) (by decide +kernel), List.mem_of_getElem? (i := 882) (by decide +kernel)⟩
def lw_privs_2 : List (MethodName × Nat) := [(⟨"PocketCompiler$Parser", "newName", "()I"⟩, 7), (⟨"PocketCompiler$Parser", "wantSlot", "()V"⟩, 7), (⟨"PocketCompiler$Parser", "stats", "()V"⟩, 7), (⟨"PocketCompiler$Parser", "stat", "()V"⟩, 7), (⟨"PocketCompiler$Parser", "block", "()V"⟩, 7), (⟨"PocketCompiler$Parser", "local", "()V"⟩, 7), (⟨"PocketCompiler$Expressions", "operand", "(Z)Z"⟩, 5), (⟨"PocketCompiler$Expressions", "unary", "(I)V"⟩, 5), (⟨"PocketCompiler$Expressions", "named", "(Z)Z"⟩, 5), (⟨"PocketCompiler$Expressions", "callFunction", "()V"⟩, 5), (⟨"PocketCompiler$Expressions", "argument", "(II)V"⟩, 5), (⟨"PocketCompiler$Expressions", "index", "(I)V"⟩, 5), (⟨"PocketCompiler$Expressions", "change", "(IIZ)V"⟩, 5), (⟨"PocketCompiler$Expressions", "changeBy", "(IIIZ)V"⟩, 5), (⟨"PocketCompiler$Expressions", "read", "(II)V"⟩, 5), (⟨"PocketCompiler$Expressions", "finishSigns", "(II)V"⟩, 5)]
theorem lw_r2 : ∀ q ∈ lw_privs_2, lw_okq q := List.forall_mem_cons.mpr ⟨lw_p16, List.forall_mem_cons.mpr ⟨lw_p17, List.forall_mem_cons.mpr ⟨lw_p18, List.forall_mem_cons.mpr ⟨lw_p19, List.forall_mem_cons.mpr ⟨lw_p20, List.forall_mem_cons.mpr ⟨lw_p21, List.forall_mem_cons.mpr ⟨lw_p22, List.forall_mem_cons.mpr ⟨lw_p23, List.forall_mem_cons.mpr ⟨lw_p24, List.forall_mem_cons.mpr ⟨lw_p25, List.forall_mem_cons.mpr ⟨lw_p26, List.forall_mem_cons.mpr ⟨lw_p27, List.forall_mem_cons.mpr ⟨lw_p28, List.forall_mem_cons.mpr ⟨lw_p29, List.forall_mem_cons.mpr ⟨lw_p30, List.forall_mem_cons.mpr ⟨lw_p31, fun _ h => absurd h List.not_mem_nil⟩⟩⟩⟩⟩⟩⟩⟩⟩⟩⟩⟩⟩⟩⟩⟩
theorem lw_p32 : lw_okq (⟨"PocketCompiler$Expressions", "beginSign", "(I)V"⟩, 5) := ⟨⟨by decide +kernel, by decide +kernel⟩, List.mem_of_getElem? (i := 273) (by decide +kernel), List.mem_of_getElem? (i := 889) (by decide +kernel), List.mem_of_getElem? (i := 890) (by decide +kernel)⟩
theorem lw_p33 : lw_okq (⟨"PocketCompiler$Expressions", "push", "(II)V"⟩, 5) := ⟨⟨by decide +kernel, by decide +kernel⟩, List.mem_of_getElem? (i := 273) (by decide +kernel), List.mem_of_getElem? (i := 894) (by decide +kernel), List.mem_of_getElem? (i := 895) (by decide +kernel)⟩
theorem lw_p34 : lw_okq (⟨"PocketCompiler$Expressions", "choice", "()V"⟩, 5) := ⟨⟨by decide +kernel, by decide +kernel⟩, List.mem_of_getElem? (i := 273) (by decide +kernel), List.mem_of_getElem? (i := 898) (by decide +kernel), List.mem_of_getElem? (i := 899) (by decide +kernel)⟩
theorem lw_p35 : lw_okq (⟨"PocketCompiler$Parser", "ifStat", "()V"⟩, 7) := ⟨⟨by decide +kernel, by decide +kernel⟩, List.mem_of_getElem? (i := 180) (by decide +kernel), List.mem_of_getElem? (i := 902) (by decide +kernel), List.mem_of_getElem? (i := 903) (by decide +kernel)⟩
theorem lw_p36 : lw_okq (⟨"PocketCompiler$Parser", "condition", "()V"⟩, 7) := ⟨⟨by decide +kernel, by decide +kernel⟩, List.mem_of_getElem? (i := 180) (by decide +kernel), List.mem_of_getElem? (i := 906) (by decide +kernel), List.mem_of_getElem? (i := 907) (by decide +kernel)⟩
theorem lw_p37 : lw_okq (⟨"PocketCompiler$Parser", "innerStat", "()V"⟩, 7) := ⟨⟨by decide +kernel, by decide +kernel⟩, List.mem_of_getElem? (i := 180) (by decide +kernel), List.mem_of_getElem? (i := 910) (by decide +kernel), List.mem_of_getElem? (i := 911) (by decide +kernel)⟩
theorem lw_p38 : lw_okq (⟨"PocketCompiler$Parser", "loopStat", "(I)V"⟩, 7) := ⟨⟨by decide +kernel, by decide +kernel⟩, List.mem_of_getElem? (i := 180) (by decide +kernel), List.mem_of_getElem? (i := 915) (by decide +kernel), List.mem_of_getElem? (i := 916) (by decide +kernel)⟩
theorem lw_p39 : lw_okq (⟨"PocketCompiler$Parser", "whileRest", "()V"⟩, 7) := ⟨⟨by decide +kernel, by decide +kernel⟩, List.mem_of_getElem? (i := 180) (by decide +kernel), List.mem_of_getElem? (i := 919) (by decide +kernel), List.mem_of_getElem? (i := 920) (by decide +kernel)⟩
theorem lw_p40 : lw_okq (⟨"PocketCompiler$Parser", "doRest", "()V"⟩, 7) := ⟨⟨by decide +kernel, by decide +kernel⟩, List.mem_of_getElem? (i := 180) (by decide +kernel), List.mem_of_getElem? (i := 923) (by decide +kernel), List.mem_of_getElem? (i := 924) (by decide +kernel)⟩
theorem lw_p41 : lw_okq (⟨"PocketCompiler$Parser", "forRest", "()V"⟩, 7) := ⟨⟨by decide +kernel, by decide +kernel⟩, List.mem_of_getElem? (i := 180) (by decide +kernel), List.mem_of_getElem? (i := 927) (by decide +kernel), List.mem_of_getElem? (i := 928) (by decide +kernel)⟩
theorem lw_p42 : lw_okq (⟨"PocketCompiler$Parser", "optional", "(I)Z"⟩, 7) := ⟨⟨by decide +kernel, by decide +kernel⟩, List.mem_of_getElem? (i := 180) (by decide +kernel), List.mem_of_getElem? (i := 931) (by decide +kernel), List.mem_of_getElem? (i := 932) (by decide +kernel)⟩
theorem lw_p43 : lw_okq (⟨"PocketCompiler$Parser", "jumpStat", "(I)V"⟩, 7) := ⟨⟨by decide +kernel, by decide +kernel⟩, List.mem_of_getElem? (i := 180) (by decide +kernel), List.mem_of_getElem? (i := 935) (by decide +kernel), List.mem_of_getElem? (i := 936) (by decide +kernel)⟩
theorem lw_p44 : lw_okq (⟨"PocketCompiler$Parser", "returnStat", "()V"⟩, 7) := ⟨⟨by decide +kernel, by decide +kernel⟩, List.mem_of_getElem? (i := 180) (by decide +kernel), List.mem_of_getElem? (i := 939) (by decide +kernel), List.mem_of_getElem? (i := 940) (by decide +kernel)⟩
theorem lw_p45 : lw_okq (⟨"PocketCompiler$Parser", "globalItem", "(I)V"⟩, 7) := ⟨⟨by decide +kernel, by decide +kernel⟩, List.mem_of_getElem? (i := 180) (by decide +kernel), List.mem_of_getElem? (i := 947) (by decide +kernel), List.mem_of_getElem? (i := 948) (by decide +kernel)⟩
theorem lw_p46 : lw_okq (⟨"PocketCompiler$Parser", "rowSize", "()I"⟩, 7) := ⟨⟨by decide +kernel, by decide +kernel⟩, List.mem_of_getElem? (i := 180) (by decide +kernel), List.mem_of_getElem? (i := 955) (by decide +kernel), List.mem_of_getElem? (i := 956) (by decide +kernel)⟩
theorem lw_p47 : lw_okq (⟨"PocketCompiler$Parser", "checkCalls", "()V"⟩, 7) := ⟨⟨by decide +kernel, by decide +kernel⟩, List.mem_of_getElem? (i := 180) (by decide +kernel), List.mem_of_getElem? (i := 959) (by decide +kernel), List.mem_of_getElem? (i := 960) (by decide +kernel)⟩
def lw_privs_3 : List (MethodName × Nat) := [(⟨"PocketCompiler$Expressions", "beginSign", "(I)V"⟩, 5), (⟨"PocketCompiler$Expressions", "push", "(II)V"⟩, 5), (⟨"PocketCompiler$Expressions", "choice", "()V"⟩, 5), (⟨"PocketCompiler$Parser", "ifStat", "()V"⟩, 7), (⟨"PocketCompiler$Parser", "condition", "()V"⟩, 7), (⟨"PocketCompiler$Parser", "innerStat", "()V"⟩, 7), (⟨"PocketCompiler$Parser", "loopStat", "(I)V"⟩, 7), (⟨"PocketCompiler$Parser", "whileRest", "()V"⟩, 7), (⟨"PocketCompiler$Parser", "doRest", "()V"⟩, 7), (⟨"PocketCompiler$Parser", "forRest", "()V"⟩, 7), (⟨"PocketCompiler$Parser", "optional", "(I)Z"⟩, 7), (⟨"PocketCompiler$Parser", "jumpStat", "(I)V"⟩, 7), (⟨"PocketCompiler$Parser", "returnStat", "()V"⟩, 7), (⟨"PocketCompiler$Parser", "globalItem", "(I)V"⟩, 7), (⟨"PocketCompiler$Parser", "rowSize", "()I"⟩, 7), (⟨"PocketCompiler$Parser", "checkCalls", "()V"⟩, 7)]
theorem lw_r3 : ∀ q ∈ lw_privs_3, lw_okq q := List.forall_mem_cons.mpr ⟨lw_p32, List.forall_mem_cons.mpr ⟨lw_p33, List.forall_mem_cons.mpr ⟨lw_p34, List.forall_mem_cons.mpr ⟨lw_p35, List.forall_mem_cons.mpr ⟨lw_p36, List.forall_mem_cons.mpr ⟨lw_p37, List.forall_mem_cons.mpr ⟨lw_p38, List.forall_mem_cons.mpr ⟨lw_p39, List.forall_mem_cons.mpr ⟨lw_p40, List.forall_mem_cons.mpr ⟨lw_p41, List.forall_mem_cons.mpr ⟨lw_p42, List.forall_mem_cons.mpr ⟨lw_p43, List.forall_mem_cons.mpr ⟨lw_p44, List.forall_mem_cons.mpr ⟨lw_p45, List.forall_mem_cons.mpr ⟨lw_p46, List.forall_mem_cons.mpr ⟨lw_p47, fun _ h => absurd h List.not_mem_nil⟩⟩⟩⟩⟩⟩⟩⟩⟩⟩⟩⟩⟩⟩⟩⟩
theorem lw_p48 : lw_okq (⟨"PocketCompiler$Assembler", "layAll", "()V"⟩, 9) := ⟨⟨by decide +kernel, by decide +kernel⟩, List.mem_of_getElem? (i := 318) (by decide +kernel), List.mem_of_getElem? (i := 986) (by decide +kernel), List.mem_of_getElem? (i := 987) (by decide +kernel)⟩
theorem lw_p49 : lw_okq (⟨"PocketCompiler$Assembler", "immediate", "(IIII)V"⟩, 9) := ⟨⟨by decide +kernel, by decide +kernel⟩, List.mem_of_getElem? (i := 318) (by decide +kernel), List.mem_of_getElem? (i := 990) (by decide +kernel), List.mem_of_getElem? (i := 991) (by decide +kernel)⟩
theorem lw_p50 : lw_okq (⟨"PocketCompiler$Assembler", "emit", "(I)V"⟩, 9) := ⟨⟨by decide +kernel, by decide +kernel⟩, List.mem_of_getElem? (i := 318) (by decide +kernel), List.mem_of_getElem? (i := 994) (by decide +kernel), List.mem_of_getElem? (i := 995) (by decide +kernel)⟩
theorem lw_p51 : lw_okq (⟨"PocketCompiler$Assembler", "lay", "(III)V"⟩, 9) := ⟨⟨by decide +kernel, by decide +kernel⟩, List.mem_of_getElem? (i := 318) (by decide +kernel), List.mem_of_getElem? (i := 999) (by decide +kernel), List.mem_of_getElem? (i := 1000) (by decide +kernel)⟩
theorem lw_p52 : lw_okq (⟨"PocketCompiler$Assembler", "layEnter", "(I)V"⟩, 9) := ⟨⟨by decide +kernel, by decide +kernel⟩, List.mem_of_getElem? (i := 318) (by decide +kernel), List.mem_of_getElem? (i := 1003) (by decide +kernel), List.mem_of_getElem? (i := 1004) (by decide +kernel)⟩
theorem lw_p53 : lw_okq (⟨"PocketCompiler$Assembler", "upper", "(II)V"⟩, 9) := ⟨⟨by decide +kernel, by decide +kernel⟩, List.mem_of_getElem? (i := 318) (by decide +kernel), List.mem_of_getElem? (i := 1009) (by decide +kernel), List.mem_of_getElem? (i := 1010) (by decide +kernel)⟩
theorem lw_p54 : lw_okq (⟨"PocketCompiler$Assembler", "branch", "(IIII)V"⟩, 9) := ⟨⟨by decide +kernel, by decide +kernel⟩, List.mem_of_getElem? (i := 318) (by decide +kernel), List.mem_of_getElem? (i := 1019) (by decide +kernel), List.mem_of_getElem? (i := 1020) (by decide +kernel)⟩
theorem lw_p55 : lw_okq (⟨"PocketCompiler$Assembler", "halt", "(I)V"⟩, 9) := ⟨⟨by decide +kernel, by decide +kernel⟩, List.mem_of_getElem? (i := 318) (by decide +kernel), List.mem_of_getElem? (i := 1023) (by decide +kernel), List.mem_of_getElem? (i := 1024) (by decide +kernel)⟩
theorem lw_p56 : lw_okq (⟨"PocketCompiler$Assembler", "storeWord", "(III)V"⟩, 9) := ⟨⟨by decide +kernel, by decide +kernel⟩, List.mem_of_getElem? (i := 318) (by decide +kernel), List.mem_of_getElem? (i := 1027) (by decide +kernel), List.mem_of_getElem? (i := 1028) (by decide +kernel)⟩
theorem lw_p57 : lw_okq (⟨"PocketCompiler$Assembler", "layLeave", "()V"⟩, 9) := ⟨⟨by decide +kernel, by decide +kernel⟩, List.mem_of_getElem? (i := 318) (by decide +kernel), List.mem_of_getElem? (i := 1034) (by decide +kernel), List.mem_of_getElem? (i := 1035) (by decide +kernel)⟩
theorem lw_p58 : lw_okq (⟨"PocketCompiler$Assembler", "layNumber", "(I)V"⟩, 9) := ⟨⟨by decide +kernel, by decide +kernel⟩, List.mem_of_getElem? (i := 318) (by decide +kernel), List.mem_of_getElem? (i := 1038) (by decide +kernel), List.mem_of_getElem? (i := 1039) (by decide +kernel)⟩
theorem lw_p59 : lw_okq (⟨"PocketCompiler$Assembler", "loadSlot", "(II)V"⟩, 9) := ⟨⟨by decide +kernel, by decide +kernel⟩, List.mem_of_getElem? (i := 318) (by decide +kernel), List.mem_of_getElem? (i := 1042) (by decide +kernel), List.mem_of_getElem? (i := 1043) (by decide +kernel)⟩
theorem lw_p60 : lw_okq (⟨"PocketCompiler$Assembler", "storeSlot", "(I)V"⟩, 9) := ⟨⟨by decide +kernel, by decide +kernel⟩, List.mem_of_getElem? (i := 318) (by decide +kernel), List.mem_of_getElem? (i := 1046) (by decide +kernel), List.mem_of_getElem? (i := 1047) (by decide +kernel)⟩
theorem lw_p61 : lw_okq (⟨"PocketCompiler$Assembler", "three", "(IIII)V"⟩, 9) := ⟨⟨by decide +kernel, by decide +kernel⟩, List.mem_of_getElem? (i := 318) (by decide +kernel), List.mem_of_getElem? (i := 1051) (by decide +kernel), List.mem_of_getElem? (i := 1052) (by decide +kernel)⟩
theorem lw_p62 : lw_okq (⟨"PocketCompiler$Assembler", "laySign", "(I)V"⟩, 9) := ⟨⟨by decide +kernel, by decide +kernel⟩, List.mem_of_getElem? (i := 318) (by decide +kernel), List.mem_of_getElem? (i := 1055) (by decide +kernel), List.mem_of_getElem? (i := 1056) (by decide +kernel)⟩
theorem lw_p63 : lw_okq (⟨"PocketCompiler$Assembler", "jump", "(II)V"⟩, 9) := ⟨⟨by decide +kernel, by decide +kernel⟩, List.mem_of_getElem? (i := 318) (by decide +kernel), List.mem_of_getElem? (i := 1060) (by decide +kernel), List.mem_of_getElem? (i := 1061) (by decide +kernel)⟩
def lw_privs_4 : List (MethodName × Nat) := [(⟨"PocketCompiler$Assembler", "layAll", "()V"⟩, 9), (⟨"PocketCompiler$Assembler", "immediate", "(IIII)V"⟩, 9), (⟨"PocketCompiler$Assembler", "emit", "(I)V"⟩, 9), (⟨"PocketCompiler$Assembler", "lay", "(III)V"⟩, 9), (⟨"PocketCompiler$Assembler", "layEnter", "(I)V"⟩, 9), (⟨"PocketCompiler$Assembler", "upper", "(II)V"⟩, 9), (⟨"PocketCompiler$Assembler", "branch", "(IIII)V"⟩, 9), (⟨"PocketCompiler$Assembler", "halt", "(I)V"⟩, 9), (⟨"PocketCompiler$Assembler", "storeWord", "(III)V"⟩, 9), (⟨"PocketCompiler$Assembler", "layLeave", "()V"⟩, 9), (⟨"PocketCompiler$Assembler", "layNumber", "(I)V"⟩, 9), (⟨"PocketCompiler$Assembler", "loadSlot", "(II)V"⟩, 9), (⟨"PocketCompiler$Assembler", "storeSlot", "(I)V"⟩, 9), (⟨"PocketCompiler$Assembler", "three", "(IIII)V"⟩, 9), (⟨"PocketCompiler$Assembler", "laySign", "(I)V"⟩, 9), (⟨"PocketCompiler$Assembler", "jump", "(II)V"⟩, 9)]
theorem lw_r4 : ∀ q ∈ lw_privs_4, lw_okq q := List.forall_mem_cons.mpr ⟨lw_p48, List.forall_mem_cons.mpr ⟨lw_p49, List.forall_mem_cons.mpr ⟨lw_p50, List.forall_mem_cons.mpr ⟨lw_p51, List.forall_mem_cons.mpr ⟨lw_p52, List.forall_mem_cons.mpr ⟨lw_p53, List.forall_mem_cons.mpr ⟨lw_p54, List.forall_mem_cons.mpr ⟨lw_p55, List.forall_mem_cons.mpr ⟨lw_p56, List.forall_mem_cons.mpr ⟨lw_p57, List.forall_mem_cons.mpr ⟨lw_p58, List.forall_mem_cons.mpr ⟨lw_p59, List.forall_mem_cons.mpr ⟨lw_p60, List.forall_mem_cons.mpr ⟨lw_p61, List.forall_mem_cons.mpr ⟨lw_p62, List.forall_mem_cons.mpr ⟨lw_p63, fun _ h => absurd h List.not_mem_nil⟩⟩⟩⟩⟩⟩⟩⟩⟩⟩⟩⟩⟩⟩⟩⟩
theorem lw_p64 : lw_okq (⟨"PocketCompiler$Assembler", "layComparison", "(I)V"⟩, 9) := ⟨⟨by decide +kernel, by decide +kernel⟩, List.mem_of_getElem? (i := 318) (by decide +kernel), List.mem_of_getElem? (i := 1064) (by decide +kernel), List.mem_of_getElem? (i := 1065) (by decide +kernel)⟩
theorem lw_p65 : lw_okq (⟨"PocketCompiler$Assembler", "layCall", "(II)V"⟩, 9) := ⟨⟨by decide +kernel, by decide +kernel⟩, List.mem_of_getElem? (i := 318) (by decide +kernel), List.mem_of_getElem? (i := 1068) (by decide +kernel), List.mem_of_getElem? (i := 1069) (by decide +kernel)⟩
theorem lw_p66 : lw_okq (⟨"PocketCompiler$Assembler", "outside", "(I)V"⟩, 9) := ⟨⟨by decide +kernel, by decide +kernel⟩, List.mem_of_getElem? (i := 318) (by decide +kernel), List.mem_of_getElem? (i := 1072) (by decide +kernel), List.mem_of_getElem? (i := 1073) (by decide +kernel)⟩
theorem lw_p67 : lw_okq (⟨"PocketCompiler$Assembler", "layJump", "(II)V"⟩, 9) := ⟨⟨by decide +kernel, by decide +kernel⟩, List.mem_of_getElem? (i := 318) (by decide +kernel), List.mem_of_getElem? (i := 1076) (by decide +kernel), List.mem_of_getElem? (i := 1077) (by decide +kernel)⟩
theorem lw_p68 : lw_okq (⟨"PocketCompiler$Assembler", "addressOfDeed", "(I)I"⟩, 9) := ⟨⟨by decide +kernel, by decide +kernel⟩, List.mem_of_getElem? (i := 318) (by decide +kernel), List.mem_of_getElem? (i := 1080) (by decide +kernel), List.mem_of_getElem? (i := 1081) (by decide +kernel)⟩
theorem lw_p69 : lw_okq (⟨"PocketCompiler$Assembler", "layPlace", "(III)V"⟩, 9) := ⟨⟨by decide +kernel, by decide +kernel⟩, List.mem_of_getElem? (i := 318) (by decide +kernel), List.mem_of_getElem? (i := 1084) (by decide +kernel), List.mem_of_getElem? (i := 1085) (by decide +kernel)⟩
theorem lw_p70 : lw_okq (⟨"PocketCompiler$Assembler", "addressOfGlobal", "(I)I"⟩, 9) := ⟨⟨by decide +kernel, by decide +kernel⟩, List.mem_of_getElem? (i := 318) (by decide +kernel), List.mem_of_getElem? (i := 1088) (by decide +kernel), List.mem_of_getElem? (i := 1089) (by decide +kernel)⟩
theorem lw_p71 : lw_okq (⟨"PocketCompiler$Assembler", "layIndex", "(II)V"⟩, 9) := ⟨⟨by decide +kernel, by decide +kernel⟩, List.mem_of_getElem? (i := 318) (by decide +kernel), List.mem_of_getElem? (i := 1093) (by decide +kernel), List.mem_of_getElem? (i := 1094) (by decide +kernel)⟩
theorem lw_p72 : lw_okq (⟨"PocketCompiler$Assembler", "layTimes", "()V"⟩, 9) := ⟨⟨by decide +kernel, by decide +kernel⟩, List.mem_of_getElem? (i := 318) (by decide +kernel), List.mem_of_getElem? (i := 1097) (by decide +kernel), List.mem_of_getElem? (i := 1098) (by decide +kernel)⟩
theorem lw_p73 : lw_okq (⟨"PocketCompiler$Assembler", "layOver", "()V"⟩, 9) := ⟨⟨by decide +kernel, by decide +kernel⟩, List.mem_of_getElem? (i := 318) (by decide +kernel), List.mem_of_getElem? (i := 1101) (by decide +kernel), List.mem_of_getElem? (i := 1102) (by decide +kernel)⟩
theorem lw_p74 : lw_okq (⟨"PocketCompiler$Assembler", "placeGlobals", "()V"⟩, 9) := ⟨⟨by decide +kernel, by decide +kernel⟩, List.mem_of_getElem? (i := 318) (by decide +kernel), List.mem_of_getElem? (i := 1105) (by decide +kernel), List.mem_of_getElem? (i := 1106) (by decide +kernel)⟩
theorem lw_p75 : lw_okq (⟨"PocketCompiler", "tapeNumber", "(I)V"⟩, 12) := ⟨⟨by decide +kernel, by decide +kernel⟩, List.mem_of_getElem? (i := 36) (by decide +kernel), List.mem_of_getElem? (i := 1151) (by decide +kernel), List.mem_of_getElem? (i := 1152) (by decide +kernel)⟩
theorem lw_p76 : lw_okq (⟨"PocketCompiler$Processor", "write", "(II)V"⟩, 9) := ⟨⟨by decide +kernel, by decide +kernel⟩, List.mem_of_getElem? (i := 352) (by decide +kernel), List.mem_of_getElem? (i := 1224) (by decide +kernel), List.mem_of_getElem? (i := 1225) (by decide +kernel)⟩
theorem lw_p77 : lw_okq (⟨"PocketCompiler$Processor", "perform", "(II)V"⟩, 9) := ⟨⟨by decide +kernel, by decide +kernel⟩, List.mem_of_getElem? (i := 352) (by decide +kernel), List.mem_of_getElem? (i := 1268) (by decide +kernel), List.mem_of_getElem? (i := 1269) (by decide +kernel)⟩
theorem lw_p78 : lw_okq (⟨"PocketCompiler$Processor", "jump", "(II)V"⟩, 9) := ⟨⟨by decide +kernel, by decide +kernel⟩, List.mem_of_getElem? (i := 352) (by decide +kernel), List.mem_of_getElem? (i := 1289) (by decide +kernel), List.mem_of_getElem? (i := 1290) (by decide +kernel)⟩
theorem lw_p79 : lw_okq (⟨"PocketCompiler$Processor", "branch", "(ZI)V"⟩, 9) := ⟨⟨by decide +kernel, by decide +kernel⟩, List.mem_of_getElem? (i := 352) (by decide +kernel), List.mem_of_getElem? (i := 1293) (by decide +kernel), List.mem_of_getElem? (i := 1294) (by decide +kernel)⟩
def lw_privs_5 : List (MethodName × Nat) := [(⟨"PocketCompiler$Assembler", "layComparison", "(I)V"⟩, 9), (⟨"PocketCompiler$Assembler", "layCall", "(II)V"⟩, 9), (⟨"PocketCompiler$Assembler", "outside", "(I)V"⟩, 9), (⟨"PocketCompiler$Assembler", "layJump", "(II)V"⟩, 9), (⟨"PocketCompiler$Assembler", "addressOfDeed", "(I)I"⟩, 9), (⟨"PocketCompiler$Assembler", "layPlace", "(III)V"⟩, 9), (⟨"PocketCompiler$Assembler", "addressOfGlobal", "(I)I"⟩, 9), (⟨"PocketCompiler$Assembler", "layIndex", "(II)V"⟩, 9), (⟨"PocketCompiler$Assembler", "layTimes", "()V"⟩, 9), (⟨"PocketCompiler$Assembler", "layOver", "()V"⟩, 9), (⟨"PocketCompiler$Assembler", "placeGlobals", "()V"⟩, 9), (⟨"PocketCompiler", "tapeNumber", "(I)V"⟩, 12), (⟨"PocketCompiler$Processor", "write", "(II)V"⟩, 9), (⟨"PocketCompiler$Processor", "perform", "(II)V"⟩, 9), (⟨"PocketCompiler$Processor", "jump", "(II)V"⟩, 9), (⟨"PocketCompiler$Processor", "branch", "(ZI)V"⟩, 9)]
theorem lw_r5 : ∀ q ∈ lw_privs_5, lw_okq q := List.forall_mem_cons.mpr ⟨lw_p64, List.forall_mem_cons.mpr ⟨lw_p65, List.forall_mem_cons.mpr ⟨lw_p66, List.forall_mem_cons.mpr ⟨lw_p67, List.forall_mem_cons.mpr ⟨lw_p68, List.forall_mem_cons.mpr ⟨lw_p69, List.forall_mem_cons.mpr ⟨lw_p70, List.forall_mem_cons.mpr ⟨lw_p71, List.forall_mem_cons.mpr ⟨lw_p72, List.forall_mem_cons.mpr ⟨lw_p73, List.forall_mem_cons.mpr ⟨lw_p74, List.forall_mem_cons.mpr ⟨lw_p75, List.forall_mem_cons.mpr ⟨lw_p76, List.forall_mem_cons.mpr ⟨lw_p77, List.forall_mem_cons.mpr ⟨lw_p78, List.forall_mem_cons.mpr ⟨lw_p79, fun _ h => absurd h List.not_mem_nil⟩⟩⟩⟩⟩⟩⟩⟩⟩⟩⟩⟩⟩⟩⟩⟩
theorem lw_p80 : lw_okq (⟨"PocketCompiler$Processor", "fetch", "(III)V"⟩, 9) := ⟨⟨by decide +kernel, by decide +kernel⟩, List.mem_of_getElem? (i := 352) (by decide +kernel), List.mem_of_getElem? (i := 1310) (by decide +kernel), List.mem_of_getElem? (i := 1311) (by decide +kernel)⟩
theorem lw_p81 : lw_okq (⟨"PocketCompiler$Processor", "isReached", "(II)Z"⟩, 9) := ⟨⟨by decide +kernel, by decide +kernel⟩, List.mem_of_getElem? (i := 352) (by decide +kernel), List.mem_of_getElem? (i := 1317) (by decide +kernel), List.mem_of_getElem? (i := 1318) (by decide +kernel)⟩
theorem lw_p82 : lw_okq (⟨"PocketCompiler$Processor", "store", "(III)V"⟩, 9) := ⟨⟨by decide +kernel, by decide +kernel⟩, List.mem_of_getElem? (i := 352) (by decide +kernel), List.mem_of_getElem? (i := 1322) (by decide +kernel), List.mem_of_getElem? (i := 1323) (by decide +kernel)⟩
theorem lw_p83 : lw_okq (⟨"PocketCompiler$Processor", "service", "()V"⟩, 9) := ⟨⟨by decide +kernel, by decide +kernel⟩, List.mem_of_getElem? (i := 352) (by decide +kernel), List.mem_of_getElem? (i := 1332) (by decide +kernel), List.mem_of_getElem? (i := 1333) (by decide +kernel)⟩
theorem lw_p84 : lw_okq (⟨"PocketCompiler$Shower", "addName", "(I)V"⟩, 1) := ⟨⟨by decide +kernel, by decide +kernel⟩, List.mem_of_getElem? (i := 62) (by decide +kernel), List.mem_of_getElem? (i := 1621) (by decide +kernel), List.mem_of_getElem? (i := 1622) (by decide +kernel)⟩
theorem lw_p85 : lw_okq (⟨"PocketCompiler$Shower", "addHex", "(I)V"⟩, 1) := ⟨⟨by decide +kernel, by decide +kernel⟩, List.mem_of_getElem? (i := 62) (by decide +kernel), List.mem_of_getElem? (i := 1641) (by decide +kernel), List.mem_of_getElem? (i := 1642) (by decide +kernel)⟩
theorem lw_p86 : lw_okq (⟨"PocketCompiler$Shower", "addOperands", "(II)V"⟩, 1) := ⟨⟨by decide +kernel, by decide +kernel⟩, List.mem_of_getElem? (i := 62) (by decide +kernel), List.mem_of_getElem? (i := 1648) (by decide +kernel), List.mem_of_getElem? (i := 1649) (by decide +kernel)⟩
theorem lw_p87 : lw_okq (⟨"PocketCompiler$Shower", "addPair", "(II)V"⟩, 1) := ⟨⟨by decide +kernel, by decide +kernel⟩, List.mem_of_getElem? (i := 62) (by decide +kernel), List.mem_of_getElem? (i := 1656) (by decide +kernel), List.mem_of_getElem? (i := 1657) (by decide +kernel)⟩
theorem lw_p88 : lw_okq (⟨"PocketCompiler$Shower", "addRegister", "(I)V"⟩, 1) := ⟨⟨by decide +kernel, by decide +kernel⟩, List.mem_of_getElem? (i := 62) (by decide +kernel), List.mem_of_getElem? (i := 1660) (by decide +kernel), List.mem_of_getElem? (i := 1661) (by decide +kernel)⟩
theorem lw_p89 : lw_okq (⟨"PocketCompiler$Shower", "addReach", "(III)V"⟩, 1) := ⟨⟨by decide +kernel, by decide +kernel⟩, List.mem_of_getElem? (i := 62) (by decide +kernel), List.mem_of_getElem? (i := 1666) (by decide +kernel), List.mem_of_getElem? (i := 1667) (by decide +kernel)⟩
theorem lw_p90 : lw_okq (⟨"PocketCompiler", "checkAddress", "(I)V"⟩, 12) := ⟨⟨by decide +kernel, by decide +kernel⟩, List.mem_of_getElem? (i := 36) (by decide +kernel), List.mem_of_getElem? (i := 1786) (by decide +kernel), List.mem_of_getElem? (i := 1787) (by decide +kernel)⟩
theorem lw_p91 : lw_okq (⟨"PocketCompiler$Worker", "enter", "(II)V"⟩, 17) := ⟨⟨by decide +kernel, by decide +kernel⟩, List.mem_of_getElem? (i := 391) (by decide +kernel), List.mem_of_getElem? (i := 1845) (by decide +kernel), List.mem_of_getElem? (i := 1846) (by decide +kernel)⟩
theorem lw_p92 : lw_okq (⟨"PocketCompiler$Worker", "takeTurn", "()V"⟩, 17) := ⟨⟨by decide +kernel, by decide +kernel⟩, List.mem_of_getElem? (i := 391) (by decide +kernel), List.mem_of_getElem? (i := 1849) (by decide +kernel), List.mem_of_getElem? (i := 1850) (by decide +kernel)⟩
theorem lw_p93 : lw_okq (⟨"PocketCompiler$Worker", "changeFrameWord", "(II)V"⟩, 17) := ⟨⟨by decide +kernel, by decide +kernel⟩, List.mem_of_getElem? (i := 391) (by decide +kernel), List.mem_of_getElem? (i := 1853) (by decide +kernel), List.mem_of_getElem? (i := 1854) (by decide +kernel)⟩
theorem lw_p94 : lw_okq (⟨"PocketCompiler$Worker", "changeSlot", "(II)V"⟩, 17) := ⟨⟨by decide +kernel, by decide +kernel⟩, List.mem_of_getElem? (i := 391) (by decide +kernel), List.mem_of_getElem? (i := 1858) (by decide +kernel), List.mem_of_getElem? (i := 1859) (by decide +kernel)⟩
theorem lw_p95 : lw_okq (⟨"PocketCompiler$Worker", "placeOfSlot", "(I)I"⟩, 17) := ⟨⟨by decide +kernel, by decide +kernel⟩, List.mem_of_getElem? (i := 391) (by decide +kernel), List.mem_of_getElem? (i := 1862) (by decide +kernel), List.mem_of_getElem? (i := 1863) (by decide +kernel)⟩
def lw_privs_6 : List (MethodName × Nat) := [(⟨"PocketCompiler$Processor", "fetch", "(III)V"⟩, 9), (⟨"PocketCompiler$Processor", "isReached", "(II)Z"⟩, 9), (⟨"PocketCompiler$Processor", "store", "(III)V"⟩, 9), (⟨"PocketCompiler$Processor", "service", "()V"⟩, 9), (⟨"PocketCompiler$Shower", "addName", "(I)V"⟩, 1), (⟨"PocketCompiler$Shower", "addHex", "(I)V"⟩, 1), (⟨"PocketCompiler$Shower", "addOperands", "(II)V"⟩, 1), (⟨"PocketCompiler$Shower", "addPair", "(II)V"⟩, 1), (⟨"PocketCompiler$Shower", "addRegister", "(I)V"⟩, 1), (⟨"PocketCompiler$Shower", "addReach", "(III)V"⟩, 1), (⟨"PocketCompiler", "checkAddress", "(I)V"⟩, 12), (⟨"PocketCompiler$Worker", "enter", "(II)V"⟩, 17), (⟨"PocketCompiler$Worker", "takeTurn", "()V"⟩, 17), (⟨"PocketCompiler$Worker", "changeFrameWord", "(II)V"⟩, 17), (⟨"PocketCompiler$Worker", "changeSlot", "(II)V"⟩, 17), (⟨"PocketCompiler$Worker", "placeOfSlot", "(I)I"⟩, 17)]
theorem lw_r6 : ∀ q ∈ lw_privs_6, lw_okq q := List.forall_mem_cons.mpr ⟨lw_p80, List.forall_mem_cons.mpr ⟨lw_p81, List.forall_mem_cons.mpr ⟨lw_p82, List.forall_mem_cons.mpr ⟨lw_p83, List.forall_mem_cons.mpr ⟨lw_p84, List.forall_mem_cons.mpr ⟨lw_p85, List.forall_mem_cons.mpr ⟨lw_p86, List.forall_mem_cons.mpr ⟨lw_p87, List.forall_mem_cons.mpr ⟨lw_p88, List.forall_mem_cons.mpr ⟨lw_p89, List.forall_mem_cons.mpr ⟨lw_p90, List.forall_mem_cons.mpr ⟨lw_p91, List.forall_mem_cons.mpr ⟨lw_p92, List.forall_mem_cons.mpr ⟨lw_p93, List.forall_mem_cons.mpr ⟨lw_p94, List.forall_mem_cons.mpr ⟨lw_p95, fun _ h => absurd h List.not_mem_nil⟩⟩⟩⟩⟩⟩⟩⟩⟩⟩⟩⟩⟩⟩⟩⟩
theorem lw_p96 : lw_okq (⟨"PocketCompiler$Worker", "doDeed", "()V"⟩, 17) := ⟨⟨by decide +kernel, by decide +kernel⟩, List.mem_of_getElem? (i := 391) (by decide +kernel), List.mem_of_getElem? (i := 1867) (by decide +kernel), List.mem_of_getElem? (i := 1868) (by decide +kernel)⟩
theorem lw_p97 : lw_okq (⟨"PocketCompiler$Worker", "leaveFunction", "()V"⟩, 17) := ⟨⟨by decide +kernel, by decide +kernel⟩, List.mem_of_getElem? (i := 391) (by decide +kernel), List.mem_of_getElem? (i := 1871) (by decide +kernel), List.mem_of_getElem? (i := 1872) (by decide +kernel)⟩
theorem lw_p98 : lw_okq (⟨"PocketCompiler$Worker", "frameWord", "(I)I"⟩, 17) := ⟨⟨by decide +kernel, by decide +kernel⟩, List.mem_of_getElem? (i := 391) (by decide +kernel), List.mem_of_getElem? (i := 1875) (by decide +kernel), List.mem_of_getElem? (i := 1876) (by decide +kernel)⟩
theorem lw_p99 : lw_okq (⟨"PocketCompiler$Worker", "slotAt", "(I)I"⟩, 17) := ⟨⟨by decide +kernel, by decide +kernel⟩, List.mem_of_getElem? (i := 391) (by decide +kernel), List.mem_of_getElem? (i := 1879) (by decide +kernel), List.mem_of_getElem? (i := 1880) (by decide +kernel)⟩
theorem lw_p100 : lw_okq (⟨"PocketCompiler$Worker", "join", "(II)V"⟩, 17) := ⟨⟨by decide +kernel, by decide +kernel⟩, List.mem_of_getElem? (i := 391) (by decide +kernel), List.mem_of_getElem? (i := 1883) (by decide +kernel), List.mem_of_getElem? (i := 1884) (by decide +kernel)⟩
theorem lw_p101 : lw_okq (⟨"PocketCompiler$Worker", "divide", "(ZI)V"⟩, 17) := ⟨⟨by decide +kernel, by decide +kernel⟩, List.mem_of_getElem? (i := 391) (by decide +kernel), List.mem_of_getElem? (i := 1887) (by decide +kernel), List.mem_of_getElem? (i := 1888) (by decide +kernel)⟩
theorem lw_p102 : lw_okq (⟨"PocketCompiler$Worker", "callFunction", "(II)V"⟩, 17) := ⟨⟨by decide +kernel, by decide +kernel⟩, List.mem_of_getElem? (i := 391) (by decide +kernel), List.mem_of_getElem? (i := 1894) (by decide +kernel), List.mem_of_getElem? (i := 1895) (by decide +kernel)⟩
theorem lw_p103 : lw_okq (⟨"PocketCompiler$Worker", "putHand", "()V"⟩, 17) := ⟨⟨by decide +kernel, by decide +kernel⟩, List.mem_of_getElem? (i := 391) (by decide +kernel), List.mem_of_getElem? (i := 1898) (by decide +kernel), List.mem_of_getElem? (i := 1899) (by decide +kernel)⟩
theorem lw_p104 : lw_okq (⟨"PocketCompiler$Worker", "doJump", "(II)V"⟩, 17) := ⟨⟨by decide +kernel, by decide +kernel⟩, List.mem_of_getElem? (i := 391) (by decide +kernel), List.mem_of_getElem? (i := 1903) (by decide +kernel), List.mem_of_getElem? (i := 1904) (by decide +kernel)⟩
theorem lw_p105 : lw_okq (⟨"PocketCompiler$Worker", "doPlace", "(III)V"⟩, 17) := ⟨⟨by decide +kernel, by decide +kernel⟩, List.mem_of_getElem? (i := 391) (by decide +kernel), List.mem_of_getElem? (i := 1907) (by decide +kernel), List.mem_of_getElem? (i := 1908) (by decide +kernel)⟩
theorem lw_p106 : lw_okq (⟨"PocketCompiler$Worker", "changeCell", "(II)V"⟩, 17) := ⟨⟨by decide +kernel, by decide +kernel⟩, List.mem_of_getElem? (i := 391) (by decide +kernel), List.mem_of_getElem? (i := 1919) (by decide +kernel), List.mem_of_getElem? (i := 1920) (by decide +kernel)⟩
theorem lw_p107 : lw_okq (⟨"PocketCompiler$Worker", "index", "(I)V"⟩, 17) := ⟨⟨by decide +kernel, by decide +kernel⟩, List.mem_of_getElem? (i := 391) (by decide +kernel), List.mem_of_getElem? (i := 1923) (by decide +kernel), List.mem_of_getElem? (i := 1924) (by decide +kernel)⟩
theorem lw_p108 : lw_okq (⟨"PocketCompilerModel", "four", "(I)V"⟩, 124) := ⟨⟨by decide +kernel, by decide +kernel⟩, List.mem_of_getElem? (i := 1955) (by decide +kernel), List.mem_of_getElem? (i := 1953) (by decide +kernel), List.mem_of_getElem? (i := 1954) (by decide +kernel)⟩
theorem lw_p109 : lw_okq (⟨"PocketCompilerModel", "cut", "()V"⟩, 124) := ⟨⟨by decide +kernel, by decide +kernel⟩, List.mem_of_getElem? (i := 1955) (by decide +kernel), List.mem_of_getElem? (i := 1992) (by decide +kernel), List.mem_of_getElem? (i := 1993) (by decide +kernel)⟩
theorem lw_p110 : lw_okq (⟨"PocketCompilerModel", "at", "(I)I"⟩, 124) := ⟨⟨by decide +kernel, by decide +kernel⟩, List.mem_of_getElem? (i := 1955) (by decide +kernel), List.mem_of_getElem? (i := 1999) (by decide +kernel), List.mem_of_getElem? (i := 2000) (by decide +kernel)⟩
theorem lw_p111 : lw_okq (⟨"PocketCompilerModel", "token", "(I)I"⟩, 124) := ⟨⟨by decide +kernel, by decide +kernel⟩, List.mem_of_getElem? (i := 1955) (by decide +kernel), List.mem_of_getElem? (i := 2003) (by decide +kernel), List.mem_of_getElem? (i := 2004) (by decide +kernel)⟩
def lw_privs_7 : List (MethodName × Nat) := [(⟨"PocketCompiler$Worker", "doDeed", "()V"⟩, 17), (⟨"PocketCompiler$Worker", "leaveFunction", "()V"⟩, 17), (⟨"PocketCompiler$Worker", "frameWord", "(I)I"⟩, 17), (⟨"PocketCompiler$Worker", "slotAt", "(I)I"⟩, 17), (⟨"PocketCompiler$Worker", "join", "(II)V"⟩, 17), (⟨"PocketCompiler$Worker", "divide", "(ZI)V"⟩, 17), (⟨"PocketCompiler$Worker", "callFunction", "(II)V"⟩, 17), (⟨"PocketCompiler$Worker", "putHand", "()V"⟩, 17), (⟨"PocketCompiler$Worker", "doJump", "(II)V"⟩, 17), (⟨"PocketCompiler$Worker", "doPlace", "(III)V"⟩, 17), (⟨"PocketCompiler$Worker", "changeCell", "(II)V"⟩, 17), (⟨"PocketCompiler$Worker", "index", "(I)V"⟩, 17), (⟨"PocketCompilerModel", "four", "(I)V"⟩, 124), (⟨"PocketCompilerModel", "cut", "()V"⟩, 124), (⟨"PocketCompilerModel", "at", "(I)I"⟩, 124), (⟨"PocketCompilerModel", "token", "(I)I"⟩, 124)]
theorem lw_r7 : ∀ q ∈ lw_privs_7, lw_okq q := List.forall_mem_cons.mpr ⟨lw_p96, List.forall_mem_cons.mpr ⟨lw_p97, List.forall_mem_cons.mpr ⟨lw_p98, List.forall_mem_cons.mpr ⟨lw_p99, List.forall_mem_cons.mpr ⟨lw_p100, List.forall_mem_cons.mpr ⟨lw_p101, List.forall_mem_cons.mpr ⟨lw_p102, List.forall_mem_cons.mpr ⟨lw_p103, List.forall_mem_cons.mpr ⟨lw_p104, List.forall_mem_cons.mpr ⟨lw_p105, List.forall_mem_cons.mpr ⟨lw_p106, List.forall_mem_cons.mpr ⟨lw_p107, List.forall_mem_cons.mpr ⟨lw_p108, List.forall_mem_cons.mpr ⟨lw_p109, List.forall_mem_cons.mpr ⟨lw_p110, List.forall_mem_cons.mpr ⟨lw_p111, fun _ h => absurd h List.not_mem_nil⟩⟩⟩⟩⟩⟩⟩⟩⟩⟩⟩⟩⟩⟩⟩⟩
theorem lw_p112 : lw_okq (⟨"PocketCompilerModel", "number", "(I)I"⟩, 124) := ⟨⟨by decide +kernel, by decide +kernel⟩, List.mem_of_getElem? (i := 1955) (by decide +kernel), List.mem_of_getElem? (i := 2010) (by decide +kernel), List.mem_of_getElem? (i := 2011) (by decide +kernel)⟩
theorem lw_p113 : lw_okq (⟨"PocketCompilerModel", "wordOf", "(Ljava/lang/String;II)I"⟩, 124) := ⟨⟨by decide +kernel, by decide +kernel⟩, List.mem_of_getElem? (i := 1955) (by decide +kernel), List.mem_of_getElem? (i := 2024) (by decide +kernel), List.mem_of_getElem? (i := 2025) (by decide +kernel)⟩
theorem lw_p114 : lw_okq (⟨"PocketCompilerModel", "sign", "(I)I"⟩, 124) := ⟨⟨by decide +kernel, by decide +kernel⟩, List.mem_of_getElem? (i := 1955) (by decide +kernel), List.mem_of_getElem? (i := 2030) (by decide +kernel), List.mem_of_getElem? (i := 2031) (by decide +kernel)⟩
theorem lw_p115 : lw_okq (⟨"PocketCompilerModel", "walk", "()V"⟩, 124) := ⟨⟨by decide +kernel, by decide +kernel⟩, List.mem_of_getElem? (i := 1955) (by decide +kernel), List.mem_of_getElem? (i := 2035) (by decide +kernel), List.mem_of_getElem? (i := 2036) (by decide +kernel)⟩
theorem lw_p116 : lw_okq (⟨"PocketCompilerModel", "emit", "(I)I"⟩, 124) := ⟨⟨by decide +kernel, by decide +kernel⟩, List.mem_of_getElem? (i := 1955) (by decide +kernel), List.mem_of_getElem? (i := 2045) (by decide +kernel), List.mem_of_getElem? (i := 2046) (by decide +kernel)⟩
theorem lw_p117 : lw_okq (⟨"PocketCompilerModel", "item", "()V"⟩, 124) := ⟨⟨by decide +kernel, by decide +kernel⟩, List.mem_of_getElem? (i := 1955) (by decide +kernel), List.mem_of_getElem? (i := 2050) (by decide +kernel), List.mem_of_getElem? (i := 2051) (by decide +kernel)⟩
theorem lw_p118 : lw_okq (⟨"PocketCompilerModel", "isKey", "(I)Z"⟩, 124) := ⟨⟨by decide +kernel, by decide +kernel⟩, List.mem_of_getElem? (i := 1955) (by decide +kernel), List.mem_of_getElem? (i := 2054) (by decide +kernel), List.mem_of_getElem? (i := 2055) (by decide +kernel)⟩
theorem lw_p119 : lw_okq (⟨"PocketCompilerModel", "bad", "()LPocketCompilerModel$Halt;"⟩, 124) := ⟨⟨by decide +kernel, by decide +kernel⟩, List.mem_of_getElem? (i := 1955) (by decide +kernel), List.mem_of_getElem? (i := 2058) (by decide +kernel), List.mem_of_getElem? (i := 2059) (by decide +kernel)⟩
theorem lw_p120 : lw_okq (⟨"PocketCompilerModel", "fail", "(II)LPocketCompilerModel$Halt;"⟩, 124) := ⟨⟨by decide +kernel, by decide +kernel⟩, List.mem_of_getElem? (i := 1955) (by decide +kernel), List.mem_of_getElem? (i := 2062) (by decide +kernel), List.mem_of_getElem? (i := 2063) (by decide +kernel)⟩
theorem lw_p121 : lw_okq (⟨"PocketCompilerModel", "take", "()V"⟩, 124) := ⟨⟨by decide +kernel, by decide +kernel⟩, List.mem_of_getElem? (i := 1955) (by decide +kernel), List.mem_of_getElem? (i := 2066) (by decide +kernel), List.mem_of_getElem? (i := 2067) (by decide +kernel)⟩
theorem lw_p122 : lw_okq (⟨"PocketCompilerModel", "globalOf", "(I)I"⟩, 124) := ⟨⟨by decide +kernel, by decide +kernel⟩, List.mem_of_getElem? (i := 1955) (by decide +kernel), List.mem_of_getElem? (i := 2070) (by decide +kernel), List.mem_of_getElem? (i := 2071) (by decide +kernel)⟩
theorem lw_p123 : lw_okq (⟨"PocketCompilerModel", "isSame", "(II)Z"⟩, 124) := ⟨⟨by decide +kernel, by decide +kernel⟩, List.mem_of_getElem? (i := 1955) (by decide +kernel), List.mem_of_getElem? (i := 2074) (by decide +kernel), List.mem_of_getElem? (i := 2075) (by decide +kernel)⟩
theorem lw_p124 : lw_okq (⟨"PocketCompilerModel", "functionOf", "(I)I"⟩, 124) := ⟨⟨by decide +kernel, by decide +kernel⟩, List.mem_of_getElem? (i := 1955) (by decide +kernel), List.mem_of_getElem? (i := 2078) (by decide +kernel), List.mem_of_getElem? (i := 2079) (by decide +kernel)⟩
theorem lw_p125 : lw_okq (⟨"PocketCompilerModel", "isSign", "(II)Z"⟩, 124) := ⟨⟨by decide +kernel, by decide +kernel⟩, List.mem_of_getElem? (i := 1955) (by decide +kernel), List.mem_of_getElem? (i := 2082) (by decide +kernel), List.mem_of_getElem? (i := 2083) (by decide +kernel)⟩
theorem lw_p126 : lw_okq (⟨"PocketCompilerModel", "function0", "(I)V"⟩, 124) := ⟨⟨by decide +kernel, by decide +kernel⟩, List.mem_of_getElem? (i := 1955) (by decide +kernel), List.mem_of_getElem? (i := 2086) (by decide +kernel), List.mem_of_getElem? (i := 2087) (by decide +kernel)⟩
theorem lw_p127 : lw_okq (⟨"PocketCompilerModel", "open", "(I)V"⟩, 124) := ⟨⟨by decide +kernel, by decide +kernel⟩, List.mem_of_getElem? (i := 1955) (by decide +kernel), List.mem_of_getElem? (i := 2090) (by decide +kernel), List.mem_of_getElem? (i := 2091) (by decide +kernel)⟩
def lw_privs_8 : List (MethodName × Nat) := [(⟨"PocketCompilerModel", "number", "(I)I"⟩, 124), (⟨"PocketCompilerModel", "wordOf", "(Ljava/lang/String;II)I"⟩, 124), (⟨"PocketCompilerModel", "sign", "(I)I"⟩, 124), (⟨"PocketCompilerModel", "walk", "()V"⟩, 124), (⟨"PocketCompilerModel", "emit", "(I)I"⟩, 124), (⟨"PocketCompilerModel", "item", "()V"⟩, 124), (⟨"PocketCompilerModel", "isKey", "(I)Z"⟩, 124), (⟨"PocketCompilerModel", "bad", "()LPocketCompilerModel$Halt;"⟩, 124), (⟨"PocketCompilerModel", "fail", "(II)LPocketCompilerModel$Halt;"⟩, 124), (⟨"PocketCompilerModel", "take", "()V"⟩, 124), (⟨"PocketCompilerModel", "globalOf", "(I)I"⟩, 124), (⟨"PocketCompilerModel", "isSame", "(II)Z"⟩, 124), (⟨"PocketCompilerModel", "functionOf", "(I)I"⟩, 124), (⟨"PocketCompilerModel", "isSign", "(II)Z"⟩, 124), (⟨"PocketCompilerModel", "function0", "(I)V"⟩, 124), (⟨"PocketCompilerModel", "open", "(I)V"⟩, 124)]
theorem lw_r8 : ∀ q ∈ lw_privs_8, lw_okq q := List.forall_mem_cons.mpr ⟨lw_p112, List.forall_mem_cons.mpr ⟨lw_p113, List.forall_mem_cons.mpr ⟨lw_p114, List.forall_mem_cons.mpr ⟨lw_p115, List.forall_mem_cons.mpr ⟨lw_p116, List.forall_mem_cons.mpr ⟨lw_p117, List.forall_mem_cons.mpr ⟨lw_p118, List.forall_mem_cons.mpr ⟨lw_p119, List.forall_mem_cons.mpr ⟨lw_p120, List.forall_mem_cons.mpr ⟨lw_p121, List.forall_mem_cons.mpr ⟨lw_p122, List.forall_mem_cons.mpr ⟨lw_p123, List.forall_mem_cons.mpr ⟨lw_p124, List.forall_mem_cons.mpr ⟨lw_p125, List.forall_mem_cons.mpr ⟨lw_p126, List.forall_mem_cons.mpr ⟨lw_p127, fun _ h => absurd h List.not_mem_nil⟩⟩⟩⟩⟩⟩⟩⟩⟩⟩⟩⟩⟩⟩⟩⟩
theorem lw_p128 : lw_okq (⟨"PocketCompilerModel", "is", "(I)Z"⟩, 124) := ⟨⟨by decide +kernel, by decide +kernel⟩, List.mem_of_getElem? (i := 1955) (by decide +kernel), List.mem_of_getElem? (i := 2094) (by decide +kernel), List.mem_of_getElem? (i := 2095) (by decide +kernel)⟩
theorem lw_p129 : lw_okq (⟨"PocketCompilerModel", "opens", "()V"⟩, 124) := ⟨⟨by decide +kernel, by decide +kernel⟩, List.mem_of_getElem? (i := 1955) (by decide +kernel), List.mem_of_getElem? (i := 2098) (by decide +kernel), List.mem_of_getElem? (i := 2099) (by decide +kernel)⟩
theorem lw_p130 : lw_okq (⟨"PocketCompilerModel", "local", "(I)I"⟩, 124) := ⟨⟨by decide +kernel, by decide +kernel⟩, List.mem_of_getElem? (i := 1955) (by decide +kernel), List.mem_of_getElem? (i := 2102) (by decide +kernel), List.mem_of_getElem? (i := 2103) (by decide +kernel)⟩
theorem lw_p131 : lw_okq (⟨"PocketCompilerModel", "slots", "(I)I"⟩, 124) := ⟨⟨by decide +kernel, by decide +kernel⟩, List.mem_of_getElem? (i := 1955) (by decide +kernel), List.mem_of_getElem? (i := 2106) (by decide +kernel), List.mem_of_getElem? (i := 2107) (by decide +kernel)⟩
theorem lw_p132 : lw_okq (⟨"PocketCompilerModel", "close", "(I)V"⟩, 124) := ⟨⟨by decide +kernel, by decide +kernel⟩, List.mem_of_getElem? (i := 1955) (by decide +kernel), List.mem_of_getElem? (i := 2110) (by decide +kernel), List.mem_of_getElem? (i := 2111) (by decide +kernel)⟩
theorem lw_p133 : lw_okq (⟨"PocketCompilerModel", "need", "(I)V"⟩, 124) := ⟨⟨by decide +kernel, by decide +kernel⟩, List.mem_of_getElem? (i := 1955) (by decide +kernel), List.mem_of_getElem? (i := 2114) (by decide +kernel), List.mem_of_getElem? (i := 2115) (by decide +kernel)⟩
theorem lw_p134 : lw_okq (⟨"PocketCompilerModel", "body0", "()V"⟩, 124) := ⟨⟨by decide +kernel, by decide +kernel⟩, List.mem_of_getElem? (i := 1955) (by decide +kernel), List.mem_of_getElem? (i := 2127) (by decide +kernel), List.mem_of_getElem? (i := 2128) (by decide +kernel)⟩
theorem lw_p135 : lw_okq (⟨"PocketCompilerModel", "statement", "()V"⟩, 124) := ⟨⟨by decide +kernel, by decide +kernel⟩, List.mem_of_getElem? (i := 1955) (by decide +kernel), List.mem_of_getElem? (i := 2131) (by decide +kernel), List.mem_of_getElem? (i := 2132) (by decide +kernel)⟩
theorem lw_p136 : lw_okq (⟨"PocketCompilerModel", "block", "()V"⟩, 124) := ⟨⟨by decide +kernel, by decide +kernel⟩, List.mem_of_getElem? (i := 1955) (by decide +kernel), List.mem_of_getElem? (i := 2135) (by decide +kernel), List.mem_of_getElem? (i := 2136) (by decide +kernel)⟩
theorem lw_p137 : lw_okq (⟨"PocketCompilerModel", "declared", "()V"⟩, 124) := ⟨⟨by decide +kernel, by decide +kernel⟩, List.mem_of_getElem? (i := 1955) (by decide +kernel), List.mem_of_getElem? (i := 2139) (by decide +kernel), List.mem_of_getElem? (i := 2140) (by decide +kernel)⟩
theorem lw_p138 : lw_okq (⟨"PocketCompilerModel", "expression", "()V"⟩, 124) := ⟨⟨by decide +kernel, by decide +kernel⟩, List.mem_of_getElem? (i := 1955) (by decide +kernel), List.mem_of_getElem? (i := 2143) (by decide +kernel), List.mem_of_getElem? (i := 2144) (by decide +kernel)⟩
theorem lw_p139 : lw_okq (⟨"PocketCompilerModel", "named", "(Z)V"⟩, 124) := ⟨⟨by decide +kernel, by decide +kernel⟩, List.mem_of_getElem? (i := 1955) (by decide +kernel), List.mem_of_getElem? (i := 2147) (by decide +kernel), List.mem_of_getElem? (i := 2148) (by decide +kernel)⟩
theorem lw_p140 : lw_okq (⟨"PocketCompilerModel", "index", "(I)V"⟩, 124) := ⟨⟨by decide +kernel, by decide +kernel⟩, List.mem_of_getElem? (i := 1955) (by decide +kernel), List.mem_of_getElem? (i := 2151) (by decide +kernel), List.mem_of_getElem? (i := 2152) (by decide +kernel)⟩
theorem lw_p141 : lw_okq (⟨"PocketCompilerModel", "fix", "(III)V"⟩, 124) := ⟨⟨by decide +kernel, by decide +kernel⟩, List.mem_of_getElem? (i := 1955) (by decide +kernel), List.mem_of_getElem? (i := 2167) (by decide +kernel), List.mem_of_getElem? (i := 2168) (by decide +kernel)⟩
theorem lw_p142 : lw_okq (⟨"PocketCompilerModel", "say", "(II)I"⟩, 124) := ⟨⟨by decide +kernel, by decide +kernel⟩, List.mem_of_getElem? (i := 1955) (by decide +kernel), List.mem_of_getElem? (i := 2174) (by decide +kernel), List.mem_of_getElem? (i := 2175) (by decide +kernel)⟩
theorem lw_p143 : lw_okq (⟨"PocketCompilerModel", "setting", "()I"⟩, 124) := ⟨⟨by decide +kernel, by decide +kernel⟩, List.mem_of_getElem? (i := 1955) (by decide +kernel), List.mem_of_getElem? (i := 2178) (by decide +kernel), List.mem_of_getElem? (i := 2179) (by decide +kernel)⟩
def lw_privs_9 : List (MethodName × Nat) := [(⟨"PocketCompilerModel", "is", "(I)Z"⟩, 124), (⟨"PocketCompilerModel", "opens", "()V"⟩, 124), (⟨"PocketCompilerModel", "local", "(I)I"⟩, 124), (⟨"PocketCompilerModel", "slots", "(I)I"⟩, 124), (⟨"PocketCompilerModel", "close", "(I)V"⟩, 124), (⟨"PocketCompilerModel", "need", "(I)V"⟩, 124), (⟨"PocketCompilerModel", "body0", "()V"⟩, 124), (⟨"PocketCompilerModel", "statement", "()V"⟩, 124), (⟨"PocketCompilerModel", "block", "()V"⟩, 124), (⟨"PocketCompilerModel", "declared", "()V"⟩, 124), (⟨"PocketCompilerModel", "expression", "()V"⟩, 124), (⟨"PocketCompilerModel", "named", "(Z)V"⟩, 124), (⟨"PocketCompilerModel", "index", "(I)V"⟩, 124), (⟨"PocketCompilerModel", "fix", "(III)V"⟩, 124), (⟨"PocketCompilerModel", "say", "(II)I"⟩, 124), (⟨"PocketCompilerModel", "setting", "()I"⟩, 124)]
theorem lw_r9 : ∀ q ∈ lw_privs_9, lw_okq q := List.forall_mem_cons.mpr ⟨lw_p128, List.forall_mem_cons.mpr ⟨lw_p129, List.forall_mem_cons.mpr ⟨lw_p130, List.forall_mem_cons.mpr ⟨lw_p131, List.forall_mem_cons.mpr ⟨lw_p132, List.forall_mem_cons.mpr ⟨lw_p133, List.forall_mem_cons.mpr ⟨lw_p134, List.forall_mem_cons.mpr ⟨lw_p135, List.forall_mem_cons.mpr ⟨lw_p136, List.forall_mem_cons.mpr ⟨lw_p137, List.forall_mem_cons.mpr ⟨lw_p138, List.forall_mem_cons.mpr ⟨lw_p139, List.forall_mem_cons.mpr ⟨lw_p140, List.forall_mem_cons.mpr ⟨lw_p141, List.forall_mem_cons.mpr ⟨lw_p142, List.forall_mem_cons.mpr ⟨lw_p143, fun _ h => absurd h List.not_mem_nil⟩⟩⟩⟩⟩⟩⟩⟩⟩⟩⟩⟩⟩⟩⟩⟩
theorem lw_p144 : lw_okq (⟨"PocketCompilerModel", "sets", "(IIZI)V"⟩, 124) := ⟨⟨by decide +kernel, by decide +kernel⟩, List.mem_of_getElem? (i := 1955) (by decide +kernel), List.mem_of_getElem? (i := 2185) (by decide +kernel), List.mem_of_getElem? (i := 2186) (by decide +kernel)⟩
theorem lw_p145 : lw_okq (⟨"PocketCompilerModel", "remember", "(I)V"⟩, 124) := ⟨⟨by decide +kernel, by decide +kernel⟩, List.mem_of_getElem? (i := 1955) (by decide +kernel), List.mem_of_getElem? (i := 2189) (by decide +kernel), List.mem_of_getElem? (i := 2190) (by decide +kernel)⟩
theorem lw_p146 : lw_okq (⟨"PocketCompilerModel", "fetch", "(II)V"⟩, 124) := ⟨⟨by decide +kernel, by decide +kernel⟩, List.mem_of_getElem? (i := 1955) (by decide +kernel), List.mem_of_getElem? (i := 2193) (by decide +kernel), List.mem_of_getElem? (i := 2194) (by decide +kernel)⟩
theorem lw_p147 : lw_okq (⟨"PocketCompilerModel", "operate", "(I)V"⟩, 124) := ⟨⟨by decide +kernel, by decide +kernel⟩, List.mem_of_getElem? (i := 1955) (by decide +kernel), List.mem_of_getElem? (i := 2197) (by decide +kernel), List.mem_of_getElem? (i := 2198) (by decide +kernel)⟩
theorem lw_p148 : lw_okq (⟨"PocketCompilerModel", "store", "(II)V"⟩, 124) := ⟨⟨by decide +kernel, by decide +kernel⟩, List.mem_of_getElem? (i := 1955) (by decide +kernel), List.mem_of_getElem? (i := 2201) (by decide +kernel), List.mem_of_getElem? (i := 2202) (by decide +kernel)⟩
theorem lw_p149 : lw_okq (⟨"PocketCompilerModel", "choice", "(Z)V"⟩, 124) := ⟨⟨by decide +kernel, by decide +kernel⟩, List.mem_of_getElem? (i := 1955) (by decide +kernel), List.mem_of_getElem? (i := 2205) (by decide +kernel), List.mem_of_getElem? (i := 2206) (by decide +kernel)⟩
theorem lw_p150 : lw_okq (⟨"PocketCompilerModel", "joined", "(IZ)V"⟩, 124) := ⟨⟨by decide +kernel, by decide +kernel⟩, List.mem_of_getElem? (i := 1955) (by decide +kernel), List.mem_of_getElem? (i := 2209) (by decide +kernel), List.mem_of_getElem? (i := 2210) (by decide +kernel)⟩
theorem lw_p151 : lw_okq (⟨"PocketCompilerModel", "operand", "()V"⟩, 124) := ⟨⟨by decide +kernel, by decide +kernel⟩, List.mem_of_getElem? (i := 1955) (by decide +kernel), List.mem_of_getElem? (i := 2213) (by decide +kernel), List.mem_of_getElem? (i := 2214) (by decide +kernel)⟩
theorem lw_p152 : lw_okq (⟨"PocketCompilerModel", "loads", "(I)V"⟩, 124) := ⟨⟨by decide +kernel, by decide +kernel⟩, List.mem_of_getElem? (i := 1955) (by decide +kernel), List.mem_of_getElem? (i := 2218) (by decide +kernel), List.mem_of_getElem? (i := 2219) (by decide +kernel)⟩
theorem lw_p153 : lw_okq (⟨"PocketCompilerModel", "call", "()V"⟩, 124) := ⟨⟨by decide +kernel, by decide +kernel⟩, List.mem_of_getElem? (i := 1955) (by decide +kernel), List.mem_of_getElem? (i := 2222) (by decide +kernel), List.mem_of_getElem? (i := 2223) (by decide +kernel)⟩
theorem lw_p154 : lw_okq (⟨"PocketCompilerModel", "strength", "()I"⟩, 124) := ⟨⟨by decide +kernel, by decide +kernel⟩, List.mem_of_getElem? (i := 1955) (by decide +kernel), List.mem_of_getElem? (i := 2226) (by decide +kernel), List.mem_of_getElem? (i := 2227) (by decide +kernel)⟩
theorem lw_p155 : lw_okq (⟨"PocketCompilerModel", "both", "(ZI)V"⟩, 124) := ⟨⟨by decide +kernel, by decide +kernel⟩, List.mem_of_getElem? (i := 1955) (by decide +kernel), List.mem_of_getElem? (i := 2230) (by decide +kernel), List.mem_of_getElem? (i := 2231) (by decide +kernel)⟩
theorem lw_p156 : lw_okq (⟨"PocketCompilerModel", "wait", "(I)I"⟩, 124) := ⟨⟨by decide +kernel, by decide +kernel⟩, List.mem_of_getElem? (i := 1955) (by decide +kernel), List.mem_of_getElem? (i := 2234) (by decide +kernel), List.mem_of_getElem? (i := 2235) (by decide +kernel)⟩
theorem lw_p157 : lw_okq (⟨"PocketCompilerModel", "jump", "(III)V"⟩, 124) := ⟨⟨by decide +kernel, by decide +kernel⟩, List.mem_of_getElem? (i := 1955) (by decide +kernel), List.mem_of_getElem? (i := 2238) (by decide +kernel), List.mem_of_getElem? (i := 2239) (by decide +kernel)⟩
theorem lw_p158 : lw_okq (⟨"PocketCompilerModel", "choices", "()V"⟩, 124) := ⟨⟨by decide +kernel, by decide +kernel⟩, List.mem_of_getElem? (i := 1955) (by decide +kernel), List.mem_of_getElem? (i := 2245) (by decide +kernel), List.mem_of_getElem? (i := 2246) (by decide +kernel)⟩
theorem lw_p159 : lw_okq (⟨"PocketCompilerModel", "condition", "()I"⟩, 124) := ⟨⟨by decide +kernel, by decide +kernel⟩, List.mem_of_getElem? (i := 1955) (by decide +kernel), List.mem_of_getElem? (i := 2249) (by decide +kernel), List.mem_of_getElem? (i := 2250) (by decide +kernel)⟩
def lw_privs_10 : List (MethodName × Nat) := [(⟨"PocketCompilerModel", "sets", "(IIZI)V"⟩, 124), (⟨"PocketCompilerModel", "remember", "(I)V"⟩, 124), (⟨"PocketCompilerModel", "fetch", "(II)V"⟩, 124), (⟨"PocketCompilerModel", "operate", "(I)V"⟩, 124), (⟨"PocketCompilerModel", "store", "(II)V"⟩, 124), (⟨"PocketCompilerModel", "choice", "(Z)V"⟩, 124), (⟨"PocketCompilerModel", "joined", "(IZ)V"⟩, 124), (⟨"PocketCompilerModel", "operand", "()V"⟩, 124), (⟨"PocketCompilerModel", "loads", "(I)V"⟩, 124), (⟨"PocketCompilerModel", "call", "()V"⟩, 124), (⟨"PocketCompilerModel", "strength", "()I"⟩, 124), (⟨"PocketCompilerModel", "both", "(ZI)V"⟩, 124), (⟨"PocketCompilerModel", "wait", "(I)I"⟩, 124), (⟨"PocketCompilerModel", "jump", "(III)V"⟩, 124), (⟨"PocketCompilerModel", "choices", "()V"⟩, 124), (⟨"PocketCompilerModel", "condition", "()I"⟩, 124)]
theorem lw_r10 : ∀ q ∈ lw_privs_10, lw_okq q := List.forall_mem_cons.mpr ⟨lw_p144, List.forall_mem_cons.mpr ⟨lw_p145, List.forall_mem_cons.mpr ⟨lw_p146, List.forall_mem_cons.mpr ⟨lw_p147, List.forall_mem_cons.mpr ⟨lw_p148, List.forall_mem_cons.mpr ⟨lw_p149, List.forall_mem_cons.mpr ⟨lw_p150, List.forall_mem_cons.mpr ⟨lw_p151, List.forall_mem_cons.mpr ⟨lw_p152, List.forall_mem_cons.mpr ⟨lw_p153, List.forall_mem_cons.mpr ⟨lw_p154, List.forall_mem_cons.mpr ⟨lw_p155, List.forall_mem_cons.mpr ⟨lw_p156, List.forall_mem_cons.mpr ⟨lw_p157, List.forall_mem_cons.mpr ⟨lw_p158, List.forall_mem_cons.mpr ⟨lw_p159, fun _ h => absurd h List.not_mem_nil⟩⟩⟩⟩⟩⟩⟩⟩⟩⟩⟩⟩⟩⟩⟩⟩
theorem lw_p160 : lw_okq (⟨"PocketCompilerModel", "unlessTrue", "()I"⟩, 124) := ⟨⟨by decide +kernel, by decide +kernel⟩, List.mem_of_getElem? (i := 1955) (by decide +kernel), List.mem_of_getElem? (i := 2253) (by decide +kernel), List.mem_of_getElem? (i := 2254) (by decide +kernel)⟩
theorem lw_p161 : lw_okq (⟨"PocketCompilerModel", "part", "()V"⟩, 124) := ⟨⟨by decide +kernel, by decide +kernel⟩, List.mem_of_getElem? (i := 1955) (by decide +kernel), List.mem_of_getElem? (i := 2257) (by decide +kernel), List.mem_of_getElem? (i := 2258) (by decide +kernel)⟩
theorem lw_p162 : lw_okq (⟨"PocketCompilerModel", "rounds", "()V"⟩, 124) := ⟨⟨by decide +kernel, by decide +kernel⟩, List.mem_of_getElem? (i := 1955) (by decide +kernel), List.mem_of_getElem? (i := 2261) (by decide +kernel), List.mem_of_getElem? (i := 2262) (by decide +kernel)⟩
theorem lw_p163 : lw_okq (⟨"PocketCompilerModel", "body", "(II)V"⟩, 124) := ⟨⟨by decide +kernel, by decide +kernel⟩, List.mem_of_getElem? (i := 1955) (by decide +kernel), List.mem_of_getElem? (i := 2265) (by decide +kernel), List.mem_of_getElem? (i := 2266) (by decide +kernel)⟩
theorem lw_p164 : lw_okq (⟨"PocketCompilerModel", "ends", "()V"⟩, 124) := ⟨⟨by decide +kernel, by decide +kernel⟩, List.mem_of_getElem? (i := 1955) (by decide +kernel), List.mem_of_getElem? (i := 2269) (by decide +kernel), List.mem_of_getElem? (i := 2270) (by decide +kernel)⟩
theorem lw_p165 : lw_okq (⟨"PocketCompilerModel", "land", "(II)V"⟩, 124) := ⟨⟨by decide +kernel, by decide +kernel⟩, List.mem_of_getElem? (i := 1955) (by decide +kernel), List.mem_of_getElem? (i := 2273) (by decide +kernel), List.mem_of_getElem? (i := 2274) (by decide +kernel)⟩
theorem lw_p166 : lw_okq (⟨"PocketCompilerModel", "arrive", "(II)V"⟩, 124) := ⟨⟨by decide +kernel, by decide +kernel⟩, List.mem_of_getElem? (i := 1955) (by decide +kernel), List.mem_of_getElem? (i := 2277) (by decide +kernel), List.mem_of_getElem? (i := 2278) (by decide +kernel)⟩
theorem lw_p167 : lw_okq (⟨"PocketCompilerModel", "doing", "()V"⟩, 124) := ⟨⟨by decide +kernel, by decide +kernel⟩, List.mem_of_getElem? (i := 1955) (by decide +kernel), List.mem_of_getElem? (i := 2281) (by decide +kernel), List.mem_of_getElem? (i := 2282) (by decide +kernel)⟩
theorem lw_p168 : lw_okq (⟨"PocketCompilerModel", "counting", "()V"⟩, 124) := ⟨⟨by decide +kernel, by decide +kernel⟩, List.mem_of_getElem? (i := 1955) (by decide +kernel), List.mem_of_getElem? (i := 2285) (by decide +kernel), List.mem_of_getElem? (i := 2286) (by decide +kernel)⟩
theorem lw_p169 : lw_okq (⟨"PocketCompilerModel", "leaving", "()V"⟩, 124) := ⟨⟨by decide +kernel, by decide +kernel⟩, List.mem_of_getElem? (i := 1955) (by decide +kernel), List.mem_of_getElem? (i := 2289) (by decide +kernel), List.mem_of_getElem? (i := 2290) (by decide +kernel)⟩
theorem lw_p170 : lw_okq (⟨"PocketCompilerModel", "returning", "()V"⟩, 124) := ⟨⟨by decide +kernel, by decide +kernel⟩, List.mem_of_getElem? (i := 1955) (by decide +kernel), List.mem_of_getElem? (i := 2293) (by decide +kernel), List.mem_of_getElem? (i := 2294) (by decide +kernel)⟩
theorem lw_p171 : lw_okq (⟨"PocketCompilerModel", "plain", "()V"⟩, 124) := ⟨⟨by decide +kernel, by decide +kernel⟩, List.mem_of_getElem? (i := 1955) (by decide +kernel), List.mem_of_getElem? (i := 2297) (by decide +kernel), List.mem_of_getElem? (i := 2298) (by decide +kernel)⟩
theorem lw_p172 : lw_okq (⟨"PocketCompilerModel", "multiplying", "()V"⟩, 124) := ⟨⟨by decide +kernel, by decide +kernel⟩, List.mem_of_getElem? (i := 1955) (by decide +kernel), List.mem_of_getElem? (i := 2302) (by decide +kernel), List.mem_of_getElem? (i := 2303) (by decide +kernel)⟩
theorem lw_p173 : lw_okq (⟨"PocketCompilerModel", "dividing", "()V"⟩, 124) := ⟨⟨by decide +kernel, by decide +kernel⟩, List.mem_of_getElem? (i := 1955) (by decide +kernel), List.mem_of_getElem? (i := 2306) (by decide +kernel), List.mem_of_getElem? (i := 2307) (by decide +kernel)⟩
theorem lw_p174 : lw_okq (⟨"PocketCompilerModel", "addresses", "()V"⟩, 124) := ⟨⟨by decide +kernel, by decide +kernel⟩, List.mem_of_getElem? (i := 1955) (by decide +kernel), List.mem_of_getElem? (i := 2310) (by decide +kernel), List.mem_of_getElem? (i := 2311) (by decide +kernel)⟩
theorem lw_p175 : lw_okq (⟨"PocketCompilerModel", "accept", "()V"⟩, 124) := ⟨⟨by decide +kernel, by decide +kernel⟩, List.mem_of_getElem? (i := 1955) (by decide +kernel), List.mem_of_getElem? (i := 2314) (by decide +kernel), List.mem_of_getElem? (i := 2315) (by decide +kernel)⟩
def lw_privs_11 : List (MethodName × Nat) := [(⟨"PocketCompilerModel", "unlessTrue", "()I"⟩, 124), (⟨"PocketCompilerModel", "part", "()V"⟩, 124), (⟨"PocketCompilerModel", "rounds", "()V"⟩, 124), (⟨"PocketCompilerModel", "body", "(II)V"⟩, 124), (⟨"PocketCompilerModel", "ends", "()V"⟩, 124), (⟨"PocketCompilerModel", "land", "(II)V"⟩, 124), (⟨"PocketCompilerModel", "arrive", "(II)V"⟩, 124), (⟨"PocketCompilerModel", "doing", "()V"⟩, 124), (⟨"PocketCompilerModel", "counting", "()V"⟩, 124), (⟨"PocketCompilerModel", "leaving", "()V"⟩, 124), (⟨"PocketCompilerModel", "returning", "()V"⟩, 124), (⟨"PocketCompilerModel", "plain", "()V"⟩, 124), (⟨"PocketCompilerModel", "multiplying", "()V"⟩, 124), (⟨"PocketCompilerModel", "dividing", "()V"⟩, 124), (⟨"PocketCompilerModel", "addresses", "()V"⟩, 124), (⟨"PocketCompilerModel", "accept", "()V"⟩, 124)]
theorem lw_r11 : ∀ q ∈ lw_privs_11, lw_okq q := List.forall_mem_cons.mpr ⟨lw_p160, List.forall_mem_cons.mpr ⟨lw_p161, List.forall_mem_cons.mpr ⟨lw_p162, List.forall_mem_cons.mpr ⟨lw_p163, List.forall_mem_cons.mpr ⟨lw_p164, List.forall_mem_cons.mpr ⟨lw_p165, List.forall_mem_cons.mpr ⟨lw_p166, List.forall_mem_cons.mpr ⟨lw_p167, List.forall_mem_cons.mpr ⟨lw_p168, List.forall_mem_cons.mpr ⟨lw_p169, List.forall_mem_cons.mpr ⟨lw_p170, List.forall_mem_cons.mpr ⟨lw_p171, List.forall_mem_cons.mpr ⟨lw_p172, List.forall_mem_cons.mpr ⟨lw_p173, List.forall_mem_cons.mpr ⟨lw_p174, List.forall_mem_cons.mpr ⟨lw_p175, fun _ h => absurd h List.not_mem_nil⟩⟩⟩⟩⟩⟩⟩⟩⟩⟩⟩⟩⟩⟩⟩⟩
theorem lw_p176 : lw_okq (⟨"PocketCompilerModel", "isTape", "(II)Z"⟩, 124) := ⟨⟨by decide +kernel, by decide +kernel⟩, List.mem_of_getElem? (i := 1955) (by decide +kernel), List.mem_of_getElem? (i := 2715) (by decide +kernel), List.mem_of_getElem? (i := 2716) (by decide +kernel)⟩
theorem lw_p177 : lw_okq (⟨"PocketCompilerModel", "doStep", "()V"⟩, 124) := ⟨⟨by decide +kernel, by decide +kernel⟩, List.mem_of_getElem? (i := 1955) (by decide +kernel), List.mem_of_getElem? (i := 2735) (by decide +kernel), List.mem_of_getElem? (i := 2736) (by decide +kernel)⟩
theorem lw_p178 : lw_okq (⟨"PocketCompilerModel", "isIn", "(II)Z"⟩, 124) := ⟨⟨by decide +kernel, by decide +kernel⟩, List.mem_of_getElem? (i := 1955) (by decide +kernel), List.mem_of_getElem? (i := 2739) (by decide +kernel), List.mem_of_getElem? (i := 2740) (by decide +kernel)⟩
theorem lw_p179 : lw_okq (⟨"PocketCompilerModel", "goes", "(II)V"⟩, 124) := ⟨⟨by decide +kernel, by decide +kernel⟩, List.mem_of_getElem? (i := 1955) (by decide +kernel), List.mem_of_getElem? (i := 2745) (by decide +kernel), List.mem_of_getElem? (i := 2746) (by decide +kernel)⟩
theorem lw_p180 : lw_okq (⟨"PocketCompilerModel", "jumps", "(II)V"⟩, 124) := ⟨⟨by decide +kernel, by decide +kernel⟩, List.mem_of_getElem? (i := 1955) (by decide +kernel), List.mem_of_getElem? (i := 2752) (by decide +kernel), List.mem_of_getElem? (i := 2753) (by decide +kernel)⟩
theorem lw_p181 : lw_okq (⟨"PocketCompilerModel", "branches", "(IIII)V"⟩, 124) := ⟨⟨by decide +kernel, by decide +kernel⟩, List.mem_of_getElem? (i := 1955) (by decide +kernel), List.mem_of_getElem? (i := 2756) (by decide +kernel), List.mem_of_getElem? (i := 2757) (by decide +kernel)⟩
theorem lw_p182 : lw_okq (⟨"PocketCompilerModel", "reads", "(IIII)V"⟩, 124) := ⟨⟨by decide +kernel, by decide +kernel⟩, List.mem_of_getElem? (i := 1955) (by decide +kernel), List.mem_of_getElem? (i := 2764) (by decide +kernel), List.mem_of_getElem? (i := 2765) (by decide +kernel)⟩
theorem lw_p183 : lw_okq (⟨"PocketCompilerModel", "byteAt", "(I)I"⟩, 124) := ⟨⟨by decide +kernel, by decide +kernel⟩, List.mem_of_getElem? (i := 1955) (by decide +kernel), List.mem_of_getElem? (i := 2768) (by decide +kernel), List.mem_of_getElem? (i := 2769) (by decide +kernel)⟩
theorem lw_p184 : lw_okq (⟨"PocketCompilerModel", "writes", "(III)V"⟩, 124) := ⟨⟨by decide +kernel, by decide +kernel⟩, List.mem_of_getElem? (i := 1955) (by decide +kernel), List.mem_of_getElem? (i := 2772) (by decide +kernel), List.mem_of_getElem? (i := 2773) (by decide +kernel)⟩
theorem lw_p185 : lw_okq (⟨"PocketCompilerModel", "setByte", "(II)V"⟩, 124) := ⟨⟨by decide +kernel, by decide +kernel⟩, List.mem_of_getElem? (i := 1955) (by decide +kernel), List.mem_of_getElem? (i := 2776) (by decide +kernel), List.mem_of_getElem? (i := 2777) (by decide +kernel)⟩
theorem lw_p186 : lw_okq (⟨"PocketCompilerModel", "byNumber", "(IIII)V"⟩, 124) := ⟨⟨by decide +kernel, by decide +kernel⟩, List.mem_of_getElem? (i := 1955) (by decide +kernel), List.mem_of_getElem? (i := 2780) (by decide +kernel), List.mem_of_getElem? (i := 2781) (by decide +kernel)⟩
theorem lw_p187 : lw_okq (⟨"PocketCompilerModel", "byRegister", "(IIIII)V"⟩, 124) := ⟨⟨by decide +kernel, by decide +kernel⟩, List.mem_of_getElem? (i := 1955) (by decide +kernel), List.mem_of_getElem? (i := 2787) (by decide +kernel), List.mem_of_getElem? (i := 2788) (by decide +kernel)⟩
theorem lw_p188 : lw_okq (⟨"PocketCompilerModel", "calls", "(I)V"⟩, 124) := ⟨⟨by decide +kernel, by decide +kernel⟩, List.mem_of_getElem? (i := 1955) (by decide +kernel), List.mem_of_getElem? (i := 2791) (by decide +kernel), List.mem_of_getElem? (i := 2792) (by decide +kernel)⟩
theorem lw_p189 : lw_okq (⟨"PocketCompilerModel", "words", "(Ljava/lang/String;)V"⟩, 124) := ⟨⟨by decide +kernel, by decide +kernel⟩, List.mem_of_getElem? (i := 1955) (by decide +kernel), List.mem_of_getElem? (i := 2874) (by decide +kernel), List.mem_of_getElem? (i := 2875) (by decide +kernel)⟩
theorem lw_p190 : lw_okq (⟨"PocketCompilerModel", "sign0", "(I)V"⟩, 124) := ⟨⟨by decide +kernel, by decide +kernel⟩, List.mem_of_getElem? (i := 1955) (by decide +kernel), List.mem_of_getElem? (i := 2878) (by decide +kernel), List.mem_of_getElem? (i := 2879) (by decide +kernel)⟩
theorem lw_p191 : lw_okq (⟨"PocketCompilerModel", "named", "(I)V"⟩, 124) := ⟨⟨by decide +kernel, by decide +kernel⟩, List.mem_of_getElem? (i := 1955) (by decide +kernel), List.mem_of_getElem? (i := 2883) (by decide +kernel), List.mem_of_getElem? (i := 2884) (by decide +kernel)⟩
def lw_privs_12 : List (MethodName × Nat) := [(⟨"PocketCompilerModel", "isTape", "(II)Z"⟩, 124), (⟨"PocketCompilerModel", "doStep", "()V"⟩, 124), (⟨"PocketCompilerModel", "isIn", "(II)Z"⟩, 124), (⟨"PocketCompilerModel", "goes", "(II)V"⟩, 124), (⟨"PocketCompilerModel", "jumps", "(II)V"⟩, 124), (⟨"PocketCompilerModel", "branches", "(IIII)V"⟩, 124), (⟨"PocketCompilerModel", "reads", "(IIII)V"⟩, 124), (⟨"PocketCompilerModel", "byteAt", "(I)I"⟩, 124), (⟨"PocketCompilerModel", "writes", "(III)V"⟩, 124), (⟨"PocketCompilerModel", "setByte", "(II)V"⟩, 124), (⟨"PocketCompilerModel", "byNumber", "(IIII)V"⟩, 124), (⟨"PocketCompilerModel", "byRegister", "(IIIII)V"⟩, 124), (⟨"PocketCompilerModel", "calls", "(I)V"⟩, 124), (⟨"PocketCompilerModel", "words", "(Ljava/lang/String;)V"⟩, 124), (⟨"PocketCompilerModel", "sign0", "(I)V"⟩, 124), (⟨"PocketCompilerModel", "named", "(I)V"⟩, 124)]
theorem lw_r12 : ∀ q ∈ lw_privs_12, lw_okq q := List.forall_mem_cons.mpr ⟨lw_p176, List.forall_mem_cons.mpr ⟨lw_p177, List.forall_mem_cons.mpr ⟨lw_p178, List.forall_mem_cons.mpr ⟨lw_p179, List.forall_mem_cons.mpr ⟨lw_p180, List.forall_mem_cons.mpr ⟨lw_p181, List.forall_mem_cons.mpr ⟨lw_p182, List.forall_mem_cons.mpr ⟨lw_p183, List.forall_mem_cons.mpr ⟨lw_p184, List.forall_mem_cons.mpr ⟨lw_p185, List.forall_mem_cons.mpr ⟨lw_p186, List.forall_mem_cons.mpr ⟨lw_p187, List.forall_mem_cons.mpr ⟨lw_p188, List.forall_mem_cons.mpr ⟨lw_p189, List.forall_mem_cons.mpr ⟨lw_p190, List.forall_mem_cons.mpr ⟨lw_p191, fun _ h => absurd h List.not_mem_nil⟩⟩⟩⟩⟩⟩⟩⟩⟩⟩⟩⟩⟩⟩⟩⟩
theorem lw_p192 : lw_okq (⟨"PocketCompilerModel", "decimal", "(I)V"⟩, 124) := ⟨⟨by decide +kernel, by decide +kernel⟩, List.mem_of_getElem? (i := 1955) (by decide +kernel), List.mem_of_getElem? (i := 2887) (by decide +kernel), List.mem_of_getElem? (i := 2888) (by decide +kernel)⟩
theorem lw_p193 : lw_okq (⟨"PocketCompilerModel", "comma", "()V"⟩, 124) := ⟨⟨by decide +kernel, by decide +kernel⟩, List.mem_of_getElem? (i := 1955) (by decide +kernel), List.mem_of_getElem? (i := 2891) (by decide +kernel), List.mem_of_getElem? (i := 2892) (by decide +kernel)⟩
theorem lw_p194 : lw_okq (⟨"PocketCompilerModel", "at", "(II)V"⟩, 124) := ⟨⟨by decide +kernel, by decide +kernel⟩, List.mem_of_getElem? (i := 1955) (by decide +kernel), List.mem_of_getElem? (i := 2895) (by decide +kernel), List.mem_of_getElem? (i := 2896) (by decide +kernel)⟩
theorem lw_p195 : lw_okq (⟨"PocketCompilerModel", "three", "(II)V"⟩, 124) := ⟨⟨by decide +kernel, by decide +kernel⟩, List.mem_of_getElem? (i := 1955) (by decide +kernel), List.mem_of_getElem? (i := 2899) (by decide +kernel), List.mem_of_getElem? (i := 2900) (by decide +kernel)⟩
theorem lw_p196 : lw_okq (⟨"PocketCompilerModel", "push", "(I)V"⟩, 124) := ⟨⟨by decide +kernel, by decide +kernel⟩, List.mem_of_getElem? (i := 1955) (by decide +kernel), List.mem_of_getElem? (i := 2911) (by decide +kernel), List.mem_of_getElem? (i := 2912) (by decide +kernel)⟩
theorem lw_p197 : lw_okq (⟨"PocketCompilerModel", "enter", "(I)I"⟩, 124) := ⟨⟨by decide +kernel, by decide +kernel⟩, List.mem_of_getElem? (i := 1955) (by decide +kernel), List.mem_of_getElem? (i := 2915) (by decide +kernel), List.mem_of_getElem? (i := 2916) (by decide +kernel)⟩
theorem lw_p198 : lw_okq (⟨"PocketCompilerModel", "turn", "()I"⟩, 124) := ⟨⟨by decide +kernel, by decide +kernel⟩, List.mem_of_getElem? (i := 1955) (by decide +kernel), List.mem_of_getElem? (i := 2919) (by decide +kernel), List.mem_of_getElem? (i := 2920) (by decide +kernel)⟩
theorem lw_p199 : lw_okq (⟨"PocketCompilerModel", "obey", "()I"⟩, 124) := ⟨⟨by decide +kernel, by decide +kernel⟩, List.mem_of_getElem? (i := 1955) (by decide +kernel), List.mem_of_getElem? (i := 2923) (by decide +kernel), List.mem_of_getElem? (i := 2924) (by decide +kernel)⟩
theorem lw_p200 : lw_okq (⟨"PocketCompilerModel", "pop", "()I"⟩, 124) := ⟨⟨by decide +kernel, by decide +kernel⟩, List.mem_of_getElem? (i := 1955) (by decide +kernel), List.mem_of_getElem? (i := 2927) (by decide +kernel), List.mem_of_getElem? (i := 2928) (by decide +kernel)⟩
theorem lw_p201 : lw_okq (⟨"PocketCompilerModel", "leave", "()I"⟩, 124) := ⟨⟨by decide +kernel, by decide +kernel⟩, List.mem_of_getElem? (i := 1955) (by decide +kernel), List.mem_of_getElem? (i := 2931) (by decide +kernel), List.mem_of_getElem? (i := 2932) (by decide +kernel)⟩
theorem lw_p202 : lw_okq (⟨"PocketCompilerModel", "operates", "(I)I"⟩, 124) := ⟨⟨by decide +kernel, by decide +kernel⟩, List.mem_of_getElem? (i := 1955) (by decide +kernel), List.mem_of_getElem? (i := 2935) (by decide +kernel), List.mem_of_getElem? (i := 2936) (by decide +kernel)⟩
theorem lw_p203 : lw_okq (⟨"PocketCompilerModel", "others", "(II)V"⟩, 124) := ⟨⟨by decide +kernel, by decide +kernel⟩, List.mem_of_getElem? (i := 1955) (by decide +kernel), List.mem_of_getElem? (i := 2942) (by decide +kernel), List.mem_of_getElem? (i := 2943) (by decide +kernel)⟩
def lw_privs_13 : List (MethodName × Nat) := [(⟨"PocketCompilerModel", "decimal", "(I)V"⟩, 124), (⟨"PocketCompilerModel", "comma", "()V"⟩, 124), (⟨"PocketCompilerModel", "at", "(II)V"⟩, 124), (⟨"PocketCompilerModel", "three", "(II)V"⟩, 124), (⟨"PocketCompilerModel", "push", "(I)V"⟩, 124), (⟨"PocketCompilerModel", "enter", "(I)I"⟩, 124), (⟨"PocketCompilerModel", "turn", "()I"⟩, 124), (⟨"PocketCompilerModel", "obey", "()I"⟩, 124), (⟨"PocketCompilerModel", "pop", "()I"⟩, 124), (⟨"PocketCompilerModel", "leave", "()I"⟩, 124), (⟨"PocketCompilerModel", "operates", "(I)I"⟩, 124), (⟨"PocketCompilerModel", "others", "(II)V"⟩, 124)]
theorem lw_r13 : ∀ q ∈ lw_privs_13, lw_okq q := List.forall_mem_cons.mpr ⟨lw_p192, List.forall_mem_cons.mpr ⟨lw_p193, List.forall_mem_cons.mpr ⟨lw_p194, List.forall_mem_cons.mpr ⟨lw_p195, List.forall_mem_cons.mpr ⟨lw_p196, List.forall_mem_cons.mpr ⟨lw_p197, List.forall_mem_cons.mpr ⟨lw_p198, List.forall_mem_cons.mpr ⟨lw_p199, List.forall_mem_cons.mpr ⟨lw_p200, List.forall_mem_cons.mpr ⟨lw_p201, List.forall_mem_cons.mpr ⟨lw_p202, List.forall_mem_cons.mpr ⟨lw_p203, fun _ h => absurd h List.not_mem_nil⟩⟩⟩⟩⟩⟩⟩⟩⟩⟩⟩⟩
def lw_privs : List (MethodName × Nat) := lw_privs_1 ++ (lw_privs_2 ++ (lw_privs_3 ++ (lw_privs_4 ++ (lw_privs_5 ++ (lw_privs_6 ++ (lw_privs_7 ++ (lw_privs_8 ++ (lw_privs_9 ++ (lw_privs_10 ++ (lw_privs_11 ++ (lw_privs_12 ++ (lw_privs_13))))))))))))
def lw_tbl : List Cond := k2_sels lw_privs ++ tables_1
theorem lw_privs_ok : ∀ q ∈ lw_privs, lw_okq q := by
  show ∀ q ∈ lw_privs_1 ++ (lw_privs_2 ++ (lw_privs_3 ++ (lw_privs_4 ++ (lw_privs_5 ++ (lw_privs_6 ++ (lw_privs_7 ++ (lw_privs_8 ++ (lw_privs_9 ++ (lw_privs_10 ++ (lw_privs_11 ++ (lw_privs_12 ++ (lw_privs_13)))))))))))), lw_okq q
  exact List.forall_mem_append.mpr ⟨lw_r1, List.forall_mem_append.mpr ⟨lw_r2, List.forall_mem_append.mpr ⟨lw_r3, List.forall_mem_append.mpr ⟨lw_r4, List.forall_mem_append.mpr ⟨lw_r5, List.forall_mem_append.mpr ⟨lw_r6, List.forall_mem_append.mpr ⟨lw_r7, List.forall_mem_append.mpr ⟨lw_r8, List.forall_mem_append.mpr ⟨lw_r9, List.forall_mem_append.mpr ⟨lw_r10, List.forall_mem_append.mpr ⟨lw_r11, List.forall_mem_append.mpr ⟨lw_r12, lw_r13⟩⟩⟩⟩⟩⟩⟩⟩⟩⟩⟩⟩
-- ===== end of PART A; then your names; then what follows =====
end
section
/-! the word 'somebody has made an array of arrays of this type', kept under calls (my own; the printed rows below ask for it) -/
def va_AOA (ty : FieldType) (U : State) : Prop := (Cond.arrayOver (.array ty)).before #[] U = true
theorem va_AOA.of {ty : FieldType} {A : Array Value} {U : State} (h : (Cond.arrayOver (.array ty)).before A U = true) : va_AOA ty U := h
theorem va_AOA.use {ty : FieldType} {A : Array Value} {U : State} (h : va_AOA ty U) : (Cond.arrayOver (.array ty)).before A U = true := h
theorem va_AOA.moved {ty : FieldType} {u U : State} (hvm : u.vm.Alike U.vm) (h : va_AOA ty u) : va_AOA ty U := arrayOver_alikeB (s := u) hvm h
/-! ===== BEGIN words of one list among another's, by their places ===== -/
theorem goodIn_r {big : List Cond} (ws : List Cond) (ps : List Nat) (hp : ws = ps.filterMap (fun i => big[i]?)) (h : ws.all goodWord = true) : GoodIn big ws := by
  intro w hw
  have h1 := List.all_eq_true.mp h w hw
  rw [hp] at hw
  obtain ⟨i, -, hi⟩ := List.mem_filterMap.mp hw
  have hm : w ∈ big := by first | exact List.mem_of_getElem? hi | exact List.getElem?_mem hi
  exact ⟨hm, good_of_word h1⟩
theorem goodIn_app {big a b : List Cond} (ha : GoodIn big a) (hb : GoodIn big b) : GoodIn big (a ++ b) := fun w h => (List.mem_append.mp h).elim (ha w) (hb w)
theorem goodIn_ca {big a b : List Cond} {c : Cond} (ha : GoodIn big (c :: a)) (hb : GoodIn big b) : GoodIn big (c :: (a ++ b)) := fun w h => (List.mem_cons.mp h).elim (fun e => ha w (List.mem_cons.mpr (Or.inl e))) (fun h => (List.mem_append.mp h).elim (fun h => ha w (List.mem_cons.mpr (Or.inr h))) (hb w))
theorem goodIn_sub {big ws : List Cond} (hm : ∀ w ∈ ws, w ∈ big) (h : ws.all goodWord = true) : GoodIn big ws := fun w hw => ⟨hm w hw, good_of_word (List.all_eq_true.mp h w hw)⟩
/-! ===== END ===== -/

/-! ===== BEGIN new T[n][m]: the outer array a place, the inner ones among the pooled ===== -/
/-- f, but v at every address of l -/
def vr_up {α : Type} (f : Nat → α) (l : List Nat) (v : α) : Nat → α := fun a => if a ∈ l then v else f a
theorem vr_up_in {α : Type} {f : Nat → α} {l : List Nat} {v : α} {a : Nat} (h : a ∈ l) : vr_up f l v a = v := if_pos h
theorem vr_up_ne {α : Type} {f : Nat → α} {l : List Nat} {v : α} {a : Nat} (h : a ∉ l) : vr_up f l v a = f a := if_neg h
theorem vr_rows {L l : List Nat} {f : Nat → va_E} {e : va_E} (h : ∀ a, a ∈ l → a ∉ L) : va_pl L f ++ l.map (fun a => (a, e)) = va_pl (L ++ l) (vr_up f l e) := by
  unfold va_pl
  rw [List.map_append]
  congr 1
  · apply List.map_congr_left
    intro a ha
    rw [vr_up_ne (fun q => h a q ha)]
  · apply List.map_congr_left
    intro a ha
    rw [vr_up_in ha]
theorem vr_lay {X rows : va_W} {x : Nat × va_E} {pl : va_W} {D : va_G} {cl : List vw_C} {H : Heap} (hP : va_P D cl (((X ++ pl) ++ [x]) ++ rows) H) : va_P D cl ((X ++ [x]) ++ (pl ++ rows)) H := by
  rw [List.append_assoc (X ++ pl)] at hP
  have h := va_P.swap hP
  rw [← List.append_assoc X] at h
  have h2 := va_P.swap h
  rw [List.append_assoc (X ++ [x])] at h2
  exact h2
theorem vr_layD {X rows : va_W} {x : Nat × va_E} {pl : va_W} {A : Nat → Prop} (hD : va_D A (((X ++ pl) ++ [x]) ++ rows)) : va_D A ((X ++ [x]) ++ (pl ++ rows)) := by
  rw [List.append_assoc (X ++ pl)] at hD
  have h := va_D.swap hD
  rw [← List.append_assoc X] at h
  have h2 := va_D.swap h
  rw [List.append_assoc (X ++ [x])] at h2
  exact h2
theorem vr_outer (c : ClassId) (N h0 : Nat) : ∀ i : Nat, Jvm.Free.Multi.outerC c N h0 i = arrV c N (fun j => va_rf (if j < i then some (h0 + 1 + j) else none))
  | 0 => by
    show ({ cls := c, slots := Array.replicate N .null, vm := .none } : Cell) = _
    rw [arrV_new]
    refine congrArg (arrV c N) (funext fun j => ?_)
    simp [va_rf]
  | i + 1 => by
    show (Jvm.Free.Multi.outerC c N h0 i).setSlot i (.ref (h0 + 1 + i)) = _
    rw [vr_outer c N h0 i, arrV_store]
    refine congrArg (arrV c N) (funext fun j => ?_)
    by_cases e : j = i
    · subst e
      simp [updV, va_rf]
    · by_cases h : j < i
      · simp [updV, e, h, Nat.lt_succ_of_lt h]
      · simp [updV, e, h, show ¬ j < i + 1 by omega]
section VGM
variable {p : Program} {l : Launch} {e : Env} {R : Room} {s : State} {m : MethodId} {args : Array Value} {below : List Frame} {meth : Method} {c : Code} {H : Heap} {locs : List Loc} {cells slots : Nat} {Q : State → Prop}
variable {cc : ByteArray} {pc : Nat} {ls : Array Slot} {rest : List Value} {D : va_G} {cl : List vw_C} {A : Nat → Prop} {a : Nat} {tys : List (ClassId × FieldType)} {ws : va_W} {H0 : Heap}
theorem va_mna {X : va_W} {L : List Nat} {f : Nat → va_E} {cc : ByteArray} (hexec : p.tables.exec = Jvm.exec) (hb : c.code = cc) {own : String} {index : Nat} {ty : FieldType} {cy : ClassId} (hown : s.vm.findClass own = some m.cls) (hclink : (Cond.classLink own index ("[" ++ (FieldType.array ty).toString)).before args s = true) (hover : va_AOA ty s) (harr : (Cond.arrayClass ty).before args s = true) (hcy : s.vm.findClass (FieldType.array ty).toString = some cy)
    (hK : va_K D cl tys s) (hP : va_P D cl (X ++ va_pl L f) H) (hD : va_D A (X ++ va_pl L f)) (hS : va_S A H0 H locs) (hA : ∀ q, H0.size ≤ q → A q) {n k : Int32} {N' K' : Nat} {z : vp_A} (hn : ¬ n < 0) (hk : ¬ k < 0) (hN : n.toNatClampNeg = N') (hM : k.toNatClampNeg = K')
    (hb1 : N' * 4 ≤ 536870912) (hb2 : K' * componentBytes ty ≤ 536870912) (hb3 : K' ≤ 536870912) (hdf : fits ty (defaultValue ty) = true) (hdd : (defaultValue ty).isDefault = true) (hcells : cells + (1 + N') ≤ R.cells) (hslots : slots + (N' + N' * K') ≤ R.slots) (hz : ∀ c : ClassId, Jvm.Free.Multi.innerC c K' (defaultValue ty) = vp_cell c z) (hdg : decode cc pc = .ok (.multianewarray index 2, 4))
    (kk : ∀ (q : Nat) (r : Nat → Nat) (cA : ClassId) (H1 : Heap), (∀ i j : Nat, i < N' → j < N' → r i = r j → i = j) → (∀ i : Nat, i < N' → r i ∉ L) → va_K D cl (tys ++ [(cA, .array ty)]) s →
      va_P D cl ((X ++ [(q, .inl (cA, N', .inr (.inr (.inr (.inr (fun i => if i < N' then some (r i) else none))))))]) ++ va_pl (L ++ (List.range N').map r) (vr_up f ((List.range N').map r) (.inl (cy, z)))) H1 → va_D A ((X ++ [(q, .inl (cA, N', .inr (.inr (.inr (.inr (fun i => if i < N' then some (r i) else none))))))]) ++ va_pl (L ++ (List.range N').map r) (vr_up f ((List.range N').map r) (.inl (cy, z)))) → va_S A H0 H1 locs →
      W p l e R s m args below meth c H1 locs (cells + 1 + N') (slots + N' + N' * K') Q (F0 m (pc + 4) ls (.ref q :: rest))) : W p l e R s m args below meth c H locs cells slots Q (F0 m pc ls (.int k :: .int n :: rest)) := by
  subst hN
  subst hM
  intro T hT Xs
  obtain ⟨vm₁, cA, comp, -, fA, fC, hO, -, X', step⟩ := Xs.multianewarray2F hexec hown hclink (va_AOA.use hover) harr (g := F0 m pc ls (.int k :: .int n :: rest)) rfl (by rw [hb]; exact hdg) rfl hn hk hb1 hb2 hb3 hdf hdd hcells hslots
  have ec : some cy = some comp := hcy.symm.trans fC
  cases ec
  generalize hF : Jvm.Free.Multi.fill (T.setVm vm₁) cA cy n.toNatClampNeg k.toNatClampNeg (defaultValue ty) n.toNatClampNeg = F at X' step
  have hTh : (T.setVm vm₁).heap = H := hT
  obtain ⟨f1, f2, -, -⟩ := Jvm.Free.Multi.fill_facts (T.setVm vm₁) cA cy n.toNatClampNeg k.toNatClampNeg (defaultValue ty) n.toNatClampNeg
  rw [hF, hTh] at f1 f2
  have hold : ∀ x : Nat, x < H.size → F.heap[x]? = H[x]? := fun x hx => by
    have := Jvm.Free.Multi.fill_old (T.setVm vm₁) cA cy n.toNatClampNeg k.toNatClampNeg (defaultValue ty) (a := x) (by rw [hTh]; exact hx) n.toNatClampNeg
    rw [hF, hTh] at this
    exact this
  have hrow : ∀ j : Nat, j < n.toNatClampNeg → F.heap[H.size + 1 + j]? = some (vp_cell cy z) := fun j hj => by
    have := Jvm.Free.Multi.fill_inner (T.setVm vm₁) cA cy n.toNatClampNeg k.toNatClampNeg (defaultValue ty) n.toNatClampNeg j hj
    rw [hF, hTh, hz] at this
    exact this
  have hout : Jvm.Free.Multi.outerC cA n.toNatClampNeg H.size n.toNatClampNeg = vp_cell cA (n.toNatClampNeg, .inr (.inr (.inr (.inr (fun i => if i < n.toNatClampNeg then some (H.size + 1 + i) else none))))) := by
    rw [vp_cell_q]
    exact vr_outer cA n.toNatClampNeg H.size n.toNatClampNeg
  rw [hout] at f2
  have hlt : ∀ a, a ∈ L → a < H.size := fun a ha => by
    obtain ⟨k9, hk9⟩ := va_pl_get (X := X) (f := f) ha
    exact (hP k9 _ hk9).lt
  have hnl : ∀ i : Nat, i < n.toNatClampNeg → H.size + 1 + i ∉ L := fun i _ h => by
    have := hlt _ h
    omega
  have hnm : ∀ a, a ∈ (List.range n.toNatClampNeg).map (fun i => H.size + 1 + i) → a ∉ L := fun a ha h => by
    obtain ⟨i, -, rfl⟩ := List.mem_map.mp ha
    have := hlt _ h
    omega
  have hP0 : va_P D cl (X ++ va_pl L f) F.heap := hP.kept (fun k9 x hx => hold x.1 ((hP k9 x hx).lt))
  have hP1 : va_P D cl ((X ++ va_pl L f) ++ [(H.size, .inl (cA, n.toNatClampNeg, .inr (.inr (.inr (.inr (fun i => if i < n.toNatClampNeg then some (H.size + 1 + i) else none))))))]) F.heap := hP0.app (fun k9 x hx => by
    have h0 : k9 < 1 := (List.getElem?_eq_some_iff.mp hx).1
    rw [show k9 = 0 by omega] at hx
    cases hx
    exact f2)
  have hP2 : va_P D cl (((X ++ va_pl L f) ++ [(H.size, .inl (cA, n.toNatClampNeg, .inr (.inr (.inr (.inr (fun i => if i < n.toNatClampNeg then some (H.size + 1 + i) else none))))))]) ++ ((List.range n.toNatClampNeg).map (fun i => H.size + 1 + i)).map (fun a => (a, .inl (cy, z)))) F.heap := hP1.app (fun k9 x hx => by
    obtain ⟨a, ha, rfl⟩ := List.mem_map.mp (List.mem_of_getElem? hx)
    obtain ⟨i, hi, rfl⟩ := List.mem_map.mp ha
    exact hrow i (List.mem_range.mp hi))
  have hD2 : va_D A (((X ++ va_pl L f) ++ [(H.size, .inl (cA, n.toNatClampNeg, .inr (.inr (.inr (.inr (fun i => if i < n.toNatClampNeg then some (H.size + 1 + i) else none))))))]) ++ ((List.range n.toNatClampNeg).map (fun i => H.size + 1 + i)).map (fun a => (a, .inl (cy, z)))) := by
    have hD1 := hD.push (e := .inl (cA, n.toNatClampNeg, .inr (.inr (.inr (.inr (fun i => if i < n.toNatClampNeg then some (H.size + 1 + i) else none)))))) hP rfl (hA _ hS.1)
    generalize hW1 : (X ++ va_pl L f) ++ [(H.size, .inl (cA, n.toNatClampNeg, .inr (.inr (.inr (.inr (fun i => if i < n.toNatClampNeg then some (H.size + 1 + i) else none))))))] = W1 at hD1 hP1 ⊢
    have hle : ∀ (k9 : Nat) (x : Nat × va_E), W1[k9]? = some x → x.1 ≤ H.size := fun k9 x hx => by
      rw [← hW1] at hx
      by_cases hl : k9 < (X ++ va_pl L f).length
      · rw [List.getElem?_append_left hl] at hx
        exact Nat.le_of_lt ((hP k9 x hx).lt)
      · rw [List.getElem?_append_right (by omega)] at hx
        have h0 : k9 - (X ++ va_pl L f).length < 1 := (List.getElem?_eq_some_iff.mp hx).1
        rw [show k9 - (X ++ va_pl L f).length = 0 by omega] at hx
        cases hx
        exact Nat.le_refl _
    have hr : ∀ (k9 : Nat) (x : Nat × va_E), (((List.range n.toNatClampNeg).map (fun i => H.size + 1 + i)).map (fun a => ((a, .inl (cy, z)) : Nat × va_E)))[k9]? = some x → x.1 = H.size + 1 + k9 := fun k9 x hx => by
      rw [List.getElem?_map, List.getElem?_map] at hx
      by_cases h9 : k9 < n.toNatClampNeg
      · rw [List.getElem?_range h9] at hx
        cases hx
        rfl
      · have hn0 : (List.range n.toNatClampNeg)[k9]? = none := List.getElem?_eq_none (by rw [List.length_range]; omega)
        rw [hn0] at hx
        cases hx
    refine ⟨fun i j x y hi hj hxy => ?_, fun k9 x hx => ?_⟩
    · by_cases h1 : i < W1.length <;> by_cases h2 : j < W1.length
      · rw [List.getElem?_append_left h1] at hi
        rw [List.getElem?_append_left h2] at hj
        exact hD1.1 i j x y hi hj hxy
      · rw [List.getElem?_append_left h1] at hi
        rw [List.getElem?_append_right (by omega)] at hj
        have := hle _ _ hi
        have := hr _ _ hj
        omega
      · rw [List.getElem?_append_right (by omega)] at hi
        rw [List.getElem?_append_left h2] at hj
        have := hle _ _ hj
        have := hr _ _ hi
        omega
      · rw [List.getElem?_append_right (by omega)] at hi hj
        have := hr _ _ hi
        have := hr _ _ hj
        omega
    · by_cases h1 : k9 < W1.length
      · rw [List.getElem?_append_left h1] at hx
        exact hD1.2 k9 x hx
      · rw [List.getElem?_append_right (by omega)] at hx
        have := hr _ _ hx
        exact hA _ (by have := hS.1; omega)
  have hAr : ArrOfT s cA (.array ty) := fun N9 z9 => by
    obtain ⟨-, k9, hk9, cm9, hkk9⟩ := (hO 0 0 0).1
    exact ⟨(fun q hq => by cases hq), k9, hk9, cm9, hkk9⟩
  have hK2 : va_K D cl (tys ++ [(cA, .array ty)]) s := ⟨hK.1, fun k9 x hx => by
    by_cases hl : k9 < tys.length
    · rw [List.getElem?_append_left hl] at hx
      exact hK.2 k9 x hx
    · rw [List.getElem?_append_right (by omega)] at hx
      have h0 : k9 - tys.length < 1 := (List.getElem?_eq_some_iff.mp hx).1
      rw [show k9 - tys.length = 0 by omega] at hx
      cases hx
      exact ⟨hAr, fA⟩⟩
  obtain ⟨t, a1, b1⟩ := kk H.size (fun i => H.size + 1 + i) cA F.heap (fun i j _ _ h => by have h9 : H.size + 1 + i = H.size + 1 + j := h; omega) hnl hK2 (by rw [← vr_rows hnm]; exact vr_lay hP2) (by rw [← vr_rows hnm]; exact vr_layD hD2) ⟨by rw [f1]; have := hS.1; omega, fun x h1 h2 => (hold x (Nat.lt_of_lt_of_le h1 hS.1)).trans (hS.2.1 x h1 h2), hS.2.2⟩ F rfl X'
  refine ⟨t, step t ?_, b1⟩
  have e : T.heap.size = H.size := by rw [hT]
  rw [e]
  exact a1
end VGM
/-! ===== END ===== -/
end
section
/-! ===== BEGIN printed: names, fields, word lists, decode rows ===== -/
def RX0 : String := "PocketCompiler$Assembler"
def TX0 : u_T := fun k => match k with
  | 0 => ("PocketCompiler$Assembler", "program", "LPocketCompiler$Program;", false)
  | 1 => ("PocketCompiler$Assembler", "memoryBytes", "I", true)
  | 2 => ("PocketCompiler$Assembler", "addresses", "[I", true)
  | 3 => ("PocketCompiler$Assembler", "size", "I", false)
  | 4 => ("PocketCompiler$Assembler", "isWriting", "Z", false)
  | 5 => ("PocketCompiler$Assembler", "hasTimes", "Z", false)
  | 6 => ("PocketCompiler$Assembler", "hasOver", "Z", false)
  | 7 => ("PocketCompiler$Assembler", "timesAddress", "I", false)
  | _ => ("PocketCompiler$Assembler", "overAddress", "I", false)
def tyX0 : Nat → FieldType := fun k => match k with
  | 0 => .object "PocketCompiler$Program"
  | 1 => .int
  | 2 => .array .int
  | 3 => .int
  | 4 => .boolean
  | 5 => .boolean
  | 6 => .boolean
  | 7 => .int
  | _ => .int
abbrev wsX00 : List Cond := u_ws RX0 TX0 9
theorem nmX0 : ∀ a, a < 9 → ∀ b, b < 9 → a ≠ b → (TX0 a).2.1 ≠ (TX0 b).2.1 := by decide +kernel
theorem tyX0_ok : ∀ k, k < 9 → parseFieldDescriptor (TX0 k).2.2.1 = some (tyX0 k) := by decide +kernel
abbrev cX0_init : ByteArray := prog_2_method_1_code
def yX0_init : MethodName := ⟨RX0, "<init>", "(LPocketCompiler$Program;I)V"⟩
abbrev cX0_assemble : ByteArray := prog_2_method_2_code
def yX0_assemble : MethodName := ⟨RX0, "assemble", "(LPocketCompiler$Program;)Z"⟩
abbrev cX0_layAll : ByteArray := prog_2_method_3_code
def yX0_layAll : MethodName := ⟨RX0, "layAll", "()V"⟩
abbrev cX0_placeGlobals : ByteArray := prog_2_method_4_code
def yX0_placeGlobals : MethodName := ⟨RX0, "placeGlobals", "()V"⟩
abbrev cX0_emit : ByteArray := prog_2_method_5_code
def yX0_emit : MethodName := ⟨RX0, "emit", "(I)V"⟩
abbrev cX0_immediate : ByteArray := prog_2_method_6_code
def yX0_immediate : MethodName := ⟨RX0, "immediate", "(IIII)V"⟩
abbrev cX0_three : ByteArray := prog_2_method_7_code
def yX0_three : MethodName := ⟨RX0, "three", "(IIII)V"⟩
abbrev cX0_storeWord : ByteArray := prog_2_method_8_code
def yX0_storeWord : MethodName := ⟨RX0, "storeWord", "(III)V"⟩
abbrev cX0_branch : ByteArray := prog_2_method_9_code
def yX0_branch : MethodName := ⟨RX0, "branch", "(IIII)V"⟩
abbrev cX0_upper : ByteArray := prog_2_method_10_code
def yX0_upper : MethodName := ⟨RX0, "upper", "(II)V"⟩
abbrev cX0_jump : ByteArray := prog_2_method_11_code
def yX0_jump : MethodName := ⟨RX0, "jump", "(II)V"⟩
abbrev cX0_halt : ByteArray := prog_2_method_12_code
def yX0_halt : MethodName := ⟨RX0, "halt", "(I)V"⟩
abbrev cX0_outside : ByteArray := prog_2_method_13_code
def yX0_outside : MethodName := ⟨RX0, "outside", "(I)V"⟩
abbrev cX0_high : ByteArray := prog_2_method_14_code
def yX0_high : MethodName := ⟨RX0, "high", "(I)I"⟩
abbrev cX0_low : ByteArray := prog_2_method_15_code
def yX0_low : MethodName := ⟨RX0, "low", "(I)I"⟩
abbrev cX0_fromFrame : ByteArray := prog_2_method_16_code
def yX0_fromFrame : MethodName := ⟨RX0, "fromFrame", "(I)I"⟩
abbrev cX0_loadSlot : ByteArray := prog_2_method_17_code
def yX0_loadSlot : MethodName := ⟨RX0, "loadSlot", "(II)V"⟩
abbrev cX0_storeSlot : ByteArray := prog_2_method_18_code
def yX0_storeSlot : MethodName := ⟨RX0, "storeSlot", "(I)V"⟩
abbrev cX0_addressOfGlobal : ByteArray := prog_2_method_19_code
def yX0_addressOfGlobal : MethodName := ⟨RX0, "addressOfGlobal", "(I)I"⟩
abbrev cX0_addressOfDeed : ByteArray := prog_2_method_20_code
def yX0_addressOfDeed : MethodName := ⟨RX0, "addressOfDeed", "(I)I"⟩
abbrev cX0_lay : ByteArray := prog_2_method_21_code
def yX0_lay : MethodName := ⟨RX0, "lay", "(III)V"⟩
abbrev cX0_layEnter : ByteArray := prog_2_method_22_code
def yX0_layEnter : MethodName := ⟨RX0, "layEnter", "(I)V"⟩
abbrev cX0_layLeave : ByteArray := prog_2_method_23_code
def yX0_layLeave : MethodName := ⟨RX0, "layLeave", "()V"⟩
abbrev cX0_layNumber : ByteArray := prog_2_method_24_code
def yX0_layNumber : MethodName := ⟨RX0, "layNumber", "(I)V"⟩
abbrev cX0_layPlace : ByteArray := prog_2_method_25_code
def yX0_layPlace : MethodName := ⟨RX0, "layPlace", "(III)V"⟩
abbrev cX0_layIndex : ByteArray := prog_2_method_26_code
def yX0_layIndex : MethodName := ⟨RX0, "layIndex", "(II)V"⟩
abbrev cX0_layJump : ByteArray := prog_2_method_27_code
def yX0_layJump : MethodName := ⟨RX0, "layJump", "(II)V"⟩
abbrev cX0_layCall : ByteArray := prog_2_method_28_code
def yX0_layCall : MethodName := ⟨RX0, "layCall", "(II)V"⟩
abbrev cX0_laySign : ByteArray := prog_2_method_29_code
def yX0_laySign : MethodName := ⟨RX0, "laySign", "(I)V"⟩
abbrev cX0_layComparison : ByteArray := prog_2_method_30_code
def yX0_layComparison : MethodName := ⟨RX0, "layComparison", "(I)V"⟩
abbrev cX0_layTimes : ByteArray := prog_2_method_31_code
def yX0_layTimes : MethodName := ⟨RX0, "layTimes", "()V"⟩
abbrev cX0_layOver : ByteArray := prog_2_method_32_code
def yX0_layOver : MethodName := ⟨RX0, "layOver", "()V"⟩
def RX1 : String := "PocketCompiler$Builder"
def TX1 : u_T := fun k => match k with
  | 0 => ("PocketCompiler$Builder", "program", "LPocketCompiler$Program;", false)
  | 1 => ("PocketCompiler$Builder", "known", "[I", true)
  | 2 => ("PocketCompiler$Builder", "knownCount", "I", false)
  | 3 => ("PocketCompiler$Builder", "blockStart", "I", false)
  | 4 => ("PocketCompiler$Builder", "putBy", "I", false)
  | 5 => ("PocketCompiler$Builder", "mostSlots", "I", false)
  | 6 => ("PocketCompiler$Builder", "labels", "[I", true)
  | 7 => ("PocketCompiler$Builder", "labelCount", "I", false)
  | 8 => ("PocketCompiler$Builder", "callNames", "[I", true)
  | 9 => ("PocketCompiler$Builder", "callPlaces", "[I", true)
  | 10 => ("PocketCompiler$Builder", "callArguments", "[I", true)
  | _ => ("PocketCompiler$Builder", "callCount", "I", false)
def tyX1 : Nat → FieldType := fun k => match k with
  | 0 => .object "PocketCompiler$Program"
  | 1 => .array .int
  | 2 => .int
  | 3 => .int
  | 4 => .int
  | 5 => .int
  | 6 => .array .int
  | 7 => .int
  | 8 => .array .int
  | 9 => .array .int
  | 10 => .array .int
  | _ => .int
abbrev wsX10 : List Cond := u_ws RX1 TX1 12
theorem nmX1 : ∀ a, a < 12 → ∀ b, b < 12 → a ≠ b → (TX1 a).2.1 ≠ (TX1 b).2.1 := by decide +kernel
theorem tyX1_ok : ∀ k, k < 12 → parseFieldDescriptor (TX1 k).2.2.1 = some (tyX1 k) := by decide +kernel
abbrev cX1_init : ByteArray := prog_3_method_1_code
def yX1_init : MethodName := ⟨RX1, "<init>", "(LPocketCompiler$Program;)V"⟩
abbrev cX1_begin : ByteArray := prog_3_method_2_code
def yX1_begin : MethodName := ⟨RX1, "begin", "(LPocketCompiler$Program;)V"⟩
abbrev cX1_beginFunction : ByteArray := prog_3_method_3_code
def yX1_beginFunction : MethodName := ⟨RX1, "beginFunction", "()V"⟩
abbrev cX1_frame : ByteArray := prog_3_method_4_code
def yX1_frame : MethodName := ⟨RX1, "frame", "()I"⟩
abbrev cX1_isToldInBlock : ByteArray := prog_3_method_5_code
def yX1_isToldInBlock : MethodName := ⟨RX1, "isToldInBlock", "(I)Z"⟩
abbrev cX1_slotNamed : ByteArray := prog_3_method_6_code
def yX1_slotNamed : MethodName := ⟨RX1, "slotNamed", "(I)I"⟩
abbrev cX1_learn : ByteArray := prog_3_method_7_code
def yX1_learn : MethodName := ⟨RX1, "learn", "(I)V"⟩
abbrev cX1_nextSlot : ByteArray := prog_3_method_8_code
def yX1_nextSlot : MethodName := ⟨RX1, "nextSlot", "()I"⟩
abbrev cX1_wantSlots : ByteArray := prog_3_method_9_code
def yX1_wantSlots : MethodName := ⟨RX1, "wantSlots", "(I)Z"⟩
abbrev cX1_add : ByteArray := prog_3_method_10_code
def yX1_add : MethodName := ⟨RX1, "add", "(III)V"⟩
abbrev cX1_newLabel : ByteArray := prog_3_method_11_code
def yX1_newLabel : MethodName := ⟨RX1, "newLabel", "()I"⟩
abbrev cX1_setLabel : ByteArray := prog_3_method_12_code
def yX1_setLabel : MethodName := ⟨RX1, "setLabel", "(I)V"⟩
abbrev cX1_addCall : ByteArray := prog_3_method_13_code
def yX1_addCall : MethodName := ⟨RX1, "addCall", "(II)I"⟩
abbrev cX1_addArgument : ByteArray := prog_3_method_14_code
def yX1_addArgument : MethodName := ⟨RX1, "addArgument", "(I)V"⟩
abbrev cX1_functionOfCall : ByteArray := prog_3_method_15_code
def yX1_functionOfCall : MethodName := ⟨RX1, "functionOfCall", "(I)I"⟩
abbrev cX1_hasItsArguments : ByteArray := prog_3_method_16_code
def yX1_hasItsArguments : MethodName := ⟨RX1, "hasItsArguments", "(I)Z"⟩
abbrev cX1_placeOfCall : ByteArray := prog_3_method_17_code
def yX1_placeOfCall : MethodName := ⟨RX1, "placeOfCall", "(I)I"⟩
abbrev cX1_link : ByteArray := prog_3_method_18_code
def yX1_link : MethodName := ⟨RX1, "link", "()V"⟩
def RX2 : String := "PocketCompiler$Expressions"
def TX2 : u_T := fun k => match k with
  | 0 => ("PocketCompiler$Expressions", "tokens", "LPocketCompiler$Tokens;", true)
  | 1 => ("PocketCompiler$Expressions", "builder", "LPocketCompiler$Builder;", true)
  | 2 => ("PocketCompiler$Expressions", "signs", "[I", true)
  | 3 => ("PocketCompiler$Expressions", "marks", "[I", true)
  | _ => ("PocketCompiler$Expressions", "top", "I", false)
def tyX2 : Nat → FieldType := fun k => match k with
  | 0 => .object "PocketCompiler$Tokens"
  | 1 => .object "PocketCompiler$Builder"
  | 2 => .array .int
  | 3 => .array .int
  | _ => .int
abbrev wsX20 : List Cond := u_ws RX2 TX2 5
theorem nmX2 : ∀ a, a < 5 → ∀ b, b < 5 → a ≠ b → (TX2 a).2.1 ≠ (TX2 b).2.1 := by decide +kernel
theorem tyX2_ok : ∀ k, k < 5 → parseFieldDescriptor (TX2 k).2.2.1 = some (tyX2 k) := by decide +kernel
abbrev cX2_init : ByteArray := prog_4_method_1_code
def yX2_init : MethodName := ⟨RX2, "<init>", "(LPocketCompiler$Tokens;LPocketCompiler$Builder;)V"⟩
abbrev cX2_begin : ByteArray := prog_4_method_2_code
def yX2_begin : MethodName := ⟨RX2, "begin", "()V"⟩
abbrev cX2_expression : ByteArray := prog_4_method_3_code
def yX2_expression : MethodName := ⟨RX2, "expression", "(Z)V"⟩
abbrev cX2_beginSign : ByteArray := prog_4_method_4_code
def yX2_beginSign : MethodName := ⟨RX2, "beginSign", "(I)V"⟩
abbrev cX2_push : ByteArray := prog_4_method_5_code
def yX2_push : MethodName := ⟨RX2, "push", "(II)V"⟩
abbrev cX2_finishSigns : ByteArray := prog_4_method_6_code
def yX2_finishSigns : MethodName := ⟨RX2, "finishSigns", "(II)V"⟩
abbrev cX2_choice : ByteArray := prog_4_method_7_code
def yX2_choice : MethodName := ⟨RX2, "choice", "()V"⟩
abbrev cX2_operand : ByteArray := prog_4_method_8_code
def yX2_operand : MethodName := ⟨RX2, "operand", "(Z)Z"⟩
abbrev cX2_unary : ByteArray := prog_4_method_9_code
def yX2_unary : MethodName := ⟨RX2, "unary", "(I)V"⟩
abbrev cX2_named : ByteArray := prog_4_method_10_code
def yX2_named : MethodName := ⟨RX2, "named", "(Z)Z"⟩
abbrev cX2_index : ByteArray := prog_4_method_11_code
def yX2_index : MethodName := ⟨RX2, "index", "(I)V"⟩
abbrev cX2_read : ByteArray := prog_4_method_12_code
def yX2_read : MethodName := ⟨RX2, "read", "(II)V"⟩
abbrev cX2_change : ByteArray := prog_4_method_13_code
def yX2_change : MethodName := ⟨RX2, "change", "(IIZ)V"⟩
abbrev cX2_changeBy : ByteArray := prog_4_method_14_code
def yX2_changeBy : MethodName := ⟨RX2, "changeBy", "(IIIZ)V"⟩
abbrev cX2_callFunction : ByteArray := prog_4_method_15_code
def yX2_callFunction : MethodName := ⟨RX2, "callFunction", "()V"⟩
abbrev cX2_argument : ByteArray := prog_4_method_16_code
def yX2_argument : MethodName := ⟨RX2, "argument", "(II)V"⟩
def RX3 : String := "PocketCompiler$Gifts"
def TX3 : u_T := fun k => match k with
  | 0 => ("PocketCompiler$Gifts", "numbers", "[I", true)
  | 1 => ("PocketCompiler$Gifts", "size", "I", false)
  | _ => ("PocketCompiler$Gifts", "used", "I", false)
def tyX3 : Nat → FieldType := fun k => match k with
  | 0 => .array .int
  | 1 => .int
  | _ => .int
abbrev wsX30 : List Cond := u_ws RX3 TX3 3
theorem nmX3 : ∀ a, a < 3 → ∀ b, b < 3 → a ≠ b → (TX3 a).2.1 ≠ (TX3 b).2.1 := by decide +kernel
theorem tyX3_ok : ∀ k, k < 3 → parseFieldDescriptor (TX3 k).2.2.1 = some (tyX3 k) := by decide +kernel
abbrev cX3_init : ByteArray := prog_5_method_1_code
def yX3_init : MethodName := ⟨RX3, "<init>", "()V"⟩
abbrev cX3_add : ByteArray := prog_5_method_2_code
def yX3_add : MethodName := ⟨RX3, "add", "(I)I"⟩
abbrev cX3_clear : ByteArray := prog_5_method_3_code
def yX3_clear : MethodName := ⟨RX3, "clear", "()I"⟩
abbrev cX3_beginAnew : ByteArray := prog_5_method_4_code
def yX3_beginAnew : MethodName := ⟨RX3, "beginAnew", "()V"⟩
abbrev cX3_next : ByteArray := prog_5_method_5_code
def yX3_next : MethodName := ⟨RX3, "next", "()I"⟩
abbrev cX3_numberAt : ByteArray := prog_5_method_6_code
def yX3_numberAt : MethodName := ⟨RX3, "numberAt", "(I)I"⟩
def RX4 : String := "PocketCompiler$Instruction"
def TX4 : u_T := fun k => match k with
  | _ => ("", "", "", false)
def tyX4 : Nat → FieldType := fun k => match k with
  | _ => .int
abbrev wsX40 : List Cond := u_ws RX4 TX4 0
theorem nmX4 : ∀ a, a < 0 → ∀ b, b < 0 → a ≠ b → (TX4 a).2.1 ≠ (TX4 b).2.1 := by decide +kernel
theorem tyX4_ok : ∀ k, k < 0 → parseFieldDescriptor (TX4 k).2.2.1 = some (tyX4 k) := by decide +kernel
abbrev cX4_kindOf : ByteArray := prog_6_method_2_code
def yX4_kindOf : MethodName := ⟨RX4, "kindOf", "(I)I"⟩
abbrev cX4_numberedKind : ByteArray := prog_6_method_3_code
def yX4_numberedKind : MethodName := ⟨RX4, "numberedKind", "(II)I"⟩
abbrev cX4_plainKind : ByteArray := prog_6_method_4_code
def yX4_plainKind : MethodName := ⟨RX4, "plainKind", "(II)I"⟩
abbrev cX4_target : ByteArray := prog_6_method_5_code
def yX4_target : MethodName := ⟨RX4, "target", "(I)I"⟩
abbrev cX4_first : ByteArray := prog_6_method_6_code
def yX4_first : MethodName := ⟨RX4, "first", "(I)I"⟩
abbrev cX4_second : ByteArray := prog_6_method_7_code
def yX4_second : MethodName := ⟨RX4, "second", "(I)I"⟩
abbrev cX4_number : ByteArray := prog_6_method_8_code
def yX4_number : MethodName := ⟨RX4, "number", "(II)I"⟩
def RX5 : String := "PocketCompiler$Parser"
def TX5 : u_T := fun k => match k with
  | 0 => ("PocketCompiler$Parser", "program", "LPocketCompiler$Program;", false)
  | 1 => ("PocketCompiler$Parser", "tokens", "LPocketCompiler$Tokens;", true)
  | 2 => ("PocketCompiler$Parser", "builder", "LPocketCompiler$Builder;", true)
  | 3 => ("PocketCompiler$Parser", "expressions", "LPocketCompiler$Expressions;", true)
  | 4 => ("PocketCompiler$Parser", "breakTo", "I", false)
  | 5 => ("PocketCompiler$Parser", "continueTo", "I", false)
  | _ => ("PocketCompiler$Parser", "returnTo", "I", false)
def tyX5 : Nat → FieldType := fun k => match k with
  | 0 => .object "PocketCompiler$Program"
  | 1 => .object "PocketCompiler$Tokens"
  | 2 => .object "PocketCompiler$Builder"
  | 3 => .object "PocketCompiler$Expressions"
  | 4 => .int
  | 5 => .int
  | _ => .int
abbrev wsX50 : List Cond := u_ws RX5 TX5 7
theorem nmX5 : ∀ a, a < 7 → ∀ b, b < 7 → a ≠ b → (TX5 a).2.1 ≠ (TX5 b).2.1 := by decide +kernel
theorem tyX5_ok : ∀ k, k < 7 → parseFieldDescriptor (TX5 k).2.2.1 = some (tyX5 k) := by decide +kernel
abbrev cX5_init : ByteArray := prog_7_method_1_code
def yX5_init : MethodName := ⟨RX5, "<init>", "(LPocketCompiler$Program;)V"⟩
abbrev cX5_readText : ByteArray := prog_7_method_2_code
def yX5_readText : MethodName := ⟨RX5, "readText", "(LPocketCompiler$Program;)V"⟩
abbrev cX5_checkCalls : ByteArray := prog_7_method_3_code
def yX5_checkCalls : MethodName := ⟨RX5, "checkCalls", "()V"⟩
abbrev cX5_headOfItem : ByteArray := prog_7_method_4_code
def yX5_headOfItem : MethodName := ⟨RX5, "headOfItem", "()I"⟩
abbrev cX5_globalItem : ByteArray := prog_7_method_5_code
def yX5_globalItem : MethodName := ⟨RX5, "globalItem", "(I)V"⟩
abbrev cX5_rowSize : ByteArray := prog_7_method_6_code
def yX5_rowSize : MethodName := ⟨RX5, "rowSize", "()I"⟩
abbrev cX5_functionItem : ByteArray := prog_7_method_7_code
def yX5_functionItem : MethodName := ⟨RX5, "functionItem", "()V"⟩
abbrev cX5_parameters : ByteArray := prog_7_method_8_code
def yX5_parameters : MethodName := ⟨RX5, "parameters", "()V"⟩
abbrev cX5_parameter : ByteArray := prog_7_method_9_code
def yX5_parameter : MethodName := ⟨RX5, "parameter", "()V"⟩
abbrev cX5_newName : ByteArray := prog_7_method_10_code
def yX5_newName : MethodName := ⟨RX5, "newName", "()I"⟩
abbrev cX5_wantSlot : ByteArray := prog_7_method_11_code
def yX5_wantSlot : MethodName := ⟨RX5, "wantSlot", "()V"⟩
abbrev cX5_stats : ByteArray := prog_7_method_12_code
def yX5_stats : MethodName := ⟨RX5, "stats", "()V"⟩
abbrev cX5_stat : ByteArray := prog_7_method_13_code
def yX5_stat : MethodName := ⟨RX5, "stat", "()V"⟩
abbrev cX5_block : ByteArray := prog_7_method_14_code
def yX5_block : MethodName := ⟨RX5, "block", "()V"⟩
abbrev cX5_innerStat : ByteArray := prog_7_method_15_code
def yX5_innerStat : MethodName := ⟨RX5, "innerStat", "()V"⟩
abbrev cX5_local : ByteArray := prog_7_method_16_code
def yX5_local : MethodName := ⟨RX5, "local", "()V"⟩
abbrev cX5_condition : ByteArray := prog_7_method_17_code
def yX5_condition : MethodName := ⟨RX5, "condition", "()V"⟩
abbrev cX5_ifStat : ByteArray := prog_7_method_18_code
def yX5_ifStat : MethodName := ⟨RX5, "ifStat", "()V"⟩
abbrev cX5_loopStat : ByteArray := prog_7_method_19_code
def yX5_loopStat : MethodName := ⟨RX5, "loopStat", "(I)V"⟩
abbrev cX5_whileRest : ByteArray := prog_7_method_20_code
def yX5_whileRest : MethodName := ⟨RX5, "whileRest", "()V"⟩
abbrev cX5_doRest : ByteArray := prog_7_method_21_code
def yX5_doRest : MethodName := ⟨RX5, "doRest", "()V"⟩
abbrev cX5_forRest : ByteArray := prog_7_method_22_code
def yX5_forRest : MethodName := ⟨RX5, "forRest", "()V"⟩
abbrev cX5_optional : ByteArray := prog_7_method_23_code
def yX5_optional : MethodName := ⟨RX5, "optional", "(I)Z"⟩
abbrev cX5_jumpStat : ByteArray := prog_7_method_24_code
def yX5_jumpStat : MethodName := ⟨RX5, "jumpStat", "(I)V"⟩
abbrev cX5_returnStat : ByteArray := prog_7_method_25_code
def yX5_returnStat : MethodName := ⟨RX5, "returnStat", "()V"⟩
def RX6 : String := "PocketCompiler$Processor"
def TX6 : u_T := fun k => match k with
  | 0 => ("PocketCompiler$Processor", "memory", "[I", true)
  | 1 => ("PocketCompiler$Processor", "registers", "[I", true)
  | 2 => ("PocketCompiler$Processor", "pc", "I", false)
  | 3 => ("PocketCompiler$Processor", "next", "I", false)
  | 4 => ("PocketCompiler$Processor", "status", "I", false)
  | 5 => ("PocketCompiler$Processor", "steps", "I", false)
  | 6 => ("PocketCompiler$Processor", "puts", "[I", true)
  | 7 => ("PocketCompiler$Processor", "putCount", "I", false)
  | _ => ("PocketCompiler$Processor", "gifts", "LPocketCompiler$Gifts;", true)
def tyX6 : Nat → FieldType := fun k => match k with
  | 0 => .array .int
  | 1 => .array .int
  | 2 => .int
  | 3 => .int
  | 4 => .int
  | 5 => .int
  | 6 => .array .int
  | 7 => .int
  | _ => .object "PocketCompiler$Gifts"
abbrev wsX60 : List Cond := u_ws RX6 TX6 9
theorem nmX6 : ∀ a, a < 9 → ∀ b, b < 9 → a ≠ b → (TX6 a).2.1 ≠ (TX6 b).2.1 := by decide +kernel
theorem tyX6_ok : ∀ k, k < 9 → parseFieldDescriptor (TX6 k).2.2.1 = some (tyX6 k) := by decide +kernel
abbrev cX6_init : ByteArray := prog_8_method_1_code
def yX6_init : MethodName := ⟨RX6, "<init>", "(ILPocketCompiler$Gifts;)V"⟩
abbrev cX6_size : ByteArray := prog_8_method_2_code
def yX6_size : MethodName := ⟨RX6, "size", "()I"⟩
abbrev cX6_valueOf : ByteArray := prog_8_method_3_code
def yX6_valueOf : MethodName := ⟨RX6, "valueOf", "(I)I"⟩
abbrev cX6_change : ByteArray := prog_8_method_4_code
def yX6_change : MethodName := ⟨RX6, "change", "(II)V"⟩
abbrev cX6_write : ByteArray := prog_8_method_5_code
def yX6_write : MethodName := ⟨RX6, "write", "(II)V"⟩
abbrev cX6_hasWord : ByteArray := prog_8_method_6_code
def yX6_hasWord : MethodName := ⟨RX6, "hasWord", "(I)Z"⟩
abbrev cX6_wordAt : ByteArray := prog_8_method_7_code
def yX6_wordAt : MethodName := ⟨RX6, "wordAt", "(I)I"⟩
abbrev cX6_layWord : ByteArray := prog_8_method_8_code
def yX6_layWord : MethodName := ⟨RX6, "layWord", "(II)V"⟩
abbrev cX6_begin : ByteArray := prog_8_method_9_code
def yX6_begin : MethodName := ⟨RX6, "begin", "(LPocketCompiler$Program;III)V"⟩
abbrev cX6_ticks : ByteArray := prog_8_method_10_code
def yX6_ticks : MethodName := ⟨RX6, "ticks", "(I)I"⟩
abbrev cX6_tick : ByteArray := prog_8_method_11_code
def yX6_tick : MethodName := ⟨RX6, "tick", "()V"⟩
abbrev cX6_perform : ByteArray := prog_8_method_12_code
def yX6_perform : MethodName := ⟨RX6, "perform", "(II)V"⟩
abbrev cX6_jump : ByteArray := prog_8_method_13_code
def yX6_jump : MethodName := ⟨RX6, "jump", "(II)V"⟩
abbrev cX6_branch : ByteArray := prog_8_method_14_code
def yX6_branch : MethodName := ⟨RX6, "branch", "(ZI)V"⟩
abbrev cX6_isTaken : ByteArray := prog_8_method_15_code
def yX6_isTaken : MethodName := ⟨RX6, "isTaken", "(III)Z"⟩
abbrev cX6_isBelow : ByteArray := prog_8_method_16_code
def yX6_isBelow : MethodName := ⟨RX6, "isBelow", "(II)Z"⟩
abbrev cX6_bytesOf : ByteArray := prog_8_method_17_code
def yX6_bytesOf : MethodName := ⟨RX6, "bytesOf", "(I)I"⟩
abbrev cX6_isReached : ByteArray := prog_8_method_18_code
def yX6_isReached : MethodName := ⟨RX6, "isReached", "(II)Z"⟩
abbrev cX6_fetch : ByteArray := prog_8_method_19_code
def yX6_fetch : MethodName := ⟨RX6, "fetch", "(III)V"⟩
abbrev cX6_store : ByteArray := prog_8_method_20_code
def yX6_store : MethodName := ⟨RX6, "store", "(III)V"⟩
abbrev cX6_numbered : ByteArray := prog_8_method_21_code
def yX6_numbered : MethodName := ⟨RX6, "numbered", "(III)I"⟩
abbrev cX6_joined : ByteArray := prog_8_method_22_code
def yX6_joined : MethodName := ⟨RX6, "joined", "(III)I"⟩
abbrev cX6_service : ByteArray := prog_8_method_23_code
def yX6_service : MethodName := ⟨RX6, "service", "()V"⟩
def RX7 : String := "PocketCompiler$Program"
def TX7 : u_T := fun k => match k with
  | 0 => ("PocketCompiler$Program", "text", "[I", true)
  | 1 => ("PocketCompiler$Program", "length", "I", false)
  | 2 => ("PocketCompiler$Program", "functions", "[[I", true)
  | 3 => ("PocketCompiler$Program", "functionCount", "I", false)
  | 4 => ("PocketCompiler$Program", "globals", "[[I", true)
  | 5 => ("PocketCompiler$Program", "globalCount", "I", false)
  | 6 => ("PocketCompiler$Program", "deeds", "[I", true)
  | 7 => ("PocketCompiler$Program", "xs", "[I", true)
  | 8 => ("PocketCompiler$Program", "ys", "[I", true)
  | 9 => ("PocketCompiler$Program", "deedCount", "I", false)
  | 10 => ("PocketCompiler$Program", "words", "[I", true)
  | 11 => ("PocketCompiler$Program", "wordCount", "I", false)
  | _ => ("PocketCompiler$Program", "limit", "I", false)
def tyX7 : Nat → FieldType := fun k => match k with
  | 0 => .array .int
  | 1 => .int
  | 2 => .array (.array .int)
  | 3 => .int
  | 4 => .array (.array .int)
  | 5 => .int
  | 6 => .array .int
  | 7 => .array .int
  | 8 => .array .int
  | 9 => .int
  | 10 => .array .int
  | 11 => .int
  | _ => .int
abbrev wsX70 : List Cond := u_ws RX7 TX7 13
theorem nmX7 : ∀ a, a < 13 → ∀ b, b < 13 → a ≠ b → (TX7 a).2.1 ≠ (TX7 b).2.1 := by decide +kernel
theorem tyX7_ok : ∀ k, k < 13 → parseFieldDescriptor (TX7 k).2.2.1 = some (tyX7 k) := by decide +kernel
abbrev cX7_init : ByteArray := prog_9_method_1_code
def yX7_init : MethodName := ⟨RX7, "<init>", "(I)V"⟩
abbrev cX7_copyText : ByteArray := prog_9_method_2_code
def yX7_copyText : MethodName := ⟨RX7, "copyText", "([II)V"⟩
abbrev cX7_clear : ByteArray := prog_9_method_3_code
def yX7_clear : MethodName := ⟨RX7, "clear", "()V"⟩
abbrev cX7_byteAt : ByteArray := prog_9_method_4_code
def yX7_byteAt : MethodName := ⟨RX7, "byteAt", "(I)I"⟩
abbrev cX7_nameBytes : ByteArray := prog_9_method_5_code
def yX7_nameBytes : MethodName := ⟨RX7, "nameBytes", "(I)I"⟩
abbrev cX7_isNameAt : ByteArray := prog_9_method_6_code
def yX7_isNameAt : MethodName := ⟨RX7, "isNameAt", "(I[II)Z"⟩
abbrev cX7_functionFact : ByteArray := prog_9_method_7_code
def yX7_functionFact : MethodName := ⟨RX7, "functionFact", "(II)I"⟩
abbrev cX7_globalFact : ByteArray := prog_9_method_8_code
def yX7_globalFact : MethodName := ⟨RX7, "globalFact", "(II)I"⟩
abbrev cX7_changeFunction : ByteArray := prog_9_method_9_code
def yX7_changeFunction : MethodName := ⟨RX7, "changeFunction", "(III)V"⟩
abbrev cX7_changeGlobal : ByteArray := prog_9_method_10_code
def yX7_changeGlobal : MethodName := ⟨RX7, "changeGlobal", "(III)V"⟩
abbrev cX7_functionNamed : ByteArray := prog_9_method_11_code
def yX7_functionNamed : MethodName := ⟨RX7, "functionNamed", "(I)I"⟩
abbrev cX7_globalNamed : ByteArray := prog_9_method_12_code
def yX7_globalNamed : MethodName := ⟨RX7, "globalNamed", "(I)I"⟩
abbrev cX7_firstCell : ByteArray := prog_9_method_13_code
def yX7_firstCell : MethodName := ⟨RX7, "firstCell", "(I)I"⟩
abbrev cX7_wordAt : ByteArray := prog_9_method_14_code
def yX7_wordAt : MethodName := ⟨RX7, "wordAt", "(I)I"⟩
def RX8 : String := "PocketCompiler$Shower"
def TX8 : u_T := fun k => match k with
  | _ => ("PocketCompiler$Shower", "text", "Ljava/lang/StringBuilder;", true)
def tyX8 : Nat → FieldType := fun k => match k with
  | _ => .object "java/lang/StringBuilder"
abbrev wsX80 : List Cond := u_ws RX8 TX8 1
theorem nmX8 : ∀ a, a < 1 → ∀ b, b < 1 → a ≠ b → (TX8 a).2.1 ≠ (TX8 b).2.1 := by decide +kernel
theorem tyX8_ok : ∀ k, k < 1 → parseFieldDescriptor (TX8 k).2.2.1 = some (tyX8 k) := by decide +kernel
abbrev cX8_init : ByteArray := prog_10_method_1_code
def yX8_init : MethodName := ⟨RX8, "<init>", "()V"⟩
abbrev cX8_byteAt : ByteArray := prog_10_method_2_code
def yX8_byteAt : MethodName := ⟨RX8, "byteAt", "(I)I"⟩
abbrev cX8_spell : ByteArray := prog_10_method_3_code
def yX8_spell : MethodName := ⟨RX8, "spell", "(I)I"⟩
abbrev cX8_addName : ByteArray := prog_10_method_4_code
def yX8_addName : MethodName := ⟨RX8, "addName", "(I)V"⟩
abbrev cX8_addHex : ByteArray := prog_10_method_5_code
def yX8_addHex : MethodName := ⟨RX8, "addHex", "(I)V"⟩
abbrev cX8_addOperands : ByteArray := prog_10_method_6_code
def yX8_addOperands : MethodName := ⟨RX8, "addOperands", "(II)V"⟩
abbrev cX8_addRegister : ByteArray := prog_10_method_7_code
def yX8_addRegister : MethodName := ⟨RX8, "addRegister", "(I)V"⟩
abbrev cX8_addPair : ByteArray := prog_10_method_8_code
def yX8_addPair : MethodName := ⟨RX8, "addPair", "(II)V"⟩
abbrev cX8_addReach : ByteArray := prog_10_method_9_code
def yX8_addReach : MethodName := ⟨RX8, "addReach", "(III)V"⟩
def RX9 : String := "PocketCompiler$Tokens"
def TX9 : u_T := fun k => match k with
  | 0 => ("PocketCompiler$Tokens", "source", "LPocketCompiler$Program;", false)
  | 1 => ("PocketCompiler$Tokens", "kinds", "[I", true)
  | 2 => ("PocketCompiler$Tokens", "places", "[I", true)
  | 3 => ("PocketCompiler$Tokens", "values", "[I", true)
  | 4 => ("PocketCompiler$Tokens", "size", "I", false)
  | 5 => ("PocketCompiler$Tokens", "at", "I", false)
  | 6 => ("PocketCompiler$Tokens", "opened", "I", false)
  | 7 => ("PocketCompiler$Tokens", "dueAt", "I", false)
  | 8 => ("PocketCompiler$Tokens", "faultKind", "I", false)
  | _ => ("PocketCompiler$Tokens", "faultPlace", "I", false)
def tyX9 : Nat → FieldType := fun k => match k with
  | 0 => .object "PocketCompiler$Program"
  | 1 => .array .int
  | 2 => .array .int
  | 3 => .array .int
  | 4 => .int
  | 5 => .int
  | 6 => .int
  | 7 => .int
  | 8 => .int
  | _ => .int
abbrev wsX90 : List Cond := u_ws RX9 TX9 10
theorem nmX9 : ∀ a, a < 10 → ∀ b, b < 10 → a ≠ b → (TX9 a).2.1 ≠ (TX9 b).2.1 := by decide +kernel
theorem tyX9_ok : ∀ k, k < 10 → parseFieldDescriptor (TX9 k).2.2.1 = some (tyX9 k) := by decide +kernel
abbrev cX9_init : ByteArray := prog_11_method_1_code
def yX9_init : MethodName := ⟨RX9, "<init>", "(LPocketCompiler$Program;)V"⟩
abbrev cX9_isDigit : ByteArray := prog_11_method_2_code
def yX9_isDigit : MethodName := ⟨RX9, "isDigit", "(I)Z"⟩
abbrev cX9_isLetter : ByteArray := prog_11_method_3_code
def yX9_isLetter : MethodName := ⟨RX9, "isLetter", "(I)Z"⟩
abbrev cX9_isNamePart : ByteArray := prog_11_method_4_code
def yX9_isNamePart : MethodName := ⟨RX9, "isNamePart", "(I)Z"⟩
abbrev cX9_isSet : ByteArray := prog_11_method_5_code
def yX9_isSet : MethodName := ⟨RX9, "isSet", "(I)Z"⟩
abbrev cX9_strength : ByteArray := prog_11_method_6_code
def yX9_strength : MethodName := ⟨RX9, "strength", "(I)I"⟩
abbrev cX9_scan : ByteArray := prog_11_method_7_code
def yX9_scan : MethodName := ⟨RX9, "scan", "(LPocketCompiler$Program;)V"⟩
abbrev cX9_behindBlanks : ByteArray := prog_11_method_8_code
def yX9_behindBlanks : MethodName := ⟨RX9, "behindBlanks", "(I)I"⟩
abbrev cX9_scanOne : ByteArray := prog_11_method_9_code
def yX9_scanOne : MethodName := ⟨RX9, "scanOne", "(I)I"⟩
abbrev cX9_add : ByteArray := prog_11_method_10_code
def yX9_add : MethodName := ⟨RX9, "add", "(IIII)I"⟩
abbrev cX9_scanName : ByteArray := prog_11_method_11_code
def yX9_scanName : MethodName := ⟨RX9, "scanName", "(I)I"⟩
abbrev cX9_firstAlike : ByteArray := prog_11_method_12_code
def yX9_firstAlike : MethodName := ⟨RX9, "firstAlike", "(II)I"⟩
abbrev cX9_isAlike : ByteArray := prog_11_method_13_code
def yX9_isAlike : MethodName := ⟨RX9, "isAlike", "(III)Z"⟩
abbrev cX9_scanNumber : ByteArray := prog_11_method_14_code
def yX9_scanNumber : MethodName := ⟨RX9, "scanNumber", "(I)I"⟩
abbrev cX9_digitValue : ByteArray := prog_11_method_15_code
def yX9_digitValue : MethodName := ⟨RX9, "digitValue", "(II)I"⟩
abbrev cX9_scanCharacter : ByteArray := prog_11_method_16_code
def yX9_scanCharacter : MethodName := ⟨RX9, "scanCharacter", "(I)I"⟩
abbrev cX9_scanSign : ByteArray := prog_11_method_17_code
def yX9_scanSign : MethodName := ⟨RX9, "scanSign", "(I)I"⟩
abbrev cX9_spelled : ByteArray := prog_11_method_18_code
def yX9_spelled : MethodName := ⟨RX9, "spelled", "(Ljava/lang/String;III)I"⟩
abbrev cX9_kind : ByteArray := prog_11_method_19_code
def yX9_kind : MethodName := ⟨RX9, "kind", "()I"⟩
abbrev cX9_kindBehind : ByteArray := prog_11_method_20_code
def yX9_kindBehind : MethodName := ⟨RX9, "kindBehind", "()I"⟩
abbrev cX9_value : ByteArray := prog_11_method_21_code
def yX9_value : MethodName := ⟨RX9, "value", "()I"⟩
abbrev cX9_place : ByteArray := prog_11_method_22_code
def yX9_place : MethodName := ⟨RX9, "place", "()I"⟩
abbrev cX9_refuse : ByteArray := prog_11_method_23_code
def yX9_refuse : MethodName := ⟨RX9, "refuse", "(II)V"⟩
abbrev cX9_refuseMisfit : ByteArray := prog_11_method_24_code
def yX9_refuseMisfit : MethodName := ⟨RX9, "refuseMisfit", "()V"⟩
abbrev cX9_need : ByteArray := prog_11_method_25_code
def yX9_need : MethodName := ⟨RX9, "need", "(I)V"⟩
abbrev cX9_isTooMuch : ByteArray := prog_11_method_26_code
def yX9_isTooMuch : MethodName := ⟨RX9, "isTooMuch", "()Z"⟩
abbrev cX9_take : ByteArray := prog_11_method_27_code
def yX9_take : MethodName := ⟨RX9, "take", "()V"⟩
abbrev cX9_expect : ByteArray := prog_11_method_28_code
def yX9_expect : MethodName := ⟨RX9, "expect", "(I)V"⟩
abbrev cX9_open : ByteArray := prog_11_method_29_code
def yX9_open : MethodName := ⟨RX9, "open", "()V"⟩
abbrev cX9_close : ByteArray := prog_11_method_30_code
def yX9_close : MethodName := ⟨RX9, "close", "()V"⟩
abbrev cX9_makeDue : ByteArray := prog_11_method_31_code
def yX9_makeDue : MethodName := ⟨RX9, "makeDue", "()V"⟩
def RX10 : String := "PocketCompiler$Worker"
def TX10 : u_T := fun k => match k with
  | 0 => ("PocketCompiler$Worker", "program", "LPocketCompiler$Program;", false)
  | 1 => ("PocketCompiler$Worker", "gifts", "LPocketCompiler$Gifts;", true)
  | 2 => ("PocketCompiler$Worker", "memoryBytes", "I", true)
  | 3 => ("PocketCompiler$Worker", "frames", "[I", true)
  | 4 => ("PocketCompiler$Worker", "cells", "[I", true)
  | 5 => ("PocketCompiler$Worker", "puts", "[I", true)
  | 6 => ("PocketCompiler$Worker", "hasWorked", "Z", false)
  | 7 => ("PocketCompiler$Worker", "outcome", "I", false)
  | 8 => ("PocketCompiler$Worker", "hand", "I", false)
  | 9 => ("PocketCompiler$Worker", "at", "I", false)
  | 10 => ("PocketCompiler$Worker", "base", "I", false)
  | 11 => ("PocketCompiler$Worker", "top", "I", false)
  | 12 => ("PocketCompiler$Worker", "mostTurns", "I", false)
  | 13 => ("PocketCompiler$Worker", "turns", "I", false)
  | 14 => ("PocketCompiler$Worker", "mostBytes", "I", false)
  | 15 => ("PocketCompiler$Worker", "putCount", "I", false)
  | _ => ("PocketCompiler$Worker", "gotCount", "I", false)
def tyX10 : Nat → FieldType := fun k => match k with
  | 0 => .object "PocketCompiler$Program"
  | 1 => .object "PocketCompiler$Gifts"
  | 2 => .int
  | 3 => .array .int
  | 4 => .array .int
  | 5 => .array .int
  | 6 => .boolean
  | 7 => .int
  | 8 => .int
  | 9 => .int
  | 10 => .int
  | 11 => .int
  | 12 => .int
  | 13 => .int
  | 14 => .int
  | 15 => .int
  | _ => .int
abbrev wsX100 : List Cond := u_ws RX10 TX10 17
theorem nmX10 : ∀ a, a < 17 → ∀ b, b < 17 → a ≠ b → (TX10 a).2.1 ≠ (TX10 b).2.1 := by decide +kernel
theorem tyX10_ok : ∀ k, k < 17 → parseFieldDescriptor (TX10 k).2.2.1 = some (tyX10 k) := by decide +kernel
abbrev cX10_init : ByteArray := prog_12_method_1_code
def yX10_init : MethodName := ⟨RX10, "<init>", "(LPocketCompiler$Program;ILPocketCompiler$Gifts;)V"⟩
abbrev cX10_drop : ByteArray := prog_12_method_2_code
def yX10_drop : MethodName := ⟨RX10, "drop", "()V"⟩
abbrev cX10_fact : ByteArray := prog_12_method_3_code
def yX10_fact : MethodName := ⟨RX10, "fact", "(I)I"⟩
abbrev cX10_cellAt : ByteArray := prog_12_method_4_code
def yX10_cellAt : MethodName := ⟨RX10, "cellAt", "(I)I"⟩
abbrev cX10_changeCell : ByteArray := prog_12_method_5_code
def yX10_changeCell : MethodName := ⟨RX10, "changeCell", "(II)V"⟩
abbrev cX10_frameWord : ByteArray := prog_12_method_6_code
def yX10_frameWord : MethodName := ⟨RX10, "frameWord", "(I)I"⟩
abbrev cX10_changeFrameWord : ByteArray := prog_12_method_7_code
def yX10_changeFrameWord : MethodName := ⟨RX10, "changeFrameWord", "(II)V"⟩
abbrev cX10_placeOfSlot : ByteArray := prog_12_method_8_code
def yX10_placeOfSlot : MethodName := ⟨RX10, "placeOfSlot", "(I)I"⟩
abbrev cX10_slotAt : ByteArray := prog_12_method_9_code
def yX10_slotAt : MethodName := ⟨RX10, "slotAt", "(I)I"⟩
abbrev cX10_changeSlot : ByteArray := prog_12_method_10_code
def yX10_changeSlot : MethodName := ⟨RX10, "changeSlot", "(II)V"⟩
abbrev cX10_begin : ByteArray := prog_12_method_11_code
def yX10_begin : MethodName := ⟨RX10, "begin", "(LPocketCompiler$Program;I)V"⟩
abbrev cX10_perform : ByteArray := prog_12_method_12_code
def yX10_perform : MethodName := ⟨RX10, "perform", "(III)I"⟩
abbrev cX10_takeTurn : ByteArray := prog_12_method_13_code
def yX10_takeTurn : MethodName := ⟨RX10, "takeTurn", "()V"⟩
abbrev cX10_enter : ByteArray := prog_12_method_14_code
def yX10_enter : MethodName := ⟨RX10, "enter", "(II)V"⟩
abbrev cX10_callFunction : ByteArray := prog_12_method_15_code
def yX10_callFunction : MethodName := ⟨RX10, "callFunction", "(II)V"⟩
abbrev cX10_leaveFunction : ByteArray := prog_12_method_16_code
def yX10_leaveFunction : MethodName := ⟨RX10, "leaveFunction", "()V"⟩
abbrev cX10_doDeed : ByteArray := prog_12_method_17_code
def yX10_doDeed : MethodName := ⟨RX10, "doDeed", "()V"⟩
abbrev cX10_doPlace : ByteArray := prog_12_method_18_code
def yX10_doPlace : MethodName := ⟨RX10, "doPlace", "(III)V"⟩
abbrev cX10_index : ByteArray := prog_12_method_19_code
def yX10_index : MethodName := ⟨RX10, "index", "(I)V"⟩
abbrev cX10_doJump : ByteArray := prog_12_method_20_code
def yX10_doJump : MethodName := ⟨RX10, "doJump", "(II)V"⟩
abbrev cX10_putHand : ByteArray := prog_12_method_21_code
def yX10_putHand : MethodName := ⟨RX10, "putHand", "()V"⟩
abbrev cX10_join : ByteArray := prog_12_method_22_code
def yX10_join : MethodName := ⟨RX10, "join", "(II)V"⟩
abbrev cX10_divide : ByteArray := prog_12_method_23_code
def yX10_divide : MethodName := ⟨RX10, "divide", "(ZI)V"⟩
abbrev cX10_compares : ByteArray := prog_12_method_24_code
def yX10_compares : MethodName := ⟨RX10, "compares", "(III)Z"⟩
def RX11 : String := "PocketCompiler"
def TX11 : u_T := fun k => match k with
  | 0 => ("PocketCompiler", "tape", "[I", true)
  | 1 => ("PocketCompiler", "taped", "I", false)
  | 2 => ("PocketCompiler", "loaded", "LPocketCompiler$Program;", false)
  | 3 => ("PocketCompiler", "spare", "LPocketCompiler$Program;", false)
  | 4 => ("PocketCompiler", "parser", "LPocketCompiler$Parser;", true)
  | 5 => ("PocketCompiler", "assembler", "LPocketCompiler$Assembler;", true)
  | 6 => ("PocketCompiler", "latestFault", "I", false)
  | 7 => ("PocketCompiler", "latestPlace", "I", false)
  | 8 => ("PocketCompiler", "gifts", "LPocketCompiler$Gifts;", true)
  | 9 => ("PocketCompiler", "processor", "LPocketCompiler$Processor;", true)
  | 10 => ("PocketCompiler", "worker", "LPocketCompiler$Worker;", true)
  | _ => ("PocketCompiler", "shower", "LPocketCompiler$Shower;", true)
def tyX11 : Nat → FieldType := fun k => match k with
  | 0 => .array .int
  | 1 => .int
  | 2 => .object "PocketCompiler$Program"
  | 3 => .object "PocketCompiler$Program"
  | 4 => .object "PocketCompiler$Parser"
  | 5 => .object "PocketCompiler$Assembler"
  | 6 => .int
  | 7 => .int
  | 8 => .object "PocketCompiler$Gifts"
  | 9 => .object "PocketCompiler$Processor"
  | 10 => .object "PocketCompiler$Worker"
  | _ => .object "PocketCompiler$Shower"
abbrev wsX110 : List Cond := u_ws RX11 TX11 12
theorem nmX11 : ∀ a, a < 12 → ∀ b, b < 12 → a ≠ b → (TX11 a).2.1 ≠ (TX11 b).2.1 := by decide +kernel
theorem tyX11_ok : ∀ k, k < 12 → parseFieldDescriptor (TX11 k).2.2.1 = some (tyX11 k) := by decide +kernel
abbrev cX11_init : ByteArray := prog_1_method_1_code
def yX11_init : MethodName := ⟨RX11, "<init>", "(I)V"⟩
abbrev cX11_feed : ByteArray := prog_1_method_2_code
def yX11_feed : MethodName := ⟨RX11, "feed", "(IIIII)Z"⟩
abbrev cX11_tapeNumber : ByteArray := prog_1_method_3_code
def yX11_tapeNumber : MethodName := ⟨RX11, "tapeNumber", "(I)V"⟩
abbrev cX11_end : ByteArray := prog_1_method_4_code
def yX11_end : MethodName := ⟨RX11, "end", "(I)Z"⟩
abbrev cX11_load : ByteArray := prog_1_method_5_code
def yX11_load : MethodName := ⟨RX11, "load", "()I"⟩
abbrev cX11_fault : ByteArray := prog_1_method_6_code
def yX11_fault : MethodName := ⟨RX11, "fault", "(I)I"⟩
abbrev cX11_code : ByteArray := prog_1_method_7_code
def yX11_code : MethodName := ⟨RX11, "code", "(I)I"⟩
abbrev cX11_function : ByteArray := prog_1_method_8_code
def yX11_function : MethodName := ⟨RX11, "function", "(II)I"⟩
abbrev cX11_global : ByteArray := prog_1_method_9_code
def yX11_global : MethodName := ⟨RX11, "global", "(II)I"⟩
abbrev cX11_find : ByteArray := prog_1_method_10_code
def yX11_find : MethodName := ⟨RX11, "find", "(I)I"⟩
abbrev cX11_give : ByteArray := prog_1_method_11_code
def yX11_give : MethodName := ⟨RX11, "give", "(I)I"⟩
abbrev cX11_forget : ByteArray := prog_1_method_12_code
def yX11_forget : MethodName := ⟨RX11, "forget", "()I"⟩
abbrev cX11_start : ByteArray := prog_1_method_13_code
def yX11_start : MethodName := ⟨RX11, "start", "(III)Z"⟩
abbrev cX11_step : ByteArray := prog_1_method_14_code
def yX11_step : MethodName := ⟨RX11, "step", "()I"⟩
abbrev cX11_run : ByteArray := prog_1_method_15_code
def yX11_run : MethodName := ⟨RX11, "run", "(I)I"⟩
abbrev cX11_result : ByteArray := prog_1_method_16_code
def yX11_result : MethodName := ⟨RX11, "result", "()I"⟩
abbrev cX11_register : ByteArray := prog_1_method_17_code
def yX11_register : MethodName := ⟨RX11, "register", "(I)I"⟩
abbrev cX11_set : ByteArray := prog_1_method_18_code
def yX11_set : MethodName := ⟨RX11, "set", "(II)V"⟩
abbrev cX11_word : ByteArray := prog_1_method_19_code
def yX11_word : MethodName := ⟨RX11, "word", "(I)I"⟩
abbrev cX11_poke : ByteArray := prog_1_method_20_code
def yX11_poke : MethodName := ⟨RX11, "poke", "(II)V"⟩
abbrev cX11_checkAddress : ByteArray := prog_1_method_21_code
def yX11_checkAddress : MethodName := ⟨RX11, "checkAddress", "(I)V"⟩
abbrev cX11_put : ByteArray := prog_1_method_22_code
def yX11_put : MethodName := ⟨RX11, "put", "(I)I"⟩
abbrev cX11_show : ByteArray := prog_1_method_23_code
def yX11_show : MethodName := ⟨RX11, "show", "(I)I"⟩
abbrev cX11_octet : ByteArray := prog_1_method_24_code
def yX11_octet : MethodName := ⟨RX11, "octet", "(I)I"⟩
abbrev cX11_work : ByteArray := prog_1_method_25_code
def yX11_work : MethodName := ⟨RX11, "work", "(IIII)I"⟩
abbrev cX11_told : ByteArray := prog_1_method_26_code
def yX11_told : MethodName := ⟨RX11, "told", "(I)I"⟩
abbrev cX11_worked : ByteArray := prog_1_method_27_code
def yX11_worked : MethodName := ⟨RX11, "worked", "(I)I"⟩
abbrev cX11_left : ByteArray := prog_1_method_28_code
def yX11_left : MethodName := ⟨RX11, "left", "(II)I"⟩
abbrev cX11_count : ByteArray := prog_1_method_29_code
def yX11_count : MethodName := ⟨RX11, "count", "(I)I"⟩
def RX12 : String := "PocketCompilerModel$Halt"
def TX12 : u_T := fun k => match k with
  | 0 => ("java/lang/Throwable", "cause", "Ljava/lang/Throwable;", false)
  | 1 => ("java/lang/Throwable", "stackTrace", "[Ljava/lang/StackTraceElement;", false)
  | 2 => ("java/lang/Throwable", "suppressedExceptions", "Ljava/util/List;", false)
  | 3 => ("java/lang/Throwable", "detailMessage", "Ljava/lang/String;", false)
  | 4 => ("java/lang/Throwable", "backtrace", "Ljava/lang/Object;", false)
  | _ => ("java/lang/Throwable", "depth", "I", false)
def tyX12 : Nat → FieldType := fun k => match k with
  | 0 => .object "java/lang/Throwable"
  | 1 => .array (.object "java/lang/StackTraceElement")
  | 2 => .object "java/util/List"
  | 3 => .object "java/lang/String"
  | 4 => .object "java/lang/Object"
  | _ => .int
abbrev wsX120 : List Cond := u_ws RX12 TX12 6
theorem nmX12 : ∀ a, a < 6 → ∀ b, b < 6 → a ≠ b → (TX12 a).2.1 ≠ (TX12 b).2.1 := by decide +kernel
theorem tyX12_ok : ∀ k, k < 6 → parseFieldDescriptor (TX12 k).2.2.1 = some (tyX12 k) := by decide +kernel
abbrev cX12_init : ByteArray := prog_15_method_1_code
def yX12_init : MethodName := ⟨RX12, "<init>", "()V"⟩
def RX13 : String := "PocketCompilerModel"
def TX13 : u_T := fun k => match k with
  | 0 => ("PocketCompilerModel", "thrown", "I", false)
  | 1 => ("PocketCompilerModel", "tape", "[I", true)
  | 2 => ("PocketCompilerModel", "taped", "I", false)
  | 3 => ("PocketCompilerModel", "text", "[I", true)
  | 4 => ("PocketCompilerModel", "size", "I", false)
  | 5 => ("PocketCompilerModel", "tokens", "I", false)
  | 6 => ("PocketCompilerModel", "kind", "[I", true)
  | 7 => ("PocketCompilerModel", "place", "[I", true)
  | 8 => ("PocketCompilerModel", "until", "[I", true)
  | 9 => ("PocketCompilerModel", "value", "[J", true)
  | 10 => ("PocketCompilerModel", "digits", "[Z", true)
  | 11 => ("PocketCompilerModel", "code", "[I", true)
  | 12 => ("PocketCompilerModel", "words", "I", false)
  | 13 => ("PocketCompilerModel", "order", "[I", true)
  | 14 => ("PocketCompilerModel", "argument", "[I", true)
  | 15 => ("PocketCompilerModel", "orders", "I", false)
  | 16 => ("PocketCompilerModel", "fName", "[I", true)
  | 17 => ("PocketCompilerModel", "fMany", "[I", true)
  | 18 => ("PocketCompilerModel", "fFrame", "[I", true)
  | 19 => ("PocketCompilerModel", "fAt", "[I", true)
  | 20 => ("PocketCompilerModel", "fOrder", "[I", true)
  | 21 => ("PocketCompilerModel", "fLocals", "[I", true)
  | 22 => ("PocketCompilerModel", "functions", "I", false)
  | 23 => ("PocketCompilerModel", "gName", "[I", true)
  | 24 => ("PocketCompilerModel", "gMany", "[I", true)
  | 25 => ("PocketCompilerModel", "gFrom", "[I", true)
  | 26 => ("PocketCompilerModel", "gRow", "[Z", true)
  | 27 => ("PocketCompilerModel", "globals", "I", false)
  | 28 => ("PocketCompilerModel", "numbers", "I", false)
  | 29 => ("PocketCompilerModel", "sName", "[I", true)
  | 30 => ("PocketCompilerModel", "known", "I", false)
  | 31 => ("PocketCompilerModel", "blockFrom", "I", false)
  | 32 => ("PocketCompilerModel", "putBy", "I", false)
  | 33 => ("PocketCompilerModel", "highest", "I", false)
  | 34 => ("PocketCompilerModel", "mostKnown", "I", false)
  | 35 => ("PocketCompilerModel", "cName", "[I", true)
  | 36 => ("PocketCompilerModel", "cMany", "[I", true)
  | 37 => ("PocketCompilerModel", "cWord", "[I", true)
  | 38 => ("PocketCompilerModel", "cOrder", "[I", true)
  | 39 => ("PocketCompilerModel", "calls", "I", false)
  | 40 => ("PocketCompilerModel", "fixAt", "[I", true)
  | 41 => ("PocketCompilerModel", "fixOf", "[I", true)
  | 42 => ("PocketCompilerModel", "fixKind", "[I", true)
  | 43 => ("PocketCompilerModel", "fixes", "I", false)
  | 44 => ("PocketCompilerModel", "multiplies", "Z", false)
  | 45 => ("PocketCompilerModel", "divides", "Z", false)
  | 46 => ("PocketCompilerModel", "halt", "LPocketCompilerModel$Halt;", true)
  | 47 => ("PocketCompilerModel", "t", "I", false)
  | 48 => ("PocketCompilerModel", "opened", "I", false)
  | 49 => ("PocketCompilerModel", "boundAt", "I", false)
  | 50 => ("PocketCompilerModel", "fault", "I", false)
  | 51 => ("PocketCompilerModel", "faultPlace", "I", false)
  | 52 => ("PocketCompilerModel", "loops", "I", false)
  | 53 => ("PocketCompilerModel", "breaks", "I", false)
  | 54 => ("PocketCompilerModel", "mBreaks", "I", false)
  | 55 => ("PocketCompilerModel", "again", "I", false)
  | 56 => ("PocketCompilerModel", "mAgain", "I", false)
  | 57 => ("PocketCompilerModel", "agains", "I", false)
  | 58 => ("PocketCompilerModel", "mAgains", "I", false)
  | 59 => ("PocketCompilerModel", "returns", "I", false)
  | 60 => ("PocketCompilerModel", "mJump", "I", false)
  | 61 => ("PocketCompilerModel", "hadBreaks", "[I", true)
  | 62 => ("PocketCompilerModel", "hadMBreaks", "[I", true)
  | 63 => ("PocketCompilerModel", "hadAgain", "[I", true)
  | 64 => ("PocketCompilerModel", "hadMAgain", "[I", true)
  | 65 => ("PocketCompilerModel", "hadAgains", "[I", true)
  | 66 => ("PocketCompilerModel", "hadMAgains", "[I", true)
  | 67 => ("PocketCompilerModel", "multiplyAt", "I", false)
  | 68 => ("PocketCompilerModel", "divideAt", "I", false)
  | 69 => ("PocketCompilerModel", "limit", "I", false)
  | 70 => ("PocketCompilerModel", "bCode", "[I", false)
  | 71 => ("PocketCompilerModel", "bOrder", "[I", false)
  | 72 => ("PocketCompilerModel", "bArgument", "[I", false)
  | 73 => ("PocketCompilerModel", "bWords", "I", false)
  | 74 => ("PocketCompilerModel", "bFunctions", "I", false)
  | 75 => ("PocketCompilerModel", "bGlobals", "I", false)
  | 76 => ("PocketCompilerModel", "bNumbers", "I", false)
  | 77 => ("PocketCompilerModel", "bLimit", "I", false)
  | 78 => ("PocketCompilerModel", "bMany", "[I", true)
  | 79 => ("PocketCompilerModel", "bFrame", "[I", true)
  | 80 => ("PocketCompilerModel", "bAt", "[I", true)
  | 81 => ("PocketCompilerModel", "bGo", "[I", true)
  | 82 => ("PocketCompilerModel", "bLocals", "[I", true)
  | 83 => ("PocketCompilerModel", "bPlace", "[I", true)
  | 84 => ("PocketCompilerModel", "bEnd", "[I", true)
  | 85 => ("PocketCompilerModel", "dMany", "[I", true)
  | 86 => ("PocketCompilerModel", "dFrom", "[I", true)
  | 87 => ("PocketCompilerModel", "dPlace", "[I", true)
  | 88 => ("PocketCompilerModel", "dEnd", "[I", true)
  | 89 => ("PocketCompilerModel", "dRow", "[Z", true)
  | 90 => ("PocketCompilerModel", "bText", "[I", true)
  | 91 => ("PocketCompilerModel", "toldFault", "I", false)
  | 92 => ("PocketCompilerModel", "toldPlace", "I", false)
  | 93 => ("PocketCompilerModel", "given", "[I", true)
  | 94 => ("PocketCompilerModel", "givenMany", "I", false)
  | 95 => ("PocketCompilerModel", "used", "I", false)
  | 96 => ("PocketCompilerModel", "memory", "[I", true)
  | 97 => ("PocketCompilerModel", "registers", "[I", true)
  | 98 => ("PocketCompilerModel", "pc", "I", false)
  | 99 => ("PocketCompilerModel", "status", "I", false)
  | 100 => ("PocketCompilerModel", "steps", "I", false)
  | 101 => ("PocketCompilerModel", "puts", "[I", true)
  | 102 => ("PocketCompilerModel", "putMany", "I", false)
  | 103 => ("PocketCompilerModel", "shown", "[I", true)
  | 104 => ("PocketCompilerModel", "shownMany", "I", false)
  | 105 => ("PocketCompilerModel", "pile", "[I", true)
  | 106 => ("PocketCompilerModel", "piled", "I", false)
  | 107 => ("PocketCompilerModel", "backTo", "[I", true)
  | 108 => ("PocketCompilerModel", "baseOf", "[I", true)
  | 109 => ("PocketCompilerModel", "called", "[I", true)
  | 110 => ("PocketCompilerModel", "frames", "I", false)
  | 111 => ("PocketCompilerModel", "base", "I", false)
  | 112 => ("PocketCompilerModel", "next", "I", false)
  | 113 => ("PocketCompilerModel", "turns", "I", false)
  | 114 => ("PocketCompilerModel", "mostTurns", "I", false)
  | 115 => ("PocketCompilerModel", "frameBytes", "I", false)
  | 116 => ("PocketCompilerModel", "mostBytes", "I", false)
  | 117 => ("PocketCompilerModel", "held", "[I", true)
  | 118 => ("PocketCompilerModel", "worked", "[I", true)
  | 119 => ("PocketCompilerModel", "workedMany", "I", false)
  | 120 => ("PocketCompilerModel", "gotMany", "I", false)
  | 121 => ("PocketCompilerModel", "answer", "I", false)
  | 122 => ("PocketCompilerModel", "answerValue", "I", false)
  | _ => ("PocketCompilerModel", "isWorked", "Z", false)
def tyX13 : Nat → FieldType := fun k => match k with
  | 0 => .int
  | 1 => .array .int
  | 2 => .int
  | 3 => .array .int
  | 4 => .int
  | 5 => .int
  | 6 => .array .int
  | 7 => .array .int
  | 8 => .array .int
  | 9 => .array .long
  | 10 => .array .boolean
  | 11 => .array .int
  | 12 => .int
  | 13 => .array .int
  | 14 => .array .int
  | 15 => .int
  | 16 => .array .int
  | 17 => .array .int
  | 18 => .array .int
  | 19 => .array .int
  | 20 => .array .int
  | 21 => .array .int
  | 22 => .int
  | 23 => .array .int
  | 24 => .array .int
  | 25 => .array .int
  | 26 => .array .boolean
  | 27 => .int
  | 28 => .int
  | 29 => .array .int
  | 30 => .int
  | 31 => .int
  | 32 => .int
  | 33 => .int
  | 34 => .int
  | 35 => .array .int
  | 36 => .array .int
  | 37 => .array .int
  | 38 => .array .int
  | 39 => .int
  | 40 => .array .int
  | 41 => .array .int
  | 42 => .array .int
  | 43 => .int
  | 44 => .boolean
  | 45 => .boolean
  | 46 => .object "PocketCompilerModel$Halt"
  | 47 => .int
  | 48 => .int
  | 49 => .int
  | 50 => .int
  | 51 => .int
  | 52 => .int
  | 53 => .int
  | 54 => .int
  | 55 => .int
  | 56 => .int
  | 57 => .int
  | 58 => .int
  | 59 => .int
  | 60 => .int
  | 61 => .array .int
  | 62 => .array .int
  | 63 => .array .int
  | 64 => .array .int
  | 65 => .array .int
  | 66 => .array .int
  | 67 => .int
  | 68 => .int
  | 69 => .int
  | 70 => .array .int
  | 71 => .array .int
  | 72 => .array .int
  | 73 => .int
  | 74 => .int
  | 75 => .int
  | 76 => .int
  | 77 => .int
  | 78 => .array .int
  | 79 => .array .int
  | 80 => .array .int
  | 81 => .array .int
  | 82 => .array .int
  | 83 => .array .int
  | 84 => .array .int
  | 85 => .array .int
  | 86 => .array .int
  | 87 => .array .int
  | 88 => .array .int
  | 89 => .array .boolean
  | 90 => .array .int
  | 91 => .int
  | 92 => .int
  | 93 => .array .int
  | 94 => .int
  | 95 => .int
  | 96 => .array .int
  | 97 => .array .int
  | 98 => .int
  | 99 => .int
  | 100 => .int
  | 101 => .array .int
  | 102 => .int
  | 103 => .array .int
  | 104 => .int
  | 105 => .array .int
  | 106 => .int
  | 107 => .array .int
  | 108 => .array .int
  | 109 => .array .int
  | 110 => .int
  | 111 => .int
  | 112 => .int
  | 113 => .int
  | 114 => .int
  | 115 => .int
  | 116 => .int
  | 117 => .array .int
  | 118 => .array .int
  | 119 => .int
  | 120 => .int
  | 121 => .int
  | 122 => .int
  | _ => .boolean
abbrev wsX130 : List Cond := u_ws RX13 TX13 124
theorem nmX13 : ∀ a, a < 124 → ∀ b, b < 124 → a ≠ b → (TX13 a).2.1 ≠ (TX13 b).2.1 := by decide +kernel
theorem tyX13_ok : ∀ k, k < 124 → parseFieldDescriptor (TX13 k).2.2.1 = some (tyX13 k) := by decide +kernel
abbrev cX13_thrown : ByteArray := prog_14_method_1_code
def yX13_thrown : MethodName := ⟨RX13, "thrown", "()I"⟩
abbrev cX13_feed : ByteArray := prog_14_method_2_code
def yX13_feed : MethodName := ⟨RX13, "feed", "(IIIII)Z"⟩
abbrev cX13_four : ByteArray := prog_14_method_3_code
def yX13_four : MethodName := ⟨RX13, "four", "(I)V"⟩
abbrev cX13_end : ByteArray := prog_14_method_4_code
def yX13_end : MethodName := ⟨RX13, "end", "(I)Z"⟩
abbrev cX13_at : ByteArray := prog_14_method_5_code
def yX13_at : MethodName := ⟨RX13, "at", "(I)I"⟩
abbrev cX13_isDigit : ByteArray := prog_14_method_6_code
def yX13_isDigit : MethodName := ⟨RX13, "isDigit", "(I)Z"⟩
abbrev cX13_isOfName : ByteArray := prog_14_method_7_code
def yX13_isOfName : MethodName := ⟨RX13, "isOfName", "(I)Z"⟩
abbrev cX13_hex : ByteArray := prog_14_method_8_code
def yX13_hex : MethodName := ⟨RX13, "hex", "(I)I"⟩
abbrev cX13_isBlank : ByteArray := prog_14_method_9_code
def yX13_isBlank : MethodName := ⟨RX13, "isBlank", "(I)Z"⟩
abbrev cX13_cut : ByteArray := prog_14_method_10_code
def yX13_cut : MethodName := ⟨RX13, "cut", "()V"⟩
abbrev cX13_token : ByteArray := prog_14_method_11_code
def yX13_token : MethodName := ⟨RX13, "token", "(I)I"⟩
abbrev cX13_number : ByteArray := prog_14_method_12_code
def yX13_number : MethodName := ⟨RX13, "number", "(I)I"⟩
abbrev cX13_sign : ByteArray := prog_14_method_13_code
def yX13_sign : MethodName := ⟨RX13, "sign", "(I)I"⟩
abbrev cX13_wordOf : ByteArray := prog_14_method_14_code
def yX13_wordOf : MethodName := ⟨RX13, "wordOf", "(Ljava/lang/String;II)I"⟩
abbrev cX13_isSame : ByteArray := prog_14_method_15_code
def yX13_isSame : MethodName := ⟨RX13, "isSame", "(II)Z"⟩
abbrev cX13_byI : ByteArray := prog_14_method_16_code
def yX13_byI : MethodName := ⟨RX13, "byI", "(IIIII)I"⟩
abbrev cX13_byR : ByteArray := prog_14_method_17_code
def yX13_byR : MethodName := ⟨RX13, "byR", "(IIIII)I"⟩
abbrev cX13_byB : ByteArray := prog_14_method_18_code
def yX13_byB : MethodName := ⟨RX13, "byB", "(IIII)I"⟩
abbrev cX13_byJ : ByteArray := prog_14_method_19_code
def yX13_byJ : MethodName := ⟨RX13, "byJ", "(II)I"⟩
abbrev cX13_hi : ByteArray := prog_14_method_20_code
def yX13_hi : MethodName := ⟨RX13, "hi", "(I)I"⟩
abbrev cX13_lo : ByteArray := prog_14_method_21_code
def yX13_lo : MethodName := ⟨RX13, "lo", "(I)I"⟩
abbrev cX13_addi : ByteArray := prog_14_method_22_code
def yX13_addi : MethodName := ⟨RX13, "addi", "(III)I"⟩
abbrev cX13_lui : ByteArray := prog_14_method_23_code
def yX13_lui : MethodName := ⟨RX13, "lui", "(II)I"⟩
abbrev cX13_lw : ByteArray := prog_14_method_24_code
def yX13_lw : MethodName := ⟨RX13, "lw", "(III)I"⟩
abbrev cX13_sw : ByteArray := prog_14_method_25_code
def yX13_sw : MethodName := ⟨RX13, "sw", "(III)I"⟩
abbrev cX13_emit : ByteArray := prog_14_method_26_code
def yX13_emit : MethodName := ⟨RX13, "emit", "(I)I"⟩
abbrev cX13_jump : ByteArray := prog_14_method_27_code
def yX13_jump : MethodName := ⟨RX13, "jump", "(III)V"⟩
abbrev cX13_wait : ByteArray := prog_14_method_28_code
def yX13_wait : MethodName := ⟨RX13, "wait", "(I)I"⟩
abbrev cX13_land : ByteArray := prog_14_method_29_code
def yX13_land : MethodName := ⟨RX13, "land", "(II)V"⟩
abbrev cX13_say : ByteArray := prog_14_method_30_code
def yX13_say : MethodName := ⟨RX13, "say", "(II)I"⟩
abbrev cX13_arrive : ByteArray := prog_14_method_31_code
def yX13_arrive : MethodName := ⟨RX13, "arrive", "(II)V"⟩
abbrev cX13_fail : ByteArray := prog_14_method_32_code
def yX13_fail : MethodName := ⟨RX13, "fail", "(II)LPocketCompilerModel$Halt;"⟩
abbrev cX13_bad : ByteArray := prog_14_method_33_code
def yX13_bad : MethodName := ⟨RX13, "bad", "()LPocketCompilerModel$Halt;"⟩
abbrev cX13_isSign : ByteArray := prog_14_method_34_code
def yX13_isSign : MethodName := ⟨RX13, "isSign", "(II)Z"⟩
abbrev cX13_is : ByteArray := prog_14_method_35_code
def yX13_is : MethodName := ⟨RX13, "is", "(I)Z"⟩
abbrev cX13_isKey : ByteArray := prog_14_method_36_code
def yX13_isKey : MethodName := ⟨RX13, "isKey", "(I)Z"⟩
abbrev cX13_take : ByteArray := prog_14_method_37_code
def yX13_take : MethodName := ⟨RX13, "take", "()V"⟩
abbrev cX13_opens : ByteArray := prog_14_method_38_code
def yX13_opens : MethodName := ⟨RX13, "opens", "()V"⟩
abbrev cX13_need : ByteArray := prog_14_method_39_code
def yX13_need : MethodName := ⟨RX13, "need", "(I)V"⟩
abbrev cX13_open : ByteArray := prog_14_method_40_code
def yX13_open : MethodName := ⟨RX13, "open", "(I)V"⟩
abbrev cX13_close : ByteArray := prog_14_method_41_code
def yX13_close : MethodName := ⟨RX13, "close", "(I)V"⟩
abbrev cX13_slots : ByteArray := prog_14_method_42_code
def yX13_slots : MethodName := ⟨RX13, "slots", "(I)I"⟩
abbrev cX13_slotAt : ByteArray := prog_14_method_43_code
def yX13_slotAt : MethodName := ⟨RX13, "slotAt", "(I)I"⟩
abbrev cX13_local : ByteArray := prog_14_method_44_code
def yX13_local : MethodName := ⟨RX13, "local", "(I)I"⟩
abbrev cX13_globalOf : ByteArray := prog_14_method_45_code
def yX13_globalOf : MethodName := ⟨RX13, "globalOf", "(I)I"⟩
abbrev cX13_functionOf : ByteArray := prog_14_method_46_code
def yX13_functionOf : MethodName := ⟨RX13, "functionOf", "(I)I"⟩
abbrev cX13_fix : ByteArray := prog_14_method_47_code
def yX13_fix : MethodName := ⟨RX13, "fix", "(III)V"⟩
abbrev cX13_operate : ByteArray := prog_14_method_48_code
def yX13_operate : MethodName := ⟨RX13, "operate", "(I)V"⟩
abbrev cX13_loads : ByteArray := prog_14_method_49_code
def yX13_loads : MethodName := ⟨RX13, "loads", "(I)V"⟩
abbrev cX13_strength : ByteArray := prog_14_method_50_code
def yX13_strength : MethodName := ⟨RX13, "strength", "()I"⟩
abbrev cX13_setting : ByteArray := prog_14_method_51_code
def yX13_setting : MethodName := ⟨RX13, "setting", "()I"⟩
abbrev cX13_remember : ByteArray := prog_14_method_52_code
def yX13_remember : MethodName := ⟨RX13, "remember", "(I)V"⟩
abbrev cX13_expression : ByteArray := prog_14_method_53_code
def yX13_expression : MethodName := ⟨RX13, "expression", "()V"⟩
abbrev cX13_named : ByteArray := prog_14_method_54_code
def yX13_named : MethodName := ⟨RX13, "named", "(Z)V"⟩
abbrev cX13_fetch : ByteArray := prog_14_method_55_code
def yX13_fetch : MethodName := ⟨RX13, "fetch", "(II)V"⟩
abbrev cX13_store : ByteArray := prog_14_method_56_code
def yX13_store : MethodName := ⟨RX13, "store", "(II)V"⟩
abbrev cX13_index : ByteArray := prog_14_method_57_code
def yX13_index : MethodName := ⟨RX13, "index", "(I)V"⟩
abbrev cX13_sets : ByteArray := prog_14_method_58_code
def yX13_sets : MethodName := ⟨RX13, "sets", "(IIZI)V"⟩
abbrev cX13_choice : ByteArray := prog_14_method_59_code
def yX13_choice : MethodName := ⟨RX13, "choice", "(Z)V"⟩
abbrev cX13_joined : ByteArray := prog_14_method_60_code
def yX13_joined : MethodName := ⟨RX13, "joined", "(IZ)V"⟩
abbrev cX13_both : ByteArray := prog_14_method_61_code
def yX13_both : MethodName := ⟨RX13, "both", "(ZI)V"⟩
abbrev cX13_operand : ByteArray := prog_14_method_62_code
def yX13_operand : MethodName := ⟨RX13, "operand", "()V"⟩
abbrev cX13_call : ByteArray := prog_14_method_63_code
def yX13_call : MethodName := ⟨RX13, "call", "()V"⟩
abbrev cX13_block : ByteArray := prog_14_method_64_code
def yX13_block : MethodName := ⟨RX13, "block", "()V"⟩
abbrev cX13_part : ByteArray := prog_14_method_65_code
def yX13_part : MethodName := ⟨RX13, "part", "()V"⟩
abbrev cX13_condition : ByteArray := prog_14_method_66_code
def yX13_condition : MethodName := ⟨RX13, "condition", "()I"⟩
abbrev cX13_unlessTrue : ByteArray := prog_14_method_67_code
def yX13_unlessTrue : MethodName := ⟨RX13, "unlessTrue", "()I"⟩
abbrev cX13_declared : ByteArray := prog_14_method_68_code
def yX13_declared : MethodName := ⟨RX13, "declared", "()V"⟩
abbrev cX13_statement : ByteArray := prog_14_method_69_code
def yX13_statement : MethodName := ⟨RX13, "statement", "()V"⟩
abbrev cX13_plain : ByteArray := prog_14_method_70_code
def yX13_plain : MethodName := ⟨RX13, "plain", "()V"⟩
abbrev cX13_choices : ByteArray := prog_14_method_71_code
def yX13_choices : MethodName := ⟨RX13, "choices", "()V"⟩
abbrev cX13_rounds : ByteArray := prog_14_method_72_code
def yX13_rounds : MethodName := ⟨RX13, "rounds", "()V"⟩
abbrev cX13_body : ByteArray := prog_14_method_73_code
def yX13_body : MethodName := ⟨RX13, "body", "(II)V"⟩
abbrev cX13_ends : ByteArray := prog_14_method_74_code
def yX13_ends : MethodName := ⟨RX13, "ends", "()V"⟩
abbrev cX13_doing : ByteArray := prog_14_method_75_code
def yX13_doing : MethodName := ⟨RX13, "doing", "()V"⟩
abbrev cX13_counting : ByteArray := prog_14_method_76_code
def yX13_counting : MethodName := ⟨RX13, "counting", "()V"⟩
abbrev cX13_leaving : ByteArray := prog_14_method_77_code
def yX13_leaving : MethodName := ⟨RX13, "leaving", "()V"⟩
abbrev cX13_returning : ByteArray := prog_14_method_78_code
def yX13_returning : MethodName := ⟨RX13, "returning", "()V"⟩
abbrev cX13_item : ByteArray := prog_14_method_79_code
def yX13_item : MethodName := ⟨RX13, "item", "()V"⟩
abbrev cX13_function0 : ByteArray := prog_14_method_80_code
def yX13_function0 : MethodName := ⟨RX13, "function0", "(I)V"⟩
abbrev cX13_body0 : ByteArray := prog_14_method_81_code
def yX13_body0 : MethodName := ⟨RX13, "body0", "()V"⟩
abbrev cX13_multiplying : ByteArray := prog_14_method_82_code
def yX13_multiplying : MethodName := ⟨RX13, "multiplying", "()V"⟩
abbrev cX13_dividing : ByteArray := prog_14_method_83_code
def yX13_dividing : MethodName := ⟨RX13, "dividing", "()V"⟩
abbrev cX13_addresses : ByteArray := prog_14_method_84_code
def yX13_addresses : MethodName := ⟨RX13, "addresses", "()V"⟩
abbrev cX13_walk : ByteArray := prog_14_method_85_code
def yX13_walk : MethodName := ⟨RX13, "walk", "()V"⟩
abbrev cX13_init : ByteArray := prog_14_method_86_code
def yX13_init : MethodName := ⟨RX13, "<init>", "(I)V"⟩
abbrev cX13_accept : ByteArray := prog_14_method_87_code
def yX13_accept : MethodName := ⟨RX13, "accept", "()V"⟩
abbrev cX13_load : ByteArray := prog_14_method_88_code
def yX13_load : MethodName := ⟨RX13, "load", "()I"⟩
abbrev cX13_fault : ByteArray := prog_14_method_89_code
def yX13_fault : MethodName := ⟨RX13, "fault", "(I)I"⟩
abbrev cX13_code : ByteArray := prog_14_method_90_code
def yX13_code : MethodName := ⟨RX13, "code", "(I)I"⟩
abbrev cX13_function : ByteArray := prog_14_method_91_code
def yX13_function : MethodName := ⟨RX13, "function", "(II)I"⟩
abbrev cX13_global : ByteArray := prog_14_method_92_code
def yX13_global : MethodName := ⟨RX13, "global", "(II)I"⟩
abbrev cX13_isTape : ByteArray := prog_14_method_93_code
def yX13_isTape : MethodName := ⟨RX13, "isTape", "(II)Z"⟩
abbrev cX13_find : ByteArray := prog_14_method_94_code
def yX13_find : MethodName := ⟨RX13, "find", "(I)I"⟩
abbrev cX13_give : ByteArray := prog_14_method_95_code
def yX13_give : MethodName := ⟨RX13, "give", "(I)I"⟩
abbrev cX13_forget : ByteArray := prog_14_method_96_code
def yX13_forget : MethodName := ⟨RX13, "forget", "()I"⟩
abbrev cX13_start : ByteArray := prog_14_method_97_code
def yX13_start : MethodName := ⟨RX13, "start", "(III)Z"⟩
abbrev cX13_step : ByteArray := prog_14_method_98_code
def yX13_step : MethodName := ⟨RX13, "step", "()I"⟩
abbrev cX13_run : ByteArray := prog_14_method_99_code
def yX13_run : MethodName := ⟨RX13, "run", "(I)I"⟩
abbrev cX13_isIn : ByteArray := prog_14_method_100_code
def yX13_isIn : MethodName := ⟨RX13, "isIn", "(II)Z"⟩
abbrev cX13_byteAt : ByteArray := prog_14_method_101_code
def yX13_byteAt : MethodName := ⟨RX13, "byteAt", "(I)I"⟩
abbrev cX13_setByte : ByteArray := prog_14_method_102_code
def yX13_setByte : MethodName := ⟨RX13, "setByte", "(II)V"⟩
abbrev cX13_doStep : ByteArray := prog_14_method_103_code
def yX13_doStep : MethodName := ⟨RX13, "doStep", "()V"⟩
abbrev cX13_goes : ByteArray := prog_14_method_104_code
def yX13_goes : MethodName := ⟨RX13, "goes", "(II)V"⟩
abbrev cX13_jumps : ByteArray := prog_14_method_105_code
def yX13_jumps : MethodName := ⟨RX13, "jumps", "(II)V"⟩
abbrev cX13_imJ : ByteArray := prog_14_method_106_code
def yX13_imJ : MethodName := ⟨RX13, "imJ", "(I)I"⟩
abbrev cX13_imB : ByteArray := prog_14_method_107_code
def yX13_imB : MethodName := ⟨RX13, "imB", "(I)I"⟩
abbrev cX13_branches : ByteArray := prog_14_method_108_code
def yX13_branches : MethodName := ⟨RX13, "branches", "(IIII)V"⟩
abbrev cX13_reads : ByteArray := prog_14_method_109_code
def yX13_reads : MethodName := ⟨RX13, "reads", "(IIII)V"⟩
abbrev cX13_writes : ByteArray := prog_14_method_110_code
def yX13_writes : MethodName := ⟨RX13, "writes", "(III)V"⟩
abbrev cX13_less : ByteArray := prog_14_method_111_code
def yX13_less : MethodName := ⟨RX13, "less", "(Z)I"⟩
abbrev cX13_byNumber : ByteArray := prog_14_method_112_code
def yX13_byNumber : MethodName := ⟨RX13, "byNumber", "(IIII)V"⟩
abbrev cX13_byRegister : ByteArray := prog_14_method_113_code
def yX13_byRegister : MethodName := ⟨RX13, "byRegister", "(IIIII)V"⟩
abbrev cX13_calls : ByteArray := prog_14_method_114_code
def yX13_calls : MethodName := ⟨RX13, "calls", "(I)V"⟩
abbrev cX13_result : ByteArray := prog_14_method_115_code
def yX13_result : MethodName := ⟨RX13, "result", "()I"⟩
abbrev cX13_register : ByteArray := prog_14_method_116_code
def yX13_register : MethodName := ⟨RX13, "register", "(I)I"⟩
abbrev cX13_set : ByteArray := prog_14_method_117_code
def yX13_set : MethodName := ⟨RX13, "set", "(II)V"⟩
abbrev cX13_word : ByteArray := prog_14_method_118_code
def yX13_word : MethodName := ⟨RX13, "word", "(I)I"⟩
abbrev cX13_poke : ByteArray := prog_14_method_119_code
def yX13_poke : MethodName := ⟨RX13, "poke", "(II)V"⟩
abbrev cX13_put : ByteArray := prog_14_method_120_code
def yX13_put : MethodName := ⟨RX13, "put", "(I)I"⟩
abbrev cX13_sign0 : ByteArray := prog_14_method_121_code
def yX13_sign0 : MethodName := ⟨RX13, "sign0", "(I)V"⟩
abbrev cX13_words : ByteArray := prog_14_method_122_code
def yX13_words : MethodName := ⟨RX13, "words", "(Ljava/lang/String;)V"⟩
abbrev cX13_decimal : ByteArray := prog_14_method_123_code
def yX13_decimal : MethodName := ⟨RX13, "decimal", "(I)V"⟩
abbrev cX13_named_ : ByteArray := prog_14_method_124_code
def yX13_named_ : MethodName := ⟨RX13, "named", "(I)V"⟩
abbrev cX13_comma : ByteArray := prog_14_method_125_code
def yX13_comma : MethodName := ⟨RX13, "comma", "()V"⟩
abbrev cX13_three : ByteArray := prog_14_method_126_code
def yX13_three : MethodName := ⟨RX13, "three", "(II)V"⟩
abbrev cX13_at_ : ByteArray := prog_14_method_127_code
def yX13_at_ : MethodName := ⟨RX13, "at", "(II)V"⟩
abbrev cX13_nameOf : ByteArray := prog_14_method_128_code
def yX13_nameOf : MethodName := ⟨RX13, "nameOf", "(I)Ljava/lang/String;"⟩
abbrev cX13_show : ByteArray := prog_14_method_129_code
def yX13_show : MethodName := ⟨RX13, "show", "(I)I"⟩
abbrev cX13_octet : ByteArray := prog_14_method_130_code
def yX13_octet : MethodName := ⟨RX13, "octet", "(I)I"⟩
abbrev cX13_push : ByteArray := prog_14_method_131_code
def yX13_push : MethodName := ⟨RX13, "push", "(I)V"⟩
abbrev cX13_pop : ByteArray := prog_14_method_132_code
def yX13_pop : MethodName := ⟨RX13, "pop", "()I"⟩
abbrev cX13_turn : ByteArray := prog_14_method_133_code
def yX13_turn : MethodName := ⟨RX13, "turn", "()I"⟩
abbrev cX13_enter : ByteArray := prog_14_method_134_code
def yX13_enter : MethodName := ⟨RX13, "enter", "(I)I"⟩
abbrev cX13_leave : ByteArray := prog_14_method_135_code
def yX13_leave : MethodName := ⟨RX13, "leave", "()I"⟩
abbrev cX13_worked : ByteArray := prog_14_method_136_code
def yX13_worked : MethodName := ⟨RX13, "worked", "(III)I"⟩
abbrev cX13_operates : ByteArray := prog_14_method_137_code
def yX13_operates : MethodName := ⟨RX13, "operates", "(I)I"⟩
abbrev cX13_obey : ByteArray := prog_14_method_138_code
def yX13_obey : MethodName := ⟨RX13, "obey", "()I"⟩
abbrev cX13_others : ByteArray := prog_14_method_139_code
def yX13_others : MethodName := ⟨RX13, "others", "(II)V"⟩
abbrev cX13_work : ByteArray := prog_14_method_140_code
def yX13_work : MethodName := ⟨RX13, "work", "(IIII)I"⟩
abbrev cX13_told : ByteArray := prog_14_method_141_code
def yX13_told : MethodName := ⟨RX13, "told", "(I)I"⟩
abbrev cX13_worked_ : ByteArray := prog_14_method_142_code
def yX13_worked_ : MethodName := ⟨RX13, "worked", "(I)I"⟩
abbrev cX13_left : ByteArray := prog_14_method_143_code
def yX13_left : MethodName := ⟨RX13, "left", "(II)I"⟩
abbrev cX13_count : ByteArray := prog_14_method_144_code
def yX13_count : MethodName := ⟨RX13, "count", "(I)I"⟩
def RJ5 : String := "java/lang/AbstractStringBuilder"
def TJ5 : u_T := fun k => match k with
  | _ => ("", "", "", false)
def tyJ5 : Nat → FieldType := fun k => match k with
  | _ => .int
abbrev wsJ50 : List Cond := u_ws RJ5 TJ5 0
theorem nmJ5 : ∀ a, a < 0 → ∀ b, b < 0 → a ≠ b → (TJ5 a).2.1 ≠ (TJ5 b).2.1 := by decide +kernel
theorem tyJ5_ok : ∀ k, k < 0 → parseFieldDescriptor (TJ5 k).2.2.1 = some (tyJ5 k) := by decide +kernel
abbrev cJ5_init_d00df : ByteArray := prog_16_method_2_code
def yJ5_init_d00df : MethodName := ⟨RJ5, "<init>", "(I)V"⟩
abbrev cJ5_length_8abf5 : ByteArray := prog_16_method_6_code
def yJ5_length_8abf5 : MethodName := ⟨RJ5, "length", "()I"⟩
abbrev cJ5_ensureCapacityInternal_d00df : ByteArray := prog_16_method_9_code
def yJ5_ensureCapacityInternal_d00df : MethodName := ⟨RJ5, "ensureCapacityInternal", "(I)V"⟩
abbrev cJ5_newCapacity_0f7a4 : ByteArray := prog_16_method_10_code
def yJ5_newCapacity_0f7a4 : MethodName := ⟨RJ5, "newCapacity", "(I)I"⟩
abbrev cJ5_inflate_da8c8 : ByteArray := prog_16_method_11_code
def yJ5_inflate_da8c8 : MethodName := ⟨RJ5, "inflate", "()V"⟩
abbrev cJ5_setLength_d00df : ByteArray := prog_16_method_13_code
def yJ5_setLength_d00df : MethodName := ⟨RJ5, "setLength", "(I)V"⟩
abbrev cJ5_charAt_5068e : ByteArray := prog_16_method_14_code
def yJ5_charAt_5068e : MethodName := ⟨RJ5, "charAt", "(I)C"⟩
abbrev cJ5_append_cf1ce : ByteArray := prog_16_method_22_code
def yJ5_append_cf1ce : MethodName := ⟨RJ5, "append", "(Ljava/lang/String;)Ljava/lang/AbstractStringBuilder;"⟩
abbrev cJ5_appendNull_278bc : ByteArray := prog_16_method_26_code
def yJ5_appendNull_278bc : MethodName := ⟨RJ5, "appendNull", "()Ljava/lang/AbstractStringBuilder;"⟩
abbrev cJ5_append_3fe6f : ByteArray := prog_16_method_31_code
def yJ5_append_3fe6f : MethodName := ⟨RJ5, "append", "(C)Ljava/lang/AbstractStringBuilder;"⟩
abbrev cJ5_append_c97b9 : ByteArray := prog_16_method_32_code
def yJ5_append_c97b9 : MethodName := ⟨RJ5, "append", "(I)Ljava/lang/AbstractStringBuilder;"⟩
abbrev cJ5_getValue_6d5f1 : ByteArray := prog_16_method_64_code
def yJ5_getValue_6d5f1 : MethodName := ⟨RJ5, "getValue", "()[B"⟩
abbrev cJ5_isLatin1_aae02 : ByteArray := prog_16_method_68_code
def yJ5_isLatin1_aae02 : MethodName := ⟨RJ5, "isLatin1", "()Z"⟩
abbrev cJ5_inflateIfNeededFor_a7421 : ByteArray := prog_16_method_71_code
def yJ5_inflateIfNeededFor_a7421 : MethodName := ⟨RJ5, "inflateIfNeededFor", "(Ljava/lang/String;)V"⟩
abbrev cJ5_putStringAt_47b60 : ByteArray := prog_16_method_73_code
def yJ5_putStringAt_47b60 : MethodName := ⟨RJ5, "putStringAt", "(ILjava/lang/String;)V"⟩
def RJx00060 : String := "java/lang/ArrayIndexOutOfBoundsException"
def TJx00060 : u_T := fun k => match k with
  | 0 => ("java/lang/Throwable", "cause", "Ljava/lang/Throwable;", false)
  | 1 => ("java/lang/Throwable", "stackTrace", "[Ljava/lang/StackTraceElement;", false)
  | 2 => ("java/lang/Throwable", "suppressedExceptions", "Ljava/util/List;", false)
  | 3 => ("java/lang/Throwable", "detailMessage", "Ljava/lang/String;", false)
  | 4 => ("java/lang/Throwable", "backtrace", "Ljava/lang/Object;", false)
  | _ => ("java/lang/Throwable", "depth", "I", false)
def tyJx00060 : Nat → FieldType := fun k => match k with
  | 0 => .object "java/lang/Throwable"
  | 1 => .array (.object "java/lang/StackTraceElement")
  | 2 => .object "java/util/List"
  | 3 => .object "java/lang/String"
  | 4 => .object "java/lang/Object"
  | _ => .int
abbrev wsJx000600 : List Cond := u_ws RJx00060 TJx00060 6
theorem nmJx00060 : ∀ a, a < 6 → ∀ b, b < 6 → a ≠ b → (TJx00060 a).2.1 ≠ (TJx00060 b).2.1 := by decide +kernel
theorem tyJx00060_ok : ∀ k, k < 6 → parseFieldDescriptor (TJx00060 k).2.2.1 = some (tyJx00060 k) := by decide +kernel
abbrev cJx00060_init_d00df : ByteArray := prog_17_method_3_code
def yJx00060_init_d00df : MethodName := ⟨RJx00060, "<init>", "(I)V"⟩
def RJx8e188 : String := "java/lang/Cloneable"
def TJx8e188 : u_T := fun k => match k with
  | _ => ("", "", "", false)
def tyJx8e188 : Nat → FieldType := fun k => match k with
  | _ => .int
abbrev wsJx8e1880 : List Cond := u_ws RJx8e188 TJx8e188 0
theorem nmJx8e188 : ∀ a, a < 0 → ∀ b, b < 0 → a ≠ b → (TJx8e188 a).2.1 ≠ (TJx8e188 b).2.1 := by decide +kernel
theorem tyJx8e188_ok : ∀ k, k < 0 → parseFieldDescriptor (TJx8e188 k).2.2.1 = some (tyJx8e188 k) := by decide +kernel
def RJ6 : String := "java/lang/Integer"
def TJ6 : u_T := fun k => match k with
  | _ => ("", "", "", false)
def tyJ6 : Nat → FieldType := fun k => match k with
  | _ => .int
abbrev wsJ60 : List Cond := u_ws RJ6 TJ6 0
theorem nmJ6 : ∀ a, a < 0 → ∀ b, b < 0 → a ≠ b → (TJ6 a).2.1 ≠ (TJ6 b).2.1 := by decide +kernel
theorem tyJ6_ok : ∀ k, k < 0 → parseFieldDescriptor (TJ6 k).2.2.1 = some (tyJ6 k) := by decide +kernel
abbrev cJ6_getChars_ba4f3 : ByteArray := prog_23_method_12_code
def yJ6_getChars_ba4f3 : MethodName := ⟨RJ6, "getChars", "(II[B)I"⟩
abbrev cJ6_stringSize_0f7a4 : ByteArray := prog_23_method_13_code
def yJ6_stringSize_0f7a4 : MethodName := ⟨RJ6, "stringSize", "(I)I"⟩
abbrev cJ6_compare_7cf53 : ByteArray := prog_23_method_40_code
def yJ6_compare_7cf53 : MethodName := ⟨RJ6, "compare", "(II)I"⟩
abbrev cJ6_compareUnsigned_7cf53 : ByteArray := prog_23_method_41_code
def yJ6_compareUnsigned_7cf53 : MethodName := ⟨RJ6, "compareUnsigned", "(II)I"⟩
def RJ9 : String := "java/lang/Math"
def TJ9 : u_T := fun k => match k with
  | _ => ("", "", "", false)
def tyJ9 : Nat → FieldType := fun k => match k with
  | _ => .int
abbrev wsJ90 : List Cond := u_ws RJ9 TJ9 0
theorem nmJ9 : ∀ a, a < 0 → ∀ b, b < 0 → a ≠ b → (TJ9 a).2.1 ≠ (TJ9 b).2.1 := by decide +kernel
theorem tyJ9_ok : ∀ k, k < 0 → parseFieldDescriptor (TJ9 k).2.2.1 = some (tyJ9 k) := by decide +kernel
abbrev cJ9_max_7cf53 : ByteArray := prog_24_method_65_code
def yJ9_max_7cf53 : MethodName := ⟨RJ9, "max", "(II)I"⟩
abbrev cJ9_min_7cf53 : ByteArray := prog_24_method_69_code
def yJ9_min_7cf53 : MethodName := ⟨RJ9, "min", "(II)I"⟩
def RJ0 : String := "java/lang/String"
def TJ0 : u_T := fun k => match k with
  | 0 => ("java/lang/String", "value", "[B", true)
  | 1 => ("java/lang/String", "coder", "B", true)
  | 2 => ("java/lang/String", "hash", "I", false)
  | _ => ("java/lang/String", "hashIsZero", "Z", false)
def tyJ0 : Nat → FieldType := fun k => match k with
  | 0 => .array .byte
  | 1 => .byte
  | 2 => .int
  | _ => .boolean
abbrev wsJ00 : List Cond := u_ws RJ0 TJ0 4
theorem nmJ0 : ∀ a, a < 4 → ∀ b, b < 4 → a ≠ b → (TJ0 a).2.1 ≠ (TJ0 b).2.1 := by decide +kernel
theorem tyJ0_ok : ∀ k, k < 4 → parseFieldDescriptor (TJ0 k).2.2.1 = some (tyJ0 k) := by decide +kernel
abbrev cJ0_init_81219 : ByteArray := prog_26_method_53_code
def yJ0_init_81219 : MethodName := ⟨RJ0, "<init>", "(Ljava/lang/StringBuilder;)V"⟩
abbrev cJ0_length_8abf5 : ByteArray := prog_26_method_54_code
def yJ0_length_8abf5 : MethodName := ⟨RJ0, "length", "()I"⟩
abbrev cJ0_charAt_5068e : ByteArray := prog_26_method_56_code
def yJ0_charAt_5068e : MethodName := ⟨RJ0, "charAt", "(I)C"⟩
abbrev cJ0_getBytes_840e7 : ByteArray := prog_26_method_147_code
def yJ0_getBytes_840e7 : MethodName := ⟨RJ0, "getBytes", "([BIB)V"⟩
abbrev cJ0_init_db425 : ByteArray := prog_26_method_150_code
def yJ0_init_db425 : MethodName := ⟨RJ0, "<init>", "(Ljava/lang/AbstractStringBuilder;Ljava/lang/Void;)V"⟩
abbrev cJ0_coder_7d493 : ByteArray := prog_26_method_152_code
def yJ0_coder_7d493 : MethodName := ⟨RJ0, "coder", "()B"⟩
abbrev cJ0_isLatin1_aae02 : ByteArray := prog_26_method_154_code
def yJ0_isLatin1_aae02 : MethodName := ⟨RJ0, "isLatin1", "()Z"⟩
abbrev cJ0_checkIndex_df160 : ByteArray := prog_26_method_155_code
def yJ0_checkIndex_df160 : MethodName := ⟨RJ0, "checkIndex", "(II)V"⟩
abbrev cJ0_checkBoundsOffCount_cabcc : ByteArray := prog_26_method_157_code
def yJ0_checkBoundsOffCount_cabcc : MethodName := ⟨RJ0, "checkBoundsOffCount", "(III)I"⟩
abbrev cJ0_checkBoundsBeginEnd_23922 : ByteArray := prog_26_method_158_code
def yJ0_checkBoundsBeginEnd_23922 : MethodName := ⟨RJ0, "checkBoundsBeginEnd", "(III)V"⟩
def RJ4 : String := "java/lang/StringBuilder"
def TJ4 : u_T := fun k => match k with
  | 0 => ("java/lang/AbstractStringBuilder", "value", "[B", false)
  | 1 => ("java/lang/AbstractStringBuilder", "coder", "B", false)
  | 2 => ("java/lang/AbstractStringBuilder", "maybeLatin1", "Z", false)
  | _ => ("java/lang/AbstractStringBuilder", "count", "I", false)
def tyJ4 : Nat → FieldType := fun k => match k with
  | 0 => .array .byte
  | 1 => .byte
  | 2 => .boolean
  | _ => .int
abbrev wsJ40 : List Cond := u_ws RJ4 TJ4 4
theorem nmJ4 : ∀ a, a < 4 → ∀ b, b < 4 → a ≠ b → (TJ4 a).2.1 ≠ (TJ4 b).2.1 := by decide +kernel
theorem tyJ4_ok : ∀ k, k < 4 → parseFieldDescriptor (TJ4 k).2.2.1 = some (tyJ4 k) := by decide +kernel
abbrev cJ4_init_da8c8 : ByteArray := prog_27_method_1_code
def yJ4_init_da8c8 : MethodName := ⟨RJ4, "<init>", "()V"⟩
abbrev cJ4_append_15ec4 : ByteArray := prog_27_method_7_code
def yJ4_append_15ec4 : MethodName := ⟨RJ4, "append", "(Ljava/lang/String;)Ljava/lang/StringBuilder;"⟩
abbrev cJ4_append_cf468 : ByteArray := prog_27_method_14_code
def yJ4_append_cf468 : MethodName := ⟨RJ4, "append", "(C)Ljava/lang/StringBuilder;"⟩
abbrev cJ4_append_bf812 : ByteArray := prog_27_method_15_code
def yJ4_append_bf812 : MethodName := ⟨RJ4, "append", "(I)Ljava/lang/StringBuilder;"⟩
abbrev cJ4_toString_0e30d : ByteArray := prog_27_method_42_code
def yJ4_toString_0e30d : MethodName := ⟨RJ4, "toString", "()Ljava/lang/String;"⟩
abbrev cJ4_charAt_5068e : ByteArray := prog_27_method_88_code
def yJ4_charAt_5068e : MethodName := ⟨RJ4, "charAt", "(I)C"⟩
abbrev cJ4_setLength_d00df : ByteArray := prog_27_method_89_code
def yJ4_setLength_d00df : MethodName := ⟨RJ4, "setLength", "(I)V"⟩
abbrev cJ4_length_8abf5 : ByteArray := prog_27_method_93_code
def yJ4_length_8abf5 : MethodName := ⟨RJ4, "length", "()I"⟩
def RJx7c733 : String := "java/lang/StringIndexOutOfBoundsException"
def TJx7c733 : u_T := fun k => match k with
  | 0 => ("java/lang/Throwable", "backtrace", "Ljava/lang/Object;", false)
  | 1 => ("java/lang/Throwable", "detailMessage", "Ljava/lang/String;", false)
  | 2 => ("java/lang/Throwable", "cause", "Ljava/lang/Throwable;", false)
  | 3 => ("java/lang/Throwable", "stackTrace", "[Ljava/lang/StackTraceElement;", false)
  | 4 => ("java/lang/Throwable", "depth", "I", false)
  | _ => ("java/lang/Throwable", "suppressedExceptions", "Ljava/util/List;", false)
def tyJx7c733 : Nat → FieldType := fun k => match k with
  | 0 => .object "java/lang/Object"
  | 1 => .object "java/lang/String"
  | 2 => .object "java/lang/Throwable"
  | 3 => .array (.object "java/lang/StackTraceElement")
  | 4 => .int
  | _ => .object "java/util/List"
abbrev wsJx7c7330 : List Cond := u_ws RJx7c733 TJx7c733 6
theorem nmJx7c733 : ∀ a, a < 6 → ∀ b, b < 6 → a ≠ b → (TJx7c733 a).2.1 ≠ (TJx7c733 b).2.1 := by decide +kernel
theorem tyJx7c733_ok : ∀ k, k < 6 → parseFieldDescriptor (TJx7c733 k).2.2.1 = some (tyJx7c733 k) := by decide +kernel
abbrev cJx7c733_init_d00df : ByteArray := prog_28_method_3_code
def yJx7c733_init_d00df : MethodName := ⟨RJx7c733, "<init>", "(I)V"⟩
def RJ1 : String := "java/lang/StringLatin1"
def TJ1 : u_T := fun k => match k with
  | _ => ("", "", "", false)
def tyJ1 : Nat → FieldType := fun k => match k with
  | _ => .int
abbrev wsJ10 : List Cond := u_ws RJ1 TJ1 0
theorem nmJ1 : ∀ a, a < 0 → ∀ b, b < 0 → a ≠ b → (TJ1 a).2.1 ≠ (TJ1 b).2.1 := by decide +kernel
theorem tyJ1_ok : ∀ k, k < 0 → parseFieldDescriptor (TJ1 k).2.2.1 = some (tyJ1 k) := by decide +kernel
abbrev cJ1_charAt_3b067 : ByteArray := prog_29_method_2_code
def yJ1_charAt_3b067 : MethodName := ⟨RJ1, "charAt", "([BI)C"⟩
abbrev cJ1_canEncode_fc78d : ByteArray := prog_29_method_3_code
def yJ1_canEncode_fc78d : MethodName := ⟨RJ1, "canEncode", "(C)Z"⟩
abbrev cJ1_fillNull_b72d1 : ByteArray := prog_29_method_48_code
def yJ1_fillNull_b72d1 : MethodName := ⟨RJ1, "fillNull", "([BII)V"⟩
abbrev cJ1_inflate_0e8fd : ByteArray := prog_29_method_50_code
def yJ1_inflate_0e8fd : MethodName := ⟨RJ1, "inflate", "([BI[BII)V"⟩
def RJ2 : String := "java/lang/StringUTF16"
def TJ2 : u_T := fun k => match k with
  | _ => ("", "", "", false)
def tyJ2 : Nat → FieldType := fun k => match k with
  | _ => .int
abbrev wsJ20 : List Cond := u_ws RJ2 TJ2 0
theorem nmJ2 : ∀ a, a < 0 → ∀ b, b < 0 → a ≠ b → (TJ2 a).2.1 ≠ (TJ2 b).2.1 := by decide +kernel
theorem tyJ2_ok : ∀ k, k < 0 → parseFieldDescriptor (TJ2 k).2.2.1 = some (tyJ2 k) := by decide +kernel
abbrev cJ2_newBytesFor_77867 : ByteArray := prog_30_method_2_code
def yJ2_newBytesFor_77867 : MethodName := ⟨RJ2, "newBytesFor", "(I)[B"⟩
abbrev cJ2_newBytesLength_0f7a4 : ByteArray := prog_30_method_3_code
def yJ2_newBytesLength_0f7a4 : MethodName := ⟨RJ2, "newBytesLength", "(I)I"⟩
abbrev cJ2_putChar_b72d1 : ByteArray := prog_30_method_4_code
def yJ2_putChar_b72d1 : MethodName := ⟨RJ2, "putChar", "([BII)V"⟩
abbrev cJ2_getChar_3b067 : ByteArray := prog_30_method_5_code
def yJ2_getChar_3b067 : MethodName := ⟨RJ2, "getChar", "([BI)C"⟩
abbrev cJ2_length_9d52b : ByteArray := prog_30_method_6_code
def yJ2_length_9d52b : MethodName := ⟨RJ2, "length", "([B)I"⟩
abbrev cJ2_coderFromArrayLen_85cad : ByteArray := prog_30_method_15_code
def yJ2_coderFromArrayLen_85cad : MethodName := ⟨RJ2, "coderFromArrayLen", "([BI)B"⟩
abbrev cJ2_compress_39247 : ByteArray := prog_30_method_17_code
def yJ2_compress_39247 : MethodName := ⟨RJ2, "compress", "([BII)[B"⟩
abbrev cJ2_compress_5af95 : ByteArray := prog_30_method_22_code
def yJ2_compress_5af95 : MethodName := ⟨RJ2, "compress", "([BI[BII)I"⟩
abbrev cJ2_fillNull_b72d1 : ByteArray := prog_30_method_70_code
def yJ2_fillNull_b72d1 : MethodName := ⟨RJ2, "fillNull", "([BII)V"⟩
abbrev cJ2_putCharSB_b72d1 : ByteArray := prog_30_method_71_code
def yJ2_putCharSB_b72d1 : MethodName := ⟨RJ2, "putCharSB", "([BII)V"⟩
abbrev cJ2_getChars_46870 : ByteArray := prog_30_method_77_code
def yJ2_getChars_46870 : MethodName := ⟨RJ2, "getChars", "(III[B)I"⟩
abbrev cJ2_putCharsAt_cd4e5 : ByteArray := prog_30_method_81_code
def yJ2_putCharsAt_cd4e5 : MethodName := ⟨RJ2, "putCharsAt", "([BICCCC)I"⟩
abbrev cJ2_charAt_3b067 : ByteArray := prog_30_method_83_code
def yJ2_charAt_3b067 : MethodName := ⟨RJ2, "charAt", "([BI)C"⟩
abbrev cJ2_inflate_0e8fd : ByteArray := prog_30_method_86_code
def yJ2_inflate_0e8fd : MethodName := ⟨RJ2, "inflate", "([BI[BII)V"⟩
abbrev cJ2_getChars_ba4f3 : ByteArray := prog_30_method_89_code
def yJ2_getChars_ba4f3 : MethodName := ⟨RJ2, "getChars", "(II[B)I"⟩
abbrev cJ2_checkIndex_2214a : ByteArray := prog_30_method_91_code
def yJ2_checkIndex_2214a : MethodName := ⟨RJ2, "checkIndex", "(I[B)V"⟩
abbrev cJ2_checkBoundsBeginEnd_d044e : ByteArray := prog_30_method_93_code
def yJ2_checkBoundsBeginEnd_d044e : MethodName := ⟨RJ2, "checkBoundsBeginEnd", "(II[B)V"⟩
abbrev cJ2_checkBoundsOffCount_d044e : ByteArray := prog_30_method_94_code
def yJ2_checkBoundsOffCount_d044e : MethodName := ⟨RJ2, "checkBoundsOffCount", "(II[B)V"⟩
def RJ10 : String := "java/lang/System"
def TJ10 : u_T := fun k => match k with
  | _ => ("", "", "", false)
def tyJ10 : Nat → FieldType := fun k => match k with
  | _ => .int
abbrev wsJ100 : List Cond := u_ws RJ10 TJ10 0
theorem nmJ10 : ∀ a, a < 0 → ∀ b, b < 0 → a ≠ b → (TJ10 a).2.1 ≠ (TJ10 b).2.1 := by decide +kernel
theorem tyJ10_ok : ∀ k, k < 0 → parseFieldDescriptor (TJ10 k).2.2.1 = some (tyJ10 k) := by decide +kernel
def RJ7 : String := "java/util/Arrays"
def TJ7 : u_T := fun k => match k with
  | _ => ("", "", "", false)
def tyJ7 : Nat → FieldType := fun k => match k with
  | _ => .int
abbrev wsJ70 : List Cond := u_ws RJ7 TJ7 0
theorem nmJ7 : ∀ a, a < 0 → ∀ b, b < 0 → a ≠ b → (TJ7 a).2.1 ≠ (TJ7 b).2.1 := by decide +kernel
theorem tyJ7_ok : ∀ k, k < 0 → parseFieldDescriptor (TJ7 k).2.2.1 = some (tyJ7 k) := by decide +kernel
abbrev cJ7_rangeCheck_23922 : ByteArray := prog_33_method_30_code
def yJ7_rangeCheck_23922 : MethodName := ⟨RJ7, "rangeCheck", "(III)V"⟩
abbrev cJ7_fill_53178 : ByteArray := prog_33_method_103_code
def yJ7_fill_53178 : MethodName := ⟨RJ7, "fill", "([II)V"⟩
abbrev cJ7_fill_eb02e : ByteArray := prog_33_method_110_code
def yJ7_fill_eb02e : MethodName := ⟨RJ7, "fill", "([BIIB)V"⟩
abbrev cJ7_copyOf_9075b : ByteArray := prog_33_method_121_code
def yJ7_copyOf_9075b : MethodName := ⟨RJ7, "copyOf", "([BI)[B"⟩
abbrev cJ7_checkLength_df160 : ByteArray := prog_33_method_131_code
def yJ7_checkLength_df160 : MethodName := ⟨RJ7, "checkLength", "(II)V"⟩
abbrev cJ7_copyOfRange_39247 : ByteArray := prog_33_method_132_code
def yJ7_copyOfRange_39247 : MethodName := ⟨RJ7, "copyOfRange", "([BII)[B"⟩
abbrev cJ7_copyOfRangeByte_39247 : ByteArray := prog_33_method_133_code
def yJ7_copyOfRangeByte_39247 : MethodName := ⟨RJ7, "copyOfRangeByte", "([BII)[B"⟩
def RJ8 : String := "jdk/internal/util/ArraysSupport"
def TJ8 : u_T := fun k => match k with
  | _ => ("", "", "", false)
def tyJ8 : Nat → FieldType := fun k => match k with
  | _ => .int
abbrev wsJ80 : List Cond := u_ws RJ8 TJ8 0
theorem nmJ8 : ∀ a, a < 0 → ∀ b, b < 0 → a ≠ b → (TJ8 a).2.1 ≠ (TJ8 b).2.1 := by decide +kernel
theorem tyJ8_ok : ∀ k, k < 0 → parseFieldDescriptor (TJ8 k).2.2.1 = some (tyJ8 k) := by decide +kernel
abbrev cJ8_newLength_cabcc : ByteArray := prog_35_method_27_code
def yJ8_newLength_cabcc : MethodName := ⟨RJ8, "newLength", "(III)I"⟩
abbrev cJ8_hugeLength_7cf53 : ByteArray := prog_35_method_28_code
def yJ8_hugeLength_7cf53 : MethodName := ⟨RJ8, "hugeLength", "(II)I"⟩
def RJ3 : String := "jdk/internal/util/Preconditions"
def TJ3 : u_T := fun k => match k with
  | _ => ("", "", "", false)
def tyJ3 : Nat → FieldType := fun k => match k with
  | _ => .int
abbrev wsJ30 : List Cond := u_ws RJ3 TJ3 0
theorem nmJ3 : ∀ a, a < 0 → ∀ b, b < 0 → a ≠ b → (TJ3 a).2.1 ≠ (TJ3 b).2.1 := by decide +kernel
theorem tyJ3_ok : ∀ k, k < 0 → parseFieldDescriptor (TJ3 k).2.2.1 = some (tyJ3 k) := by decide +kernel
abbrev cJ3_checkIndex_8e157 : ByteArray := prog_36_method_11_code
def yJ3_checkIndex_8e157 : MethodName := ⟨RJ3, "checkIndex", "(IILjava/util/function/BiFunction;)I"⟩
abbrev cJ3_checkFromToIndex_8c36e : ByteArray := prog_36_method_12_code
def yJ3_checkFromToIndex_8c36e : MethodName := ⟨RJ3, "checkFromToIndex", "(IIILjava/util/function/BiFunction;)I"⟩
abbrev cJ3_checkFromIndexSize_8c36e : ByteArray := prog_36_method_13_code
def yJ3_checkFromIndexSize_8c36e : MethodName := ⟨RJ3, "checkFromIndexSize", "(IIILjava/util/function/BiFunction;)I"⟩
def RL : String := "PocketCompilerLaw"
abbrev cL_cell : ByteArray := method_2_code
def yL_cell : MethodName := ⟨RL, "cell", "([II)I"⟩
abbrev cL_code : ByteArray := method_3_code
def yL_code : MethodName := ⟨RL, "code", "(LPocketCompiler;I[J)I"⟩
abbrev cL_find : ByteArray := method_4_code
def yL_find : MethodName := ⟨RL, "find", "(LPocketCompiler;I[J)I"⟩
abbrev cL_run : ByteArray := method_5_code
def yL_run : MethodName := ⟨RL, "run", "(LPocketCompiler;I[J)I"⟩
abbrev cL_register : ByteArray := method_6_code
def yL_register : MethodName := ⟨RL, "register", "(LPocketCompiler;I[J)I"⟩
abbrev cL_set : ByteArray := method_7_code
def yL_set : MethodName := ⟨RL, "set", "(LPocketCompiler;II)I"⟩
abbrev cL_word : ByteArray := method_8_code
def yL_word : MethodName := ⟨RL, "word", "(LPocketCompiler;I[J)I"⟩
abbrev cL_poke : ByteArray := method_9_code
def yL_poke : MethodName := ⟨RL, "poke", "(LPocketCompiler;II)I"⟩
abbrev cL_put : ByteArray := method_10_code
def yL_put : MethodName := ⟨RL, "put", "(LPocketCompiler;I[J)I"⟩
abbrev cL_work : ByteArray := method_11_code
def yL_work : MethodName := ⟨RL, "work", "(LPocketCompiler;IIII[J)I"⟩
abbrev cL_worked : ByteArray := method_12_code
def yL_worked : MethodName := ⟨RL, "worked", "(LPocketCompiler;I[J)I"⟩
abbrev cL_left : ByteArray := method_13_code
def yL_left : MethodName := ⟨RL, "left", "(LPocketCompiler;II[J)I"⟩
abbrev cL_law : ByteArray := code
def yL_law : MethodName := ⟨RL, "law", "([I)Z"⟩
abbrev vwCl : List vw_C := [(RJ0, TJ0, 4), (RJ4, TJ4, 4), (RJx00060, TJx00060, 6), (RJx7c733, TJx7c733, 6), (RX0, TX0, 9), (RX1, TX1, 12), (RX2, TX2, 5), (RX3, TX3, 3), (RX5, TX5, 7), (RX6, TX6, 9), (RX7, TX7, 13), (RX8, TX8, 1), (RX9, TX9, 10), (RX10, TX10, 17), (RX11, TX11, 12), (RX12, TX12, 6), (RX13, TX13, 124)]
end
section
/-! MY OWN ROWS: one list of words for every contract, a contract's form, a call in one row -/
/-- the words that every contract here stands on: the tables' good ones -/
def tw_W : List Cond := lw_tbl.filter goodWord
theorem tw_in {w : Cond} (h : w ∈ lw_tbl) (g : goodWord w = true) : w ∈ tw_W := List.mem_filter.mpr ⟨h, g⟩
theorem tw_all {ws : List Cond} (h : ws.all (fun w => lw_tbl.contains w && goodWord w) = true) : ∀ w ∈ ws, w ∈ tw_W := by
  intro w hw
  have h1 := List.all_eq_true.mp h w hw
  rw [Bool.and_eq_true] at h1
  exact tw_in (List.contains_iff_mem.mp h1.1) h1.2
theorem tw_g : GoodIn tw_W tw_W := fun w h => ⟨h, good_of_word (List.mem_filter.mp h).2⟩
theorem tw_c {d : Cond} (hd : d ∈ tw_W) : GoodIn tw_W (d :: tw_W) := fun w h => (List.mem_cons.mp h).elim (fun e => by rw [e]; exact tw_g d hd) (fun h => tw_g w h)
theorem tw_V {d : Cond} {own C : String} {idx : Nat} {y : MethodName} (hd : d ∈ tw_W) (h : ∀ w ∈ ([.methodLink own idx y, .instanceMethod y, .selects C y y, .initialized C] : List Cond), w ∈ tw_W) : GoodIn tw_W (wsV own idx C y (d :: tw_W)) := fun w hw => (List.mem_append.mp hw).elim (fun k => tw_g w (h w k)) (fun k => tw_c hd w k)
theorem tw_S {d : Cond} {own : String} {idx : Nat} {y : MethodName} (hd : d ∈ tw_W) (h : ∀ w ∈ ([.methodLink own idx y, .static y, .initialized y.cls] : List Cond), w ∈ tw_W) : GoodIn tw_W (va_wsS own idx y (d :: tw_W)) := fun w hw => (List.mem_append.mp hw).elim (fun k => tw_g w (h w k)) (fun k => tw_c hd w k)
/-- private members of nest mates that are used: owner, index, class, name, descriptor -/
def nwF : List (String × Nat × String × String × String) := [("PocketCompiler", 255, "PocketCompiler$Gifts", "size", "I"), ("PocketCompiler", 105, "PocketCompiler$Tokens", "faultKind", "I"), ("PocketCompiler", 110, "PocketCompiler$Tokens", "faultPlace", "I"), ("PocketCompiler$Expressions", 125, "PocketCompiler$Builder", "program", "LPocketCompiler$Program;"), ("PocketCompiler$Parser", 141, "PocketCompiler$Builder", "knownCount", "I"), ("PocketCompiler$Parser", 217, "PocketCompiler$Builder", "blockStart", "I"), ("PocketCompiler$Expressions", 85, "PocketCompiler$Builder", "putBy", "I"), ("PocketCompiler$Parser", 68, "PocketCompiler$Builder", "callCount", "I"), ("PocketCompiler", 101, "PocketCompiler$Parser", "tokens", "LPocketCompiler$Tokens;"), ("PocketCompiler", 180, "PocketCompiler$Processor", "pc", "I"), ("PocketCompiler", 166, "PocketCompiler$Processor", "status", "I"), ("PocketCompiler", 252, "PocketCompiler$Processor", "steps", "I"), ("PocketCompiler", 210, "PocketCompiler$Processor", "puts", "[I"), ("PocketCompiler", 202, "PocketCompiler$Processor", "putCount", "I"), ("PocketCompiler", 237, "PocketCompiler$Worker", "puts", "[I"), ("PocketCompiler", 232, "PocketCompiler$Worker", "hasWorked", "Z"), ("PocketCompiler", 236, "PocketCompiler$Worker", "putCount", "I")]
def nwM : List (String × Nat × MethodName) := [("PocketCompiler", 19, yX3_init), ("PocketCompiler", 26, yX8_init)]
/-- what the tables say, wherever a method is called -/
def kk_ (D : va_G) (tys : List (ClassId × FieldType)) (U : State) : Prop := va_K D vwCl tys U ∧ va_AOA .int U ∧ (∀ q ∈ nwF, va_Nw (.fieldLinkNest q.1 q.2.1 q.2.2.1 q.2.2.2.1 q.2.2.2.2 "PocketCompiler") U) ∧ (∀ q ∈ nwM, va_Nw (.methodLinkNest q.1 q.2.1 q.2.2 "PocketCompiler") U)
theorem kk_.same {D : va_G} {tys : List (ClassId × FieldType)} {u U : State} (h0 : u.vm = U.vm) (h : kk_ D tys u) : kk_ D tys U := ⟨h.1.moved (by rw [h0]; exact Vm.Alike.refl U.vm), h.2.1.moved (by rw [h0]; exact Vm.Alike.refl U.vm), fun q hq => va_Nw.same rfl h0 (h.2.2.1 q hq), fun q hq => va_Nw.same rfl h0 (h.2.2.2 q hq)⟩
theorem kk_.warm {D : va_G} {tys : List (ClassId × FieldType)} {s U : State} (hW : s.WarmedH U.vm) (h : kk_ D tys s) : kk_ D tys U := ⟨h.1.moved hW.alike, h.2.1.moved hW.alike, fun q hq => (h.2.2.1 q hq).warmF hW, fun q hq => (h.2.2.2 q hq).warmM hW⟩
theorem kk_.fld {D : va_G} {tys : List (ClassId × FieldType)} {s : State} {args : Array Value} (h : kk_ D tys s) {q : String × Nat × String × String × String} (k : Nat) (hq : nwF[k]? = some q) : (Cond.fieldLinkNest q.1 q.2.1 q.2.2.1 q.2.2.2.1 q.2.2.2.2 "PocketCompiler").before args s = true := va_Nw.use rfl (h.2.2.1 q (List.mem_of_getElem? hq))
/-- tables that nobody writes: their static fields and what they hold -/
def tbF (L : List Int32) : Nat → Value := fun j => .int (L.getD j 0)
def tbI : List (String × List Int32) := [("BRANCHES", [4, 5, 40, 40, 6, 7, 8, 9]), ("LOADS", [10, 11, 12, 40, 13, 14, 40, 40]), ("STORES", [15, 16, 17, 40, 40, 40, 40, 40]), ("NUMBERED", [18, 24, 19, 20, 21, 25, 22, 23]), ("PLAIN", [27, 29, 30, 31, 32, 33, 35, 36])]
def tbD : List (String × List Int32) := [("DigitTens", (List.range 100).map (fun j => Int32.ofNat (48 + j / 10))), ("DigitOnes", (List.range 100).map (fun j => Int32.ofNat (48 + j % 10)))]
/-- what the heap holds from the start and nobody writes -/
def fx_ (tb : Nat → Nat) (A : Nat → Prop) (U : State) (H : Heap) : Prop :=
  va_Z "java/lang/String" "COMPACT_STRINGS" "Z" (.int 1) A U H ∧
  (∀ (k : Nat) (q : String × List Int32), tbI[k]? = some q → va_Z "PocketCompiler$Instruction" q.1 "[I" (.ref (tb k)) A U H ∧ va_T .int (tb k) q.2.length (tbF q.2) A U H) ∧
  (∀ (k : Nat) (q : String × List Int32), tbD[k]? = some q → va_Z "java/lang/Integer" q.1 "[B" (.ref (tb (10 + k))) A U H ∧ va_T .byte (tb (10 + k)) q.2.length (tbF q.2) A U H) ∧
  va_Zq "jdk/internal/util/Preconditions" "SIOOBE_FORMATTER" "Ljava/util/function/BiFunction;" A U H
theorem fx_.moved {tb : Nat → Nat} {A : Nat → Prop} {u U : State} {H : Heap} (hvm : u.vm.Alike U.vm) (h : fx_ tb A u H) : fx_ tb A U H := ⟨va_Z.moved hvm h.1, fun k q hq => ⟨va_Z.moved hvm (h.2.1 k q hq).1, va_T.moved hvm (h.2.1 k q hq).2⟩, fun k q hq => ⟨va_Z.moved hvm (h.2.2.1 k q hq).1, va_T.moved hvm (h.2.2.1 k q hq).2⟩, va_Zq.moved hvm h.2.2.2⟩
theorem fx_.kept {tb : Nat → Nat} {A : Nat → Prop} {U : State} {H H1 : Heap} (h : fx_ tb A U H) (hq : ∀ a : Nat, a < H.size → ¬ A a → H1[a]? = H[a]?) : fx_ tb A U H1 := ⟨va_Z.kept h.1 hq, fun k q hk => ⟨va_Z.kept (h.2.1 k q hk).1 hq, va_T.kept (h.2.1 k q hk).2 hq⟩, fun k q hk => ⟨va_Z.kept (h.2.2.1 k q hk).1 hq, va_T.kept (h.2.2.1 k q hk).2 hq⟩, va_Zq.kept h.2.2.2 hq⟩
theorem fx_.narrow {tb : Nat → Nat} {A B : Nat → Prop} {U : State} {H : Heap} (h : fx_ tb A U H) (hAB : ∀ q, B q → A q) : fx_ tb B U H := ⟨va_Z.narrow h.1 hAB, fun k q hk => ⟨va_Z.narrow (h.2.1 k q hk).1 hAB, va_T.narrow (h.2.1 k q hk).2 hAB⟩, fun k q hk => ⟨va_Z.narrow (h.2.2.1 k q hk).1 hAB, va_T.narrow (h.2.2.1 k q hk).2 hAB⟩, va_Zq.narrow h.2.2.2 hAB⟩
/-- a contract's start: its world, its tables -/
def pc_ (D : va_G) (tys : List (ClassId × FieldType)) (tb : Nat → Nat) (W : va_W) (sz : Nat) (av : List Value) : Array Value → State → Prop := va_Pc av (fun U => U.heap.size = sz ∧ va_P D vwCl W U.heap ∧ kk_ D tys U ∧ va_D (fun _ => True) W ∧ fx_ tb (va_A W sz) U U.heap)
/-- a contract's end: an int, nothing, a cell -/
def qi_ {S : Type} (D : va_G) (W : va_W) (sz : Nat) (post : Int32 → S → Prop) (Wf : S → va_W) : Array Value → State → Outcome → State → Prop := va_Qi post (fun u t => va_P D vwCl (Wf u) t.heap ∧ va_D (va_A W sz) (Wf u)) (va_A W sz)
def qv_ {S : Type} (D : va_G) (W : va_W) (sz : Nat) (post : S → Prop) (Wf : S → va_W) : Array Value → State → Outcome → State → Prop := va_Qv post (fun u t => va_P D vwCl (Wf u) t.heap ∧ va_D (va_A W sz) (Wf u)) (va_A W sz)
theorem pc_blind {D : va_G} {tys : List (ClassId × FieldType)} {tb : Nat → Nat} {W : va_W} {sz : Nat} {av : List Value} : FrameBlind (pc_ D tys tb W sz av) := fun a U g mk q => by
  obtain ⟨q0, q1, qP, qK, qD, qF⟩ := q
  exact ⟨q0, q1, qP, kk_.same (u := U) (U := U.calling g mk a) rfl qK, qD, fx_.moved (u := U) (U := U.calling g mk a) (Vm.Alike.refl U.vm) qF⟩
theorem is_fm {ws Wc : va_W} {is : List Nat} (h : is.map (fun i => ws[i]?) = Wc.map some) : is.filterMap (fun i => ws[i]?) = Wc := by
  have h2 : is.filterMap (fun i => ws[i]?) = (is.map (fun i => ws[i]?)).filterMap id := by rw [List.filterMap_map]; rfl
  rw [h2, h]
  clear h h2
  induction Wc with
  | nil => rfl
  | cons a t ih => simp [ih]
theorem pc_at {D : va_G} {tys : List (ClassId × FieldType)} {tb : Nat → Nat} {ws Wc : va_W} {A : Nat → Prop} {s : State} {H : Heap} {locs : List Loc} {As : List Value} (hK : kk_ D tys s) (hF : fx_ tb A s s.heap) (hP : va_P D vwCl ws H) (hD : va_D A ws) (hS : va_S A s.heap H locs) (hA : ∀ q, s.heap.size ≤ q → A q) {is : List Nat} (hn : va_nd is = true) (h : is.map (fun i => ws[i]?) = Wc.map some) : ∀ U : State, U.heap = H → s.WarmedH U.vm → pc_ D tys tb Wc H.size As As.toArray U := fun U hU hW =>
  ⟨rfl, by rw [hU], by rw [hU]; exact hP.sub is (is_fm h), kk_.warm hW hK, (hD.sub is hn h).weaken (fun _ _ _ _ => trivial), by rw [hU]; exact ((hF.kept hS.2.1).narrow (va_free hD hS hA is h)).moved hW.alike⟩
section CLX
variable {p : Program} {l : Launch} {e : Env} {R : Room} {s : State} {m : MethodId} {args : Array Value} {below : List Frame} {meth : Method} {c : Code} {H H0 : Heap} {locs : List Loc} {cells slots : Nat} {Q : State → Prop}
variable {cc bytes : ByteArray} {pc nL maxL mc ms n index ci b : Nat} {ls : Array Slot} {rest st0 As fs : List Value} {D : va_G} {A : Nat → Prop} {tys : List (ClassId × FieldType)} {ws Wc wr : va_W} {own C : String} {y : MethodName} {ret : Option FieldType} {rm : Room} {q : vw_C} {isC isR : List Nat} {S : Type} {tb : Nat → Nat}
theorem ca_i {post : Int32 → S → Prop} {Wf : S → va_W} {a : Array Value} (hr : va_Run p l e R s m args below meth c H locs cells slots mc ms (F0 m pc ls st0) rest (qi_ D Wc H.size post Wf a) (va_A Wc H.size)) (hP : va_P D vwCl ws H) (hD : va_D A ws) (hS : va_S A H0 H locs) (hA : ∀ q, H0.size ≤ q → A q)
    (hC : isC.map (fun i => ws[i]?) = Wc.map some) (hR : isR.map (fun i => ws[i]?) = wr.map some) (hn : va_nd isR = true) (hdis : ∀ i ∈ isR, i ∉ isC)
    (kk : ∀ (r : Int32) (u : S) (H1 : Heap) (locs1 : List Loc), post r u → va_P D vwCl (wr ++ Wf u) H1 → va_D A (wr ++ Wf u) → va_S A H0 H1 locs1 → W p l e R s m args below meth c H1 locs1 (cells + mc) (slots + ms) Q (F0 m (pc + 3) ls (.int r :: rest))) : W p l e R s m args below meth c H locs cells slots Q (F0 m pc ls st0) := by
  have hF := va_free hD hS hA isC hC
  refine va_calli hr hS (fun q _ h => hF q h) hF (fun r u t H1 locs1 ht hvm hw hB hz hk hS1 => ?_)
  obtain ⟨hP1, hD1⟩ := hB
  rw [ht] at hP1
  obtain ⟨hP2, hD2⟩ := va_join (wr := wr) (w1 := Wf u) hP hD isC isR hC hR hn hdis hk hF hP1 hD1
  exact kk r u H1 locs1 hw hP2 hD2 hS1
theorem ca_v {post : S → Prop} {Wf : S → va_W} {a : Array Value} (hr : va_Run p l e R s m args below meth c H locs cells slots mc ms (F0 m pc ls st0) rest (qv_ D Wc H.size post Wf a) (va_A Wc H.size)) (hP : va_P D vwCl ws H) (hD : va_D A ws) (hS : va_S A H0 H locs) (hA : ∀ q, H0.size ≤ q → A q)
    (hC : isC.map (fun i => ws[i]?) = Wc.map some) (hR : isR.map (fun i => ws[i]?) = wr.map some) (hn : va_nd isR = true) (hdis : ∀ i ∈ isR, i ∉ isC)
    (kk : ∀ (u : S) (H1 : Heap) (locs1 : List Loc), post u → va_P D vwCl (wr ++ Wf u) H1 → va_D A (wr ++ Wf u) → va_S A H0 H1 locs1 → W p l e R s m args below meth c H1 locs1 (cells + mc) (slots + ms) Q (F0 m (pc + 3) ls rest)) : W p l e R s m args below meth c H locs cells slots Q (F0 m pc ls st0) := by
  have hF := va_free hD hS hA isC hC
  refine va_callv hr hS (fun q _ h => hF q h) hF (fun u t H1 locs1 ht hvm hw hB hz hk hS1 => ?_)
  obtain ⟨hP1, hD1⟩ := hB
  rw [ht] at hP1
  obtain ⟨hP2, hD2⟩ := va_join (wr := wr) (w1 := Wf u) hP hD isC isR hC hR hn hdis hk hF hP1 hD1
  exact kk u H1 locs1 hw hP2 hD2 hS1
theorem rn_V {Qc : Array Value → State → Outcome → State → Prop} (hx : p.tables.exec = Jvm.exec) (hb : c.code = cc) (hml : c.maxLocals = nL) (hown : s.vm.findClass own = some m.cls) (ht : ∀ w ∈ tw_W, w.before args s = true) (hK : kk_ D tys s) (hF : fx_ tb A s s.heap) (hP : va_P D vwCl ws H) (hD : va_D A ws) (hS : va_S A s.heap H locs) (hA : ∀ q, s.heap.size ≤ q → A q)
    (hM : Met l y (Cond.code y bytes maxL ret :: tw_W) rm (pc_ D tys tb Wc H.size (.ref b :: As)) Qc mc ms (va_A Wc H.size)) (hcw : Cond.code y bytes maxL ret ∈ tw_W) (hws : ∀ w ∈ ([.methodLink own index y, .instanceMethod y, .selects C y y, .initialized C] : List Cond), w ∈ tw_W)
    (hd : y.cls = C ∧ y.cls ≠ "java/lang/invoke/MethodHandle" ∧ y.cls ≠ "java/lang/invoke/VarHandle" ∧ (parseMethodDescriptor y.desc).map (fun d => d.parameters.length) = some n) (hrc : rm.cells = mc) (hrs : rm.slots = ms) (hR : rm.frames + 1 ≤ R.frames ∧ 8 + (maxL + 11) + rm.locals ≤ R.locals)
    (isC : List Nat) (hC : isC.map (fun i => ws[i]?) = Wc.map some) (hnC : va_nd isC = true) (hrecv : Wc[0]? = some (b, .inr (ci, fs))) (hc : vwCl[ci]? = some q) (hq : q.1 = C)
    (hnA : As.length = n) (hls : ls.size = nL) (hst : st0 = As.reverse ++ .ref b :: rest) (hW : (rest.map fun v => v.category).sum ≤ 8) (hdg : decode cc pc = .ok (.invokevirtual index, 3)) (hf : cells + mc ≤ R.cells ∧ slots + ms ≤ R.slots) :
    va_Run p l e R s m args below meth c H locs cells slots mc ms (F0 m pc ls st0) rest (Qc (Value.ref b :: As).toArray) (va_A Wc H.size) := by
  subst hq
  exact va_runV ⟨hx, hb, hml, hown, ht⟩ hM (cwV n ht (tw_V hcw hws) rfl hrc hrs hd hR) ⟨pc_blind, va_recv hK.1 (hP.sub isC (is_fm hC)) hc hrecv, pc_at hK hF hP hD hS hA hnC hC⟩ rfl hnA hls hst (lv_room hW) hdg hf
theorem rn_S {Qc : Array Value → State → Outcome → State → Prop} (hx : p.tables.exec = Jvm.exec) (hb : c.code = cc) (hml : c.maxLocals = nL) (hown : s.vm.findClass own = some m.cls) (ht : ∀ w ∈ tw_W, w.before args s = true) (hK : kk_ D tys s) (hF : fx_ tb A s s.heap) (hP : va_P D vwCl ws H) (hD : va_D A ws) (hS : va_S A s.heap H locs) (hA : ∀ q, s.heap.size ≤ q → A q)
    (hM : Met l y (Cond.code y bytes maxL ret :: tw_W) rm (pc_ D tys tb Wc H.size As) Qc mc ms (va_A Wc H.size)) (hcw : Cond.code y bytes maxL ret ∈ tw_W) (hws : ∀ w ∈ ([.methodLink own index y, .static y, .initialized y.cls] : List Cond), w ∈ tw_W)
    (hd : y.cls ≠ "java/lang/invoke/MethodHandle" ∧ y.cls ≠ "java/lang/invoke/VarHandle" ∧ (parseMethodDescriptor y.desc).map (fun d => d.parameters.length) = some n) (hrc : rm.cells = mc) (hrs : rm.slots = ms) (hR : rm.frames + 1 ≤ R.frames ∧ 8 + (maxL + 11) + rm.locals ≤ R.locals)
    (isC : List Nat) (hC : isC.map (fun i => ws[i]?) = Wc.map some) (hnC : va_nd isC = true)
    (hnA : As.length = n) (hls : ls.size = nL) (hst : st0 = As.reverse ++ rest) (hW : (rest.map fun v => v.category).sum ≤ 8) (hdg : decode cc pc = .ok (.invokestatic index, 3)) (hf : cells + mc ≤ R.cells ∧ slots + ms ≤ R.slots) :
    va_Run p l e R s m args below meth c H locs cells slots mc ms (F0 m pc ls st0) rest (Qc As.toArray) (va_A Wc H.size) :=
  va_runS ⟨hx, hb, hml, hown, ht⟩ hM (va_cwS n ht (tw_S hcw hws) rfl hrc hrs hd hR) ⟨pc_blind, pc_at hK hF hP hD hS hA hnC hC⟩ rfl hnA hls hst (lv_room hW) hdg hf
theorem rn_I {Qc : Array Value → State → Outcome → State → Prop} (hx : p.tables.exec = Jvm.exec) (hb : c.code = cc) (hml : c.maxLocals = nL) (hown : s.vm.findClass own = some m.cls) (ht : ∀ w ∈ tw_W, w.before args s = true) (hK : kk_ D tys s) (hF : fx_ tb A s s.heap) (hP : va_P D vwCl ws H) (hD : va_D A ws) (hS : va_S A s.heap H locs) (hA : ∀ q, s.heap.size ≤ q → A q)
    (hM : Met l y (Cond.code y bytes maxL none :: tw_W) rm (pc_ D tys tb Wc H.size (.ref b :: As)) Qc mc ms (va_A Wc H.size)) (hcw : Cond.code y bytes maxL none ∈ tw_W) (hini : Cond.initialized y.cls ∈ tw_W) (hlk : Cond.methodLink own index y ∈ tw_W) (hin : Cond.instanceMethod y ∈ tw_W) (hy : y.name = "<init>")
    (hd : y.cls ≠ "java/lang/invoke/MethodHandle" ∧ y.cls ≠ "java/lang/invoke/VarHandle" ∧ (parseMethodDescriptor y.desc).map (fun d => d.parameters.length) = some n) (hrc : rm.cells = mc) (hrs : rm.slots = ms) (hR : rm.frames + 1 ≤ R.frames ∧ 8 + (maxL + 11) + rm.locals ≤ R.locals)
    (isC : List Nat) (hC : isC.map (fun i => ws[i]?) = Wc.map some) (hnC : va_nd isC = true)
    (hnA : As.length = n) (hls : ls.size = nL) (hst : st0 = As.reverse ++ .ref b :: rest) (hW : (rest.map fun v => v.category).sum ≤ 8) (hdg : decode cc pc = .ok (.invokespecial index, 3)) (hf : cells + mc ≤ R.cells ∧ slots + ms ≤ R.slots) :
    va_Run p l e R s m args below meth c H locs cells slots mc ms (F0 m pc ls st0) rest (Qc (Value.ref b :: As).toArray) (va_A Wc H.size) :=
  va_runI ⟨hx, hb, hml, hown, ht⟩ hM (cwI n ht (tw_c hcw) rfl hrc hrs (ht _ hini) (ht _ hlk) (ht _ hin) hy hd hR) ⟨pc_blind, pc_at hK hF hP hD hS hA hnC hC⟩ rfl hnA hls hst (lv_room hW) hdg hf
/-- a new array of a type whose class is known already -/
theorem va_newE {cc : ByteArray} (hexec : p.tables.exec = Jvm.exec) (hb : c.code = cc) {atype : ArrayType} (harr : (Cond.arrayClass (newarray.typeOf atype)).before args s = true) {ty : FieldType} (hty : newarray.typeOf atype = ty) (hK : va_K D vwCl tys s) (hP : va_P D vwCl ws H) (hD : va_D A ws) (hS : va_S A H0 H locs) (hA : ∀ q, H0.size ≤ q → A q) (t0 : Nat) {cE : ClassId} (ht0 : tys[t0]? = some (cE, ty))
    {n : Int32} {N' : Nat} {a0 : vp_A} (ha : ∀ cA : ClassId, vp_cell cA a0 = arrV cA N' (fun _ => defaultValue ty)) (hn : ¬ n < 0) (hN : n.toNatClampNeg = N') (hbytes : N' * componentBytes ty ≤ 536870912) (hcells : cells + 1 ≤ R.cells) (hslots : slots + N' ≤ R.slots) (hdg : decode cc pc = .ok (.newarray atype, 2))
    (kk : ∀ (q : Nat) (H1 : Heap), va_P D vwCl (ws ++ [(q, .inl (cE, a0))]) H1 → va_D A (ws ++ [(q, .inl (cE, a0))]) → va_S A H0 H1 locs →
      W p l e R s m args below meth c H1 locs (cells + 1) (slots + N') Q (F0 m (pc + 2) ls (.ref q :: rest))) : W p l e R s m args below meth c H locs cells slots Q (F0 m pc ls (.int n :: rest)) := by
  refine va_newa hexec hb harr hty hK hP hD hS hA ha hn hN hbytes hcells hslots hdg (fun q cA H1 hK1 hP1 hD1 hS1 => ?_)
  have e1 := (hK.2 t0 _ ht0).2
  have e2 := (hK1.2 tys.length (cA, ty) (by simp)).2
  have e : cA = cE := by
    subst hty
    cases atype <;> exact Option.some.inj (Eq.trans (Eq.symm e2) e1)
  subst e
  exact kk q H1 hP1 hD1 hS1
end CLX
section TPI
variable {p : Program} {l : Launch} {e : Env} {R : Room} {s : State} {m : MethodId} {args : Array Value} {below : List Frame} {meth : Method} {c : Code} {H : Heap} {locs : List Loc} {cells slots : Nat} {Q : State → Prop} {pc : Nat} {ls : Array Slot} {rest : List Value}
theorem tp_i {x y : Int32} (h : x = y) (k : W p l e R s m args below meth c H locs cells slots Q (F0 m pc ls (.int y :: rest))) : W p l e R s m args below meth c H locs cells slots Q (F0 m pc ls (.int x :: rest)) := by rw [h]; exact k
end TPI
/-- the array classes that the worlds speak of -/
abbrev tyS (cI cB cZ cJ cR : ClassId) : List (ClassId × FieldType) := [(cI, .int), (cB, .byte), (cZ, .boolean), (cJ, .long), (cR, .array .int)]
end
section
section CLY
variable {p : Program} {l : Launch} {e : Env} {R : Room} {s : State} {m : MethodId} {args : Array Value} {below : List Frame} {meth : Method} {c : Code} {H H0 : Heap} {locs : List Loc} {cells slots : Nat} {Q : State → Prop}
variable {cc bytes : ByteArray} {pc nL maxL mc ms n index ci b : Nat} {ls : Array Slot} {rest st0 As fs : List Value} {D : va_G} {A : Nat → Prop} {tys : List (ClassId × FieldType)} {ws Wc wr : va_W} {own C : String} {y : MethodName} {ret : Option FieldType} {rm : Room} {q : vw_C} {isC isR : List Nat} {S : Type} {tb : Nat → Nat}
/-- several roads that meet at one place -/
theorem jn_ {P : Array Slot → Prop} (pc2 : Nat) (st2 : List Value) (k : ∀ ls, P ls → W p l e R s m args below meth c H locs cells slots Q (F0 m pc2 ls st2)) {g : JFrame} (f : (∀ ls, P ls → W p l e R s m args below meth c H locs cells slots Q (F0 m pc2 ls st2)) → W p l e R s m args below meth c H locs cells slots Q g) : W p l e R s m args below meth c H locs cells slots Q g := f k
/-- a private constructor of a nest mate -/
theorem rn_IN {Qc : Array Value → State → Outcome → State → Prop} (hx : p.tables.exec = Jvm.exec) (hb : c.code = cc) (hml : c.maxLocals = nL) (hown : s.vm.findClass own = some m.cls) (ht : ∀ w ∈ tw_W, w.before args s = true) (hK : kk_ D tys s) (hF : fx_ tb A s s.heap) (hP : va_P D vwCl ws H) (hD : va_D A ws) (hS : va_S A s.heap H locs) (hA : ∀ q, s.heap.size ≤ q → A q)
    (hM : Met l y (Cond.code y bytes maxL none :: tw_W) rm (pc_ D tys tb Wc H.size (.ref b :: As)) Qc mc ms (va_A Wc H.size)) (hcw : Cond.code y bytes maxL none ∈ tw_W) (hini : Cond.initialized y.cls ∈ tw_W) (kx : Nat) (hlk : nwM[kx]? = some (own, index, y)) (hin : Cond.instanceMethod y ∈ tw_W) (hy : y.name = "<init>")
    (hd : y.cls ≠ "java/lang/invoke/MethodHandle" ∧ y.cls ≠ "java/lang/invoke/VarHandle" ∧ (parseMethodDescriptor y.desc).map (fun d => d.parameters.length) = some n) (hrc : rm.cells = mc) (hrs : rm.slots = ms) (hR : rm.frames + 1 ≤ R.frames ∧ 8 + (maxL + 11) + rm.locals ≤ R.locals)
    (isC : List Nat) (hC : isC.map (fun i => ws[i]?) = Wc.map some) (hnC : va_nd isC = true)
    (hnA : As.length = n) (hls : ls.size = nL) (hst : st0 = As.reverse ++ .ref b :: rest) (hW : (rest.map fun v => v.category).sum ≤ 8) (hdg : decode cc pc = .ok (.invokespecial index, 3)) (hf : cells + mc ≤ R.cells ∧ slots + ms ≤ R.slots) :
    va_Run p l e R s m args below meth c H locs cells slots mc ms (F0 m pc ls st0) rest (Qc (Value.ref b :: As).toArray) (va_A Wc H.size) :=
  va_runIN (host := "PocketCompiler") ⟨hx, hb, hml, hown, ht⟩ hM ⟨va_cnB n ht (tw_c hcw) rfl hrc hrs (hK.2.2.2 _ (List.mem_of_getElem? hlk)) (ht _ hini) hd hR, hy, ht _ hin⟩ ⟨pc_blind, pc_at hK hF hP hD hS hA hnC hC⟩ rfl hnA hls hst (lv_room hW) hdg hf
/-- an array of arrays of ints that nobody will look into: only its address is kept -/
theorem va_mnD {cc : ByteArray} (hexec : p.tables.exec = Jvm.exec) (hb : c.code = cc) {own : String} {index : Nat} (hown : s.vm.findClass own = some m.cls) (hclink : (Cond.classLink own index ("[" ++ (FieldType.array .int).toString)).before args s = true) (harr : (Cond.arrayClass .int).before args s = true)
    (hKK : kk_ D tys s) {cI : ClassId} (t0 : Nat) (ht0 : tys[t0]? = some (cI, .int)) (hP : va_P D vwCl ws H) (hD : va_D A ws) (hS : va_S A H0 H locs) (hA : ∀ q, H0.size ≤ q → A q) {n k : Int32} {N' K' : Nat} (hn : ¬ n < 0) (hk : ¬ k < 0) (hN : n.toNatClampNeg = N') (hM : k.toNatClampNeg = K')
    (hb1 : N' * 4 ≤ 536870912) (hb2 : K' * 4 ≤ 536870912) (hcells : cells + (1 + N') ≤ R.cells) (hslots : slots + (N' + N' * K') ≤ R.slots) (hdg : decode cc pc = .ok (.multianewarray index 2, 4))
    (kk : ∀ (q : Nat) (H1 : Heap), va_P D vwCl ws H1 → va_D A ws → va_S A H0 H1 locs → W p l e R s m args below meth c H1 locs (cells + 1 + N') (slots + N' + N' * K') Q (F0 m (pc + 4) ls (.ref q :: rest))) : W p l e R s m args below meth c H locs cells slots Q (F0 m pc ls (.int k :: .int n :: rest)) := by
  refine va_mna (X := ws) (L := []) (f := fun _ => .inl (cI, (0, .inl (fun _ => 0)))) (z := (K', .inl (fun _ => 0))) (cy := cI) hexec hb hown hclink hKK.2.1 harr ?_ hKK.1 (by rw [show va_pl [] (fun _ => (.inl (cI, (0, .inl (fun _ => 0))) : va_E)) = [] from rfl, List.append_nil]; exact hP) (by rw [show va_pl [] (fun _ => (.inl (cI, (0, .inl (fun _ => 0))) : va_E)) = [] from rfl, List.append_nil]; exact hD) hS hA hn hk hN hM hb1 hb2 (by omega) rfl rfl hcells hslots ?_ hdg (fun q r cA H1 _ _ _ hP1 hD1 hS1 => ?_)
  · exact (hKK.1.2 t0 _ ht0).2
  · intro c
    exact (arrV_new c K' _)
  · have hs : ∀ (k : Nat) (x : Nat × va_E), ws[k]? = some x → ∀ (Y : va_W), (ws ++ Y)[k]? = some x := fun k x hx Y => by rw [List.getElem?_append_left (List.getElem?_eq_some_iff.mp hx).1]; exact hx
    refine kk q H1 (fun k x hx => hP1 k x ?_) hD hS1
    rw [List.append_assoc]
    exact hs k x hx _
end CLY
theorem in_c {i : Int32} {j N : Nat} (h : i = nI j) (hj : j < N) (hN : N < 2 ^ 31) : vp_in i N := by rw [h]; exact vp_in_nI hj hN
theorem lt_c {x : Int32} {j N : Nat} (h : x = nI j) (hj : j < N) (hN : N < 2 ^ 31) : x < nI N := by rw [h]; exact nI_lt hj hN
theorem le_c {x : Int32} {j N : Nat} (h : x = nI j) (hj : j ≤ N) (hN : N < 2 ^ 31) : x ≤ nI N := by rw [h]; exact nI_le hj hN
theorem nge_c {x : Int32} {j N : Nat} (h : x = nI j) (hj : j < N) (hN : N < 2 ^ 31) : ¬ nI N ≤ x := by rw [h]; exact nI_ge hj hN
theorem n4 (N : Nat) : (4 : Int32) * nI N = nI (4 * N) := pk_mul 4 N
theorem le_4 {x : Int32} {j N : Nat} (h : x = nI j) (hj : j ≤ 4 * N) (hN : 4 * N < 2 ^ 31) : x ≤ 4 * nI N := by rw [n4]; exact le_c h hj hN
/-- how many words a new object's memory has -/
def sizeW (w : Int32) : Nat := if w < 256 then 1024 else if 4096 < w then 1024 else w.toNatClampNeg
theorem szB {w : Int32} (h : w < 256) : sizeW w = 1024 := if_pos h
theorem szC {w : Int32} (h : ¬ w < 256) (h2 : 4096 < w) : sizeW w = 1024 := by unfold sizeW; rw [if_neg h, if_pos h2]
theorem szA {w : Int32} (h : ¬ w < 256) (h2 : ¬ 4096 < w) : nI (sizeW w) = w := by
  unfold sizeW
  rw [if_neg h, if_neg h2]
  have h0 : ¬ w < 0 := fun q => h (by rw [Int32.lt_iff_toInt_lt] at q ⊢; have e1 : (0 : Int32).toInt = 0 := by decide
                                      have e2 : (256 : Int32).toInt = 256 := by decide
                                      omega)
  obtain ⟨j, hj, rfl⟩ := nI_of h0
  rw [nI_clamp hj]
theorem sz_lo (w : Int32) : 256 ≤ sizeW w ∧ sizeW w ≤ 4096 := by
  by_cases h : w < 256
  · rw [szB h]; omega
  · by_cases h2 : 4096 < w
    · rw [szC h h2]; omega
    · have h0 : ¬ w < 0 := fun q => h (by rw [Int32.lt_iff_toInt_lt] at q ⊢; have e1 : (0 : Int32).toInt = 0 := by decide
                                          have e2 : (256 : Int32).toInt = 256 := by decide
                                          omega)
      obtain ⟨j, hj, e⟩ := nI_of h0
      unfold sizeW
      rw [if_neg h, if_neg h2, e, nI_clamp hj]
      rw [e] at h h2
      have e2 : (256 : Int32) = nI 256 := by decide
      have e3 : (4096 : Int32) = nI 4096 := by decide
      rw [e2, nI_ltI hj (by omega)] at h
      rw [e3, nI_ltI (by omega) hj] at h2
      omega
end
section
theorem dX7_init_0 : decode cX7_init 0 = .ok (.aload_n 0, 1) := by decide +kernel
theorem dX7_init_1 : decode cX7_init 1 = .ok (.invokespecial 3, 3) := by decide +kernel
theorem tw_0 : (.methodLink RX7 3 objectInit : Cond) ∈ tw_W := tw_in (by decide +kernel) (by decide +kernel)
theorem tw_1 : (.instanceMethod objectInit : Cond) ∈ tw_W := tw_in (by decide +kernel) (by decide +kernel)
theorem tw_2 : (.code objectInit ⟨#[0xb1]⟩ 1 none : Cond) ∈ tw_W := tw_in (by decide +kernel) (by decide +kernel)
theorem dX7_init_4 : decode cX7_init 4 = .ok (.aload_n 0, 1) := by decide +kernel
theorem dX7_init_5 : decode cX7_init 5 = .ok (.sipush 4000, 3) := by decide +kernel
theorem dX7_init_8 : decode cX7_init 8 = .ok (.newarray .int, 2) := by decide +kernel
theorem tw_3 : (.arrayClass .int : Cond) ∈ tw_W := tw_in (by decide +kernel) (by decide +kernel)
theorem dX7_init_10 : decode cX7_init 10 = .ok (.putfield 9, 3) := by decide +kernel
theorem tw_4 : (.fieldLink RX7 9 "PocketCompiler$Program" "text" "[I" : Cond) ∈ tw_W := tw_in (by decide +kernel) (by decide +kernel)
theorem itX7 : ∀ w ∈ wsX70, w ∈ tw_W := tw_all (by decide +kernel)
theorem dX7_init_13 : decode cX7_init 13 = .ok (.aload_n 0, 1) := by decide +kernel
theorem dX7_init_14 : decode cX7_init 14 = .ok (.bipush 40, 2) := by decide +kernel
theorem dX7_init_16 : decode cX7_init 16 = .ok (.bipush 6, 2) := by decide +kernel
theorem dX7_init_18 : decode cX7_init 18 = .ok (.multianewarray 15 2, 4) := by decide +kernel
theorem tw_5 : (.classLink RX7 15 "[[I" : Cond) ∈ tw_W := tw_in (by decide +kernel) (by decide +kernel)
theorem dX7_init_22 : decode cX7_init 22 = .ok (.putfield 17, 3) := by decide +kernel
theorem tw_6 : (.fieldLink RX7 17 "PocketCompiler$Program" "functions" "[[I" : Cond) ∈ tw_W := tw_in (by decide +kernel) (by decide +kernel)
theorem dX7_init_25 : decode cX7_init 25 = .ok (.aload_n 0, 1) := by decide +kernel
theorem dX7_init_26 : decode cX7_init 26 = .ok (.bipush 60, 2) := by decide +kernel
theorem dX7_init_28 : decode cX7_init 28 = .ok (.iconst 5, 1) := by decide +kernel
theorem dX7_init_29 : decode cX7_init 29 = .ok (.multianewarray 15 2, 4) := by decide +kernel
theorem dX7_init_33 : decode cX7_init 33 = .ok (.putfield 20, 3) := by decide +kernel
theorem tw_7 : (.fieldLink RX7 20 "PocketCompiler$Program" "globals" "[[I" : Cond) ∈ tw_W := tw_in (by decide +kernel) (by decide +kernel)
theorem dX7_init_36 : decode cX7_init 36 = .ok (.aload_n 0, 1) := by decide +kernel
theorem dX7_init_37 : decode cX7_init 37 = .ok (.sipush 3008, 3) := by decide +kernel
theorem dX7_init_40 : decode cX7_init 40 = .ok (.newarray .int, 2) := by decide +kernel
theorem dX7_init_42 : decode cX7_init 42 = .ok (.putfield 23, 3) := by decide +kernel
theorem tw_8 : (.fieldLink RX7 23 "PocketCompiler$Program" "deeds" "[I" : Cond) ∈ tw_W := tw_in (by decide +kernel) (by decide +kernel)
theorem dX7_init_45 : decode cX7_init 45 = .ok (.aload_n 0, 1) := by decide +kernel
theorem dX7_init_46 : decode cX7_init 46 = .ok (.sipush 3008, 3) := by decide +kernel
theorem dX7_init_49 : decode cX7_init 49 = .ok (.newarray .int, 2) := by decide +kernel
theorem dX7_init_51 : decode cX7_init 51 = .ok (.putfield 26, 3) := by decide +kernel
theorem tw_9 : (.fieldLink RX7 26 "PocketCompiler$Program" "xs" "[I" : Cond) ∈ tw_W := tw_in (by decide +kernel) (by decide +kernel)
theorem dX7_init_54 : decode cX7_init 54 = .ok (.aload_n 0, 1) := by decide +kernel
theorem dX7_init_55 : decode cX7_init 55 = .ok (.sipush 3008, 3) := by decide +kernel
theorem dX7_init_58 : decode cX7_init 58 = .ok (.newarray .int, 2) := by decide +kernel
theorem dX7_init_60 : decode cX7_init 60 = .ok (.putfield 29, 3) := by decide +kernel
theorem tw_10 : (.fieldLink RX7 29 "PocketCompiler$Program" "ys" "[I" : Cond) ∈ tw_W := tw_in (by decide +kernel) (by decide +kernel)
theorem dX7_init_63 : decode cX7_init 63 = .ok (.aload_n 0, 1) := by decide +kernel
theorem dX7_init_64 : decode cX7_init 64 = .ok (.iload_n 1, 1) := by decide +kernel
theorem dX7_init_65 : decode cX7_init 65 = .ok (.newarray .int, 2) := by decide +kernel
theorem dX7_init_67 : decode cX7_init 67 = .ok (.putfield 32, 3) := by decide +kernel
theorem tw_11 : (.fieldLink RX7 32 "PocketCompiler$Program" "words" "[I" : Cond) ∈ tw_W := tw_in (by decide +kernel) (by decide +kernel)
theorem dX7_init_70 : decode cX7_init 70 = .ok (.return_, 1) := by decide +kernel
theorem dX8_init_0 : decode cX8_init 0 = .ok (.aload_n 0, 1) := by decide +kernel
theorem dX8_init_1 : decode cX8_init 1 = .ok (.invokespecial 3, 3) := by decide +kernel
theorem tw_12 : (.methodLink RX8 3 objectInit : Cond) ∈ tw_W := tw_in (by decide +kernel) (by decide +kernel)
theorem dX8_init_4 : decode cX8_init 4 = .ok (.aload_n 0, 1) := by decide +kernel
theorem dX8_init_5 : decode cX8_init 5 = .ok (.new 9, 3) := by decide +kernel
theorem tw_13 : (.classLink RX8 9 RJ4 : Cond) ∈ tw_W := tw_in (by decide +kernel) (by decide +kernel)
theorem tw_14 : (.instantiable RJ4 4 : Cond) ∈ tw_W := tw_in (by decide +kernel) (by decide +kernel)
theorem tw_15 : (.initialized RJ4 : Cond) ∈ tw_W := tw_in (by decide +kernel) (by decide +kernel)
theorem itJ4 : ∀ w ∈ wsJ40, w ∈ tw_W := tw_all (by decide +kernel)
theorem dX8_init_8 : decode cX8_init 8 = .ok (.dup, 1) := by decide +kernel
theorem dX8_init_9 : decode cX8_init 9 = .ok (.invokespecial 11, 3) := by decide +kernel
theorem dJ4_init_da8c8_0 : decode cJ4_init_da8c8 0 = .ok (.aload_n 0, 1) := by decide +kernel
theorem dJ4_init_da8c8_1 : decode cJ4_init_da8c8 1 = .ok (.bipush 16, 2) := by decide +kernel
theorem dJ4_init_da8c8_3 : decode cJ4_init_da8c8 3 = .ok (.invokespecial 1, 3) := by decide +kernel
theorem dJ5_init_d00df_0 : decode cJ5_init_d00df 0 = .ok (.aload_n 0, 1) := by decide +kernel
theorem dJ5_init_d00df_1 : decode cJ5_init_d00df 1 = .ok (.invokespecial 3, 3) := by decide +kernel
theorem tw_16 : (.methodLink RJ5 3 objectInit : Cond) ∈ tw_W := tw_in (by decide +kernel) (by decide +kernel)
theorem dJ5_init_d00df_4 : decode cJ5_init_d00df 4 = .ok (.getstatic 18, 3) := by decide +kernel
theorem tw_17 : (.fieldLink RJ5 18 "java/lang/String" "COMPACT_STRINGS" "Z" : Cond) ∈ tw_W := tw_in (by decide +kernel) (by decide +kernel)
theorem dJ5_init_d00df_7 : decode cJ5_init_d00df 7 = .ok (.ifCond .eq 18, 3) := by decide +kernel
theorem dJ5_init_d00df_10 : decode cJ5_init_d00df 10 = .ok (.aload_n 0, 1) := by decide +kernel
theorem dJ5_init_d00df_11 : decode cJ5_init_d00df 11 = .ok (.iload_n 1, 1) := by decide +kernel
theorem dJ5_init_d00df_12 : decode cJ5_init_d00df 12 = .ok (.newarray .byte, 2) := by decide +kernel
theorem tw_18 : (.arrayClass .byte : Cond) ∈ tw_W := tw_in (by decide +kernel) (by decide +kernel)
theorem dJ5_init_d00df_14 : decode cJ5_init_d00df 14 = .ok (.putfield 15, 3) := by decide +kernel
theorem tw_19 : (.fieldLink RJ5 15 "java/lang/AbstractStringBuilder" "value" "[B" : Cond) ∈ tw_W := tw_in (by decide +kernel) (by decide +kernel)
theorem dJ5_init_d00df_17 : decode cJ5_init_d00df 17 = .ok (.aload_n 0, 1) := by decide +kernel
theorem dJ5_init_d00df_18 : decode cJ5_init_d00df 18 = .ok (.iconst 0, 1) := by decide +kernel
theorem dJ5_init_d00df_19 : decode cJ5_init_d00df 19 = .ok (.putfield 22, 3) := by decide +kernel
theorem tw_20 : (.fieldLink RJ5 22 "java/lang/AbstractStringBuilder" "coder" "B" : Cond) ∈ tw_W := tw_in (by decide +kernel) (by decide +kernel)
theorem dJ5_init_d00df_22 : decode cJ5_init_d00df 22 = .ok (.goto 16, 3) := by decide +kernel
theorem dJ5_init_d00df_38 : decode cJ5_init_d00df 38 = .ok (.return_, 1) := by decide +kernel
theorem tw_21 : (.code yJ5_init_d00df cJ5_init_d00df 2 none : Cond) ∈ tw_W := tw_in (by decide +kernel) (by decide +kernel)
theorem tw_22 : (.initialized yJ5_init_d00df.cls : Cond) ∈ tw_W := tw_in (by decide +kernel) (by decide +kernel)
theorem tw_23 : (.methodLink RJ4 1 yJ5_init_d00df : Cond) ∈ tw_W := tw_in (by decide +kernel) (by decide +kernel)
theorem tw_24 : (.instanceMethod yJ5_init_d00df : Cond) ∈ tw_W := tw_in (by decide +kernel) (by decide +kernel)
theorem dJ4_init_da8c8_6 : decode cJ4_init_da8c8 6 = .ok (.return_, 1) := by decide +kernel
theorem tw_25 : (.code yJ4_init_da8c8 cJ4_init_da8c8 1 none : Cond) ∈ tw_W := tw_in (by decide +kernel) (by decide +kernel)
theorem tw_26 : (.initialized yJ4_init_da8c8.cls : Cond) ∈ tw_W := tw_in (by decide +kernel) (by decide +kernel)
theorem tw_27 : (.methodLink RX8 11 yJ4_init_da8c8 : Cond) ∈ tw_W := tw_in (by decide +kernel) (by decide +kernel)
theorem tw_28 : (.instanceMethod yJ4_init_da8c8 : Cond) ∈ tw_W := tw_in (by decide +kernel) (by decide +kernel)
theorem dX8_init_12 : decode cX8_init 12 = .ok (.putfield 12, 3) := by decide +kernel
theorem tw_29 : (.fieldLink RX8 12 "PocketCompiler$Shower" "text" "Ljava/lang/StringBuilder;" : Cond) ∈ tw_W := tw_in (by decide +kernel) (by decide +kernel)
theorem itX8 : ∀ w ∈ wsX80, w ∈ tw_W := tw_all (by decide +kernel)
theorem dX8_init_15 : decode cX8_init 15 = .ok (.return_, 1) := by decide +kernel
theorem dX1_init_0 : decode cX1_init 0 = .ok (.aload_n 0, 1) := by decide +kernel
theorem dX1_init_1 : decode cX1_init 1 = .ok (.invokespecial 3, 3) := by decide +kernel
theorem tw_30 : (.methodLink RX1 3 objectInit : Cond) ∈ tw_W := tw_in (by decide +kernel) (by decide +kernel)
theorem dX1_init_4 : decode cX1_init 4 = .ok (.aload_n 0, 1) := by decide +kernel
theorem dX1_init_5 : decode cX1_init 5 = .ok (.sipush 500, 3) := by decide +kernel
theorem dX1_init_8 : decode cX1_init 8 = .ok (.newarray .int, 2) := by decide +kernel
theorem dX1_init_10 : decode cX1_init 10 = .ok (.putfield 9, 3) := by decide +kernel
theorem tw_31 : (.fieldLink RX1 9 "PocketCompiler$Builder" "known" "[I" : Cond) ∈ tw_W := tw_in (by decide +kernel) (by decide +kernel)
theorem itX1 : ∀ w ∈ wsX10, w ∈ tw_W := tw_all (by decide +kernel)
theorem dX1_init_13 : decode cX1_init 13 = .ok (.aload_n 0, 1) := by decide +kernel
theorem dX1_init_14 : decode cX1_init 14 = .ok (.sipush 1500, 3) := by decide +kernel
theorem dX1_init_17 : decode cX1_init 17 = .ok (.newarray .int, 2) := by decide +kernel
theorem dX1_init_19 : decode cX1_init 19 = .ok (.putfield 15, 3) := by decide +kernel
theorem tw_32 : (.fieldLink RX1 15 "PocketCompiler$Builder" "labels" "[I" : Cond) ∈ tw_W := tw_in (by decide +kernel) (by decide +kernel)
theorem dX1_init_22 : decode cX1_init 22 = .ok (.aload_n 0, 1) := by decide +kernel
theorem dX1_init_23 : decode cX1_init 23 = .ok (.sipush 501, 3) := by decide +kernel
theorem dX1_init_26 : decode cX1_init 26 = .ok (.newarray .int, 2) := by decide +kernel
theorem dX1_init_28 : decode cX1_init 28 = .ok (.putfield 18, 3) := by decide +kernel
theorem tw_33 : (.fieldLink RX1 18 "PocketCompiler$Builder" "callNames" "[I" : Cond) ∈ tw_W := tw_in (by decide +kernel) (by decide +kernel)
theorem dX1_init_31 : decode cX1_init 31 = .ok (.aload_n 0, 1) := by decide +kernel
theorem dX1_init_32 : decode cX1_init 32 = .ok (.sipush 501, 3) := by decide +kernel
theorem dX1_init_35 : decode cX1_init 35 = .ok (.newarray .int, 2) := by decide +kernel
theorem dX1_init_37 : decode cX1_init 37 = .ok (.putfield 21, 3) := by decide +kernel
theorem tw_34 : (.fieldLink RX1 21 "PocketCompiler$Builder" "callPlaces" "[I" : Cond) ∈ tw_W := tw_in (by decide +kernel) (by decide +kernel)
theorem dX1_init_40 : decode cX1_init 40 = .ok (.aload_n 0, 1) := by decide +kernel
theorem dX1_init_41 : decode cX1_init 41 = .ok (.sipush 501, 3) := by decide +kernel
theorem dX1_init_44 : decode cX1_init 44 = .ok (.newarray .int, 2) := by decide +kernel
theorem dX1_init_46 : decode cX1_init 46 = .ok (.putfield 24, 3) := by decide +kernel
theorem tw_35 : (.fieldLink RX1 24 "PocketCompiler$Builder" "callArguments" "[I" : Cond) ∈ tw_W := tw_in (by decide +kernel) (by decide +kernel)
theorem dX1_init_49 : decode cX1_init 49 = .ok (.aload_n 0, 1) := by decide +kernel
theorem dX1_init_50 : decode cX1_init 50 = .ok (.aload_n 1, 1) := by decide +kernel
theorem dX1_init_51 : decode cX1_init 51 = .ok (.putfield 27, 3) := by decide +kernel
theorem tw_36 : (.fieldLink RX1 27 "PocketCompiler$Builder" "program" "LPocketCompiler$Program;" : Cond) ∈ tw_W := tw_in (by decide +kernel) (by decide +kernel)
theorem dX1_init_54 : decode cX1_init 54 = .ok (.return_, 1) := by decide +kernel
theorem dX2_init_0 : decode cX2_init 0 = .ok (.aload_n 0, 1) := by decide +kernel
theorem dX2_init_1 : decode cX2_init 1 = .ok (.invokespecial 3, 3) := by decide +kernel
theorem tw_37 : (.methodLink RX2 3 objectInit : Cond) ∈ tw_W := tw_in (by decide +kernel) (by decide +kernel)
theorem dX2_init_4 : decode cX2_init 4 = .ok (.aload_n 0, 1) := by decide +kernel
theorem dX2_init_5 : decode cX2_init 5 = .ok (.sipush 420, 3) := by decide +kernel
theorem dX2_init_8 : decode cX2_init 8 = .ok (.newarray .int, 2) := by decide +kernel
theorem dX2_init_10 : decode cX2_init 10 = .ok (.putfield 11, 3) := by decide +kernel
theorem tw_38 : (.fieldLink RX2 11 "PocketCompiler$Expressions" "signs" "[I" : Cond) ∈ tw_W := tw_in (by decide +kernel) (by decide +kernel)
theorem itX2 : ∀ w ∈ wsX20, w ∈ tw_W := tw_all (by decide +kernel)
theorem dX2_init_13 : decode cX2_init 13 = .ok (.aload_n 0, 1) := by decide +kernel
theorem dX2_init_14 : decode cX2_init 14 = .ok (.sipush 420, 3) := by decide +kernel
theorem dX2_init_17 : decode cX2_init 17 = .ok (.newarray .int, 2) := by decide +kernel
theorem dX2_init_19 : decode cX2_init 19 = .ok (.putfield 15, 3) := by decide +kernel
theorem tw_39 : (.fieldLink RX2 15 "PocketCompiler$Expressions" "marks" "[I" : Cond) ∈ tw_W := tw_in (by decide +kernel) (by decide +kernel)
theorem dX2_init_22 : decode cX2_init 22 = .ok (.aload_n 0, 1) := by decide +kernel
theorem dX2_init_23 : decode cX2_init 23 = .ok (.aload_n 1, 1) := by decide +kernel
theorem dX2_init_24 : decode cX2_init 24 = .ok (.putfield 18, 3) := by decide +kernel
theorem tw_40 : (.fieldLink RX2 18 "PocketCompiler$Expressions" "tokens" "LPocketCompiler$Tokens;" : Cond) ∈ tw_W := tw_in (by decide +kernel) (by decide +kernel)
theorem dX2_init_27 : decode cX2_init 27 = .ok (.aload_n 0, 1) := by decide +kernel
theorem dX2_init_28 : decode cX2_init 28 = .ok (.aload_n 2, 1) := by decide +kernel
theorem dX2_init_29 : decode cX2_init 29 = .ok (.putfield 22, 3) := by decide +kernel
theorem tw_41 : (.fieldLink RX2 22 "PocketCompiler$Expressions" "builder" "LPocketCompiler$Builder;" : Cond) ∈ tw_W := tw_in (by decide +kernel) (by decide +kernel)
theorem dX2_init_32 : decode cX2_init 32 = .ok (.return_, 1) := by decide +kernel
theorem dX5_init_0 : decode cX5_init 0 = .ok (.aload_n 0, 1) := by decide +kernel
theorem dX5_init_1 : decode cX5_init 1 = .ok (.invokespecial 3, 3) := by decide +kernel
theorem tw_42 : (.methodLink RX5 3 objectInit : Cond) ∈ tw_W := tw_in (by decide +kernel) (by decide +kernel)
theorem dX5_init_4 : decode cX5_init 4 = .ok (.aload_n 0, 1) := by decide +kernel
theorem dX5_init_5 : decode cX5_init 5 = .ok (.aload_n 1, 1) := by decide +kernel
theorem dX5_init_6 : decode cX5_init 6 = .ok (.putfield 9, 3) := by decide +kernel
theorem tw_43 : (.fieldLink RX5 9 "PocketCompiler$Parser" "program" "LPocketCompiler$Program;" : Cond) ∈ tw_W := tw_in (by decide +kernel) (by decide +kernel)
theorem itX5 : ∀ w ∈ wsX50, w ∈ tw_W := tw_all (by decide +kernel)
theorem dX5_init_9 : decode cX5_init 9 = .ok (.aload_n 0, 1) := by decide +kernel
theorem dX5_init_10 : decode cX5_init 10 = .ok (.new 15, 3) := by decide +kernel
theorem tw_44 : (.classLink RX5 15 RX9 : Cond) ∈ tw_W := tw_in (by decide +kernel) (by decide +kernel)
theorem tw_45 : (.instantiable RX9 10 : Cond) ∈ tw_W := tw_in (by decide +kernel) (by decide +kernel)
theorem tw_46 : (.initialized RX9 : Cond) ∈ tw_W := tw_in (by decide +kernel) (by decide +kernel)
theorem itX9 : ∀ w ∈ wsX90, w ∈ tw_W := tw_all (by decide +kernel)
theorem dX5_init_13 : decode cX5_init 13 = .ok (.dup, 1) := by decide +kernel
theorem dX5_init_14 : decode cX5_init 14 = .ok (.aload_n 1, 1) := by decide +kernel
theorem dX5_init_15 : decode cX5_init 15 = .ok (.invokespecial 17, 3) := by decide +kernel
theorem dX9_init_0 : decode cX9_init 0 = .ok (.aload_n 0, 1) := by decide +kernel
theorem dX9_init_1 : decode cX9_init 1 = .ok (.invokespecial 5, 3) := by decide +kernel
theorem tw_47 : (.methodLink RX9 5 objectInit : Cond) ∈ tw_W := tw_in (by decide +kernel) (by decide +kernel)
theorem dX9_init_4 : decode cX9_init 4 = .ok (.aload_n 0, 1) := by decide +kernel
theorem dX9_init_5 : decode cX9_init 5 = .ok (.sipush 1503, 3) := by decide +kernel
theorem dX9_init_8 : decode cX9_init 8 = .ok (.newarray .int, 2) := by decide +kernel
theorem dX9_init_10 : decode cX9_init 10 = .ok (.putfield 11, 3) := by decide +kernel
theorem tw_48 : (.fieldLink RX9 11 "PocketCompiler$Tokens" "kinds" "[I" : Cond) ∈ tw_W := tw_in (by decide +kernel) (by decide +kernel)
theorem dX9_init_13 : decode cX9_init 13 = .ok (.aload_n 0, 1) := by decide +kernel
theorem dX9_init_14 : decode cX9_init 14 = .ok (.sipush 1503, 3) := by decide +kernel
theorem dX9_init_17 : decode cX9_init 17 = .ok (.newarray .int, 2) := by decide +kernel
theorem dX9_init_19 : decode cX9_init 19 = .ok (.putfield 15, 3) := by decide +kernel
theorem tw_49 : (.fieldLink RX9 15 "PocketCompiler$Tokens" "places" "[I" : Cond) ∈ tw_W := tw_in (by decide +kernel) (by decide +kernel)
theorem dX9_init_22 : decode cX9_init 22 = .ok (.aload_n 0, 1) := by decide +kernel
theorem dX9_init_23 : decode cX9_init 23 = .ok (.sipush 1503, 3) := by decide +kernel
theorem dX9_init_26 : decode cX9_init 26 = .ok (.newarray .int, 2) := by decide +kernel
theorem dX9_init_28 : decode cX9_init 28 = .ok (.putfield 18, 3) := by decide +kernel
theorem tw_50 : (.fieldLink RX9 18 "PocketCompiler$Tokens" "values" "[I" : Cond) ∈ tw_W := tw_in (by decide +kernel) (by decide +kernel)
theorem dX9_init_31 : decode cX9_init 31 = .ok (.aload_n 0, 1) := by decide +kernel
theorem dX9_init_32 : decode cX9_init 32 = .ok (.aload_n 1, 1) := by decide +kernel
theorem dX9_init_33 : decode cX9_init 33 = .ok (.putfield 21, 3) := by decide +kernel
theorem tw_51 : (.fieldLink RX9 21 "PocketCompiler$Tokens" "source" "LPocketCompiler$Program;" : Cond) ∈ tw_W := tw_in (by decide +kernel) (by decide +kernel)
theorem dX9_init_36 : decode cX9_init 36 = .ok (.return_, 1) := by decide +kernel
theorem tw_52 : (.code yX9_init cX9_init 2 none : Cond) ∈ tw_W := tw_in (by decide +kernel) (by decide +kernel)
theorem tw_53 : (.initialized yX9_init.cls : Cond) ∈ tw_W := tw_in (by decide +kernel) (by decide +kernel)
theorem tw_54 : (.methodLink RX5 17 yX9_init : Cond) ∈ tw_W := tw_in (by decide +kernel) (by decide +kernel)
theorem tw_55 : (.instanceMethod yX9_init : Cond) ∈ tw_W := tw_in (by decide +kernel) (by decide +kernel)
theorem dX5_init_18 : decode cX5_init 18 = .ok (.putfield 20, 3) := by decide +kernel
theorem tw_56 : (.fieldLink RX5 20 "PocketCompiler$Parser" "tokens" "LPocketCompiler$Tokens;" : Cond) ∈ tw_W := tw_in (by decide +kernel) (by decide +kernel)
theorem dX5_init_21 : decode cX5_init 21 = .ok (.aload_n 0, 1) := by decide +kernel
theorem dX5_init_22 : decode cX5_init 22 = .ok (.new 24, 3) := by decide +kernel
theorem tw_57 : (.classLink RX5 24 RX1 : Cond) ∈ tw_W := tw_in (by decide +kernel) (by decide +kernel)
theorem tw_58 : (.instantiable RX1 12 : Cond) ∈ tw_W := tw_in (by decide +kernel) (by decide +kernel)
theorem tw_59 : (.initialized RX1 : Cond) ∈ tw_W := tw_in (by decide +kernel) (by decide +kernel)
theorem dX5_init_25 : decode cX5_init 25 = .ok (.dup, 1) := by decide +kernel
theorem dX5_init_26 : decode cX5_init 26 = .ok (.aload_n 1, 1) := by decide +kernel
theorem dX5_init_27 : decode cX5_init 27 = .ok (.invokespecial 26, 3) := by decide +kernel
theorem tw_60 : (.code yX1_init cX1_init 2 none : Cond) ∈ tw_W := tw_in (by decide +kernel) (by decide +kernel)
theorem tw_61 : (.initialized yX1_init.cls : Cond) ∈ tw_W := tw_in (by decide +kernel) (by decide +kernel)
theorem tw_62 : (.methodLink RX5 26 yX1_init : Cond) ∈ tw_W := tw_in (by decide +kernel) (by decide +kernel)
theorem tw_63 : (.instanceMethod yX1_init : Cond) ∈ tw_W := tw_in (by decide +kernel) (by decide +kernel)
theorem dX5_init_30 : decode cX5_init 30 = .ok (.putfield 27, 3) := by decide +kernel
theorem tw_64 : (.fieldLink RX5 27 "PocketCompiler$Parser" "builder" "LPocketCompiler$Builder;" : Cond) ∈ tw_W := tw_in (by decide +kernel) (by decide +kernel)
theorem dX5_init_33 : decode cX5_init 33 = .ok (.aload_n 0, 1) := by decide +kernel
theorem dX5_init_34 : decode cX5_init 34 = .ok (.new 31, 3) := by decide +kernel
theorem tw_65 : (.classLink RX5 31 RX2 : Cond) ∈ tw_W := tw_in (by decide +kernel) (by decide +kernel)
theorem tw_66 : (.instantiable RX2 5 : Cond) ∈ tw_W := tw_in (by decide +kernel) (by decide +kernel)
theorem tw_67 : (.initialized RX2 : Cond) ∈ tw_W := tw_in (by decide +kernel) (by decide +kernel)
theorem dX5_init_37 : decode cX5_init 37 = .ok (.dup, 1) := by decide +kernel
theorem dX5_init_38 : decode cX5_init 38 = .ok (.aload_n 0, 1) := by decide +kernel
theorem dX5_init_39 : decode cX5_init 39 = .ok (.getfield 20, 3) := by decide +kernel
theorem dX5_init_42 : decode cX5_init 42 = .ok (.aload_n 0, 1) := by decide +kernel
theorem dX5_init_43 : decode cX5_init 43 = .ok (.getfield 27, 3) := by decide +kernel
theorem dX5_init_46 : decode cX5_init 46 = .ok (.invokespecial 33, 3) := by decide +kernel
theorem tw_68 : (.code yX2_init cX2_init 3 none : Cond) ∈ tw_W := tw_in (by decide +kernel) (by decide +kernel)
theorem tw_69 : (.initialized yX2_init.cls : Cond) ∈ tw_W := tw_in (by decide +kernel) (by decide +kernel)
theorem tw_70 : (.methodLink RX5 33 yX2_init : Cond) ∈ tw_W := tw_in (by decide +kernel) (by decide +kernel)
theorem tw_71 : (.instanceMethod yX2_init : Cond) ∈ tw_W := tw_in (by decide +kernel) (by decide +kernel)
theorem dX5_init_49 : decode cX5_init 49 = .ok (.putfield 36, 3) := by decide +kernel
theorem tw_72 : (.fieldLink RX5 36 "PocketCompiler$Parser" "expressions" "LPocketCompiler$Expressions;" : Cond) ∈ tw_W := tw_in (by decide +kernel) (by decide +kernel)
theorem dX5_init_52 : decode cX5_init 52 = .ok (.return_, 1) := by decide +kernel
theorem dX0_init_0 : decode cX0_init 0 = .ok (.aload_n 0, 1) := by decide +kernel
theorem dX0_init_1 : decode cX0_init 1 = .ok (.invokespecial 1, 3) := by decide +kernel
theorem tw_73 : (.methodLink RX0 1 objectInit : Cond) ∈ tw_W := tw_in (by decide +kernel) (by decide +kernel)
theorem dX0_init_4 : decode cX0_init 4 = .ok (.aload_n 0, 1) := by decide +kernel
theorem dX0_init_5 : decode cX0_init 5 = .ok (.sipush 3009, 3) := by decide +kernel
theorem dX0_init_8 : decode cX0_init 8 = .ok (.newarray .int, 2) := by decide +kernel
theorem dX0_init_10 : decode cX0_init 10 = .ok (.putfield 9, 3) := by decide +kernel
theorem tw_74 : (.fieldLink RX0 9 "PocketCompiler$Assembler" "addresses" "[I" : Cond) ∈ tw_W := tw_in (by decide +kernel) (by decide +kernel)
theorem itX0 : ∀ w ∈ wsX00, w ∈ tw_W := tw_all (by decide +kernel)
theorem dX0_init_13 : decode cX0_init 13 = .ok (.aload_n 0, 1) := by decide +kernel
theorem dX0_init_14 : decode cX0_init 14 = .ok (.aload_n 1, 1) := by decide +kernel
theorem dX0_init_15 : decode cX0_init 15 = .ok (.putfield 15, 3) := by decide +kernel
theorem tw_75 : (.fieldLink RX0 15 "PocketCompiler$Assembler" "program" "LPocketCompiler$Program;" : Cond) ∈ tw_W := tw_in (by decide +kernel) (by decide +kernel)
theorem dX0_init_18 : decode cX0_init 18 = .ok (.aload_n 0, 1) := by decide +kernel
theorem dX0_init_19 : decode cX0_init 19 = .ok (.iconst 4, 1) := by decide +kernel
theorem dX0_init_20 : decode cX0_init 20 = .ok (.iload_n 2, 1) := by decide +kernel
theorem dX0_init_21 : decode cX0_init 21 = .ok (.imul, 1) := by decide +kernel
theorem dX0_init_22 : decode cX0_init 22 = .ok (.putfield 19, 3) := by decide +kernel
theorem tw_76 : (.fieldLink RX0 19 "PocketCompiler$Assembler" "memoryBytes" "I" : Cond) ∈ tw_W := tw_in (by decide +kernel) (by decide +kernel)
theorem dX0_init_25 : decode cX0_init 25 = .ok (.return_, 1) := by decide +kernel
theorem dX10_init_0 : decode cX10_init 0 = .ok (.aload_n 0, 1) := by decide +kernel
theorem dX10_init_1 : decode cX10_init 1 = .ok (.invokespecial 3, 3) := by decide +kernel
theorem tw_77 : (.methodLink RX10 3 objectInit : Cond) ∈ tw_W := tw_in (by decide +kernel) (by decide +kernel)
theorem dX10_init_4 : decode cX10_init 4 = .ok (.aload_n 0, 1) := by decide +kernel
theorem dX10_init_5 : decode cX10_init 5 = .ok (.sipush 200, 3) := by decide +kernel
theorem dX10_init_8 : decode cX10_init 8 = .ok (.newarray .int, 2) := by decide +kernel
theorem dX10_init_10 : decode cX10_init 10 = .ok (.putfield 9, 3) := by decide +kernel
theorem tw_78 : (.fieldLink RX10 9 "PocketCompiler$Worker" "puts" "[I" : Cond) ∈ tw_W := tw_in (by decide +kernel) (by decide +kernel)
theorem itX10 : ∀ w ∈ wsX100, w ∈ tw_W := tw_all (by decide +kernel)
theorem dX10_init_13 : decode cX10_init 13 = .ok (.aload_n 0, 1) := by decide +kernel
theorem dX10_init_14 : decode cX10_init 14 = .ok (.aload_n 1, 1) := by decide +kernel
theorem dX10_init_15 : decode cX10_init 15 = .ok (.putfield 15, 3) := by decide +kernel
theorem tw_79 : (.fieldLink RX10 15 "PocketCompiler$Worker" "program" "LPocketCompiler$Program;" : Cond) ∈ tw_W := tw_in (by decide +kernel) (by decide +kernel)
theorem dX10_init_18 : decode cX10_init 18 = .ok (.aload_n 0, 1) := by decide +kernel
theorem dX10_init_19 : decode cX10_init 19 = .ok (.aload_n 3, 1) := by decide +kernel
theorem dX10_init_20 : decode cX10_init 20 = .ok (.putfield 19, 3) := by decide +kernel
theorem tw_80 : (.fieldLink RX10 19 "PocketCompiler$Worker" "gifts" "LPocketCompiler$Gifts;" : Cond) ∈ tw_W := tw_in (by decide +kernel) (by decide +kernel)
theorem dX10_init_23 : decode cX10_init 23 = .ok (.aload_n 0, 1) := by decide +kernel
theorem dX10_init_24 : decode cX10_init 24 = .ok (.iconst 4, 1) := by decide +kernel
theorem dX10_init_25 : decode cX10_init 25 = .ok (.iload_n 2, 1) := by decide +kernel
theorem dX10_init_26 : decode cX10_init 26 = .ok (.imul, 1) := by decide +kernel
theorem dX10_init_27 : decode cX10_init 27 = .ok (.putfield 23, 3) := by decide +kernel
theorem tw_81 : (.fieldLink RX10 23 "PocketCompiler$Worker" "memoryBytes" "I" : Cond) ∈ tw_W := tw_in (by decide +kernel) (by decide +kernel)
theorem dX10_init_30 : decode cX10_init 30 = .ok (.aload_n 0, 1) := by decide +kernel
theorem dX10_init_31 : decode cX10_init 31 = .ok (.iload_n 2, 1) := by decide +kernel
theorem dX10_init_32 : decode cX10_init 32 = .ok (.newarray .int, 2) := by decide +kernel
theorem dX10_init_34 : decode cX10_init 34 = .ok (.putfield 27, 3) := by decide +kernel
theorem tw_82 : (.fieldLink RX10 27 "PocketCompiler$Worker" "frames" "[I" : Cond) ∈ tw_W := tw_in (by decide +kernel) (by decide +kernel)
theorem dX10_init_37 : decode cX10_init 37 = .ok (.aload_n 0, 1) := by decide +kernel
theorem dX10_init_38 : decode cX10_init 38 = .ok (.iload_n 2, 1) := by decide +kernel
theorem dX10_init_39 : decode cX10_init 39 = .ok (.newarray .int, 2) := by decide +kernel
theorem dX10_init_41 : decode cX10_init 41 = .ok (.putfield 30, 3) := by decide +kernel
theorem tw_83 : (.fieldLink RX10 30 "PocketCompiler$Worker" "cells" "[I" : Cond) ∈ tw_W := tw_in (by decide +kernel) (by decide +kernel)
theorem dX10_init_44 : decode cX10_init 44 = .ok (.return_, 1) := by decide +kernel
theorem dX11_init_0 : decode cX11_init 0 = .ok (.aload_n 0, 1) := by decide +kernel
theorem dX11_init_1 : decode cX11_init 1 = .ok (.invokespecial 1, 3) := by decide +kernel
theorem tw_84 : (.methodLink RX11 1 objectInit : Cond) ∈ tw_W := tw_in (by decide +kernel) (by decide +kernel)
theorem dX11_init_4 : decode cX11_init 4 = .ok (.aload_n 0, 1) := by decide +kernel
theorem dX11_init_5 : decode cX11_init 5 = .ok (.sipush 4000, 3) := by decide +kernel
theorem dX11_init_8 : decode cX11_init 8 = .ok (.newarray .int, 2) := by decide +kernel
theorem dX11_init_10 : decode cX11_init 10 = .ok (.putfield 9, 3) := by decide +kernel
theorem tw_85 : (.fieldLink RX11 9 "PocketCompiler" "tape" "[I" : Cond) ∈ tw_W := tw_in (by decide +kernel) (by decide +kernel)
theorem itX11 : ∀ w ∈ wsX110, w ∈ tw_W := tw_all (by decide +kernel)
theorem dX11_init_13 : decode cX11_init 13 = .ok (.aload_n 0, 1) := by decide +kernel
theorem dX11_init_14 : decode cX11_init 14 = .ok (.iconst (-1), 1) := by decide +kernel
theorem dX11_init_15 : decode cX11_init 15 = .ok (.putfield 13, 3) := by decide +kernel
theorem tw_86 : (.fieldLink RX11 13 "PocketCompiler" "latestPlace" "I" : Cond) ∈ tw_W := tw_in (by decide +kernel) (by decide +kernel)
theorem dX11_init_18 : decode cX11_init 18 = .ok (.aload_n 0, 1) := by decide +kernel
theorem dX11_init_19 : decode cX11_init 19 = .ok (.new 17, 3) := by decide +kernel
theorem tw_87 : (.classLink RX11 17 RX3 : Cond) ∈ tw_W := tw_in (by decide +kernel) (by decide +kernel)
theorem tw_88 : (.instantiable RX3 3 : Cond) ∈ tw_W := tw_in (by decide +kernel) (by decide +kernel)
theorem tw_89 : (.initialized RX3 : Cond) ∈ tw_W := tw_in (by decide +kernel) (by decide +kernel)
theorem itX3 : ∀ w ∈ wsX30, w ∈ tw_W := tw_all (by decide +kernel)
theorem dX11_init_22 : decode cX11_init 22 = .ok (.dup, 1) := by decide +kernel
theorem dX11_init_23 : decode cX11_init 23 = .ok (.invokespecial 19, 3) := by decide +kernel
theorem dX3_init_0 : decode cX3_init 0 = .ok (.aload_n 0, 1) := by decide +kernel
theorem dX3_init_1 : decode cX3_init 1 = .ok (.invokespecial 3, 3) := by decide +kernel
theorem tw_90 : (.methodLink RX3 3 objectInit : Cond) ∈ tw_W := tw_in (by decide +kernel) (by decide +kernel)
theorem dX3_init_4 : decode cX3_init 4 = .ok (.aload_n 0, 1) := by decide +kernel
theorem dX3_init_5 : decode cX3_init 5 = .ok (.bipush 64, 2) := by decide +kernel
theorem dX3_init_7 : decode cX3_init 7 = .ok (.newarray .int, 2) := by decide +kernel
theorem dX3_init_9 : decode cX3_init 9 = .ok (.putfield 11, 3) := by decide +kernel
theorem tw_91 : (.fieldLink RX3 11 "PocketCompiler$Gifts" "numbers" "[I" : Cond) ∈ tw_W := tw_in (by decide +kernel) (by decide +kernel)
theorem dX3_init_12 : decode cX3_init 12 = .ok (.return_, 1) := by decide +kernel
theorem tw_92 : (.code yX3_init cX3_init 1 none : Cond) ∈ tw_W := tw_in (by decide +kernel) (by decide +kernel)
theorem tw_93 : (.initialized yX3_init.cls : Cond) ∈ tw_W := tw_in (by decide +kernel) (by decide +kernel)
theorem tw_94 : (.instanceMethod yX3_init : Cond) ∈ tw_W := tw_in (by decide +kernel) (by decide +kernel)
theorem dX11_init_26 : decode cX11_init 26 = .ok (.putfield 20, 3) := by decide +kernel
theorem tw_95 : (.fieldLink RX11 20 "PocketCompiler" "gifts" "LPocketCompiler$Gifts;" : Cond) ∈ tw_W := tw_in (by decide +kernel) (by decide +kernel)
theorem dX11_init_29 : decode cX11_init 29 = .ok (.aload_n 0, 1) := by decide +kernel
theorem dX11_init_30 : decode cX11_init 30 = .ok (.new 24, 3) := by decide +kernel
theorem tw_96 : (.classLink RX11 24 RX8 : Cond) ∈ tw_W := tw_in (by decide +kernel) (by decide +kernel)
theorem tw_97 : (.instantiable RX8 1 : Cond) ∈ tw_W := tw_in (by decide +kernel) (by decide +kernel)
theorem tw_98 : (.initialized RX8 : Cond) ∈ tw_W := tw_in (by decide +kernel) (by decide +kernel)
theorem dX11_init_33 : decode cX11_init 33 = .ok (.dup, 1) := by decide +kernel
theorem dX11_init_34 : decode cX11_init 34 = .ok (.invokespecial 26, 3) := by decide +kernel
theorem tw_99 : (.code yX8_init cX8_init 1 none : Cond) ∈ tw_W := tw_in (by decide +kernel) (by decide +kernel)
theorem tw_100 : (.initialized yX8_init.cls : Cond) ∈ tw_W := tw_in (by decide +kernel) (by decide +kernel)
theorem tw_101 : (.instanceMethod yX8_init : Cond) ∈ tw_W := tw_in (by decide +kernel) (by decide +kernel)
theorem dX11_init_37 : decode cX11_init 37 = .ok (.putfield 27, 3) := by decide +kernel
theorem tw_102 : (.fieldLink RX11 27 "PocketCompiler" "shower" "LPocketCompiler$Shower;" : Cond) ∈ tw_W := tw_in (by decide +kernel) (by decide +kernel)
theorem dX11_init_62 : decode cX11_init 62 = .ok (.aload_n 0, 1) := by decide +kernel
theorem dX11_init_63 : decode cX11_init 63 = .ok (.new 31, 3) := by decide +kernel
theorem tw_103 : (.classLink RX11 31 RX7 : Cond) ∈ tw_W := tw_in (by decide +kernel) (by decide +kernel)
theorem tw_104 : (.instantiable RX7 13 : Cond) ∈ tw_W := tw_in (by decide +kernel) (by decide +kernel)
theorem tw_105 : (.initialized RX7 : Cond) ∈ tw_W := tw_in (by decide +kernel) (by decide +kernel)
theorem dX11_init_66 : decode cX11_init 66 = .ok (.dup, 1) := by decide +kernel
theorem dX11_init_67 : decode cX11_init 67 = .ok (.iload_n 2, 1) := by decide +kernel
theorem dX11_init_68 : decode cX11_init 68 = .ok (.invokespecial 33, 3) := by decide +kernel
theorem tw_106 : (.code yX7_init cX7_init 2 none : Cond) ∈ tw_W := tw_in (by decide +kernel) (by decide +kernel)
theorem tw_107 : (.initialized yX7_init.cls : Cond) ∈ tw_W := tw_in (by decide +kernel) (by decide +kernel)
theorem tw_108 : (.methodLink RX11 33 yX7_init : Cond) ∈ tw_W := tw_in (by decide +kernel) (by decide +kernel)
theorem tw_109 : (.instanceMethod yX7_init : Cond) ∈ tw_W := tw_in (by decide +kernel) (by decide +kernel)
theorem dX11_init_71 : decode cX11_init 71 = .ok (.putfield 36, 3) := by decide +kernel
theorem tw_110 : (.fieldLink RX11 36 "PocketCompiler" "loaded" "LPocketCompiler$Program;" : Cond) ∈ tw_W := tw_in (by decide +kernel) (by decide +kernel)
theorem dX11_init_74 : decode cX11_init 74 = .ok (.aload_n 0, 1) := by decide +kernel
theorem dX11_init_75 : decode cX11_init 75 = .ok (.new 31, 3) := by decide +kernel
theorem dX11_init_78 : decode cX11_init 78 = .ok (.dup, 1) := by decide +kernel
theorem dX11_init_79 : decode cX11_init 79 = .ok (.iload_n 2, 1) := by decide +kernel
theorem dX11_init_80 : decode cX11_init 80 = .ok (.invokespecial 33, 3) := by decide +kernel
theorem dX11_init_83 : decode cX11_init 83 = .ok (.putfield 40, 3) := by decide +kernel
theorem tw_111 : (.fieldLink RX11 40 "PocketCompiler" "spare" "LPocketCompiler$Program;" : Cond) ∈ tw_W := tw_in (by decide +kernel) (by decide +kernel)
theorem dX11_init_86 : decode cX11_init 86 = .ok (.aload_n 0, 1) := by decide +kernel
theorem dX11_init_87 : decode cX11_init 87 = .ok (.new 43, 3) := by decide +kernel
theorem tw_112 : (.classLink RX11 43 RX5 : Cond) ∈ tw_W := tw_in (by decide +kernel) (by decide +kernel)
theorem tw_113 : (.instantiable RX5 7 : Cond) ∈ tw_W := tw_in (by decide +kernel) (by decide +kernel)
theorem tw_114 : (.initialized RX5 : Cond) ∈ tw_W := tw_in (by decide +kernel) (by decide +kernel)
theorem dX11_init_90 : decode cX11_init 90 = .ok (.dup, 1) := by decide +kernel
theorem dX11_init_91 : decode cX11_init 91 = .ok (.aload_n 0, 1) := by decide +kernel
theorem dX11_init_92 : decode cX11_init 92 = .ok (.getfield 36, 3) := by decide +kernel
theorem dX11_init_95 : decode cX11_init 95 = .ok (.invokespecial 45, 3) := by decide +kernel
theorem tw_115 : (.code yX5_init cX5_init 2 none : Cond) ∈ tw_W := tw_in (by decide +kernel) (by decide +kernel)
theorem tw_116 : (.initialized yX5_init.cls : Cond) ∈ tw_W := tw_in (by decide +kernel) (by decide +kernel)
theorem tw_117 : (.methodLink RX11 45 yX5_init : Cond) ∈ tw_W := tw_in (by decide +kernel) (by decide +kernel)
theorem tw_118 : (.instanceMethod yX5_init : Cond) ∈ tw_W := tw_in (by decide +kernel) (by decide +kernel)
theorem dX11_init_98 : decode cX11_init 98 = .ok (.putfield 48, 3) := by decide +kernel
theorem tw_119 : (.fieldLink RX11 48 "PocketCompiler" "parser" "LPocketCompiler$Parser;" : Cond) ∈ tw_W := tw_in (by decide +kernel) (by decide +kernel)
theorem dX11_init_101 : decode cX11_init 101 = .ok (.aload_n 0, 1) := by decide +kernel
theorem dX11_init_102 : decode cX11_init 102 = .ok (.new 52, 3) := by decide +kernel
theorem tw_120 : (.classLink RX11 52 RX0 : Cond) ∈ tw_W := tw_in (by decide +kernel) (by decide +kernel)
theorem tw_121 : (.instantiable RX0 9 : Cond) ∈ tw_W := tw_in (by decide +kernel) (by decide +kernel)
theorem tw_122 : (.initialized RX0 : Cond) ∈ tw_W := tw_in (by decide +kernel) (by decide +kernel)
theorem dX11_init_105 : decode cX11_init 105 = .ok (.dup, 1) := by decide +kernel
theorem dX11_init_106 : decode cX11_init 106 = .ok (.aload_n 0, 1) := by decide +kernel
theorem dX11_init_107 : decode cX11_init 107 = .ok (.getfield 36, 3) := by decide +kernel
theorem dX11_init_110 : decode cX11_init 110 = .ok (.iload_n 2, 1) := by decide +kernel
theorem dX11_init_111 : decode cX11_init 111 = .ok (.invokespecial 54, 3) := by decide +kernel
theorem tw_123 : (.code yX0_init cX0_init 3 none : Cond) ∈ tw_W := tw_in (by decide +kernel) (by decide +kernel)
theorem tw_124 : (.initialized yX0_init.cls : Cond) ∈ tw_W := tw_in (by decide +kernel) (by decide +kernel)
theorem tw_125 : (.methodLink RX11 54 yX0_init : Cond) ∈ tw_W := tw_in (by decide +kernel) (by decide +kernel)
theorem tw_126 : (.instanceMethod yX0_init : Cond) ∈ tw_W := tw_in (by decide +kernel) (by decide +kernel)
theorem dX11_init_114 : decode cX11_init 114 = .ok (.putfield 57, 3) := by decide +kernel
theorem tw_127 : (.fieldLink RX11 57 "PocketCompiler" "assembler" "LPocketCompiler$Assembler;" : Cond) ∈ tw_W := tw_in (by decide +kernel) (by decide +kernel)
theorem dX11_init_117 : decode cX11_init 117 = .ok (.aload_n 0, 1) := by decide +kernel
theorem dX11_init_118 : decode cX11_init 118 = .ok (.new 61, 3) := by decide +kernel
theorem tw_128 : (.classLink RX11 61 RX6 : Cond) ∈ tw_W := tw_in (by decide +kernel) (by decide +kernel)
theorem tw_129 : (.instantiable RX6 9 : Cond) ∈ tw_W := tw_in (by decide +kernel) (by decide +kernel)
theorem tw_130 : (.initialized RX6 : Cond) ∈ tw_W := tw_in (by decide +kernel) (by decide +kernel)
theorem itX6 : ∀ w ∈ wsX60, w ∈ tw_W := tw_all (by decide +kernel)
theorem dX11_init_121 : decode cX11_init 121 = .ok (.dup, 1) := by decide +kernel
theorem dX11_init_122 : decode cX11_init 122 = .ok (.iload_n 2, 1) := by decide +kernel
theorem dX11_init_123 : decode cX11_init 123 = .ok (.aload_n 0, 1) := by decide +kernel
theorem dX11_init_124 : decode cX11_init 124 = .ok (.getfield 20, 3) := by decide +kernel
theorem dX11_init_127 : decode cX11_init 127 = .ok (.invokespecial 63, 3) := by decide +kernel
theorem dX6_init_0 : decode cX6_init 0 = .ok (.aload_n 0, 1) := by decide +kernel
theorem dX6_init_1 : decode cX6_init 1 = .ok (.invokespecial 3, 3) := by decide +kernel
theorem tw_131 : (.methodLink RX6 3 objectInit : Cond) ∈ tw_W := tw_in (by decide +kernel) (by decide +kernel)
theorem dX6_init_4 : decode cX6_init 4 = .ok (.aload_n 0, 1) := by decide +kernel
theorem dX6_init_5 : decode cX6_init 5 = .ok (.bipush 32, 2) := by decide +kernel
theorem dX6_init_7 : decode cX6_init 7 = .ok (.newarray .int, 2) := by decide +kernel
theorem dX6_init_9 : decode cX6_init 9 = .ok (.putfield 9, 3) := by decide +kernel
theorem tw_132 : (.fieldLink RX6 9 "PocketCompiler$Processor" "registers" "[I" : Cond) ∈ tw_W := tw_in (by decide +kernel) (by decide +kernel)
theorem dX6_init_12 : decode cX6_init 12 = .ok (.aload_n 0, 1) := by decide +kernel
theorem dX6_init_13 : decode cX6_init 13 = .ok (.sipush 200, 3) := by decide +kernel
theorem dX6_init_16 : decode cX6_init 16 = .ok (.newarray .int, 2) := by decide +kernel
theorem dX6_init_18 : decode cX6_init 18 = .ok (.putfield 15, 3) := by decide +kernel
theorem tw_133 : (.fieldLink RX6 15 "PocketCompiler$Processor" "puts" "[I" : Cond) ∈ tw_W := tw_in (by decide +kernel) (by decide +kernel)
theorem dX6_init_21 : decode cX6_init 21 = .ok (.aload_n 0, 1) := by decide +kernel
theorem dX6_init_22 : decode cX6_init 22 = .ok (.iload_n 1, 1) := by decide +kernel
theorem dX6_init_23 : decode cX6_init 23 = .ok (.newarray .int, 2) := by decide +kernel
theorem dX6_init_25 : decode cX6_init 25 = .ok (.putfield 18, 3) := by decide +kernel
theorem tw_134 : (.fieldLink RX6 18 "PocketCompiler$Processor" "memory" "[I" : Cond) ∈ tw_W := tw_in (by decide +kernel) (by decide +kernel)
theorem dX6_init_28 : decode cX6_init 28 = .ok (.aload_n 0, 1) := by decide +kernel
theorem dX6_init_29 : decode cX6_init 29 = .ok (.aload_n 2, 1) := by decide +kernel
theorem dX6_init_30 : decode cX6_init 30 = .ok (.putfield 21, 3) := by decide +kernel
theorem tw_135 : (.fieldLink RX6 21 "PocketCompiler$Processor" "gifts" "LPocketCompiler$Gifts;" : Cond) ∈ tw_W := tw_in (by decide +kernel) (by decide +kernel)
theorem dX6_init_33 : decode cX6_init 33 = .ok (.return_, 1) := by decide +kernel
theorem tw_136 : (.code yX6_init cX6_init 3 none : Cond) ∈ tw_W := tw_in (by decide +kernel) (by decide +kernel)
theorem tw_137 : (.initialized yX6_init.cls : Cond) ∈ tw_W := tw_in (by decide +kernel) (by decide +kernel)
theorem tw_138 : (.methodLink RX11 63 yX6_init : Cond) ∈ tw_W := tw_in (by decide +kernel) (by decide +kernel)
theorem tw_139 : (.instanceMethod yX6_init : Cond) ∈ tw_W := tw_in (by decide +kernel) (by decide +kernel)
theorem dX11_init_130 : decode cX11_init 130 = .ok (.putfield 66, 3) := by decide +kernel
theorem tw_140 : (.fieldLink RX11 66 "PocketCompiler" "processor" "LPocketCompiler$Processor;" : Cond) ∈ tw_W := tw_in (by decide +kernel) (by decide +kernel)
theorem dX11_init_133 : decode cX11_init 133 = .ok (.aload_n 0, 1) := by decide +kernel
theorem dX11_init_134 : decode cX11_init 134 = .ok (.new 70, 3) := by decide +kernel
theorem tw_141 : (.classLink RX11 70 RX10 : Cond) ∈ tw_W := tw_in (by decide +kernel) (by decide +kernel)
theorem tw_142 : (.instantiable RX10 17 : Cond) ∈ tw_W := tw_in (by decide +kernel) (by decide +kernel)
theorem tw_143 : (.initialized RX10 : Cond) ∈ tw_W := tw_in (by decide +kernel) (by decide +kernel)
theorem dX11_init_137 : decode cX11_init 137 = .ok (.dup, 1) := by decide +kernel
theorem dX11_init_138 : decode cX11_init 138 = .ok (.aload_n 0, 1) := by decide +kernel
theorem dX11_init_139 : decode cX11_init 139 = .ok (.getfield 36, 3) := by decide +kernel
theorem dX11_init_142 : decode cX11_init 142 = .ok (.iload_n 2, 1) := by decide +kernel
theorem dX11_init_143 : decode cX11_init 143 = .ok (.aload_n 0, 1) := by decide +kernel
theorem dX11_init_144 : decode cX11_init 144 = .ok (.getfield 20, 3) := by decide +kernel
theorem dX11_init_147 : decode cX11_init 147 = .ok (.invokespecial 72, 3) := by decide +kernel
theorem tw_144 : (.code yX10_init cX10_init 4 none : Cond) ∈ tw_W := tw_in (by decide +kernel) (by decide +kernel)
theorem tw_145 : (.initialized yX10_init.cls : Cond) ∈ tw_W := tw_in (by decide +kernel) (by decide +kernel)
theorem tw_146 : (.methodLink RX11 72 yX10_init : Cond) ∈ tw_W := tw_in (by decide +kernel) (by decide +kernel)
theorem tw_147 : (.instanceMethod yX10_init : Cond) ∈ tw_W := tw_in (by decide +kernel) (by decide +kernel)
theorem dX11_init_150 : decode cX11_init 150 = .ok (.putfield 75, 3) := by decide +kernel
theorem tw_148 : (.fieldLink RX11 75 "PocketCompiler" "worker" "LPocketCompiler$Worker;" : Cond) ∈ tw_W := tw_in (by decide +kernel) (by decide +kernel)
theorem dX11_init_153 : decode cX11_init 153 = .ok (.aload_n 0, 1) := by decide +kernel
theorem dX11_init_154 : decode cX11_init 154 = .ok (.getfield 48, 3) := by decide +kernel
theorem dX11_init_157 : decode cX11_init 157 = .ok (.aload_n 0, 1) := by decide +kernel
theorem dX11_init_158 : decode cX11_init 158 = .ok (.getfield 36, 3) := by decide +kernel
theorem dX11_init_161 : decode cX11_init 161 = .ok (.invokevirtual 79, 3) := by decide +kernel
theorem dX5_readText_0 : decode cX5_readText 0 = .ok (.aload_n 0, 1) := by decide +kernel
theorem dX5_readText_1 : decode cX5_readText 1 = .ok (.aload_n 1, 1) := by decide +kernel
theorem dX5_readText_2 : decode cX5_readText 2 = .ok (.putfield 9, 3) := by decide +kernel
theorem dX5_readText_5 : decode cX5_readText 5 = .ok (.aload_n 0, 1) := by decide +kernel
theorem dX5_readText_6 : decode cX5_readText 6 = .ok (.getfield 20, 3) := by decide +kernel
theorem dX5_readText_9 : decode cX5_readText 9 = .ok (.aload_n 1, 1) := by decide +kernel
theorem dX5_readText_10 : decode cX5_readText 10 = .ok (.invokevirtual 40, 3) := by decide +kernel
theorem dX9_scan_0 : decode cX9_scan 0 = .ok (.aload_n 0, 1) := by decide +kernel
theorem dX9_scan_1 : decode cX9_scan 1 = .ok (.aload_n 1, 1) := by decide +kernel
theorem dX9_scan_2 : decode cX9_scan 2 = .ok (.putfield 21, 3) := by decide +kernel
theorem dX9_scan_5 : decode cX9_scan 5 = .ok (.aload_n 0, 1) := by decide +kernel
theorem dX9_scan_6 : decode cX9_scan 6 = .ok (.iconst 0, 1) := by decide +kernel
theorem dX9_scan_7 : decode cX9_scan 7 = .ok (.putfield 28, 3) := by decide +kernel
theorem tw_149 : (.fieldLink RX9 28 "PocketCompiler$Tokens" "size" "I" : Cond) ∈ tw_W := tw_in (by decide +kernel) (by decide +kernel)
theorem dX9_scan_10 : decode cX9_scan 10 = .ok (.aload_n 0, 1) := by decide +kernel
theorem dX9_scan_11 : decode cX9_scan 11 = .ok (.iconst 0, 1) := by decide +kernel
theorem dX9_scan_12 : decode cX9_scan 12 = .ok (.putfield 32, 3) := by decide +kernel
theorem tw_150 : (.fieldLink RX9 32 "PocketCompiler$Tokens" "at" "I" : Cond) ∈ tw_W := tw_in (by decide +kernel) (by decide +kernel)
theorem dX9_scan_15 : decode cX9_scan 15 = .ok (.aload_n 0, 1) := by decide +kernel
theorem dX9_scan_16 : decode cX9_scan 16 = .ok (.iconst 0, 1) := by decide +kernel
theorem dX9_scan_17 : decode cX9_scan 17 = .ok (.putfield 35, 3) := by decide +kernel
theorem tw_151 : (.fieldLink RX9 35 "PocketCompiler$Tokens" "opened" "I" : Cond) ∈ tw_W := tw_in (by decide +kernel) (by decide +kernel)
theorem dX9_scan_20 : decode cX9_scan 20 = .ok (.aload_n 0, 1) := by decide +kernel
theorem dX9_scan_21 : decode cX9_scan 21 = .ok (.iconst (-1), 1) := by decide +kernel
theorem dX9_scan_22 : decode cX9_scan 22 = .ok (.putfield 38, 3) := by decide +kernel
theorem tw_152 : (.fieldLink RX9 38 "PocketCompiler$Tokens" "dueAt" "I" : Cond) ∈ tw_W := tw_in (by decide +kernel) (by decide +kernel)
theorem dX9_scan_25 : decode cX9_scan 25 = .ok (.aload_n 0, 1) := by decide +kernel
theorem dX9_scan_26 : decode cX9_scan 26 = .ok (.iconst 0, 1) := by decide +kernel
theorem dX9_scan_27 : decode cX9_scan 27 = .ok (.putfield 41, 3) := by decide +kernel
theorem tw_153 : (.fieldLink RX9 41 "PocketCompiler$Tokens" "faultKind" "I" : Cond) ∈ tw_W := tw_in (by decide +kernel) (by decide +kernel)
theorem dX9_scan_30 : decode cX9_scan 30 = .ok (.aload_n 0, 1) := by decide +kernel
theorem dX9_scan_31 : decode cX9_scan 31 = .ok (.iconst (-1), 1) := by decide +kernel
theorem dX9_scan_32 : decode cX9_scan 32 = .ok (.putfield 44, 3) := by decide +kernel
theorem tw_154 : (.fieldLink RX9 44 "PocketCompiler$Tokens" "faultPlace" "I" : Cond) ∈ tw_W := tw_in (by decide +kernel) (by decide +kernel)
theorem dX9_scan_35 : decode cX9_scan 35 = .ok (.iconst 0, 1) := by decide +kernel
theorem dX9_scan_36 : decode cX9_scan 36 = .ok (.istore_n 2, 1) := by decide +kernel
theorem dX9_scan_37 : decode cX9_scan 37 = .ok (.iconst 0, 1) := by decide +kernel
theorem dX9_scan_38 : decode cX9_scan 38 = .ok (.istore_n 3, 1) := by decide +kernel
theorem dX9_scan_39 : decode cX9_scan 39 = .ok (.iload_n 3, 1) := by decide +kernel
theorem dX9_scan_40 : decode cX9_scan 40 = .ok (.sipush 1503, 3) := by decide +kernel
theorem dX9_scan_43 : decode cX9_scan 43 = .ok (.if_icmp .ge 39, 3) := by decide +kernel
theorem dX9_scan_46 : decode cX9_scan 46 = .ok (.aload_n 0, 1) := by decide +kernel
theorem dX9_scan_47 : decode cX9_scan 47 = .ok (.aload_n 0, 1) := by decide +kernel
theorem dX9_scan_48 : decode cX9_scan 48 = .ok (.iload_n 2, 1) := by decide +kernel
theorem dX9_scan_49 : decode cX9_scan 49 = .ok (.invokevirtual 47, 3) := by decide +kernel
theorem dX9_behindBlanks_0 : decode cX9_behindBlanks 0 = .ok (.iconst 0, 1) := by decide +kernel
theorem dX9_behindBlanks_1 : decode cX9_behindBlanks 1 = .ok (.istore_n 2, 1) := by decide +kernel
theorem dX9_behindBlanks_2 : decode cX9_behindBlanks 2 = .ok (.iload_n 1, 1) := by decide +kernel
theorem dX9_behindBlanks_3 : decode cX9_behindBlanks 3 = .ok (.istore_n 3, 1) := by decide +kernel
theorem dX9_behindBlanks_4 : decode cX9_behindBlanks 4 = .ok (.iload_n 3, 1) := by decide +kernel
theorem dX9_behindBlanks_5 : decode cX9_behindBlanks 5 = .ok (.aload_n 0, 1) := by decide +kernel
theorem dX9_behindBlanks_6 : decode cX9_behindBlanks 6 = .ok (.getfield 21, 3) := by decide +kernel
theorem dX9_behindBlanks_9 : decode cX9_behindBlanks 9 = .ok (.getfield 54, 3) := by decide +kernel
theorem tw_155 : (.fieldLink RX9 54 "PocketCompiler$Program" "length" "I" : Cond) ∈ tw_W := tw_in (by decide +kernel) (by decide +kernel)
theorem dX9_behindBlanks_12 : decode cX9_behindBlanks 12 = .ok (.if_icmp .ge 96, 3) := by decide +kernel
theorem dX9_behindBlanks_108 : decode cX9_behindBlanks 108 = .ok (.aload_n 0, 1) := by decide +kernel
theorem dX9_behindBlanks_109 : decode cX9_behindBlanks 109 = .ok (.getfield 21, 3) := by decide +kernel
theorem dX9_behindBlanks_112 : decode cX9_behindBlanks 112 = .ok (.getfield 54, 3) := by decide +kernel
theorem dX9_behindBlanks_115 : decode cX9_behindBlanks 115 = .ok (.ireturn, 1) := by decide +kernel
theorem tw_156 : (.code yX9_behindBlanks cX9_behindBlanks 5 (some .int) : Cond) ∈ tw_W := tw_in (by decide +kernel) (by decide +kernel)
theorem tw_157 : ∀ w ∈ ([.methodLink RX9 47 yX9_behindBlanks, .instanceMethod yX9_behindBlanks, .selects RX9 yX9_behindBlanks yX9_behindBlanks, .initialized RX9] : List Cond), w ∈ tw_W := tw_all (by decide +kernel)
theorem dX9_scan_52 : decode cX9_scan 52 = .ok (.invokevirtual 51, 3) := by decide +kernel
theorem dX9_scanOne_0 : decode cX9_scanOne 0 = .ok (.aload_n 0, 1) := by decide +kernel
theorem dX9_scanOne_1 : decode cX9_scanOne 1 = .ok (.getfield 21, 3) := by decide +kernel
theorem dX9_scanOne_4 : decode cX9_scanOne 4 = .ok (.iload_n 1, 1) := by decide +kernel
theorem dX9_scanOne_5 : decode cX9_scanOne 5 = .ok (.invokevirtual 59, 3) := by decide +kernel
theorem dX7_byteAt_0 : decode cX7_byteAt 0 = .ok (.iload_n 1, 1) := by decide +kernel
theorem dX7_byteAt_1 : decode cX7_byteAt 1 = .ok (.ifCond .lt 20, 3) := by decide +kernel
theorem dX7_byteAt_4 : decode cX7_byteAt 4 = .ok (.iload_n 1, 1) := by decide +kernel
theorem dX7_byteAt_5 : decode cX7_byteAt 5 = .ok (.aload_n 0, 1) := by decide +kernel
theorem dX7_byteAt_6 : decode cX7_byteAt 6 = .ok (.getfield 35, 3) := by decide +kernel
theorem tw_158 : (.fieldLink RX7 35 "PocketCompiler$Program" "length" "I" : Cond) ∈ tw_W := tw_in (by decide +kernel) (by decide +kernel)
theorem dX7_byteAt_9 : decode cX7_byteAt 9 = .ok (.if_icmp .ge 12, 3) := by decide +kernel
theorem dX7_byteAt_21 : decode cX7_byteAt 21 = .ok (.iconst (-1), 1) := by decide +kernel
theorem dX7_byteAt_22 : decode cX7_byteAt 22 = .ok (.ireturn, 1) := by decide +kernel
theorem tw_159 : (.code yX7_byteAt cX7_byteAt 2 (some .int) : Cond) ∈ tw_W := tw_in (by decide +kernel) (by decide +kernel)
theorem tw_160 : ∀ w ∈ ([.methodLink RX9 59 yX7_byteAt, .instanceMethod yX7_byteAt, .selects RX7 yX7_byteAt yX7_byteAt, .initialized RX7] : List Cond), w ∈ tw_W := tw_all (by decide +kernel)
theorem dX9_scanOne_8 : decode cX9_scanOne 8 = .ok (.istore_n 2, 1) := by decide +kernel
theorem dX9_scanOne_9 : decode cX9_scanOne 9 = .ok (.iload_n 2, 1) := by decide +kernel
theorem dX9_scanOne_10 : decode cX9_scanOne 10 = .ok (.iconst (-1), 1) := by decide +kernel
theorem dX9_scanOne_11 : decode cX9_scanOne 11 = .ok (.if_icmp .ne 12, 3) := by decide +kernel
theorem dX9_scanOne_14 : decode cX9_scanOne 14 = .ok (.aload_n 0, 1) := by decide +kernel
theorem dX9_scanOne_15 : decode cX9_scanOne 15 = .ok (.iconst 0, 1) := by decide +kernel
theorem dX9_scanOne_16 : decode cX9_scanOne 16 = .ok (.iload_n 1, 1) := by decide +kernel
theorem dX9_scanOne_17 : decode cX9_scanOne 17 = .ok (.iconst 0, 1) := by decide +kernel
theorem dX9_scanOne_18 : decode cX9_scanOne 18 = .ok (.iconst 0, 1) := by decide +kernel
theorem dX9_scanOne_19 : decode cX9_scanOne 19 = .ok (.invokevirtual 62, 3) := by decide +kernel
theorem dX9_add_0 : decode cX9_add 0 = .ok (.aload_n 0, 1) := by decide +kernel
theorem dX9_add_1 : decode cX9_add 1 = .ok (.getfield 28, 3) := by decide +kernel
theorem dX9_add_4 : decode cX9_add 4 = .ok (.sipush 1503, 3) := by decide +kernel
theorem dX9_add_7 : decode cX9_add 7 = .ok (.if_icmp .ge 43, 3) := by decide +kernel
theorem dX9_add_10 : decode cX9_add 10 = .ok (.aload_n 0, 1) := by decide +kernel
theorem dX9_add_11 : decode cX9_add 11 = .ok (.getfield 11, 3) := by decide +kernel
theorem dX9_add_14 : decode cX9_add 14 = .ok (.aload_n 0, 1) := by decide +kernel
theorem dX9_add_15 : decode cX9_add 15 = .ok (.getfield 28, 3) := by decide +kernel
theorem dX9_add_18 : decode cX9_add 18 = .ok (.iload_n 1, 1) := by decide +kernel
theorem dX9_add_19 : decode cX9_add 19 = .ok (.iastore, 1) := by decide +kernel
theorem dX9_add_20 : decode cX9_add 20 = .ok (.aload_n 0, 1) := by decide +kernel
theorem dX9_add_21 : decode cX9_add 21 = .ok (.getfield 15, 3) := by decide +kernel
theorem dX9_add_24 : decode cX9_add 24 = .ok (.aload_n 0, 1) := by decide +kernel
theorem dX9_add_25 : decode cX9_add 25 = .ok (.getfield 28, 3) := by decide +kernel
theorem dX9_add_28 : decode cX9_add 28 = .ok (.iload_n 2, 1) := by decide +kernel
theorem dX9_add_29 : decode cX9_add 29 = .ok (.iastore, 1) := by decide +kernel
theorem dX9_add_30 : decode cX9_add 30 = .ok (.aload_n 0, 1) := by decide +kernel
theorem dX9_add_31 : decode cX9_add 31 = .ok (.getfield 18, 3) := by decide +kernel
theorem dX9_add_34 : decode cX9_add 34 = .ok (.aload_n 0, 1) := by decide +kernel
theorem dX9_add_35 : decode cX9_add 35 = .ok (.getfield 28, 3) := by decide +kernel
theorem dX9_add_38 : decode cX9_add 38 = .ok (.iload_n 3, 1) := by decide +kernel
theorem dX9_add_39 : decode cX9_add 39 = .ok (.iastore, 1) := by decide +kernel
theorem dX9_add_40 : decode cX9_add 40 = .ok (.aload_n 0, 1) := by decide +kernel
theorem dX9_add_41 : decode cX9_add 41 = .ok (.dup, 1) := by decide +kernel
theorem dX9_add_42 : decode cX9_add 42 = .ok (.getfield 28, 3) := by decide +kernel
theorem dX9_add_45 : decode cX9_add 45 = .ok (.iconst 1, 1) := by decide +kernel
theorem dX9_add_46 : decode cX9_add 46 = .ok (.iadd, 1) := by decide +kernel
theorem dX9_add_47 : decode cX9_add 47 = .ok (.putfield 28, 3) := by decide +kernel
theorem dX9_add_50 : decode cX9_add 50 = .ok (.iload_n 2, 1) := by decide +kernel
theorem dX9_add_51 : decode cX9_add 51 = .ok (.iload 4, 2) := by decide +kernel
theorem dX9_add_53 : decode cX9_add 53 = .ok (.iadd, 1) := by decide +kernel
theorem dX9_add_54 : decode cX9_add 54 = .ok (.ireturn, 1) := by decide +kernel
theorem tw_161 : (.code yX9_add cX9_add 5 (some .int) : Cond) ∈ tw_W := tw_in (by decide +kernel) (by decide +kernel)
theorem tw_162 : ∀ w ∈ ([.methodLink RX9 62 yX9_add, .instanceMethod yX9_add, .selects RX9 yX9_add yX9_add, .initialized RX9] : List Cond), w ∈ tw_W := tw_all (by decide +kernel)
theorem dX9_scanOne_22 : decode cX9_scanOne 22 = .ok (.ireturn, 1) := by decide +kernel
theorem tw_163 : (.code yX9_scanOne cX9_scanOne 3 (some .int) : Cond) ∈ tw_W := tw_in (by decide +kernel) (by decide +kernel)
theorem tw_164 : ∀ w ∈ ([.methodLink RX9 51 yX9_scanOne, .instanceMethod yX9_scanOne, .selects RX9 yX9_scanOne yX9_scanOne, .initialized RX9] : List Cond), w ∈ tw_W := tw_all (by decide +kernel)
theorem dX9_scan_55 : decode cX9_scan 55 = .ok (.istore_n 2, 1) := by decide +kernel
theorem dX9_scan_56 : decode cX9_scan 56 = .ok (.aload_n 0, 1) := by decide +kernel
theorem dX9_scan_57 : decode cX9_scan 57 = .ok (.getfield 11, 3) := by decide +kernel
theorem dX9_scan_60 : decode cX9_scan 60 = .ok (.iload_n 3, 1) := by decide +kernel
theorem dX9_scan_61 : decode cX9_scan 61 = .ok (.iaload, 1) := by decide +kernel
theorem dX9_scan_62 : decode cX9_scan 62 = .ok (.ifCond .eq 13, 3) := by decide +kernel
theorem dX9_scan_75 : decode cX9_scan 75 = .ok (.return_, 1) := by decide +kernel
theorem tw_165 : (.code yX9_scan cX9_scan 4 none : Cond) ∈ tw_W := tw_in (by decide +kernel) (by decide +kernel)
theorem tw_166 : ∀ w ∈ ([.methodLink RX5 40 yX9_scan, .instanceMethod yX9_scan, .selects RX9 yX9_scan yX9_scan, .initialized RX9] : List Cond), w ∈ tw_W := tw_all (by decide +kernel)
theorem dX5_readText_13 : decode cX5_readText 13 = .ok (.aload_n 0, 1) := by decide +kernel
theorem dX5_readText_14 : decode cX5_readText 14 = .ok (.getfield 27, 3) := by decide +kernel
theorem dX5_readText_17 : decode cX5_readText 17 = .ok (.aload_n 1, 1) := by decide +kernel
theorem dX5_readText_18 : decode cX5_readText 18 = .ok (.invokevirtual 43, 3) := by decide +kernel
theorem dX1_begin_0 : decode cX1_begin 0 = .ok (.aload_n 0, 1) := by decide +kernel
theorem dX1_begin_1 : decode cX1_begin 1 = .ok (.aload_n 1, 1) := by decide +kernel
theorem dX1_begin_2 : decode cX1_begin 2 = .ok (.putfield 27, 3) := by decide +kernel
theorem dX1_begin_5 : decode cX1_begin 5 = .ok (.aload_n 0, 1) := by decide +kernel
theorem dX1_begin_6 : decode cX1_begin 6 = .ok (.getfield 27, 3) := by decide +kernel
theorem dX1_begin_9 : decode cX1_begin 9 = .ok (.invokevirtual 31, 3) := by decide +kernel
theorem dX7_clear_0 : decode cX7_clear 0 = .ok (.aload_n 0, 1) := by decide +kernel
theorem dX7_clear_1 : decode cX7_clear 1 = .ok (.iconst 0, 1) := by decide +kernel
theorem dX7_clear_2 : decode cX7_clear 2 = .ok (.putfield 45, 3) := by decide +kernel
theorem tw_167 : (.fieldLink RX7 45 "PocketCompiler$Program" "functionCount" "I" : Cond) ∈ tw_W := tw_in (by decide +kernel) (by decide +kernel)
theorem dX7_clear_5 : decode cX7_clear 5 = .ok (.aload_n 0, 1) := by decide +kernel
theorem dX7_clear_6 : decode cX7_clear 6 = .ok (.iconst 0, 1) := by decide +kernel
theorem dX7_clear_7 : decode cX7_clear 7 = .ok (.putfield 48, 3) := by decide +kernel
theorem tw_168 : (.fieldLink RX7 48 "PocketCompiler$Program" "globalCount" "I" : Cond) ∈ tw_W := tw_in (by decide +kernel) (by decide +kernel)
theorem dX7_clear_10 : decode cX7_clear 10 = .ok (.aload_n 0, 1) := by decide +kernel
theorem dX7_clear_11 : decode cX7_clear 11 = .ok (.iconst 0, 1) := by decide +kernel
theorem dX7_clear_12 : decode cX7_clear 12 = .ok (.putfield 51, 3) := by decide +kernel
theorem tw_169 : (.fieldLink RX7 51 "PocketCompiler$Program" "deedCount" "I" : Cond) ∈ tw_W := tw_in (by decide +kernel) (by decide +kernel)
theorem dX7_clear_15 : decode cX7_clear 15 = .ok (.aload_n 0, 1) := by decide +kernel
theorem dX7_clear_16 : decode cX7_clear 16 = .ok (.iconst 0, 1) := by decide +kernel
theorem dX7_clear_17 : decode cX7_clear 17 = .ok (.putfield 54, 3) := by decide +kernel
theorem tw_170 : (.fieldLink RX7 54 "PocketCompiler$Program" "wordCount" "I" : Cond) ∈ tw_W := tw_in (by decide +kernel) (by decide +kernel)
theorem dX7_clear_20 : decode cX7_clear 20 = .ok (.aload_n 0, 1) := by decide +kernel
theorem dX7_clear_21 : decode cX7_clear 21 = .ok (.iconst 0, 1) := by decide +kernel
theorem dX7_clear_22 : decode cX7_clear 22 = .ok (.putfield 57, 3) := by decide +kernel
theorem tw_171 : (.fieldLink RX7 57 "PocketCompiler$Program" "limit" "I" : Cond) ∈ tw_W := tw_in (by decide +kernel) (by decide +kernel)
theorem dX7_clear_25 : decode cX7_clear 25 = .ok (.return_, 1) := by decide +kernel
theorem tw_172 : (.code yX7_clear cX7_clear 1 none : Cond) ∈ tw_W := tw_in (by decide +kernel) (by decide +kernel)
theorem tw_173 : ∀ w ∈ ([.methodLink RX1 31 yX7_clear, .instanceMethod yX7_clear, .selects RX7 yX7_clear yX7_clear, .initialized RX7] : List Cond), w ∈ tw_W := tw_all (by decide +kernel)
theorem dX1_begin_12 : decode cX1_begin 12 = .ok (.aload_n 0, 1) := by decide +kernel
theorem dX1_begin_13 : decode cX1_begin 13 = .ok (.iconst 0, 1) := by decide +kernel
theorem dX1_begin_14 : decode cX1_begin 14 = .ok (.putfield 36, 3) := by decide +kernel
theorem tw_174 : (.fieldLink RX1 36 "PocketCompiler$Builder" "labelCount" "I" : Cond) ∈ tw_W := tw_in (by decide +kernel) (by decide +kernel)
theorem dX1_begin_17 : decode cX1_begin 17 = .ok (.aload_n 0, 1) := by decide +kernel
theorem dX1_begin_18 : decode cX1_begin 18 = .ok (.iconst 0, 1) := by decide +kernel
theorem dX1_begin_19 : decode cX1_begin 19 = .ok (.putfield 40, 3) := by decide +kernel
theorem tw_175 : (.fieldLink RX1 40 "PocketCompiler$Builder" "callCount" "I" : Cond) ∈ tw_W := tw_in (by decide +kernel) (by decide +kernel)
theorem dX1_begin_22 : decode cX1_begin 22 = .ok (.return_, 1) := by decide +kernel
theorem tw_176 : (.code yX1_begin cX1_begin 2 none : Cond) ∈ tw_W := tw_in (by decide +kernel) (by decide +kernel)
theorem tw_177 : ∀ w ∈ ([.methodLink RX5 43 yX1_begin, .instanceMethod yX1_begin, .selects RX1 yX1_begin yX1_begin, .initialized RX1] : List Cond), w ∈ tw_W := tw_all (by decide +kernel)
theorem dX5_readText_21 : decode cX5_readText 21 = .ok (.aload_n 0, 1) := by decide +kernel
theorem dX5_readText_22 : decode cX5_readText 22 = .ok (.getfield 36, 3) := by decide +kernel
theorem dX5_readText_25 : decode cX5_readText 25 = .ok (.invokevirtual 46, 3) := by decide +kernel
theorem dX2_begin_0 : decode cX2_begin 0 = .ok (.aload_n 0, 1) := by decide +kernel
theorem dX2_begin_1 : decode cX2_begin 1 = .ok (.iconst 0, 1) := by decide +kernel
theorem dX2_begin_2 : decode cX2_begin 2 = .ok (.putfield 26, 3) := by decide +kernel
theorem tw_178 : (.fieldLink RX2 26 "PocketCompiler$Expressions" "top" "I" : Cond) ∈ tw_W := tw_in (by decide +kernel) (by decide +kernel)
theorem dX2_begin_5 : decode cX2_begin 5 = .ok (.return_, 1) := by decide +kernel
theorem tw_179 : (.code yX2_begin cX2_begin 1 none : Cond) ∈ tw_W := tw_in (by decide +kernel) (by decide +kernel)
theorem tw_180 : ∀ w ∈ ([.methodLink RX5 46 yX2_begin, .instanceMethod yX2_begin, .selects RX2 yX2_begin yX2_begin, .initialized RX2] : List Cond), w ∈ tw_W := tw_all (by decide +kernel)
theorem dX5_readText_28 : decode cX5_readText 28 = .ok (.iconst 0, 1) := by decide +kernel
theorem dX5_readText_29 : decode cX5_readText 29 = .ok (.istore_n 2, 1) := by decide +kernel
theorem dX5_readText_30 : decode cX5_readText 30 = .ok (.iload_n 2, 1) := by decide +kernel
theorem dX5_readText_31 : decode cX5_readText 31 = .ok (.sipush 1500, 3) := by decide +kernel
theorem dX5_readText_34 : decode cX5_readText 34 = .ok (.if_icmp .ge 42, 3) := by decide +kernel
theorem dX5_readText_37 : decode cX5_readText 37 = .ok (.aload_n 0, 1) := by decide +kernel
theorem dX5_readText_38 : decode cX5_readText 38 = .ok (.getfield 20, 3) := by decide +kernel
theorem dX5_readText_41 : decode cX5_readText 41 = .ok (.invokevirtual 48, 3) := by decide +kernel
theorem dX9_kind_0 : decode cX9_kind 0 = .ok (.aload_n 0, 1) := by decide +kernel
theorem dX9_kind_1 : decode cX9_kind 1 = .ok (.getfield 32, 3) := by decide +kernel
theorem dX9_kind_4 : decode cX9_kind 4 = .ok (.ifCond .lt 26, 3) := by decide +kernel
theorem dX9_kind_7 : decode cX9_kind 7 = .ok (.aload_n 0, 1) := by decide +kernel
theorem dX9_kind_8 : decode cX9_kind 8 = .ok (.getfield 32, 3) := by decide +kernel
theorem dX9_kind_11 : decode cX9_kind 11 = .ok (.aload_n 0, 1) := by decide +kernel
theorem dX9_kind_12 : decode cX9_kind 12 = .ok (.getfield 28, 3) := by decide +kernel
theorem dX9_kind_15 : decode cX9_kind 15 = .ok (.if_icmp .ge 15, 3) := by decide +kernel
theorem dX9_kind_18 : decode cX9_kind 18 = .ok (.aload_n 0, 1) := by decide +kernel
theorem dX9_kind_19 : decode cX9_kind 19 = .ok (.getfield 11, 3) := by decide +kernel
theorem dX9_kind_22 : decode cX9_kind 22 = .ok (.aload_n 0, 1) := by decide +kernel
theorem dX9_kind_23 : decode cX9_kind 23 = .ok (.getfield 32, 3) := by decide +kernel
theorem dX9_kind_26 : decode cX9_kind 26 = .ok (.iaload, 1) := by decide +kernel
theorem dX9_kind_27 : decode cX9_kind 27 = .ok (.goto 4, 3) := by decide +kernel
theorem dX9_kind_31 : decode cX9_kind 31 = .ok (.ireturn, 1) := by decide +kernel
theorem tw_181 : (.code yX9_kind cX9_kind 1 (some .int) : Cond) ∈ tw_W := tw_in (by decide +kernel) (by decide +kernel)
theorem tw_182 : ∀ w ∈ ([.methodLink RX5 48 yX9_kind, .instanceMethod yX9_kind, .selects RX9 yX9_kind yX9_kind, .initialized RX9] : List Cond), w ∈ tw_W := tw_all (by decide +kernel)
theorem dX5_readText_44 : decode cX5_readText 44 = .ok (.ifCond .eq 32, 3) := by decide +kernel
theorem dX5_readText_76 : decode cX5_readText 76 = .ok (.aload_n 0, 1) := by decide +kernel
theorem dX5_readText_77 : decode cX5_readText 77 = .ok (.invokevirtual 62, 3) := by decide +kernel
theorem dX5_checkCalls_0 : decode cX5_checkCalls 0 = .ok (.iconst 0, 1) := by decide +kernel
theorem dX5_checkCalls_1 : decode cX5_checkCalls 1 = .ok (.istore_n 1, 1) := by decide +kernel
theorem dX5_checkCalls_2 : decode cX5_checkCalls 2 = .ok (.iload_n 1, 1) := by decide +kernel
theorem dX5_checkCalls_3 : decode cX5_checkCalls 3 = .ok (.aload_n 0, 1) := by decide +kernel
theorem dX5_checkCalls_4 : decode cX5_checkCalls 4 = .ok (.getfield 27, 3) := by decide +kernel
theorem dX5_checkCalls_7 : decode cX5_checkCalls 7 = .ok (.getfield 68, 3) := by decide +kernel
theorem dX5_checkCalls_10 : decode cX5_checkCalls 10 = .ok (.if_icmp .ge 64, 3) := by decide +kernel
theorem dX5_checkCalls_74 : decode cX5_checkCalls 74 = .ok (.return_, 1) := by decide +kernel
theorem tw_183 : (.code yX5_checkCalls cX5_checkCalls 2 none : Cond) ∈ tw_W := tw_in (by decide +kernel) (by decide +kernel)
theorem tw_184 : ∀ w ∈ ([.methodLink RX5 62 yX5_checkCalls, .instanceMethod yX5_checkCalls, .selects RX5 yX5_checkCalls yX5_checkCalls, .initialized RX5] : List Cond), w ∈ tw_W := tw_all (by decide +kernel)
theorem dX5_readText_80 : decode cX5_readText 80 = .ok (.aload_n 0, 1) := by decide +kernel
theorem dX5_readText_81 : decode cX5_readText 81 = .ok (.getfield 27, 3) := by decide +kernel
theorem dX5_readText_84 : decode cX5_readText 84 = .ok (.invokevirtual 65, 3) := by decide +kernel
theorem dX1_link_0 : decode cX1_link 0 = .ok (.iconst 0, 1) := by decide +kernel
theorem dX1_link_1 : decode cX1_link 1 = .ok (.istore_n 1, 1) := by decide +kernel
theorem dX1_link_2 : decode cX1_link 2 = .ok (.iload_n 1, 1) := by decide +kernel
theorem dX1_link_3 : decode cX1_link 3 = .ok (.aload_n 0, 1) := by decide +kernel
theorem dX1_link_4 : decode cX1_link 4 = .ok (.getfield 27, 3) := by decide +kernel
theorem dX1_link_7 : decode cX1_link 7 = .ok (.getfield 68, 3) := by decide +kernel
theorem tw_185 : (.fieldLink RX1 68 "PocketCompiler$Program" "deedCount" "I" : Cond) ∈ tw_W := tw_in (by decide +kernel) (by decide +kernel)
theorem dX1_link_10 : decode cX1_link 10 = .ok (.if_icmp .ge 96, 3) := by decide +kernel
theorem dX1_link_106 : decode cX1_link 106 = .ok (.return_, 1) := by decide +kernel
theorem tw_186 : (.code yX1_link cX1_link 4 none : Cond) ∈ tw_W := tw_in (by decide +kernel) (by decide +kernel)
theorem tw_187 : ∀ w ∈ ([.methodLink RX5 65 yX1_link, .instanceMethod yX1_link, .selects RX1 yX1_link yX1_link, .initialized RX1] : List Cond), w ∈ tw_W := tw_all (by decide +kernel)
theorem dX5_readText_87 : decode cX5_readText 87 = .ok (.return_, 1) := by decide +kernel
theorem tw_188 : (.code yX5_readText cX5_readText 4 none : Cond) ∈ tw_W := tw_in (by decide +kernel) (by decide +kernel)
theorem tw_189 : ∀ w ∈ ([.methodLink RX11 79 yX5_readText, .instanceMethod yX5_readText, .selects RX5 yX5_readText yX5_readText, .initialized RX5] : List Cond), w ∈ tw_W := tw_all (by decide +kernel)
theorem dX11_init_164 : decode cX11_init 164 = .ok (.aload_n 0, 1) := by decide +kernel
theorem dX11_init_165 : decode cX11_init 165 = .ok (.getfield 57, 3) := by decide +kernel
theorem dX11_init_168 : decode cX11_init 168 = .ok (.aload_n 0, 1) := by decide +kernel
theorem dX11_init_169 : decode cX11_init 169 = .ok (.getfield 36, 3) := by decide +kernel
theorem dX11_init_172 : decode cX11_init 172 = .ok (.invokevirtual 82, 3) := by decide +kernel
theorem dX0_assemble_0 : decode cX0_assemble 0 = .ok (.aload_n 0, 1) := by decide +kernel
theorem dX0_assemble_1 : decode cX0_assemble 1 = .ok (.aload_n 1, 1) := by decide +kernel
theorem dX0_assemble_2 : decode cX0_assemble 2 = .ok (.putfield 15, 3) := by decide +kernel
theorem dX0_assemble_5 : decode cX0_assemble 5 = .ok (.aload_n 0, 1) := by decide +kernel
theorem dX0_assemble_6 : decode cX0_assemble 6 = .ok (.iconst 0, 1) := by decide +kernel
theorem dX0_assemble_7 : decode cX0_assemble 7 = .ok (.putfield 23, 3) := by decide +kernel
theorem tw_190 : (.fieldLink RX0 23 "PocketCompiler$Assembler" "isWriting" "Z" : Cond) ∈ tw_W := tw_in (by decide +kernel) (by decide +kernel)
theorem dX0_assemble_10 : decode cX0_assemble 10 = .ok (.aload_n 0, 1) := by decide +kernel
theorem dX0_assemble_11 : decode cX0_assemble 11 = .ok (.invokevirtual 27, 3) := by decide +kernel
theorem dX0_layAll_0 : decode cX0_layAll 0 = .ok (.aload_n 0, 1) := by decide +kernel
theorem dX0_layAll_1 : decode cX0_layAll 1 = .ok (.iconst 0, 1) := by decide +kernel
theorem dX0_layAll_2 : decode cX0_layAll 2 = .ok (.putfield 33, 3) := by decide +kernel
theorem tw_191 : (.fieldLink RX0 33 "PocketCompiler$Assembler" "size" "I" : Cond) ∈ tw_W := tw_in (by decide +kernel) (by decide +kernel)
theorem dX0_layAll_5 : decode cX0_layAll 5 = .ok (.aload_n 0, 1) := by decide +kernel
theorem dX0_layAll_6 : decode cX0_layAll 6 = .ok (.iconst 0, 1) := by decide +kernel
theorem dX0_layAll_7 : decode cX0_layAll 7 = .ok (.putfield 36, 3) := by decide +kernel
theorem tw_192 : (.fieldLink RX0 36 "PocketCompiler$Assembler" "hasTimes" "Z" : Cond) ∈ tw_W := tw_in (by decide +kernel) (by decide +kernel)
theorem dX0_layAll_10 : decode cX0_layAll 10 = .ok (.aload_n 0, 1) := by decide +kernel
theorem dX0_layAll_11 : decode cX0_layAll 11 = .ok (.iconst 0, 1) := by decide +kernel
theorem dX0_layAll_12 : decode cX0_layAll 12 = .ok (.putfield 39, 3) := by decide +kernel
theorem tw_193 : (.fieldLink RX0 39 "PocketCompiler$Assembler" "hasOver" "Z" : Cond) ∈ tw_W := tw_in (by decide +kernel) (by decide +kernel)
theorem dX0_layAll_15 : decode cX0_layAll 15 = .ok (.aload_n 0, 1) := by decide +kernel
theorem dX0_layAll_16 : decode cX0_layAll 16 = .ok (.bipush 19, 2) := by decide +kernel
theorem dX0_layAll_18 : decode cX0_layAll 18 = .ok (.bipush 17, 2) := by decide +kernel
theorem dX0_layAll_20 : decode cX0_layAll 20 = .ok (.iconst 0, 1) := by decide +kernel
theorem dX0_layAll_21 : decode cX0_layAll 21 = .ok (.iconst 0, 1) := by decide +kernel
theorem dX0_layAll_22 : decode cX0_layAll 22 = .ok (.invokevirtual 42, 3) := by decide +kernel
theorem dX0_immediate_0 : decode cX0_immediate 0 = .ok (.aload_n 0, 1) := by decide +kernel
theorem dX0_immediate_1 : decode cX0_immediate 1 = .ok (.iload_n 1, 1) := by decide +kernel
theorem dX0_immediate_2 : decode cX0_immediate 2 = .ok (.iload_n 2, 1) := by decide +kernel
theorem dX0_immediate_3 : decode cX0_immediate 3 = .ok (.bipush 7, 2) := by decide +kernel
theorem dX0_immediate_5 : decode cX0_immediate 5 = .ok (.ishl, 1) := by decide +kernel
theorem dX0_immediate_6 : decode cX0_immediate 6 = .ok (.ior, 1) := by decide +kernel
theorem dX0_immediate_7 : decode cX0_immediate 7 = .ok (.iload_n 3, 1) := by decide +kernel
theorem dX0_immediate_8 : decode cX0_immediate 8 = .ok (.bipush 15, 2) := by decide +kernel
theorem dX0_immediate_10 : decode cX0_immediate 10 = .ok (.ishl, 1) := by decide +kernel
theorem dX0_immediate_11 : decode cX0_immediate 11 = .ok (.ior, 1) := by decide +kernel
theorem dX0_immediate_12 : decode cX0_immediate 12 = .ok (.iload 4, 2) := by decide +kernel
theorem dX0_immediate_14 : decode cX0_immediate 14 = .ok (.bipush 20, 2) := by decide +kernel
theorem dX0_immediate_16 : decode cX0_immediate 16 = .ok (.ishl, 1) := by decide +kernel
theorem dX0_immediate_17 : decode cX0_immediate 17 = .ok (.ior, 1) := by decide +kernel
theorem dX0_immediate_18 : decode cX0_immediate 18 = .ok (.invokevirtual 47, 3) := by decide +kernel
theorem dX0_emit_0 : decode cX0_emit 0 = .ok (.aload_n 0, 1) := by decide +kernel
theorem dX0_emit_1 : decode cX0_emit 1 = .ok (.getfield 23, 3) := by decide +kernel
theorem dX0_emit_4 : decode cX0_emit 4 = .ok (.ifCond .eq 31, 3) := by decide +kernel
theorem dX0_emit_35 : decode cX0_emit 35 = .ok (.aload_n 0, 1) := by decide +kernel
theorem dX0_emit_36 : decode cX0_emit 36 = .ok (.dup, 1) := by decide +kernel
theorem dX0_emit_37 : decode cX0_emit 37 = .ok (.getfield 33, 3) := by decide +kernel
theorem dX0_emit_40 : decode cX0_emit 40 = .ok (.iconst 1, 1) := by decide +kernel
theorem dX0_emit_41 : decode cX0_emit 41 = .ok (.iadd, 1) := by decide +kernel
theorem dX0_emit_42 : decode cX0_emit 42 = .ok (.putfield 33, 3) := by decide +kernel
theorem dX0_emit_45 : decode cX0_emit 45 = .ok (.return_, 1) := by decide +kernel
theorem tw_194 : (.code yX0_emit cX0_emit 2 none : Cond) ∈ tw_W := tw_in (by decide +kernel) (by decide +kernel)
theorem tw_195 : ∀ w ∈ ([.methodLink RX0 47 yX0_emit, .instanceMethod yX0_emit, .selects RX0 yX0_emit yX0_emit, .initialized RX0] : List Cond), w ∈ tw_W := tw_all (by decide +kernel)
theorem dX0_immediate_21 : decode cX0_immediate 21 = .ok (.return_, 1) := by decide +kernel
theorem tw_196 : (.code yX0_immediate cX0_immediate 5 none : Cond) ∈ tw_W := tw_in (by decide +kernel) (by decide +kernel)
theorem tw_197 : ∀ w ∈ ([.methodLink RX0 42 yX0_immediate, .instanceMethod yX0_immediate, .selects RX0 yX0_immediate yX0_immediate, .initialized RX0] : List Cond), w ∈ tw_W := tw_all (by decide +kernel)
theorem dX0_layAll_25 : decode cX0_layAll 25 = .ok (.aload_n 0, 1) := by decide +kernel
theorem dX0_layAll_26 : decode cX0_layAll 26 = .ok (.ldc 46, 2) := by decide +kernel
theorem tw_198 : (.constant RX0 46 (1048691) : Cond) ∈ tw_W := tw_in (by decide +kernel) (by decide +kernel)
theorem dX0_layAll_28 : decode cX0_layAll 28 = .ok (.invokevirtual 47, 3) := by decide +kernel
theorem dX0_layAll_31 : decode cX0_layAll 31 = .ok (.iconst 0, 1) := by decide +kernel
theorem dX0_layAll_32 : decode cX0_layAll 32 = .ok (.istore_n 1, 1) := by decide +kernel
theorem dX0_layAll_33 : decode cX0_layAll 33 = .ok (.iload_n 1, 1) := by decide +kernel
theorem dX0_layAll_34 : decode cX0_layAll 34 = .ok (.aload_n 0, 1) := by decide +kernel
theorem dX0_layAll_35 : decode cX0_layAll 35 = .ok (.getfield 15, 3) := by decide +kernel
theorem dX0_layAll_38 : decode cX0_layAll 38 = .ok (.getfield 51, 3) := by decide +kernel
theorem tw_199 : (.fieldLink RX0 51 "PocketCompiler$Program" "deedCount" "I" : Cond) ∈ tw_W := tw_in (by decide +kernel) (by decide +kernel)
theorem dX0_layAll_41 : decode cX0_layAll 41 = .ok (.if_icmp .ge 59, 3) := by decide +kernel
theorem dX0_layAll_100 : decode cX0_layAll 100 = .ok (.aload_n 0, 1) := by decide +kernel
theorem dX0_layAll_101 : decode cX0_layAll 101 = .ok (.iconst 4, 1) := by decide +kernel
theorem dX0_layAll_102 : decode cX0_layAll 102 = .ok (.aload_n 0, 1) := by decide +kernel
theorem dX0_layAll_103 : decode cX0_layAll 103 = .ok (.getfield 33, 3) := by decide +kernel
theorem dX0_layAll_106 : decode cX0_layAll 106 = .ok (.imul, 1) := by decide +kernel
theorem dX0_layAll_107 : decode cX0_layAll 107 = .ok (.putfield 67, 3) := by decide +kernel
theorem tw_200 : (.fieldLink RX0 67 "PocketCompiler$Assembler" "timesAddress" "I" : Cond) ∈ tw_W := tw_in (by decide +kernel) (by decide +kernel)
theorem dX0_layAll_110 : decode cX0_layAll 110 = .ok (.aload_n 0, 1) := by decide +kernel
theorem dX0_layAll_111 : decode cX0_layAll 111 = .ok (.getfield 36, 3) := by decide +kernel
theorem dX0_layAll_114 : decode cX0_layAll 114 = .ok (.ifCond .eq 7, 3) := by decide +kernel
theorem dX0_layAll_121 : decode cX0_layAll 121 = .ok (.aload_n 0, 1) := by decide +kernel
theorem dX0_layAll_122 : decode cX0_layAll 122 = .ok (.iconst 4, 1) := by decide +kernel
theorem dX0_layAll_123 : decode cX0_layAll 123 = .ok (.aload_n 0, 1) := by decide +kernel
theorem dX0_layAll_124 : decode cX0_layAll 124 = .ok (.getfield 33, 3) := by decide +kernel
theorem dX0_layAll_127 : decode cX0_layAll 127 = .ok (.imul, 1) := by decide +kernel
theorem dX0_layAll_128 : decode cX0_layAll 128 = .ok (.putfield 73, 3) := by decide +kernel
theorem tw_201 : (.fieldLink RX0 73 "PocketCompiler$Assembler" "overAddress" "I" : Cond) ∈ tw_W := tw_in (by decide +kernel) (by decide +kernel)
theorem dX0_layAll_131 : decode cX0_layAll 131 = .ok (.aload_n 0, 1) := by decide +kernel
theorem dX0_layAll_132 : decode cX0_layAll 132 = .ok (.getfield 39, 3) := by decide +kernel
theorem dX0_layAll_135 : decode cX0_layAll 135 = .ok (.ifCond .eq 7, 3) := by decide +kernel
theorem dX0_layAll_142 : decode cX0_layAll 142 = .ok (.aload_n 0, 1) := by decide +kernel
theorem dX0_layAll_143 : decode cX0_layAll 143 = .ok (.getfield 15, 3) := by decide +kernel
theorem dX0_layAll_146 : decode cX0_layAll 146 = .ok (.aload_n 0, 1) := by decide +kernel
theorem dX0_layAll_147 : decode cX0_layAll 147 = .ok (.getfield 33, 3) := by decide +kernel
theorem dX0_layAll_150 : decode cX0_layAll 150 = .ok (.putfield 79, 3) := by decide +kernel
theorem tw_202 : (.fieldLink RX0 79 "PocketCompiler$Program" "wordCount" "I" : Cond) ∈ tw_W := tw_in (by decide +kernel) (by decide +kernel)
theorem dX0_layAll_153 : decode cX0_layAll 153 = .ok (.aload_n 0, 1) := by decide +kernel
theorem dX0_layAll_154 : decode cX0_layAll 154 = .ok (.invokevirtual 82, 3) := by decide +kernel
theorem dX0_placeGlobals_0 : decode cX0_placeGlobals 0 = .ok (.iconst 4, 1) := by decide +kernel
theorem dX0_placeGlobals_1 : decode cX0_placeGlobals 1 = .ok (.aload_n 0, 1) := by decide +kernel
theorem dX0_placeGlobals_2 : decode cX0_placeGlobals 2 = .ok (.getfield 33, 3) := by decide +kernel
theorem dX0_placeGlobals_5 : decode cX0_placeGlobals 5 = .ok (.imul, 1) := by decide +kernel
theorem dX0_placeGlobals_6 : decode cX0_placeGlobals 6 = .ok (.istore_n 1, 1) := by decide +kernel
theorem dX0_placeGlobals_7 : decode cX0_placeGlobals 7 = .ok (.iconst 0, 1) := by decide +kernel
theorem dX0_placeGlobals_8 : decode cX0_placeGlobals 8 = .ok (.istore_n 2, 1) := by decide +kernel
theorem dX0_placeGlobals_9 : decode cX0_placeGlobals 9 = .ok (.iload_n 2, 1) := by decide +kernel
theorem dX0_placeGlobals_10 : decode cX0_placeGlobals 10 = .ok (.aload_n 0, 1) := by decide +kernel
theorem dX0_placeGlobals_11 : decode cX0_placeGlobals 11 = .ok (.getfield 15, 3) := by decide +kernel
theorem dX0_placeGlobals_14 : decode cX0_placeGlobals 14 = .ok (.getfield 85, 3) := by decide +kernel
theorem tw_203 : (.fieldLink RX0 85 "PocketCompiler$Program" "globalCount" "I" : Cond) ∈ tw_W := tw_in (by decide +kernel) (by decide +kernel)
theorem dX0_placeGlobals_17 : decode cX0_placeGlobals 17 = .ok (.if_icmp .ge 33, 3) := by decide +kernel
theorem dX0_placeGlobals_50 : decode cX0_placeGlobals 50 = .ok (.aload_n 0, 1) := by decide +kernel
theorem dX0_placeGlobals_51 : decode cX0_placeGlobals 51 = .ok (.getfield 15, 3) := by decide +kernel
theorem dX0_placeGlobals_54 : decode cX0_placeGlobals 54 = .ok (.iload_n 1, 1) := by decide +kernel
theorem dX0_placeGlobals_55 : decode cX0_placeGlobals 55 = .ok (.putfield 30, 3) := by decide +kernel
theorem tw_204 : (.fieldLink RX0 30 "PocketCompiler$Program" "limit" "I" : Cond) ∈ tw_W := tw_in (by decide +kernel) (by decide +kernel)
theorem dX0_placeGlobals_58 : decode cX0_placeGlobals 58 = .ok (.return_, 1) := by decide +kernel
theorem tw_205 : (.code yX0_placeGlobals cX0_placeGlobals 3 none : Cond) ∈ tw_W := tw_in (by decide +kernel) (by decide +kernel)
theorem tw_206 : ∀ w ∈ ([.methodLink RX0 82 yX0_placeGlobals, .instanceMethod yX0_placeGlobals, .selects RX0 yX0_placeGlobals yX0_placeGlobals, .initialized RX0] : List Cond), w ∈ tw_W := tw_all (by decide +kernel)
theorem dX0_layAll_157 : decode cX0_layAll 157 = .ok (.return_, 1) := by decide +kernel
theorem tw_207 : (.code yX0_layAll cX0_layAll 2 none : Cond) ∈ tw_W := tw_in (by decide +kernel) (by decide +kernel)
theorem tw_208 : ∀ w ∈ ([.methodLink RX0 27 yX0_layAll, .instanceMethod yX0_layAll, .selects RX0 yX0_layAll yX0_layAll, .initialized RX0] : List Cond), w ∈ tw_W := tw_all (by decide +kernel)
theorem dX0_assemble_14 : decode cX0_assemble 14 = .ok (.aload_n 0, 1) := by decide +kernel
theorem dX0_assemble_15 : decode cX0_assemble 15 = .ok (.getfield 15, 3) := by decide +kernel
theorem dX0_assemble_18 : decode cX0_assemble 18 = .ok (.getfield 30, 3) := by decide +kernel
theorem dX0_assemble_21 : decode cX0_assemble 21 = .ok (.bipush 64, 2) := by decide +kernel
theorem dX0_assemble_23 : decode cX0_assemble 23 = .ok (.iadd, 1) := by decide +kernel
theorem dX0_assemble_24 : decode cX0_assemble 24 = .ok (.aload_n 0, 1) := by decide +kernel
theorem dX0_assemble_25 : decode cX0_assemble 25 = .ok (.getfield 19, 3) := by decide +kernel
theorem dX0_assemble_28 : decode cX0_assemble 28 = .ok (.if_icmp .le 5, 3) := by decide +kernel
theorem dX0_assemble_33 : decode cX0_assemble 33 = .ok (.aload_n 0, 1) := by decide +kernel
theorem dX0_assemble_34 : decode cX0_assemble 34 = .ok (.iconst 1, 1) := by decide +kernel
theorem dX0_assemble_35 : decode cX0_assemble 35 = .ok (.putfield 23, 3) := by decide +kernel
theorem dX0_assemble_38 : decode cX0_assemble 38 = .ok (.aload_n 0, 1) := by decide +kernel
theorem dX0_assemble_39 : decode cX0_assemble 39 = .ok (.invokevirtual 27, 3) := by decide +kernel
theorem dX0_emit_7 : decode cX0_emit 7 = .ok (.aload_n 0, 1) := by decide +kernel
theorem dX0_emit_8 : decode cX0_emit 8 = .ok (.getfield 33, 3) := by decide +kernel
theorem dX0_emit_11 : decode cX0_emit 11 = .ok (.aload_n 0, 1) := by decide +kernel
theorem dX0_emit_12 : decode cX0_emit 12 = .ok (.getfield 15, 3) := by decide +kernel
theorem dX0_emit_15 : decode cX0_emit 15 = .ok (.getfield 95, 3) := by decide +kernel
theorem tw_209 : (.fieldLink RX0 95 "PocketCompiler$Program" "words" "[I" : Cond) ∈ tw_W := tw_in (by decide +kernel) (by decide +kernel)
theorem dX0_emit_18 : decode cX0_emit 18 = .ok (.arraylength, 1) := by decide +kernel
theorem dX0_emit_19 : decode cX0_emit 19 = .ok (.if_icmp .ge 16, 3) := by decide +kernel
theorem dX0_emit_22 : decode cX0_emit 22 = .ok (.aload_n 0, 1) := by decide +kernel
theorem dX0_emit_23 : decode cX0_emit 23 = .ok (.getfield 15, 3) := by decide +kernel
theorem dX0_emit_26 : decode cX0_emit 26 = .ok (.getfield 95, 3) := by decide +kernel
theorem dX0_emit_29 : decode cX0_emit 29 = .ok (.aload_n 0, 1) := by decide +kernel
theorem dX0_emit_30 : decode cX0_emit 30 = .ok (.getfield 33, 3) := by decide +kernel
theorem dX0_emit_33 : decode cX0_emit 33 = .ok (.iload_n 1, 1) := by decide +kernel
theorem dX0_emit_34 : decode cX0_emit 34 = .ok (.iastore, 1) := by decide +kernel
theorem dX0_assemble_42 : decode cX0_assemble 42 = .ok (.iconst 1, 1) := by decide +kernel
theorem dX0_assemble_43 : decode cX0_assemble 43 = .ok (.ireturn, 1) := by decide +kernel
theorem tw_210 : (.code yX0_assemble cX0_assemble 2 (some .boolean) : Cond) ∈ tw_W := tw_in (by decide +kernel) (by decide +kernel)
theorem tw_211 : ∀ w ∈ ([.methodLink RX11 82 yX0_assemble, .instanceMethod yX0_assemble, .selects RX0 yX0_assemble yX0_assemble, .initialized RX0] : List Cond), w ∈ tw_W := tw_all (by decide +kernel)
theorem dX11_init_175 : decode cX11_init 175 = .ok (.pop, 1) := by decide +kernel
theorem dX11_init_176 : decode cX11_init 176 = .ok (.return_, 1) := by decide +kernel
theorem dX11_init_40 : decode cX11_init 40 = .ok (.iload_n 1, 1) := by decide +kernel
theorem dX11_init_41 : decode cX11_init 41 = .ok (.sipush 256, 3) := by decide +kernel
theorem dX11_init_44 : decode cX11_init 44 = .ok (.if_icmp .lt 14, 3) := by decide +kernel
theorem dX11_init_58 : decode cX11_init 58 = .ok (.sipush 1024, 3) := by decide +kernel
theorem dX11_init_61 : decode cX11_init 61 = .ok (.istore_n 2, 1) := by decide +kernel
theorem dX11_init_47 : decode cX11_init 47 = .ok (.iload_n 1, 1) := by decide +kernel
theorem dX11_init_48 : decode cX11_init 48 = .ok (.sipush 4096, 3) := by decide +kernel
theorem dX11_init_51 : decode cX11_init 51 = .ok (.if_icmp .gt 7, 3) := by decide +kernel
theorem dX11_init_54 : decode cX11_init 54 = .ok (.iload_n 1, 1) := by decide +kernel
theorem dX11_init_55 : decode cX11_init 55 = .ok (.goto 6, 3) := by decide +kernel
set_option maxHeartbeats 4000000 in
set_option maxRecDepth 100000 in
/-- Program(N) -/
theorem c_X7_init (l : Launch) (dC : Nat → ClassId) (dI : Nat → Nat → Nat) (cI cB cZ cJ cR : ClassId) (tb : Nat → Nat) (sz : Nat) (a0_ : Nat) (N : Nat) (hf_N_0 : 256 ≤ N) (hf_N_1 : N ≤ 4096) : Met l yX7_init (Cond.code yX7_init cX7_init 2 none :: tw_W) ({ frames := 1, cells := 107, slots := 17760, locals := 12 }) (pc_ (dC, dI) (tyS cI cB cZ cJ cR) tb [(a0_, .inr (10, [.null, .int 0, .null, .int 0, .null, .int 0, .null, .null, .null, .int 0, .null, .int 0, .int 0]))] sz [.ref a0_, .int (nI N)]) (qv_ (dC, dI) [(a0_, .inr (10, [.null, .int 0, .null, .int 0, .null, .int 0, .null, .null, .null, .int 0, .null, .int 0, .int 0]))] sz (fun (u : Nat × Nat × Nat × Nat × Nat × Nat × Nat) => True) (fun (u : Nat × Nat × Nat × Nat × Nat × Nat × Nat) => [(a0_, .inr (10, [.ref u.1, .int 0, .ref u.2.1, .int 0, .ref u.2.2.1, .int 0, .ref u.2.2.2.1, .ref u.2.2.2.2.1, .ref u.2.2.2.2.2.1, .int 0, .ref u.2.2.2.2.2.2, .int 0, .int 0])), (u.1, .inl (cI, 4000, .inl (fun _ => 0))), (u.2.2.2.2.2.2, .inl (cI, N, .inl (fun _ => 0)))])) 107 17760 (va_A [(a0_, .inr (10, [.null, .int 0, .null, .int 0, .null, .int 0, .null, .null, .null, .int 0, .null, .int 0, .int 0]))] sz) := by
  refine Met.ofW (cc := cX7_init) (maxL := 2) (ret := none) (by decide) rfl ?_
  intro p e s m args below meth c s₁ B hml hv
  obtain ⟨rfl, hsz, hP, hKK, hD0, hFx⟩ := hv
  have hK := hKK.1
  have hx := B.exec
  have hb := B.bytes
  have hr := B.returns
  have ht : ∀ w ∈ tw_W, w.before _ s = true := fun w h => atoms_spec (ws := Cond.code yX7_init cX7_init 2 none :: tw_W) B.pre w (List.mem_cons_of_mem _ h)
  have hown : s.vm.findClass RX7 = some m.cls := findClass_of_methodNamed B.named
  have hlocks := B.notSynchronized
  have hin : meth.name = "<init>" := (name_of_methodNamed B.named B.method).1
  subst hsz
  unfold qv_
  have hD := hD0.self (sz := s.heap.size)
  generalize hAe : va_A [(a0_, .inr (10, [.null, .int 0, .null, .int 0, .null, .int 0, .null, .null, .null, .int 0, .null, .int 0, .int 0]))] s.heap.size = A at hD hFx ⊢
  have hA : ∀ q : Nat, s.heap.size ≤ q → A q := fun q h => by rw [← hAe]; exact Or.inr h
  have hS : va_S A s.heap s.heap [] := va_S.rf
  have hP : va_P (dC, dI) vwCl [(a0_, .inr (10, [.null, .int 0, .null, .int 0, .null, .int 0, .null, .null, .null, .int 0, .null, .int 0, .int 0]))] s.heap := hP
  have hl := lv_entry ([.ref a0_, .int (nI N)]) (n := 2) (Nat.le_of_ble_eq_true rfl)
  rw [lg_entry_eq]
  generalize (lg_sl ([.ref a0_, .int (nI N)]) ++ List.replicate (2 - (lg_sl ([.ref a0_, .int (nI N)])).length) Slot.unset).toArray = ls at hl ⊢
  have hl : lv_has ls 2 [(0, .ref a0_), (1, .int (nI N))] := hl
  refine lv_aload_n hx hb dX7_init_0 rfl (lv_at hl 0 rfl) ?_
  refine W.objInit hx hb hown (ht _ tw_0) (ht _ tw_1) (ht _ tw_2) rfl (by rw [hml]; exact hl.1) rfl dX7_init_1 (Nat.le_of_ble_eq_true rfl) (Nat.le_of_ble_eq_true rfl) ?_
  refine W.eq (g2 := F0 m 4 ls []) rfl ?_
  refine lv_aload_n hx hb dX7_init_4 rfl (lv_at hl 0 rfl) ?_
  refine lv_sipush (v := 4000) hx hb dX7_init_5 (by decide) ?_
  refine va_newE (atype := .int) (ty := .int) (a0 := (4000, .inl (fun _ => 0))) (cE := cI) hx hb (ht _ tw_3) rfl hK hP hD hS hA 0 rfl (fun _ => rfl) (by decide) (by decide) (by decide) (Nat.le_of_ble_eq_true rfl) (Nat.le_of_ble_eq_true rfl) dX7_init_8 (fun q1 H hP hD hS => ?_)
  have hP : va_P (dC, dI) vwCl [(a0_, .inr (10, [.null, .int 0, .null, .int 0, .null, .int 0, .null, .null, .null, .int 0, .null, .int 0, .int 0])), (q1, .inl (cI, 4000, .inl (fun _ => 0)))] H := hP
  have hD : va_D A [(a0_, .inr (10, [.null, .int 0, .null, .int 0, .null, .int 0, .null, .null, .null, .int 0, .null, .int 0, .int 0])), (q1, .inl (cI, 4000, .inl (fun _ => 0)))] := hD
  refine W.widen (k := 1) (n := 4000) (by omega) (by omega) ?_
  refine va_putF (D := (dC, dI)) (ci := 10) (v := .ref q1) (ty := .array .int) (C := RX7) (T := TX7) (N := 13) hx hb ht itX7 tyX7 tyX7_ok nmX7 hown hK hP hD hS 0 rfl rfl 0 (by decide) (ht _ tw_4) (fun _ h9 => h9) rfl hin rfl (by decide +kernel) rfl rfl (Nat.le_of_ble_eq_true rfl) dX7_init_10 (fun H locs hP hD hS => ?_)
  have hP : va_P (dC, dI) vwCl [(a0_, .inr (10, [.ref q1, .int 0, .null, .int 0, .null, .int 0, .null, .null, .null, .int 0, .null, .int 0, .int 0])), (q1, .inl (cI, 4000, .inl (fun _ => 0)))] H := hP
  have hD : va_D A [(a0_, .inr (10, [.ref q1, .int 0, .null, .int 0, .null, .int 0, .null, .null, .null, .int 0, .null, .int 0, .int 0])), (q1, .inl (cI, 4000, .inl (fun _ => 0)))] := hD
  refine lv_aload_n hx hb dX7_init_13 rfl (lv_at hl 0 rfl) ?_
  refine lv_bipush (v := 40) hx hb dX7_init_14 (by decide) ?_
  refine lv_bipush (v := 6) hx hb dX7_init_16 (by decide) ?_
  refine va_mnD (N' := 40) (K' := 6) hx hb hown (ht _ tw_5) (ht _ tw_3) hKK 0 rfl hP hD hS hA (by decide) (by decide) (by decide) (by decide) (by decide) (by decide) (Nat.le_of_ble_eq_true rfl) (Nat.le_of_ble_eq_true rfl) dX7_init_18 (fun q2 H hP hD hS => ?_)
  refine W.widen (k := 42) (n := 4280) (by omega) (by omega) ?_
  refine va_putF (D := (dC, dI)) (ci := 10) (v := .ref q2) (ty := .array (.array .int)) (C := RX7) (T := TX7) (N := 13) hx hb ht itX7 tyX7 tyX7_ok nmX7 hown hK hP hD hS 0 rfl rfl 2 (by decide) (ht _ tw_6) (fun _ h9 => h9) rfl hin rfl (by decide +kernel) rfl rfl (Nat.le_of_ble_eq_true rfl) dX7_init_22 (fun H locs hP hD hS => ?_)
  have hP : va_P (dC, dI) vwCl [(a0_, .inr (10, [.ref q1, .int 0, .ref q2, .int 0, .null, .int 0, .null, .null, .null, .int 0, .null, .int 0, .int 0])), (q1, .inl (cI, 4000, .inl (fun _ => 0)))] H := hP
  have hD : va_D A [(a0_, .inr (10, [.ref q1, .int 0, .ref q2, .int 0, .null, .int 0, .null, .null, .null, .int 0, .null, .int 0, .int 0])), (q1, .inl (cI, 4000, .inl (fun _ => 0)))] := hD
  refine lv_aload_n hx hb dX7_init_25 rfl (lv_at hl 0 rfl) ?_
  refine lv_bipush (v := 60) hx hb dX7_init_26 (by decide) ?_
  refine lv_iconst (v := 5) hx hb dX7_init_28 (by decide) ?_
  refine va_mnD (N' := 60) (K' := 5) hx hb hown (ht _ tw_5) (ht _ tw_3) hKK 0 rfl hP hD hS hA (by decide) (by decide) (by decide) (by decide) (by decide) (by decide) (Nat.le_of_ble_eq_true rfl) (Nat.le_of_ble_eq_true rfl) dX7_init_29 (fun q3 H hP hD hS => ?_)
  refine W.widen (k := 103) (n := 4640) (by omega) (by omega) ?_
  refine va_putF (D := (dC, dI)) (ci := 10) (v := .ref q3) (ty := .array (.array .int)) (C := RX7) (T := TX7) (N := 13) hx hb ht itX7 tyX7 tyX7_ok nmX7 hown hK hP hD hS 0 rfl rfl 4 (by decide) (ht _ tw_7) (fun _ h9 => h9) rfl hin rfl (by decide +kernel) rfl rfl (Nat.le_of_ble_eq_true rfl) dX7_init_33 (fun H locs hP hD hS => ?_)
  have hP : va_P (dC, dI) vwCl [(a0_, .inr (10, [.ref q1, .int 0, .ref q2, .int 0, .ref q3, .int 0, .null, .null, .null, .int 0, .null, .int 0, .int 0])), (q1, .inl (cI, 4000, .inl (fun _ => 0)))] H := hP
  have hD : va_D A [(a0_, .inr (10, [.ref q1, .int 0, .ref q2, .int 0, .ref q3, .int 0, .null, .null, .null, .int 0, .null, .int 0, .int 0])), (q1, .inl (cI, 4000, .inl (fun _ => 0)))] := hD
  refine lv_aload_n hx hb dX7_init_36 rfl (lv_at hl 0 rfl) ?_
  refine lv_sipush (v := 3008) hx hb dX7_init_37 (by decide) ?_
  refine va_newE (atype := .int) (ty := .int) (a0 := (3008, .inl (fun _ => 0))) (cE := cI) hx hb (ht _ tw_3) rfl hK hP hD hS hA 0 rfl (fun _ => rfl) (by decide) (by decide) (by decide) (Nat.le_of_ble_eq_true rfl) (Nat.le_of_ble_eq_true rfl) dX7_init_40 (fun q4 H hP hD hS => ?_)
  have hP : va_P (dC, dI) vwCl [(a0_, .inr (10, [.ref q1, .int 0, .ref q2, .int 0, .ref q3, .int 0, .null, .null, .null, .int 0, .null, .int 0, .int 0])), (q1, .inl (cI, 4000, .inl (fun _ => 0))), (q4, .inl (cI, 3008, .inl (fun _ => 0)))] H := hP
  have hD : va_D A [(a0_, .inr (10, [.ref q1, .int 0, .ref q2, .int 0, .ref q3, .int 0, .null, .null, .null, .int 0, .null, .int 0, .int 0])), (q1, .inl (cI, 4000, .inl (fun _ => 0))), (q4, .inl (cI, 3008, .inl (fun _ => 0)))] := hD
  refine W.widen (k := 104) (n := 7648) (by omega) (by omega) ?_
  refine va_putF (D := (dC, dI)) (ci := 10) (v := .ref q4) (ty := .array .int) (C := RX7) (T := TX7) (N := 13) hx hb ht itX7 tyX7 tyX7_ok nmX7 hown hK hP hD hS 0 rfl rfl 6 (by decide) (ht _ tw_8) (fun _ h9 => h9) rfl hin rfl (by decide +kernel) rfl rfl (Nat.le_of_ble_eq_true rfl) dX7_init_42 (fun H locs hP hD hS => ?_)
  have hP : va_P (dC, dI) vwCl [(a0_, .inr (10, [.ref q1, .int 0, .ref q2, .int 0, .ref q3, .int 0, .ref q4, .null, .null, .int 0, .null, .int 0, .int 0])), (q1, .inl (cI, 4000, .inl (fun _ => 0))), (q4, .inl (cI, 3008, .inl (fun _ => 0)))] H := hP
  have hD : va_D A [(a0_, .inr (10, [.ref q1, .int 0, .ref q2, .int 0, .ref q3, .int 0, .ref q4, .null, .null, .int 0, .null, .int 0, .int 0])), (q1, .inl (cI, 4000, .inl (fun _ => 0))), (q4, .inl (cI, 3008, .inl (fun _ => 0)))] := hD
  refine lv_aload_n hx hb dX7_init_45 rfl (lv_at hl 0 rfl) ?_
  refine lv_sipush (v := 3008) hx hb dX7_init_46 (by decide) ?_
  refine va_newE (atype := .int) (ty := .int) (a0 := (3008, .inl (fun _ => 0))) (cE := cI) hx hb (ht _ tw_3) rfl hK hP hD hS hA 0 rfl (fun _ => rfl) (by decide) (by decide) (by decide) (Nat.le_of_ble_eq_true rfl) (Nat.le_of_ble_eq_true rfl) dX7_init_49 (fun q5 H hP hD hS => ?_)
  have hP : va_P (dC, dI) vwCl [(a0_, .inr (10, [.ref q1, .int 0, .ref q2, .int 0, .ref q3, .int 0, .ref q4, .null, .null, .int 0, .null, .int 0, .int 0])), (q1, .inl (cI, 4000, .inl (fun _ => 0))), (q4, .inl (cI, 3008, .inl (fun _ => 0))), (q5, .inl (cI, 3008, .inl (fun _ => 0)))] H := hP
  have hD : va_D A [(a0_, .inr (10, [.ref q1, .int 0, .ref q2, .int 0, .ref q3, .int 0, .ref q4, .null, .null, .int 0, .null, .int 0, .int 0])), (q1, .inl (cI, 4000, .inl (fun _ => 0))), (q4, .inl (cI, 3008, .inl (fun _ => 0))), (q5, .inl (cI, 3008, .inl (fun _ => 0)))] := hD
  refine W.widen (k := 105) (n := 10656) (by omega) (by omega) ?_
  refine va_putF (D := (dC, dI)) (ci := 10) (v := .ref q5) (ty := .array .int) (C := RX7) (T := TX7) (N := 13) hx hb ht itX7 tyX7 tyX7_ok nmX7 hown hK hP hD hS 0 rfl rfl 7 (by decide) (ht _ tw_9) (fun _ h9 => h9) rfl hin rfl (by decide +kernel) rfl rfl (Nat.le_of_ble_eq_true rfl) dX7_init_51 (fun H locs hP hD hS => ?_)
  have hP : va_P (dC, dI) vwCl [(a0_, .inr (10, [.ref q1, .int 0, .ref q2, .int 0, .ref q3, .int 0, .ref q4, .ref q5, .null, .int 0, .null, .int 0, .int 0])), (q1, .inl (cI, 4000, .inl (fun _ => 0))), (q4, .inl (cI, 3008, .inl (fun _ => 0))), (q5, .inl (cI, 3008, .inl (fun _ => 0)))] H := hP
  have hD : va_D A [(a0_, .inr (10, [.ref q1, .int 0, .ref q2, .int 0, .ref q3, .int 0, .ref q4, .ref q5, .null, .int 0, .null, .int 0, .int 0])), (q1, .inl (cI, 4000, .inl (fun _ => 0))), (q4, .inl (cI, 3008, .inl (fun _ => 0))), (q5, .inl (cI, 3008, .inl (fun _ => 0)))] := hD
  refine lv_aload_n hx hb dX7_init_54 rfl (lv_at hl 0 rfl) ?_
  refine lv_sipush (v := 3008) hx hb dX7_init_55 (by decide) ?_
  refine va_newE (atype := .int) (ty := .int) (a0 := (3008, .inl (fun _ => 0))) (cE := cI) hx hb (ht _ tw_3) rfl hK hP hD hS hA 0 rfl (fun _ => rfl) (by decide) (by decide) (by decide) (Nat.le_of_ble_eq_true rfl) (Nat.le_of_ble_eq_true rfl) dX7_init_58 (fun q6 H hP hD hS => ?_)
  have hP : va_P (dC, dI) vwCl [(a0_, .inr (10, [.ref q1, .int 0, .ref q2, .int 0, .ref q3, .int 0, .ref q4, .ref q5, .null, .int 0, .null, .int 0, .int 0])), (q1, .inl (cI, 4000, .inl (fun _ => 0))), (q4, .inl (cI, 3008, .inl (fun _ => 0))), (q5, .inl (cI, 3008, .inl (fun _ => 0))), (q6, .inl (cI, 3008, .inl (fun _ => 0)))] H := hP
  have hD : va_D A [(a0_, .inr (10, [.ref q1, .int 0, .ref q2, .int 0, .ref q3, .int 0, .ref q4, .ref q5, .null, .int 0, .null, .int 0, .int 0])), (q1, .inl (cI, 4000, .inl (fun _ => 0))), (q4, .inl (cI, 3008, .inl (fun _ => 0))), (q5, .inl (cI, 3008, .inl (fun _ => 0))), (q6, .inl (cI, 3008, .inl (fun _ => 0)))] := hD
  refine W.widen (k := 106) (n := 13664) (by omega) (by omega) ?_
  refine va_putF (D := (dC, dI)) (ci := 10) (v := .ref q6) (ty := .array .int) (C := RX7) (T := TX7) (N := 13) hx hb ht itX7 tyX7 tyX7_ok nmX7 hown hK hP hD hS 0 rfl rfl 8 (by decide) (ht _ tw_10) (fun _ h9 => h9) rfl hin rfl (by decide +kernel) rfl rfl (Nat.le_of_ble_eq_true rfl) dX7_init_60 (fun H locs hP hD hS => ?_)
  have hP : va_P (dC, dI) vwCl [(a0_, .inr (10, [.ref q1, .int 0, .ref q2, .int 0, .ref q3, .int 0, .ref q4, .ref q5, .ref q6, .int 0, .null, .int 0, .int 0])), (q1, .inl (cI, 4000, .inl (fun _ => 0))), (q4, .inl (cI, 3008, .inl (fun _ => 0))), (q5, .inl (cI, 3008, .inl (fun _ => 0))), (q6, .inl (cI, 3008, .inl (fun _ => 0)))] H := hP
  have hD : va_D A [(a0_, .inr (10, [.ref q1, .int 0, .ref q2, .int 0, .ref q3, .int 0, .ref q4, .ref q5, .ref q6, .int 0, .null, .int 0, .int 0])), (q1, .inl (cI, 4000, .inl (fun _ => 0))), (q4, .inl (cI, 3008, .inl (fun _ => 0))), (q5, .inl (cI, 3008, .inl (fun _ => 0))), (q6, .inl (cI, 3008, .inl (fun _ => 0)))] := hD
  refine lv_aload_n hx hb dX7_init_63 rfl (lv_at hl 0 rfl) ?_
  refine lv_iload_n hx hb dX7_init_64 rfl (lv_at hl 1 rfl) ?_
  refine va_newE (atype := .int) (ty := .int) (a0 := (N, .inl (fun _ => 0))) (cE := cI) hx hb (ht _ tw_3) rfl hK hP hD hS hA 0 rfl (fun _ => rfl) (nI_pos (by omega)) (nI_clamp (by omega)) (show N * 4 ≤ 536870912 by omega) (Nat.le_of_ble_eq_true rfl) (show 13664 + N ≤ 17760 by omega) dX7_init_65 (fun q7 H hP hD hS => ?_)
  have hP : va_P (dC, dI) vwCl [(a0_, .inr (10, [.ref q1, .int 0, .ref q2, .int 0, .ref q3, .int 0, .ref q4, .ref q5, .ref q6, .int 0, .null, .int 0, .int 0])), (q1, .inl (cI, 4000, .inl (fun _ => 0))), (q4, .inl (cI, 3008, .inl (fun _ => 0))), (q5, .inl (cI, 3008, .inl (fun _ => 0))), (q6, .inl (cI, 3008, .inl (fun _ => 0))), (q7, .inl (cI, N, .inl (fun _ => 0)))] H := hP
  have hD : va_D A [(a0_, .inr (10, [.ref q1, .int 0, .ref q2, .int 0, .ref q3, .int 0, .ref q4, .ref q5, .ref q6, .int 0, .null, .int 0, .int 0])), (q1, .inl (cI, 4000, .inl (fun _ => 0))), (q4, .inl (cI, 3008, .inl (fun _ => 0))), (q5, .inl (cI, 3008, .inl (fun _ => 0))), (q6, .inl (cI, 3008, .inl (fun _ => 0))), (q7, .inl (cI, N, .inl (fun _ => 0)))] := hD
  refine W.widen (k := 107) (n := 17760) (by omega) (by omega) ?_
  refine va_putF (D := (dC, dI)) (ci := 10) (v := .ref q7) (ty := .array .int) (C := RX7) (T := TX7) (N := 13) hx hb ht itX7 tyX7 tyX7_ok nmX7 hown hK hP hD hS 0 rfl rfl 10 (by decide) (ht _ tw_11) (fun _ h9 => h9) rfl hin rfl (by decide +kernel) rfl rfl (Nat.le_of_ble_eq_true rfl) dX7_init_67 (fun H locs hP hD hS => ?_)
  have hP : va_P (dC, dI) vwCl [(a0_, .inr (10, [.ref q1, .int 0, .ref q2, .int 0, .ref q3, .int 0, .ref q4, .ref q5, .ref q6, .int 0, .ref q7, .int 0, .int 0])), (q1, .inl (cI, 4000, .inl (fun _ => 0))), (q4, .inl (cI, 3008, .inl (fun _ => 0))), (q5, .inl (cI, 3008, .inl (fun _ => 0))), (q6, .inl (cI, 3008, .inl (fun _ => 0))), (q7, .inl (cI, N, .inl (fun _ => 0)))] H := hP
  have hD : va_D A [(a0_, .inr (10, [.ref q1, .int 0, .ref q2, .int 0, .ref q3, .int 0, .ref q4, .ref q5, .ref q6, .int 0, .ref q7, .int 0, .int 0])), (q1, .inl (cI, 4000, .inl (fun _ => 0))), (q4, .inl (cI, 3008, .inl (fun _ => 0))), (q5, .inl (cI, 3008, .inl (fun _ => 0))), (q6, .inl (cI, 3008, .inl (fun _ => 0))), (q7, .inl (cI, N, .inl (fun _ => 0)))] := hD
  have hP9 := hP.sub (ws' := [(a0_, .inr (10, [.ref q1, .int 0, .ref q2, .int 0, .ref q3, .int 0, .ref q4, .ref q5, .ref q6, .int 0, .ref q7, .int 0, .int 0])), (q1, .inl (cI, 4000, .inl (fun _ => 0))), (q7, .inl (cI, N, .inl (fun _ => 0)))]) [0, 1, 5] rfl
  have hD9 := hD.sub (ws' := [(a0_, .inr (10, [.ref q1, .int 0, .ref q2, .int 0, .ref q3, .int 0, .ref q4, .ref q5, .ref q6, .int 0, .ref q7, .int 0, .int 0])), (q1, .inl (cI, 4000, .inl (fun _ => 0))), (q7, .inl (cI, N, .inl (fun _ => 0)))]) [0, 1, 5] (by decide) rfl
  refine W.widen (k := 107) (n := 17760) (by omega) (by omega) ?_
  exact W.vret hx hb hr (fun t ht9 hW => ⟨⟨(q1, q2, q3, q4, q5, q6, q7), rfl, trivial, by rw [ht9]; exact hP9, hD9⟩, hS.F ht9⟩) hS.2.2 dX7_init_70
set_option maxHeartbeats 4000000 in
set_option maxRecDepth 100000 in
theorem c_J5_init_d00df (l : Launch) (dC : Nat → ClassId) (dI : Nat → Nat → Nat) (cI cB cZ cJ cR : ClassId) (tb : Nat → Nat) (sz : Nat) (a0_ : Nat)  : Met l yJ5_init_d00df (Cond.code yJ5_init_d00df cJ5_init_d00df 2 none :: tw_W) ({ frames := 1, cells := 1, slots := 16, locals := 12 }) (pc_ (dC, dI) (tyS cI cB cZ cJ cR) tb [(a0_, .inr (1, [.null, .int 0, .int 0, .int 0]))] sz [.ref a0_, .int 16]) (qv_ (dC, dI) [(a0_, .inr (1, [.null, .int 0, .int 0, .int 0]))] sz (fun (u : Nat) => True) (fun (u : Nat) => [(a0_, .inr (1, [.ref u, .int 0, .int 0, .int 0])), (u, .inl (cB, 16, .inl (fun _ => 0)))])) 1 16 (va_A [(a0_, .inr (1, [.null, .int 0, .int 0, .int 0]))] sz) := by
  refine Met.ofW (cc := cJ5_init_d00df) (maxL := 2) (ret := none) (by decide) rfl ?_
  intro p e s m args below meth c s₁ B hml hv
  obtain ⟨rfl, hsz, hP, hKK, hD0, hFx⟩ := hv
  have hK := hKK.1
  have hx := B.exec
  have hb := B.bytes
  have hr := B.returns
  have ht : ∀ w ∈ tw_W, w.before _ s = true := fun w h => atoms_spec (ws := Cond.code yJ5_init_d00df cJ5_init_d00df 2 none :: tw_W) B.pre w (List.mem_cons_of_mem _ h)
  have hown : s.vm.findClass RJ5 = some m.cls := findClass_of_methodNamed B.named
  have hlocks := B.notSynchronized
  have hin : meth.name = "<init>" := (name_of_methodNamed B.named B.method).1
  subst hsz
  unfold qv_
  have hD := hD0.self (sz := s.heap.size)
  generalize hAe : va_A [(a0_, .inr (1, [.null, .int 0, .int 0, .int 0]))] s.heap.size = A at hD hFx ⊢
  have hA : ∀ q : Nat, s.heap.size ≤ q → A q := fun q h => by rw [← hAe]; exact Or.inr h
  have hS : va_S A s.heap s.heap [] := va_S.rf
  have hP : va_P (dC, dI) vwCl [(a0_, .inr (1, [.null, .int 0, .int 0, .int 0]))] s.heap := hP
  have hl := lv_entry ([.ref a0_, .int 16]) (n := 2) (Nat.le_of_ble_eq_true rfl)
  rw [lg_entry_eq]
  generalize (lg_sl ([.ref a0_, .int 16]) ++ List.replicate (2 - (lg_sl ([.ref a0_, .int 16])).length) Slot.unset).toArray = ls at hl ⊢
  have hl : lv_has ls 2 [(0, .ref a0_), (1, .int 16)] := hl
  refine lv_aload_n hx hb dJ5_init_d00df_0 rfl (lv_at hl 0 rfl) ?_
  refine W.objInit hx hb hown (ht _ tw_16) (ht _ tw_1) (ht _ tw_2) rfl (by rw [hml]; exact hl.1) rfl dJ5_init_d00df_1 (Nat.le_of_ble_eq_true rfl) (Nat.le_of_ble_eq_true rfl) ?_
  refine W.eq (g2 := F0 m 4 ls []) rfl ?_
  refine va_gets hx hb hFx.1 hS hown (ht _ tw_17) (fun _ h9 => h9) dJ5_init_d00df_4 ?_
  refine lv_if_eq (tgt := 25) hx hb dJ5_init_d00df_7 (by decide) (fun k1 => absurd k1 (by decide)) (fun _ => ?_)
  refine lv_aload_n hx hb dJ5_init_d00df_10 rfl (lv_at hl 0 rfl) ?_
  refine lv_iload_n hx hb dJ5_init_d00df_11 rfl (lv_at hl 1 rfl) ?_
  refine va_newE (atype := .byte) (ty := .byte) (a0 := (16, .inl (fun _ => 0))) (cE := cB) hx hb (ht _ tw_18) rfl hK hP hD hS hA 1 rfl (fun _ => rfl) (by decide) (by decide) (by decide) (Nat.le_of_ble_eq_true rfl) (Nat.le_of_ble_eq_true rfl) dJ5_init_d00df_12 (fun q2 H hP hD hS => ?_)
  have hP : va_P (dC, dI) vwCl [(a0_, .inr (1, [.null, .int 0, .int 0, .int 0])), (q2, .inl (cB, 16, .inl (fun _ => 0)))] H := hP
  have hD : va_D A [(a0_, .inr (1, [.null, .int 0, .int 0, .int 0])), (q2, .inl (cB, 16, .inl (fun _ => 0)))] := hD
  refine W.widen (k := 1) (n := 16) (by omega) (by omega) ?_
  refine va_put (D := (dC, dI)) (ci := 1) (v := .ref q2) (ty := .array .byte) (C := RJ4) (T := TJ4) (N := 4) hx hb ht itJ4 tyJ4 tyJ4_ok nmJ4 hown hK hP hD hS 0 rfl rfl 0 (by decide) (ht _ tw_19) (fun _ h9 => h9) rfl (by decide +kernel) rfl rfl (Nat.le_of_ble_eq_true rfl) dJ5_init_d00df_14 (fun H locs hP hD hS => ?_)
  have hP : va_P (dC, dI) vwCl [(a0_, .inr (1, [.ref q2, .int 0, .int 0, .int 0])), (q2, .inl (cB, 16, .inl (fun _ => 0)))] H := hP
  have hD : va_D A [(a0_, .inr (1, [.ref q2, .int 0, .int 0, .int 0])), (q2, .inl (cB, 16, .inl (fun _ => 0)))] := hD
  refine lv_aload_n hx hb dJ5_init_d00df_17 rfl (lv_at hl 0 rfl) ?_
  refine lv_iconst (v := 0) hx hb dJ5_init_d00df_18 (by decide) ?_
  refine va_put (D := (dC, dI)) (ci := 1) (v := .int 0) (ty := .byte) (C := RJ4) (T := TJ4) (N := 4) hx hb ht itJ4 tyJ4 tyJ4_ok nmJ4 hown hK hP hD hS 0 rfl rfl 1 (by decide) (ht _ tw_20) (fun _ h9 => h9) rfl (by decide +kernel) rfl rfl (Nat.le_of_ble_eq_true rfl) dJ5_init_d00df_19 (fun H locs hP hD hS => ?_)
  have hP : va_P (dC, dI) vwCl [(a0_, .inr (1, [.ref q2, .int 0, .int 0, .int 0])), (q2, .inl (cB, 16, .inl (fun _ => 0)))] H := hP
  have hD : va_D A [(a0_, .inr (1, [.ref q2, .int 0, .int 0, .int 0])), (q2, .inl (cB, 16, .inl (fun _ => 0)))] := hD
  refine lv_goto (tgt := 38) hx hb dJ5_init_d00df_22 (by decide) ?_
  have hP9 := hP.sub (ws' := [(a0_, .inr (1, [.ref q2, .int 0, .int 0, .int 0])), (q2, .inl (cB, 16, .inl (fun _ => 0)))]) [0, 1] rfl
  have hD9 := hD.sub (ws' := [(a0_, .inr (1, [.ref q2, .int 0, .int 0, .int 0])), (q2, .inl (cB, 16, .inl (fun _ => 0)))]) [0, 1] (by decide) rfl
  refine W.widen (k := 1) (n := 16) (by omega) (by omega) ?_
  exact W.vret hx hb hr (fun t ht9 hW => ⟨⟨q2, rfl, trivial, by rw [ht9]; exact hP9, hD9⟩, hS.F ht9⟩) hS.2.2 dJ5_init_d00df_38
set_option maxHeartbeats 4000000 in
set_option maxRecDepth 100000 in
theorem c_J4_init_da8c8 (l : Launch) (dC : Nat → ClassId) (dI : Nat → Nat → Nat) (cI cB cZ cJ cR : ClassId) (tb : Nat → Nat) (sz : Nat) (a0_ : Nat)  : Met l yJ4_init_da8c8 (Cond.code yJ4_init_da8c8 cJ4_init_da8c8 1 none :: tw_W) ({ frames := 2, cells := 1, slots := 16, locals := 33 }) (pc_ (dC, dI) (tyS cI cB cZ cJ cR) tb [(a0_, .inr (1, [.null, .int 0, .int 0, .int 0]))] sz [.ref a0_]) (qv_ (dC, dI) [(a0_, .inr (1, [.null, .int 0, .int 0, .int 0]))] sz (fun (u : Nat) => True) (fun (u : Nat) => [(a0_, .inr (1, [.ref u, .int 0, .int 0, .int 0])), (u, .inl (cB, 16, .inl (fun _ => 0)))])) 1 16 (va_A [(a0_, .inr (1, [.null, .int 0, .int 0, .int 0]))] sz) := by
  refine Met.ofW (cc := cJ4_init_da8c8) (maxL := 1) (ret := none) (by decide) rfl ?_
  intro p e s m args below meth c s₁ B hml hv
  obtain ⟨rfl, hsz, hP, hKK, hD0, hFx⟩ := hv
  have hK := hKK.1
  have hx := B.exec
  have hb := B.bytes
  have hr := B.returns
  have ht : ∀ w ∈ tw_W, w.before _ s = true := fun w h => atoms_spec (ws := Cond.code yJ4_init_da8c8 cJ4_init_da8c8 1 none :: tw_W) B.pre w (List.mem_cons_of_mem _ h)
  have hown : s.vm.findClass RJ4 = some m.cls := findClass_of_methodNamed B.named
  have hlocks := B.notSynchronized
  have hin : meth.name = "<init>" := (name_of_methodNamed B.named B.method).1
  subst hsz
  unfold qv_
  have hD := hD0.self (sz := s.heap.size)
  generalize hAe : va_A [(a0_, .inr (1, [.null, .int 0, .int 0, .int 0]))] s.heap.size = A at hD hFx ⊢
  have hA : ∀ q : Nat, s.heap.size ≤ q → A q := fun q h => by rw [← hAe]; exact Or.inr h
  have hS : va_S A s.heap s.heap [] := va_S.rf
  have hP : va_P (dC, dI) vwCl [(a0_, .inr (1, [.null, .int 0, .int 0, .int 0]))] s.heap := hP
  have hl := lv_entry ([.ref a0_]) (n := 1) (Nat.le_of_ble_eq_true rfl)
  rw [lg_entry_eq]
  generalize (lg_sl ([.ref a0_]) ++ List.replicate (1 - (lg_sl ([.ref a0_])).length) Slot.unset).toArray = ls at hl ⊢
  have hl : lv_has ls 1 [(0, .ref a0_)] := hl
  refine lv_aload_n hx hb dJ4_init_da8c8_0 rfl (lv_at hl 0 rfl) ?_
  refine lv_bipush (v := 16) hx hb dJ4_init_da8c8_1 (by decide) ?_
  refine ca_v (wr := []) (rn_I (n := 1) (As := [.int 16]) (rest := []) hx hb hml hown ht hKK hFx hP hD hS hA (c_J5_init_d00df l dC dI cI cB cZ cJ cR tb s.heap.size a0_) tw_21 tw_22 tw_23 tw_24 rfl (by decide +kernel) rfl rfl ⟨Nat.le_of_ble_eq_true rfl, Nat.le_of_ble_eq_true rfl⟩ [0] rfl (by decide) rfl hl.1 rfl (Nat.le_of_ble_eq_true rfl) dJ4_init_da8c8_3 ⟨Nat.le_of_ble_eq_true rfl, Nat.le_of_ble_eq_true rfl⟩) hP hD hS hA (isC := [0]) (isR := []) rfl rfl (by decide) (by decide) (fun u H locs hw1 hP hD hS => ?_)
  obtain ⟨q2, hq9⟩ : ∃ z, z = u := ⟨_, rfl⟩
  subst hq9
  have hP : va_P (dC, dI) vwCl [(a0_, .inr (1, [.ref q2, .int 0, .int 0, .int 0])), (q2, .inl (cB, 16, .inl (fun _ => 0)))] H := hP
  have hD : va_D A [(a0_, .inr (1, [.ref q2, .int 0, .int 0, .int 0])), (q2, .inl (cB, 16, .inl (fun _ => 0)))] := hD
  refine W.widen (k := 1) (n := 16) (by omega) (by omega) ?_
  have hP9 := hP.sub (ws' := [(a0_, .inr (1, [.ref q2, .int 0, .int 0, .int 0])), (q2, .inl (cB, 16, .inl (fun _ => 0)))]) [0, 1] rfl
  have hD9 := hD.sub (ws' := [(a0_, .inr (1, [.ref q2, .int 0, .int 0, .int 0])), (q2, .inl (cB, 16, .inl (fun _ => 0)))]) [0, 1] (by decide) rfl
  refine W.widen (k := 1) (n := 16) (by omega) (by omega) ?_
  exact W.vret hx hb hr (fun t ht9 hW => ⟨⟨q2, rfl, trivial, by rw [ht9]; exact hP9, hD9⟩, hS.F ht9⟩) hS.2.2 dJ4_init_da8c8_6
set_option maxHeartbeats 4000000 in
set_option maxRecDepth 100000 in
/-- Shower -/
theorem c_X8_init (l : Launch) (dC : Nat → ClassId) (dI : Nat → Nat → Nat) (cI cB cZ cJ cR : ClassId) (tb : Nat → Nat) (sz : Nat) (a0_ : Nat)  : Met l yX8_init (Cond.code yX8_init cX8_init 1 none :: tw_W) ({ frames := 3, cells := 2, slots := 20, locals := 53 }) (pc_ (dC, dI) (tyS cI cB cZ cJ cR) tb [(a0_, .inr (11, [.null]))] sz [.ref a0_]) (qv_ (dC, dI) [(a0_, .inr (11, [.null]))] sz (fun (u : Nat × Nat) => True) (fun (u : Nat × Nat) => [(a0_, .inr (11, [.ref u.1])), (u.1, .inr (1, [.ref u.2, .int 0, .int 0, .int 0])), (u.2, .inl (cB, 16, .inl (fun _ => 0)))])) 2 20 (va_A [(a0_, .inr (11, [.null]))] sz) := by
  refine Met.ofW (cc := cX8_init) (maxL := 1) (ret := none) (by decide) rfl ?_
  intro p e s m args below meth c s₁ B hml hv
  obtain ⟨rfl, hsz, hP, hKK, hD0, hFx⟩ := hv
  have hK := hKK.1
  have hx := B.exec
  have hb := B.bytes
  have hr := B.returns
  have ht : ∀ w ∈ tw_W, w.before _ s = true := fun w h => atoms_spec (ws := Cond.code yX8_init cX8_init 1 none :: tw_W) B.pre w (List.mem_cons_of_mem _ h)
  have hown : s.vm.findClass RX8 = some m.cls := findClass_of_methodNamed B.named
  have hlocks := B.notSynchronized
  have hin : meth.name = "<init>" := (name_of_methodNamed B.named B.method).1
  subst hsz
  unfold qv_
  have hD := hD0.self (sz := s.heap.size)
  generalize hAe : va_A [(a0_, .inr (11, [.null]))] s.heap.size = A at hD hFx ⊢
  have hA : ∀ q : Nat, s.heap.size ≤ q → A q := fun q h => by rw [← hAe]; exact Or.inr h
  have hS : va_S A s.heap s.heap [] := va_S.rf
  have hP : va_P (dC, dI) vwCl [(a0_, .inr (11, [.null]))] s.heap := hP
  have hl := lv_entry ([.ref a0_]) (n := 1) (Nat.le_of_ble_eq_true rfl)
  rw [lg_entry_eq]
  generalize (lg_sl ([.ref a0_]) ++ List.replicate (1 - (lg_sl ([.ref a0_])).length) Slot.unset).toArray = ls at hl ⊢
  have hl : lv_has ls 1 [(0, .ref a0_)] := hl
  refine lv_aload_n hx hb dX8_init_0 rfl (lv_at hl 0 rfl) ?_
  refine W.objInit hx hb hown (ht _ tw_12) (ht _ tw_1) (ht _ tw_2) rfl (by rw [hml]; exact hl.1) rfl dX8_init_1 (Nat.le_of_ble_eq_true rfl) (Nat.le_of_ble_eq_true rfl) ?_
  refine W.eq (g2 := F0 m 4 ls []) rfl ?_
  refine lv_aload_n hx hb dX8_init_4 rfl (lv_at hl 0 rfl) ?_
  refine va_new (ci := 1) (fs := [.null, .int 0, .int 0, .int 0]) (C := RJ4) (T := TJ4) (N := 4) hx hb ht itJ4 tyJ4 tyJ4_ok hown (ht _ tw_13) (ht _ tw_14) (ht _ tw_15) hK hP hD hS hA rfl (by decide +kernel) (Nat.le_of_ble_eq_true rfl) (Nat.le_of_ble_eq_true rfl) dX8_init_5 (fun q1 H hP hD hS => ?_)
  have hP : va_P (dC, dI) vwCl [(a0_, .inr (11, [.null])), (q1, .inr (1, [.null, .int 0, .int 0, .int 0]))] H := hP
  have hD : va_D A [(a0_, .inr (11, [.null])), (q1, .inr (1, [.null, .int 0, .int 0, .int 0]))] := hD
  refine W.widen (k := 1) (n := 4) (by omega) (by omega) ?_
  refine lv_dup hx hb dX8_init_8 rfl ?_
  refine ca_v (wr := [(a0_, .inr (11, [.null]))]) (rn_I (n := 0) (As := []) (rest := [.ref q1, .ref a0_]) hx hb hml hown ht hKK hFx hP hD hS hA (c_J4_init_da8c8 l dC dI cI cB cZ cJ cR tb H.size q1) tw_25 tw_26 tw_27 tw_28 rfl (by decide +kernel) rfl rfl ⟨Nat.le_of_ble_eq_true rfl, Nat.le_of_ble_eq_true rfl⟩ [1] rfl (by decide) rfl hl.1 rfl (Nat.le_of_ble_eq_true rfl) dX8_init_9 ⟨Nat.le_of_ble_eq_true rfl, Nat.le_of_ble_eq_true rfl⟩) hP hD hS hA (isC := [1]) (isR := [0]) rfl rfl (by decide) (by decide) (fun u H locs hw2 hP hD hS => ?_)
  obtain ⟨q3, hq9⟩ : ∃ z, z = u := ⟨_, rfl⟩
  subst hq9
  have hP : va_P (dC, dI) vwCl [(a0_, .inr (11, [.null])), (q1, .inr (1, [.ref q3, .int 0, .int 0, .int 0])), (q3, .inl (cB, 16, .inl (fun _ => 0)))] H := hP
  have hD : va_D A [(a0_, .inr (11, [.null])), (q1, .inr (1, [.ref q3, .int 0, .int 0, .int 0])), (q3, .inl (cB, 16, .inl (fun _ => 0)))] := hD
  refine W.widen (k := 2) (n := 20) (by omega) (by omega) ?_
  refine va_putF (D := (dC, dI)) (ci := 11) (v := .ref q1) (ty := .object "java/lang/StringBuilder") (C := RX8) (T := TX8) (N := 1) hx hb ht itX8 tyX8 tyX8_ok nmX8 hown hK hP hD hS 0 rfl rfl 0 (by decide) (ht _ tw_29) (fun _ h9 => h9) rfl hin rfl (by decide +kernel) rfl rfl (Nat.le_of_ble_eq_true rfl) dX8_init_12 (fun H locs hP hD hS => ?_)
  have hP : va_P (dC, dI) vwCl [(a0_, .inr (11, [.ref q1])), (q1, .inr (1, [.ref q3, .int 0, .int 0, .int 0])), (q3, .inl (cB, 16, .inl (fun _ => 0)))] H := hP
  have hD : va_D A [(a0_, .inr (11, [.ref q1])), (q1, .inr (1, [.ref q3, .int 0, .int 0, .int 0])), (q3, .inl (cB, 16, .inl (fun _ => 0)))] := hD
  have hP9 := hP.sub (ws' := [(a0_, .inr (11, [.ref q1])), (q1, .inr (1, [.ref q3, .int 0, .int 0, .int 0])), (q3, .inl (cB, 16, .inl (fun _ => 0)))]) [0, 1, 2] rfl
  have hD9 := hD.sub (ws' := [(a0_, .inr (11, [.ref q1])), (q1, .inr (1, [.ref q3, .int 0, .int 0, .int 0])), (q3, .inl (cB, 16, .inl (fun _ => 0)))]) [0, 1, 2] (by decide) rfl
  refine W.widen (k := 2) (n := 20) (by omega) (by omega) ?_
  exact W.vret hx hb hr (fun t ht9 hW => ⟨⟨(q1, q3), rfl, trivial, by rw [ht9]; exact hP9, hD9⟩, hS.F ht9⟩) hS.2.2 dX8_init_15
set_option maxHeartbeats 4000000 in
set_option maxRecDepth 100000 in
/-- Builder -/
theorem c_X1_init (l : Launch) (dC : Nat → ClassId) (dI : Nat → Nat → Nat) (cI cB cZ cJ cR : ClassId) (tb : Nat → Nat) (sz : Nat) (a0_ : Nat) (a1_ : Nat)  : Met l yX1_init (Cond.code yX1_init cX1_init 2 none :: tw_W) ({ frames := 1, cells := 5, slots := 3503, locals := 12 }) (pc_ (dC, dI) (tyS cI cB cZ cJ cR) tb [(a0_, .inr (5, [.null, .null, .int 0, .int 0, .int 0, .int 0, .null, .int 0, .null, .null, .null, .int 0]))] sz [.ref a0_, .ref a1_]) (qv_ (dC, dI) [(a0_, .inr (5, [.null, .null, .int 0, .int 0, .int 0, .int 0, .null, .int 0, .null, .null, .null, .int 0]))] sz (fun (u : Nat × Nat × Nat × Nat × Nat) => True) (fun (u : Nat × Nat × Nat × Nat × Nat) => [(a0_, .inr (5, [.ref a1_, .ref u.1, .int 0, .int 0, .int 0, .int 0, .ref u.2.1, .int 0, .ref u.2.2.1, .ref u.2.2.2.1, .ref u.2.2.2.2, .int 0]))])) 5 3503 (va_A [(a0_, .inr (5, [.null, .null, .int 0, .int 0, .int 0, .int 0, .null, .int 0, .null, .null, .null, .int 0]))] sz) := by
  refine Met.ofW (cc := cX1_init) (maxL := 2) (ret := none) (by decide) rfl ?_
  intro p e s m args below meth c s₁ B hml hv
  obtain ⟨rfl, hsz, hP, hKK, hD0, hFx⟩ := hv
  have hK := hKK.1
  have hx := B.exec
  have hb := B.bytes
  have hr := B.returns
  have ht : ∀ w ∈ tw_W, w.before _ s = true := fun w h => atoms_spec (ws := Cond.code yX1_init cX1_init 2 none :: tw_W) B.pre w (List.mem_cons_of_mem _ h)
  have hown : s.vm.findClass RX1 = some m.cls := findClass_of_methodNamed B.named
  have hlocks := B.notSynchronized
  have hin : meth.name = "<init>" := (name_of_methodNamed B.named B.method).1
  subst hsz
  unfold qv_
  have hD := hD0.self (sz := s.heap.size)
  generalize hAe : va_A [(a0_, .inr (5, [.null, .null, .int 0, .int 0, .int 0, .int 0, .null, .int 0, .null, .null, .null, .int 0]))] s.heap.size = A at hD hFx ⊢
  have hA : ∀ q : Nat, s.heap.size ≤ q → A q := fun q h => by rw [← hAe]; exact Or.inr h
  have hS : va_S A s.heap s.heap [] := va_S.rf
  have hP : va_P (dC, dI) vwCl [(a0_, .inr (5, [.null, .null, .int 0, .int 0, .int 0, .int 0, .null, .int 0, .null, .null, .null, .int 0]))] s.heap := hP
  have hl := lv_entry ([.ref a0_, .ref a1_]) (n := 2) (Nat.le_of_ble_eq_true rfl)
  rw [lg_entry_eq]
  generalize (lg_sl ([.ref a0_, .ref a1_]) ++ List.replicate (2 - (lg_sl ([.ref a0_, .ref a1_])).length) Slot.unset).toArray = ls at hl ⊢
  have hl : lv_has ls 2 [(0, .ref a0_), (1, .ref a1_)] := hl
  refine lv_aload_n hx hb dX1_init_0 rfl (lv_at hl 0 rfl) ?_
  refine W.objInit hx hb hown (ht _ tw_30) (ht _ tw_1) (ht _ tw_2) rfl (by rw [hml]; exact hl.1) rfl dX1_init_1 (Nat.le_of_ble_eq_true rfl) (Nat.le_of_ble_eq_true rfl) ?_
  refine W.eq (g2 := F0 m 4 ls []) rfl ?_
  refine lv_aload_n hx hb dX1_init_4 rfl (lv_at hl 0 rfl) ?_
  refine lv_sipush (v := 500) hx hb dX1_init_5 (by decide) ?_
  refine va_newE (atype := .int) (ty := .int) (a0 := (500, .inl (fun _ => 0))) (cE := cI) hx hb (ht _ tw_3) rfl hK hP hD hS hA 0 rfl (fun _ => rfl) (by decide) (by decide) (by decide) (Nat.le_of_ble_eq_true rfl) (Nat.le_of_ble_eq_true rfl) dX1_init_8 (fun q1 H hP hD hS => ?_)
  have hP : va_P (dC, dI) vwCl [(a0_, .inr (5, [.null, .null, .int 0, .int 0, .int 0, .int 0, .null, .int 0, .null, .null, .null, .int 0])), (q1, .inl (cI, 500, .inl (fun _ => 0)))] H := hP
  have hD : va_D A [(a0_, .inr (5, [.null, .null, .int 0, .int 0, .int 0, .int 0, .null, .int 0, .null, .null, .null, .int 0])), (q1, .inl (cI, 500, .inl (fun _ => 0)))] := hD
  refine W.widen (k := 1) (n := 500) (by omega) (by omega) ?_
  refine va_putF (D := (dC, dI)) (ci := 5) (v := .ref q1) (ty := .array .int) (C := RX1) (T := TX1) (N := 12) hx hb ht itX1 tyX1 tyX1_ok nmX1 hown hK hP hD hS 0 rfl rfl 1 (by decide) (ht _ tw_31) (fun _ h9 => h9) rfl hin rfl (by decide +kernel) rfl rfl (Nat.le_of_ble_eq_true rfl) dX1_init_10 (fun H locs hP hD hS => ?_)
  have hP : va_P (dC, dI) vwCl [(a0_, .inr (5, [.null, .ref q1, .int 0, .int 0, .int 0, .int 0, .null, .int 0, .null, .null, .null, .int 0])), (q1, .inl (cI, 500, .inl (fun _ => 0)))] H := hP
  have hD : va_D A [(a0_, .inr (5, [.null, .ref q1, .int 0, .int 0, .int 0, .int 0, .null, .int 0, .null, .null, .null, .int 0])), (q1, .inl (cI, 500, .inl (fun _ => 0)))] := hD
  refine lv_aload_n hx hb dX1_init_13 rfl (lv_at hl 0 rfl) ?_
  refine lv_sipush (v := 1500) hx hb dX1_init_14 (by decide) ?_
  refine va_newE (atype := .int) (ty := .int) (a0 := (1500, .inl (fun _ => 0))) (cE := cI) hx hb (ht _ tw_3) rfl hK hP hD hS hA 0 rfl (fun _ => rfl) (by decide) (by decide) (by decide) (Nat.le_of_ble_eq_true rfl) (Nat.le_of_ble_eq_true rfl) dX1_init_17 (fun q2 H hP hD hS => ?_)
  have hP : va_P (dC, dI) vwCl [(a0_, .inr (5, [.null, .ref q1, .int 0, .int 0, .int 0, .int 0, .null, .int 0, .null, .null, .null, .int 0])), (q1, .inl (cI, 500, .inl (fun _ => 0))), (q2, .inl (cI, 1500, .inl (fun _ => 0)))] H := hP
  have hD : va_D A [(a0_, .inr (5, [.null, .ref q1, .int 0, .int 0, .int 0, .int 0, .null, .int 0, .null, .null, .null, .int 0])), (q1, .inl (cI, 500, .inl (fun _ => 0))), (q2, .inl (cI, 1500, .inl (fun _ => 0)))] := hD
  refine W.widen (k := 2) (n := 2000) (by omega) (by omega) ?_
  refine va_putF (D := (dC, dI)) (ci := 5) (v := .ref q2) (ty := .array .int) (C := RX1) (T := TX1) (N := 12) hx hb ht itX1 tyX1 tyX1_ok nmX1 hown hK hP hD hS 0 rfl rfl 6 (by decide) (ht _ tw_32) (fun _ h9 => h9) rfl hin rfl (by decide +kernel) rfl rfl (Nat.le_of_ble_eq_true rfl) dX1_init_19 (fun H locs hP hD hS => ?_)
  have hP : va_P (dC, dI) vwCl [(a0_, .inr (5, [.null, .ref q1, .int 0, .int 0, .int 0, .int 0, .ref q2, .int 0, .null, .null, .null, .int 0])), (q1, .inl (cI, 500, .inl (fun _ => 0))), (q2, .inl (cI, 1500, .inl (fun _ => 0)))] H := hP
  have hD : va_D A [(a0_, .inr (5, [.null, .ref q1, .int 0, .int 0, .int 0, .int 0, .ref q2, .int 0, .null, .null, .null, .int 0])), (q1, .inl (cI, 500, .inl (fun _ => 0))), (q2, .inl (cI, 1500, .inl (fun _ => 0)))] := hD
  refine lv_aload_n hx hb dX1_init_22 rfl (lv_at hl 0 rfl) ?_
  refine lv_sipush (v := 501) hx hb dX1_init_23 (by decide) ?_
  refine va_newE (atype := .int) (ty := .int) (a0 := (501, .inl (fun _ => 0))) (cE := cI) hx hb (ht _ tw_3) rfl hK hP hD hS hA 0 rfl (fun _ => rfl) (by decide) (by decide) (by decide) (Nat.le_of_ble_eq_true rfl) (Nat.le_of_ble_eq_true rfl) dX1_init_26 (fun q3 H hP hD hS => ?_)
  have hP : va_P (dC, dI) vwCl [(a0_, .inr (5, [.null, .ref q1, .int 0, .int 0, .int 0, .int 0, .ref q2, .int 0, .null, .null, .null, .int 0])), (q1, .inl (cI, 500, .inl (fun _ => 0))), (q2, .inl (cI, 1500, .inl (fun _ => 0))), (q3, .inl (cI, 501, .inl (fun _ => 0)))] H := hP
  have hD : va_D A [(a0_, .inr (5, [.null, .ref q1, .int 0, .int 0, .int 0, .int 0, .ref q2, .int 0, .null, .null, .null, .int 0])), (q1, .inl (cI, 500, .inl (fun _ => 0))), (q2, .inl (cI, 1500, .inl (fun _ => 0))), (q3, .inl (cI, 501, .inl (fun _ => 0)))] := hD
  refine W.widen (k := 3) (n := 2501) (by omega) (by omega) ?_
  refine va_putF (D := (dC, dI)) (ci := 5) (v := .ref q3) (ty := .array .int) (C := RX1) (T := TX1) (N := 12) hx hb ht itX1 tyX1 tyX1_ok nmX1 hown hK hP hD hS 0 rfl rfl 8 (by decide) (ht _ tw_33) (fun _ h9 => h9) rfl hin rfl (by decide +kernel) rfl rfl (Nat.le_of_ble_eq_true rfl) dX1_init_28 (fun H locs hP hD hS => ?_)
  have hP : va_P (dC, dI) vwCl [(a0_, .inr (5, [.null, .ref q1, .int 0, .int 0, .int 0, .int 0, .ref q2, .int 0, .ref q3, .null, .null, .int 0])), (q1, .inl (cI, 500, .inl (fun _ => 0))), (q2, .inl (cI, 1500, .inl (fun _ => 0))), (q3, .inl (cI, 501, .inl (fun _ => 0)))] H := hP
  have hD : va_D A [(a0_, .inr (5, [.null, .ref q1, .int 0, .int 0, .int 0, .int 0, .ref q2, .int 0, .ref q3, .null, .null, .int 0])), (q1, .inl (cI, 500, .inl (fun _ => 0))), (q2, .inl (cI, 1500, .inl (fun _ => 0))), (q3, .inl (cI, 501, .inl (fun _ => 0)))] := hD
  refine lv_aload_n hx hb dX1_init_31 rfl (lv_at hl 0 rfl) ?_
  refine lv_sipush (v := 501) hx hb dX1_init_32 (by decide) ?_
  refine va_newE (atype := .int) (ty := .int) (a0 := (501, .inl (fun _ => 0))) (cE := cI) hx hb (ht _ tw_3) rfl hK hP hD hS hA 0 rfl (fun _ => rfl) (by decide) (by decide) (by decide) (Nat.le_of_ble_eq_true rfl) (Nat.le_of_ble_eq_true rfl) dX1_init_35 (fun q4 H hP hD hS => ?_)
  have hP : va_P (dC, dI) vwCl [(a0_, .inr (5, [.null, .ref q1, .int 0, .int 0, .int 0, .int 0, .ref q2, .int 0, .ref q3, .null, .null, .int 0])), (q1, .inl (cI, 500, .inl (fun _ => 0))), (q2, .inl (cI, 1500, .inl (fun _ => 0))), (q3, .inl (cI, 501, .inl (fun _ => 0))), (q4, .inl (cI, 501, .inl (fun _ => 0)))] H := hP
  have hD : va_D A [(a0_, .inr (5, [.null, .ref q1, .int 0, .int 0, .int 0, .int 0, .ref q2, .int 0, .ref q3, .null, .null, .int 0])), (q1, .inl (cI, 500, .inl (fun _ => 0))), (q2, .inl (cI, 1500, .inl (fun _ => 0))), (q3, .inl (cI, 501, .inl (fun _ => 0))), (q4, .inl (cI, 501, .inl (fun _ => 0)))] := hD
  refine W.widen (k := 4) (n := 3002) (by omega) (by omega) ?_
  refine va_putF (D := (dC, dI)) (ci := 5) (v := .ref q4) (ty := .array .int) (C := RX1) (T := TX1) (N := 12) hx hb ht itX1 tyX1 tyX1_ok nmX1 hown hK hP hD hS 0 rfl rfl 9 (by decide) (ht _ tw_34) (fun _ h9 => h9) rfl hin rfl (by decide +kernel) rfl rfl (Nat.le_of_ble_eq_true rfl) dX1_init_37 (fun H locs hP hD hS => ?_)
  have hP : va_P (dC, dI) vwCl [(a0_, .inr (5, [.null, .ref q1, .int 0, .int 0, .int 0, .int 0, .ref q2, .int 0, .ref q3, .ref q4, .null, .int 0])), (q1, .inl (cI, 500, .inl (fun _ => 0))), (q2, .inl (cI, 1500, .inl (fun _ => 0))), (q3, .inl (cI, 501, .inl (fun _ => 0))), (q4, .inl (cI, 501, .inl (fun _ => 0)))] H := hP
  have hD : va_D A [(a0_, .inr (5, [.null, .ref q1, .int 0, .int 0, .int 0, .int 0, .ref q2, .int 0, .ref q3, .ref q4, .null, .int 0])), (q1, .inl (cI, 500, .inl (fun _ => 0))), (q2, .inl (cI, 1500, .inl (fun _ => 0))), (q3, .inl (cI, 501, .inl (fun _ => 0))), (q4, .inl (cI, 501, .inl (fun _ => 0)))] := hD
  refine lv_aload_n hx hb dX1_init_40 rfl (lv_at hl 0 rfl) ?_
  refine lv_sipush (v := 501) hx hb dX1_init_41 (by decide) ?_
  refine va_newE (atype := .int) (ty := .int) (a0 := (501, .inl (fun _ => 0))) (cE := cI) hx hb (ht _ tw_3) rfl hK hP hD hS hA 0 rfl (fun _ => rfl) (by decide) (by decide) (by decide) (Nat.le_of_ble_eq_true rfl) (Nat.le_of_ble_eq_true rfl) dX1_init_44 (fun q5 H hP hD hS => ?_)
  have hP : va_P (dC, dI) vwCl [(a0_, .inr (5, [.null, .ref q1, .int 0, .int 0, .int 0, .int 0, .ref q2, .int 0, .ref q3, .ref q4, .null, .int 0])), (q1, .inl (cI, 500, .inl (fun _ => 0))), (q2, .inl (cI, 1500, .inl (fun _ => 0))), (q3, .inl (cI, 501, .inl (fun _ => 0))), (q4, .inl (cI, 501, .inl (fun _ => 0))), (q5, .inl (cI, 501, .inl (fun _ => 0)))] H := hP
  have hD : va_D A [(a0_, .inr (5, [.null, .ref q1, .int 0, .int 0, .int 0, .int 0, .ref q2, .int 0, .ref q3, .ref q4, .null, .int 0])), (q1, .inl (cI, 500, .inl (fun _ => 0))), (q2, .inl (cI, 1500, .inl (fun _ => 0))), (q3, .inl (cI, 501, .inl (fun _ => 0))), (q4, .inl (cI, 501, .inl (fun _ => 0))), (q5, .inl (cI, 501, .inl (fun _ => 0)))] := hD
  refine W.widen (k := 5) (n := 3503) (by omega) (by omega) ?_
  refine va_putF (D := (dC, dI)) (ci := 5) (v := .ref q5) (ty := .array .int) (C := RX1) (T := TX1) (N := 12) hx hb ht itX1 tyX1 tyX1_ok nmX1 hown hK hP hD hS 0 rfl rfl 10 (by decide) (ht _ tw_35) (fun _ h9 => h9) rfl hin rfl (by decide +kernel) rfl rfl (Nat.le_of_ble_eq_true rfl) dX1_init_46 (fun H locs hP hD hS => ?_)
  have hP : va_P (dC, dI) vwCl [(a0_, .inr (5, [.null, .ref q1, .int 0, .int 0, .int 0, .int 0, .ref q2, .int 0, .ref q3, .ref q4, .ref q5, .int 0])), (q1, .inl (cI, 500, .inl (fun _ => 0))), (q2, .inl (cI, 1500, .inl (fun _ => 0))), (q3, .inl (cI, 501, .inl (fun _ => 0))), (q4, .inl (cI, 501, .inl (fun _ => 0))), (q5, .inl (cI, 501, .inl (fun _ => 0)))] H := hP
  have hD : va_D A [(a0_, .inr (5, [.null, .ref q1, .int 0, .int 0, .int 0, .int 0, .ref q2, .int 0, .ref q3, .ref q4, .ref q5, .int 0])), (q1, .inl (cI, 500, .inl (fun _ => 0))), (q2, .inl (cI, 1500, .inl (fun _ => 0))), (q3, .inl (cI, 501, .inl (fun _ => 0))), (q4, .inl (cI, 501, .inl (fun _ => 0))), (q5, .inl (cI, 501, .inl (fun _ => 0)))] := hD
  refine lv_aload_n hx hb dX1_init_49 rfl (lv_at hl 0 rfl) ?_
  refine lv_aload_n hx hb dX1_init_50 rfl (lv_at hl 1 rfl) ?_
  refine va_put (D := (dC, dI)) (ci := 5) (v := .ref a1_) (ty := .object "PocketCompiler$Program") (C := RX1) (T := TX1) (N := 12) hx hb ht itX1 tyX1 tyX1_ok nmX1 hown hK hP hD hS 0 rfl rfl 0 (by decide) (ht _ tw_36) (fun _ h9 => h9) rfl (by decide +kernel) rfl rfl (Nat.le_of_ble_eq_true rfl) dX1_init_51 (fun H locs hP hD hS => ?_)
  have hP : va_P (dC, dI) vwCl [(a0_, .inr (5, [.ref a1_, .ref q1, .int 0, .int 0, .int 0, .int 0, .ref q2, .int 0, .ref q3, .ref q4, .ref q5, .int 0])), (q1, .inl (cI, 500, .inl (fun _ => 0))), (q2, .inl (cI, 1500, .inl (fun _ => 0))), (q3, .inl (cI, 501, .inl (fun _ => 0))), (q4, .inl (cI, 501, .inl (fun _ => 0))), (q5, .inl (cI, 501, .inl (fun _ => 0)))] H := hP
  have hD : va_D A [(a0_, .inr (5, [.ref a1_, .ref q1, .int 0, .int 0, .int 0, .int 0, .ref q2, .int 0, .ref q3, .ref q4, .ref q5, .int 0])), (q1, .inl (cI, 500, .inl (fun _ => 0))), (q2, .inl (cI, 1500, .inl (fun _ => 0))), (q3, .inl (cI, 501, .inl (fun _ => 0))), (q4, .inl (cI, 501, .inl (fun _ => 0))), (q5, .inl (cI, 501, .inl (fun _ => 0)))] := hD
  have hP9 := hP.sub (ws' := [(a0_, .inr (5, [.ref a1_, .ref q1, .int 0, .int 0, .int 0, .int 0, .ref q2, .int 0, .ref q3, .ref q4, .ref q5, .int 0]))]) [0] rfl
  have hD9 := hD.sub (ws' := [(a0_, .inr (5, [.ref a1_, .ref q1, .int 0, .int 0, .int 0, .int 0, .ref q2, .int 0, .ref q3, .ref q4, .ref q5, .int 0]))]) [0] (by decide) rfl
  refine W.widen (k := 5) (n := 3503) (by omega) (by omega) ?_
  exact W.vret hx hb hr (fun t ht9 hW => ⟨⟨(q1, q2, q3, q4, q5), rfl, trivial, by rw [ht9]; exact hP9, hD9⟩, hS.F ht9⟩) hS.2.2 dX1_init_54
set_option maxHeartbeats 4000000 in
set_option maxRecDepth 100000 in
/-- Expressions -/
theorem c_X2_init (l : Launch) (dC : Nat → ClassId) (dI : Nat → Nat → Nat) (cI cB cZ cJ cR : ClassId) (tb : Nat → Nat) (sz : Nat) (a0_ : Nat) (a1_ : Nat) (a2_ : Nat)  : Met l yX2_init (Cond.code yX2_init cX2_init 3 none :: tw_W) ({ frames := 1, cells := 2, slots := 840, locals := 12 }) (pc_ (dC, dI) (tyS cI cB cZ cJ cR) tb [(a0_, .inr (6, [.null, .null, .null, .null, .int 0]))] sz [.ref a0_, .ref a1_, .ref a2_]) (qv_ (dC, dI) [(a0_, .inr (6, [.null, .null, .null, .null, .int 0]))] sz (fun (u : Nat × Nat) => True) (fun (u : Nat × Nat) => [(a0_, .inr (6, [.ref a1_, .ref a2_, .ref u.1, .ref u.2, .int 0]))])) 2 840 (va_A [(a0_, .inr (6, [.null, .null, .null, .null, .int 0]))] sz) := by
  refine Met.ofW (cc := cX2_init) (maxL := 3) (ret := none) (by decide) rfl ?_
  intro p e s m args below meth c s₁ B hml hv
  obtain ⟨rfl, hsz, hP, hKK, hD0, hFx⟩ := hv
  have hK := hKK.1
  have hx := B.exec
  have hb := B.bytes
  have hr := B.returns
  have ht : ∀ w ∈ tw_W, w.before _ s = true := fun w h => atoms_spec (ws := Cond.code yX2_init cX2_init 3 none :: tw_W) B.pre w (List.mem_cons_of_mem _ h)
  have hown : s.vm.findClass RX2 = some m.cls := findClass_of_methodNamed B.named
  have hlocks := B.notSynchronized
  have hin : meth.name = "<init>" := (name_of_methodNamed B.named B.method).1
  subst hsz
  unfold qv_
  have hD := hD0.self (sz := s.heap.size)
  generalize hAe : va_A [(a0_, .inr (6, [.null, .null, .null, .null, .int 0]))] s.heap.size = A at hD hFx ⊢
  have hA : ∀ q : Nat, s.heap.size ≤ q → A q := fun q h => by rw [← hAe]; exact Or.inr h
  have hS : va_S A s.heap s.heap [] := va_S.rf
  have hP : va_P (dC, dI) vwCl [(a0_, .inr (6, [.null, .null, .null, .null, .int 0]))] s.heap := hP
  have hl := lv_entry ([.ref a0_, .ref a1_, .ref a2_]) (n := 3) (Nat.le_of_ble_eq_true rfl)
  rw [lg_entry_eq]
  generalize (lg_sl ([.ref a0_, .ref a1_, .ref a2_]) ++ List.replicate (3 - (lg_sl ([.ref a0_, .ref a1_, .ref a2_])).length) Slot.unset).toArray = ls at hl ⊢
  have hl : lv_has ls 3 [(0, .ref a0_), (1, .ref a1_), (2, .ref a2_)] := hl
  refine lv_aload_n hx hb dX2_init_0 rfl (lv_at hl 0 rfl) ?_
  refine W.objInit hx hb hown (ht _ tw_37) (ht _ tw_1) (ht _ tw_2) rfl (by rw [hml]; exact hl.1) rfl dX2_init_1 (Nat.le_of_ble_eq_true rfl) (Nat.le_of_ble_eq_true rfl) ?_
  refine W.eq (g2 := F0 m 4 ls []) rfl ?_
  refine lv_aload_n hx hb dX2_init_4 rfl (lv_at hl 0 rfl) ?_
  refine lv_sipush (v := 420) hx hb dX2_init_5 (by decide) ?_
  refine va_newE (atype := .int) (ty := .int) (a0 := (420, .inl (fun _ => 0))) (cE := cI) hx hb (ht _ tw_3) rfl hK hP hD hS hA 0 rfl (fun _ => rfl) (by decide) (by decide) (by decide) (Nat.le_of_ble_eq_true rfl) (Nat.le_of_ble_eq_true rfl) dX2_init_8 (fun q1 H hP hD hS => ?_)
  have hP : va_P (dC, dI) vwCl [(a0_, .inr (6, [.null, .null, .null, .null, .int 0])), (q1, .inl (cI, 420, .inl (fun _ => 0)))] H := hP
  have hD : va_D A [(a0_, .inr (6, [.null, .null, .null, .null, .int 0])), (q1, .inl (cI, 420, .inl (fun _ => 0)))] := hD
  refine W.widen (k := 1) (n := 420) (by omega) (by omega) ?_
  refine va_putF (D := (dC, dI)) (ci := 6) (v := .ref q1) (ty := .array .int) (C := RX2) (T := TX2) (N := 5) hx hb ht itX2 tyX2 tyX2_ok nmX2 hown hK hP hD hS 0 rfl rfl 2 (by decide) (ht _ tw_38) (fun _ h9 => h9) rfl hin rfl (by decide +kernel) rfl rfl (Nat.le_of_ble_eq_true rfl) dX2_init_10 (fun H locs hP hD hS => ?_)
  have hP : va_P (dC, dI) vwCl [(a0_, .inr (6, [.null, .null, .ref q1, .null, .int 0])), (q1, .inl (cI, 420, .inl (fun _ => 0)))] H := hP
  have hD : va_D A [(a0_, .inr (6, [.null, .null, .ref q1, .null, .int 0])), (q1, .inl (cI, 420, .inl (fun _ => 0)))] := hD
  refine lv_aload_n hx hb dX2_init_13 rfl (lv_at hl 0 rfl) ?_
  refine lv_sipush (v := 420) hx hb dX2_init_14 (by decide) ?_
  refine va_newE (atype := .int) (ty := .int) (a0 := (420, .inl (fun _ => 0))) (cE := cI) hx hb (ht _ tw_3) rfl hK hP hD hS hA 0 rfl (fun _ => rfl) (by decide) (by decide) (by decide) (Nat.le_of_ble_eq_true rfl) (Nat.le_of_ble_eq_true rfl) dX2_init_17 (fun q2 H hP hD hS => ?_)
  have hP : va_P (dC, dI) vwCl [(a0_, .inr (6, [.null, .null, .ref q1, .null, .int 0])), (q1, .inl (cI, 420, .inl (fun _ => 0))), (q2, .inl (cI, 420, .inl (fun _ => 0)))] H := hP
  have hD : va_D A [(a0_, .inr (6, [.null, .null, .ref q1, .null, .int 0])), (q1, .inl (cI, 420, .inl (fun _ => 0))), (q2, .inl (cI, 420, .inl (fun _ => 0)))] := hD
  refine W.widen (k := 2) (n := 840) (by omega) (by omega) ?_
  refine va_putF (D := (dC, dI)) (ci := 6) (v := .ref q2) (ty := .array .int) (C := RX2) (T := TX2) (N := 5) hx hb ht itX2 tyX2 tyX2_ok nmX2 hown hK hP hD hS 0 rfl rfl 3 (by decide) (ht _ tw_39) (fun _ h9 => h9) rfl hin rfl (by decide +kernel) rfl rfl (Nat.le_of_ble_eq_true rfl) dX2_init_19 (fun H locs hP hD hS => ?_)
  have hP : va_P (dC, dI) vwCl [(a0_, .inr (6, [.null, .null, .ref q1, .ref q2, .int 0])), (q1, .inl (cI, 420, .inl (fun _ => 0))), (q2, .inl (cI, 420, .inl (fun _ => 0)))] H := hP
  have hD : va_D A [(a0_, .inr (6, [.null, .null, .ref q1, .ref q2, .int 0])), (q1, .inl (cI, 420, .inl (fun _ => 0))), (q2, .inl (cI, 420, .inl (fun _ => 0)))] := hD
  refine lv_aload_n hx hb dX2_init_22 rfl (lv_at hl 0 rfl) ?_
  refine lv_aload_n hx hb dX2_init_23 rfl (lv_at hl 1 rfl) ?_
  refine va_putF (D := (dC, dI)) (ci := 6) (v := .ref a1_) (ty := .object "PocketCompiler$Tokens") (C := RX2) (T := TX2) (N := 5) hx hb ht itX2 tyX2 tyX2_ok nmX2 hown hK hP hD hS 0 rfl rfl 0 (by decide) (ht _ tw_40) (fun _ h9 => h9) rfl hin rfl (by decide +kernel) rfl rfl (Nat.le_of_ble_eq_true rfl) dX2_init_24 (fun H locs hP hD hS => ?_)
  have hP : va_P (dC, dI) vwCl [(a0_, .inr (6, [.ref a1_, .null, .ref q1, .ref q2, .int 0])), (q1, .inl (cI, 420, .inl (fun _ => 0))), (q2, .inl (cI, 420, .inl (fun _ => 0)))] H := hP
  have hD : va_D A [(a0_, .inr (6, [.ref a1_, .null, .ref q1, .ref q2, .int 0])), (q1, .inl (cI, 420, .inl (fun _ => 0))), (q2, .inl (cI, 420, .inl (fun _ => 0)))] := hD
  refine lv_aload_n hx hb dX2_init_27 rfl (lv_at hl 0 rfl) ?_
  refine lv_aload_n hx hb dX2_init_28 rfl (lv_at hl 2 rfl) ?_
  refine va_putF (D := (dC, dI)) (ci := 6) (v := .ref a2_) (ty := .object "PocketCompiler$Builder") (C := RX2) (T := TX2) (N := 5) hx hb ht itX2 tyX2 tyX2_ok nmX2 hown hK hP hD hS 0 rfl rfl 1 (by decide) (ht _ tw_41) (fun _ h9 => h9) rfl hin rfl (by decide +kernel) rfl rfl (Nat.le_of_ble_eq_true rfl) dX2_init_29 (fun H locs hP hD hS => ?_)
  have hP : va_P (dC, dI) vwCl [(a0_, .inr (6, [.ref a1_, .ref a2_, .ref q1, .ref q2, .int 0])), (q1, .inl (cI, 420, .inl (fun _ => 0))), (q2, .inl (cI, 420, .inl (fun _ => 0)))] H := hP
  have hD : va_D A [(a0_, .inr (6, [.ref a1_, .ref a2_, .ref q1, .ref q2, .int 0])), (q1, .inl (cI, 420, .inl (fun _ => 0))), (q2, .inl (cI, 420, .inl (fun _ => 0)))] := hD
  have hP9 := hP.sub (ws' := [(a0_, .inr (6, [.ref a1_, .ref a2_, .ref q1, .ref q2, .int 0]))]) [0] rfl
  have hD9 := hD.sub (ws' := [(a0_, .inr (6, [.ref a1_, .ref a2_, .ref q1, .ref q2, .int 0]))]) [0] (by decide) rfl
  refine W.widen (k := 2) (n := 840) (by omega) (by omega) ?_
  exact W.vret hx hb hr (fun t ht9 hW => ⟨⟨(q1, q2), rfl, trivial, by rw [ht9]; exact hP9, hD9⟩, hS.F ht9⟩) hS.2.2 dX2_init_32
set_option maxHeartbeats 4000000 in
set_option maxRecDepth 100000 in
theorem c_X9_init (l : Launch) (dC : Nat → ClassId) (dI : Nat → Nat → Nat) (cI cB cZ cJ cR : ClassId) (tb : Nat → Nat) (sz : Nat) (a0_ : Nat) (a1_ : Nat)  : Met l yX9_init (Cond.code yX9_init cX9_init 2 none :: tw_W) ({ frames := 1, cells := 3, slots := 4509, locals := 12 }) (pc_ (dC, dI) (tyS cI cB cZ cJ cR) tb [(a0_, .inr (12, [.null, .null, .null, .null, .int 0, .int 0, .int 0, .int 0, .int 0, .int 0]))] sz [.ref a0_, .ref a1_]) (qv_ (dC, dI) [(a0_, .inr (12, [.null, .null, .null, .null, .int 0, .int 0, .int 0, .int 0, .int 0, .int 0]))] sz (fun (u : Nat × Nat × Nat) => True) (fun (u : Nat × Nat × Nat) => [(a0_, .inr (12, [.ref a1_, .ref u.1, .ref u.2.1, .ref u.2.2, .int 0, .int 0, .int 0, .int 0, .int 0, .int 0])), (u.1, .inl (cI, 1503, .inl (fun _ => 0))), (u.2.1, .inl (cI, 1503, .inl (fun _ => 0))), (u.2.2, .inl (cI, 1503, .inl (fun _ => 0)))])) 3 4509 (va_A [(a0_, .inr (12, [.null, .null, .null, .null, .int 0, .int 0, .int 0, .int 0, .int 0, .int 0]))] sz) := by
  refine Met.ofW (cc := cX9_init) (maxL := 2) (ret := none) (by decide) rfl ?_
  intro p e s m args below meth c s₁ B hml hv
  obtain ⟨rfl, hsz, hP, hKK, hD0, hFx⟩ := hv
  have hK := hKK.1
  have hx := B.exec
  have hb := B.bytes
  have hr := B.returns
  have ht : ∀ w ∈ tw_W, w.before _ s = true := fun w h => atoms_spec (ws := Cond.code yX9_init cX9_init 2 none :: tw_W) B.pre w (List.mem_cons_of_mem _ h)
  have hown : s.vm.findClass RX9 = some m.cls := findClass_of_methodNamed B.named
  have hlocks := B.notSynchronized
  have hin : meth.name = "<init>" := (name_of_methodNamed B.named B.method).1
  subst hsz
  unfold qv_
  have hD := hD0.self (sz := s.heap.size)
  generalize hAe : va_A [(a0_, .inr (12, [.null, .null, .null, .null, .int 0, .int 0, .int 0, .int 0, .int 0, .int 0]))] s.heap.size = A at hD hFx ⊢
  have hA : ∀ q : Nat, s.heap.size ≤ q → A q := fun q h => by rw [← hAe]; exact Or.inr h
  have hS : va_S A s.heap s.heap [] := va_S.rf
  have hP : va_P (dC, dI) vwCl [(a0_, .inr (12, [.null, .null, .null, .null, .int 0, .int 0, .int 0, .int 0, .int 0, .int 0]))] s.heap := hP
  have hl := lv_entry ([.ref a0_, .ref a1_]) (n := 2) (Nat.le_of_ble_eq_true rfl)
  rw [lg_entry_eq]
  generalize (lg_sl ([.ref a0_, .ref a1_]) ++ List.replicate (2 - (lg_sl ([.ref a0_, .ref a1_])).length) Slot.unset).toArray = ls at hl ⊢
  have hl : lv_has ls 2 [(0, .ref a0_), (1, .ref a1_)] := hl
  refine lv_aload_n hx hb dX9_init_0 rfl (lv_at hl 0 rfl) ?_
  refine W.objInit hx hb hown (ht _ tw_47) (ht _ tw_1) (ht _ tw_2) rfl (by rw [hml]; exact hl.1) rfl dX9_init_1 (Nat.le_of_ble_eq_true rfl) (Nat.le_of_ble_eq_true rfl) ?_
  refine W.eq (g2 := F0 m 4 ls []) rfl ?_
  refine lv_aload_n hx hb dX9_init_4 rfl (lv_at hl 0 rfl) ?_
  refine lv_sipush (v := 1503) hx hb dX9_init_5 (by decide) ?_
  refine va_newE (atype := .int) (ty := .int) (a0 := (1503, .inl (fun _ => 0))) (cE := cI) hx hb (ht _ tw_3) rfl hK hP hD hS hA 0 rfl (fun _ => rfl) (by decide) (by decide) (by decide) (Nat.le_of_ble_eq_true rfl) (Nat.le_of_ble_eq_true rfl) dX9_init_8 (fun q1 H hP hD hS => ?_)
  have hP : va_P (dC, dI) vwCl [(a0_, .inr (12, [.null, .null, .null, .null, .int 0, .int 0, .int 0, .int 0, .int 0, .int 0])), (q1, .inl (cI, 1503, .inl (fun _ => 0)))] H := hP
  have hD : va_D A [(a0_, .inr (12, [.null, .null, .null, .null, .int 0, .int 0, .int 0, .int 0, .int 0, .int 0])), (q1, .inl (cI, 1503, .inl (fun _ => 0)))] := hD
  refine W.widen (k := 1) (n := 1503) (by omega) (by omega) ?_
  refine va_putF (D := (dC, dI)) (ci := 12) (v := .ref q1) (ty := .array .int) (C := RX9) (T := TX9) (N := 10) hx hb ht itX9 tyX9 tyX9_ok nmX9 hown hK hP hD hS 0 rfl rfl 1 (by decide) (ht _ tw_48) (fun _ h9 => h9) rfl hin rfl (by decide +kernel) rfl rfl (Nat.le_of_ble_eq_true rfl) dX9_init_10 (fun H locs hP hD hS => ?_)
  have hP : va_P (dC, dI) vwCl [(a0_, .inr (12, [.null, .ref q1, .null, .null, .int 0, .int 0, .int 0, .int 0, .int 0, .int 0])), (q1, .inl (cI, 1503, .inl (fun _ => 0)))] H := hP
  have hD : va_D A [(a0_, .inr (12, [.null, .ref q1, .null, .null, .int 0, .int 0, .int 0, .int 0, .int 0, .int 0])), (q1, .inl (cI, 1503, .inl (fun _ => 0)))] := hD
  refine lv_aload_n hx hb dX9_init_13 rfl (lv_at hl 0 rfl) ?_
  refine lv_sipush (v := 1503) hx hb dX9_init_14 (by decide) ?_
  refine va_newE (atype := .int) (ty := .int) (a0 := (1503, .inl (fun _ => 0))) (cE := cI) hx hb (ht _ tw_3) rfl hK hP hD hS hA 0 rfl (fun _ => rfl) (by decide) (by decide) (by decide) (Nat.le_of_ble_eq_true rfl) (Nat.le_of_ble_eq_true rfl) dX9_init_17 (fun q2 H hP hD hS => ?_)
  have hP : va_P (dC, dI) vwCl [(a0_, .inr (12, [.null, .ref q1, .null, .null, .int 0, .int 0, .int 0, .int 0, .int 0, .int 0])), (q1, .inl (cI, 1503, .inl (fun _ => 0))), (q2, .inl (cI, 1503, .inl (fun _ => 0)))] H := hP
  have hD : va_D A [(a0_, .inr (12, [.null, .ref q1, .null, .null, .int 0, .int 0, .int 0, .int 0, .int 0, .int 0])), (q1, .inl (cI, 1503, .inl (fun _ => 0))), (q2, .inl (cI, 1503, .inl (fun _ => 0)))] := hD
  refine W.widen (k := 2) (n := 3006) (by omega) (by omega) ?_
  refine va_putF (D := (dC, dI)) (ci := 12) (v := .ref q2) (ty := .array .int) (C := RX9) (T := TX9) (N := 10) hx hb ht itX9 tyX9 tyX9_ok nmX9 hown hK hP hD hS 0 rfl rfl 2 (by decide) (ht _ tw_49) (fun _ h9 => h9) rfl hin rfl (by decide +kernel) rfl rfl (Nat.le_of_ble_eq_true rfl) dX9_init_19 (fun H locs hP hD hS => ?_)
  have hP : va_P (dC, dI) vwCl [(a0_, .inr (12, [.null, .ref q1, .ref q2, .null, .int 0, .int 0, .int 0, .int 0, .int 0, .int 0])), (q1, .inl (cI, 1503, .inl (fun _ => 0))), (q2, .inl (cI, 1503, .inl (fun _ => 0)))] H := hP
  have hD : va_D A [(a0_, .inr (12, [.null, .ref q1, .ref q2, .null, .int 0, .int 0, .int 0, .int 0, .int 0, .int 0])), (q1, .inl (cI, 1503, .inl (fun _ => 0))), (q2, .inl (cI, 1503, .inl (fun _ => 0)))] := hD
  refine lv_aload_n hx hb dX9_init_22 rfl (lv_at hl 0 rfl) ?_
  refine lv_sipush (v := 1503) hx hb dX9_init_23 (by decide) ?_
  refine va_newE (atype := .int) (ty := .int) (a0 := (1503, .inl (fun _ => 0))) (cE := cI) hx hb (ht _ tw_3) rfl hK hP hD hS hA 0 rfl (fun _ => rfl) (by decide) (by decide) (by decide) (Nat.le_of_ble_eq_true rfl) (Nat.le_of_ble_eq_true rfl) dX9_init_26 (fun q3 H hP hD hS => ?_)
  have hP : va_P (dC, dI) vwCl [(a0_, .inr (12, [.null, .ref q1, .ref q2, .null, .int 0, .int 0, .int 0, .int 0, .int 0, .int 0])), (q1, .inl (cI, 1503, .inl (fun _ => 0))), (q2, .inl (cI, 1503, .inl (fun _ => 0))), (q3, .inl (cI, 1503, .inl (fun _ => 0)))] H := hP
  have hD : va_D A [(a0_, .inr (12, [.null, .ref q1, .ref q2, .null, .int 0, .int 0, .int 0, .int 0, .int 0, .int 0])), (q1, .inl (cI, 1503, .inl (fun _ => 0))), (q2, .inl (cI, 1503, .inl (fun _ => 0))), (q3, .inl (cI, 1503, .inl (fun _ => 0)))] := hD
  refine W.widen (k := 3) (n := 4509) (by omega) (by omega) ?_
  refine va_putF (D := (dC, dI)) (ci := 12) (v := .ref q3) (ty := .array .int) (C := RX9) (T := TX9) (N := 10) hx hb ht itX9 tyX9 tyX9_ok nmX9 hown hK hP hD hS 0 rfl rfl 3 (by decide) (ht _ tw_50) (fun _ h9 => h9) rfl hin rfl (by decide +kernel) rfl rfl (Nat.le_of_ble_eq_true rfl) dX9_init_28 (fun H locs hP hD hS => ?_)
  have hP : va_P (dC, dI) vwCl [(a0_, .inr (12, [.null, .ref q1, .ref q2, .ref q3, .int 0, .int 0, .int 0, .int 0, .int 0, .int 0])), (q1, .inl (cI, 1503, .inl (fun _ => 0))), (q2, .inl (cI, 1503, .inl (fun _ => 0))), (q3, .inl (cI, 1503, .inl (fun _ => 0)))] H := hP
  have hD : va_D A [(a0_, .inr (12, [.null, .ref q1, .ref q2, .ref q3, .int 0, .int 0, .int 0, .int 0, .int 0, .int 0])), (q1, .inl (cI, 1503, .inl (fun _ => 0))), (q2, .inl (cI, 1503, .inl (fun _ => 0))), (q3, .inl (cI, 1503, .inl (fun _ => 0)))] := hD
  refine lv_aload_n hx hb dX9_init_31 rfl (lv_at hl 0 rfl) ?_
  refine lv_aload_n hx hb dX9_init_32 rfl (lv_at hl 1 rfl) ?_
  refine va_put (D := (dC, dI)) (ci := 12) (v := .ref a1_) (ty := .object "PocketCompiler$Program") (C := RX9) (T := TX9) (N := 10) hx hb ht itX9 tyX9 tyX9_ok nmX9 hown hK hP hD hS 0 rfl rfl 0 (by decide) (ht _ tw_51) (fun _ h9 => h9) rfl (by decide +kernel) rfl rfl (Nat.le_of_ble_eq_true rfl) dX9_init_33 (fun H locs hP hD hS => ?_)
  have hP : va_P (dC, dI) vwCl [(a0_, .inr (12, [.ref a1_, .ref q1, .ref q2, .ref q3, .int 0, .int 0, .int 0, .int 0, .int 0, .int 0])), (q1, .inl (cI, 1503, .inl (fun _ => 0))), (q2, .inl (cI, 1503, .inl (fun _ => 0))), (q3, .inl (cI, 1503, .inl (fun _ => 0)))] H := hP
  have hD : va_D A [(a0_, .inr (12, [.ref a1_, .ref q1, .ref q2, .ref q3, .int 0, .int 0, .int 0, .int 0, .int 0, .int 0])), (q1, .inl (cI, 1503, .inl (fun _ => 0))), (q2, .inl (cI, 1503, .inl (fun _ => 0))), (q3, .inl (cI, 1503, .inl (fun _ => 0)))] := hD
  have hP9 := hP.sub (ws' := [(a0_, .inr (12, [.ref a1_, .ref q1, .ref q2, .ref q3, .int 0, .int 0, .int 0, .int 0, .int 0, .int 0])), (q1, .inl (cI, 1503, .inl (fun _ => 0))), (q2, .inl (cI, 1503, .inl (fun _ => 0))), (q3, .inl (cI, 1503, .inl (fun _ => 0)))]) [0, 1, 2, 3] rfl
  have hD9 := hD.sub (ws' := [(a0_, .inr (12, [.ref a1_, .ref q1, .ref q2, .ref q3, .int 0, .int 0, .int 0, .int 0, .int 0, .int 0])), (q1, .inl (cI, 1503, .inl (fun _ => 0))), (q2, .inl (cI, 1503, .inl (fun _ => 0))), (q3, .inl (cI, 1503, .inl (fun _ => 0)))]) [0, 1, 2, 3] (by decide) rfl
  refine W.widen (k := 3) (n := 4509) (by omega) (by omega) ?_
  exact W.vret hx hb hr (fun t ht9 hW => ⟨⟨(q1, q2, q3), rfl, trivial, by rw [ht9]; exact hP9, hD9⟩, hS.F ht9⟩) hS.2.2 dX9_init_36
set_option maxHeartbeats 4000000 in
set_option maxRecDepth 100000 in
/-- Parser -/
theorem c_X5_init (l : Launch) (dC : Nat → ClassId) (dI : Nat → Nat → Nat) (cI cB cZ cJ cR : ClassId) (tb : Nat → Nat) (sz : Nat) (a0_ : Nat) (a1_ : Nat)  : Met l yX5_init (Cond.code yX5_init cX5_init 2 none :: tw_W) ({ frames := 2, cells := 13, slots := 8879, locals := 34 }) (pc_ (dC, dI) (tyS cI cB cZ cJ cR) tb [(a0_, .inr (8, [.null, .null, .null, .null, .int 0, .int 0, .int 0]))] sz [.ref a0_, .ref a1_]) (qv_ (dC, dI) [(a0_, .inr (8, [.null, .null, .null, .null, .int 0, .int 0, .int 0]))] sz (fun (u : Nat × Nat × Nat × Nat × Nat × Nat × Nat × Nat × Nat × Nat × Nat × Nat × Nat) => True) (fun (u : Nat × Nat × Nat × Nat × Nat × Nat × Nat × Nat × Nat × Nat × Nat × Nat × Nat) => [(a0_, .inr (8, [.ref a1_, .ref u.1, .ref u.2.1, .ref u.2.2.1, .int 0, .int 0, .int 0])), (u.1, .inr (12, [.ref a1_, .ref u.2.2.2.1, .ref u.2.2.2.2.1, .ref u.2.2.2.2.2.1, .int 0, .int 0, .int 0, .int 0, .int 0, .int 0])), (u.2.2.2.1, .inl (cI, 1503, .inl (fun _ => 0))), (u.2.2.2.2.1, .inl (cI, 1503, .inl (fun _ => 0))), (u.2.2.2.2.2.1, .inl (cI, 1503, .inl (fun _ => 0))), (u.2.1, .inr (5, [.ref a1_, .ref u.2.2.2.2.2.2.1, .int 0, .int 0, .int 0, .int 0, .ref u.2.2.2.2.2.2.2.1, .int 0, .ref u.2.2.2.2.2.2.2.2.1, .ref u.2.2.2.2.2.2.2.2.2.1, .ref u.2.2.2.2.2.2.2.2.2.2.1, .int 0])), (u.2.2.1, .inr (6, [.ref u.1, .ref u.2.1, .ref u.2.2.2.2.2.2.2.2.2.2.2.1, .ref u.2.2.2.2.2.2.2.2.2.2.2.2, .int 0]))])) 13 8879 (va_A [(a0_, .inr (8, [.null, .null, .null, .null, .int 0, .int 0, .int 0]))] sz) := by
  refine Met.ofW (cc := cX5_init) (maxL := 2) (ret := none) (by decide) rfl ?_
  intro p e s m args below meth c s₁ B hml hv
  obtain ⟨rfl, hsz, hP, hKK, hD0, hFx⟩ := hv
  have hK := hKK.1
  have hx := B.exec
  have hb := B.bytes
  have hr := B.returns
  have ht : ∀ w ∈ tw_W, w.before _ s = true := fun w h => atoms_spec (ws := Cond.code yX5_init cX5_init 2 none :: tw_W) B.pre w (List.mem_cons_of_mem _ h)
  have hown : s.vm.findClass RX5 = some m.cls := findClass_of_methodNamed B.named
  have hlocks := B.notSynchronized
  have hin : meth.name = "<init>" := (name_of_methodNamed B.named B.method).1
  subst hsz
  unfold qv_
  have hD := hD0.self (sz := s.heap.size)
  generalize hAe : va_A [(a0_, .inr (8, [.null, .null, .null, .null, .int 0, .int 0, .int 0]))] s.heap.size = A at hD hFx ⊢
  have hA : ∀ q : Nat, s.heap.size ≤ q → A q := fun q h => by rw [← hAe]; exact Or.inr h
  have hS : va_S A s.heap s.heap [] := va_S.rf
  have hP : va_P (dC, dI) vwCl [(a0_, .inr (8, [.null, .null, .null, .null, .int 0, .int 0, .int 0]))] s.heap := hP
  have hl := lv_entry ([.ref a0_, .ref a1_]) (n := 2) (Nat.le_of_ble_eq_true rfl)
  rw [lg_entry_eq]
  generalize (lg_sl ([.ref a0_, .ref a1_]) ++ List.replicate (2 - (lg_sl ([.ref a0_, .ref a1_])).length) Slot.unset).toArray = ls at hl ⊢
  have hl : lv_has ls 2 [(0, .ref a0_), (1, .ref a1_)] := hl
  refine lv_aload_n hx hb dX5_init_0 rfl (lv_at hl 0 rfl) ?_
  refine W.objInit hx hb hown (ht _ tw_42) (ht _ tw_1) (ht _ tw_2) rfl (by rw [hml]; exact hl.1) rfl dX5_init_1 (Nat.le_of_ble_eq_true rfl) (Nat.le_of_ble_eq_true rfl) ?_
  refine W.eq (g2 := F0 m 4 ls []) rfl ?_
  refine lv_aload_n hx hb dX5_init_4 rfl (lv_at hl 0 rfl) ?_
  refine lv_aload_n hx hb dX5_init_5 rfl (lv_at hl 1 rfl) ?_
  refine va_put (D := (dC, dI)) (ci := 8) (v := .ref a1_) (ty := .object "PocketCompiler$Program") (C := RX5) (T := TX5) (N := 7) hx hb ht itX5 tyX5 tyX5_ok nmX5 hown hK hP hD hS 0 rfl rfl 0 (by decide) (ht _ tw_43) (fun _ h9 => h9) rfl (by decide +kernel) rfl rfl (Nat.le_of_ble_eq_true rfl) dX5_init_6 (fun H locs hP hD hS => ?_)
  have hP : va_P (dC, dI) vwCl [(a0_, .inr (8, [.ref a1_, .null, .null, .null, .int 0, .int 0, .int 0]))] H := hP
  have hD : va_D A [(a0_, .inr (8, [.ref a1_, .null, .null, .null, .int 0, .int 0, .int 0]))] := hD
  refine lv_aload_n hx hb dX5_init_9 rfl (lv_at hl 0 rfl) ?_
  refine va_new (ci := 12) (fs := [.null, .null, .null, .null, .int 0, .int 0, .int 0, .int 0, .int 0, .int 0]) (C := RX9) (T := TX9) (N := 10) hx hb ht itX9 tyX9 tyX9_ok hown (ht _ tw_44) (ht _ tw_45) (ht _ tw_46) hK hP hD hS hA rfl (by decide +kernel) (Nat.le_of_ble_eq_true rfl) (Nat.le_of_ble_eq_true rfl) dX5_init_10 (fun q1 H hP hD hS => ?_)
  have hP : va_P (dC, dI) vwCl [(a0_, .inr (8, [.ref a1_, .null, .null, .null, .int 0, .int 0, .int 0])), (q1, .inr (12, [.null, .null, .null, .null, .int 0, .int 0, .int 0, .int 0, .int 0, .int 0]))] H := hP
  have hD : va_D A [(a0_, .inr (8, [.ref a1_, .null, .null, .null, .int 0, .int 0, .int 0])), (q1, .inr (12, [.null, .null, .null, .null, .int 0, .int 0, .int 0, .int 0, .int 0, .int 0]))] := hD
  refine W.widen (k := 1) (n := 10) (by omega) (by omega) ?_
  refine lv_dup hx hb dX5_init_13 rfl ?_
  refine lv_aload_n hx hb dX5_init_14 rfl (lv_at hl 1 rfl) ?_
  refine ca_v (wr := [(a0_, .inr (8, [.ref a1_, .null, .null, .null, .int 0, .int 0, .int 0]))]) (rn_I (n := 1) (As := [.ref a1_]) (rest := [.ref q1, .ref a0_]) hx hb hml hown ht hKK hFx hP hD hS hA (c_X9_init l dC dI cI cB cZ cJ cR tb H.size q1 a1_) tw_52 tw_53 tw_54 tw_55 rfl (by decide +kernel) rfl rfl ⟨Nat.le_of_ble_eq_true rfl, Nat.le_of_ble_eq_true rfl⟩ [1] rfl (by decide) rfl hl.1 rfl (Nat.le_of_ble_eq_true rfl) dX5_init_15 ⟨Nat.le_of_ble_eq_true rfl, Nat.le_of_ble_eq_true rfl⟩) hP hD hS hA (isC := [1]) (isR := [0]) rfl rfl (by decide) (by decide) (fun u H locs hw2 hP hD hS => ?_)
  obtain ⟨q3, q4, q5⟩ := u
  have hP : va_P (dC, dI) vwCl [(a0_, .inr (8, [.ref a1_, .null, .null, .null, .int 0, .int 0, .int 0])), (q1, .inr (12, [.ref a1_, .ref q3, .ref q4, .ref q5, .int 0, .int 0, .int 0, .int 0, .int 0, .int 0])), (q3, .inl (cI, 1503, .inl (fun _ => 0))), (q4, .inl (cI, 1503, .inl (fun _ => 0))), (q5, .inl (cI, 1503, .inl (fun _ => 0)))] H := hP
  have hD : va_D A [(a0_, .inr (8, [.ref a1_, .null, .null, .null, .int 0, .int 0, .int 0])), (q1, .inr (12, [.ref a1_, .ref q3, .ref q4, .ref q5, .int 0, .int 0, .int 0, .int 0, .int 0, .int 0])), (q3, .inl (cI, 1503, .inl (fun _ => 0))), (q4, .inl (cI, 1503, .inl (fun _ => 0))), (q5, .inl (cI, 1503, .inl (fun _ => 0)))] := hD
  refine W.widen (k := 4) (n := 4519) (by omega) (by omega) ?_
  refine va_putF (D := (dC, dI)) (ci := 8) (v := .ref q1) (ty := .object "PocketCompiler$Tokens") (C := RX5) (T := TX5) (N := 7) hx hb ht itX5 tyX5 tyX5_ok nmX5 hown hK hP hD hS 0 rfl rfl 1 (by decide) (ht _ tw_56) (fun _ h9 => h9) rfl hin rfl (by decide +kernel) rfl rfl (Nat.le_of_ble_eq_true rfl) dX5_init_18 (fun H locs hP hD hS => ?_)
  have hP : va_P (dC, dI) vwCl [(a0_, .inr (8, [.ref a1_, .ref q1, .null, .null, .int 0, .int 0, .int 0])), (q1, .inr (12, [.ref a1_, .ref q3, .ref q4, .ref q5, .int 0, .int 0, .int 0, .int 0, .int 0, .int 0])), (q3, .inl (cI, 1503, .inl (fun _ => 0))), (q4, .inl (cI, 1503, .inl (fun _ => 0))), (q5, .inl (cI, 1503, .inl (fun _ => 0)))] H := hP
  have hD : va_D A [(a0_, .inr (8, [.ref a1_, .ref q1, .null, .null, .int 0, .int 0, .int 0])), (q1, .inr (12, [.ref a1_, .ref q3, .ref q4, .ref q5, .int 0, .int 0, .int 0, .int 0, .int 0, .int 0])), (q3, .inl (cI, 1503, .inl (fun _ => 0))), (q4, .inl (cI, 1503, .inl (fun _ => 0))), (q5, .inl (cI, 1503, .inl (fun _ => 0)))] := hD
  refine lv_aload_n hx hb dX5_init_21 rfl (lv_at hl 0 rfl) ?_
  refine va_new (ci := 5) (fs := [.null, .null, .int 0, .int 0, .int 0, .int 0, .null, .int 0, .null, .null, .null, .int 0]) (C := RX1) (T := TX1) (N := 12) hx hb ht itX1 tyX1 tyX1_ok hown (ht _ tw_57) (ht _ tw_58) (ht _ tw_59) hK hP hD hS hA rfl (by decide +kernel) (Nat.le_of_ble_eq_true rfl) (Nat.le_of_ble_eq_true rfl) dX5_init_22 (fun q6 H hP hD hS => ?_)
  have hP : va_P (dC, dI) vwCl [(a0_, .inr (8, [.ref a1_, .ref q1, .null, .null, .int 0, .int 0, .int 0])), (q1, .inr (12, [.ref a1_, .ref q3, .ref q4, .ref q5, .int 0, .int 0, .int 0, .int 0, .int 0, .int 0])), (q3, .inl (cI, 1503, .inl (fun _ => 0))), (q4, .inl (cI, 1503, .inl (fun _ => 0))), (q5, .inl (cI, 1503, .inl (fun _ => 0))), (q6, .inr (5, [.null, .null, .int 0, .int 0, .int 0, .int 0, .null, .int 0, .null, .null, .null, .int 0]))] H := hP
  have hD : va_D A [(a0_, .inr (8, [.ref a1_, .ref q1, .null, .null, .int 0, .int 0, .int 0])), (q1, .inr (12, [.ref a1_, .ref q3, .ref q4, .ref q5, .int 0, .int 0, .int 0, .int 0, .int 0, .int 0])), (q3, .inl (cI, 1503, .inl (fun _ => 0))), (q4, .inl (cI, 1503, .inl (fun _ => 0))), (q5, .inl (cI, 1503, .inl (fun _ => 0))), (q6, .inr (5, [.null, .null, .int 0, .int 0, .int 0, .int 0, .null, .int 0, .null, .null, .null, .int 0]))] := hD
  refine W.widen (k := 5) (n := 4531) (by omega) (by omega) ?_
  refine lv_dup hx hb dX5_init_25 rfl ?_
  refine lv_aload_n hx hb dX5_init_26 rfl (lv_at hl 1 rfl) ?_
  refine ca_v (wr := [(a0_, .inr (8, [.ref a1_, .ref q1, .null, .null, .int 0, .int 0, .int 0])), (q1, .inr (12, [.ref a1_, .ref q3, .ref q4, .ref q5, .int 0, .int 0, .int 0, .int 0, .int 0, .int 0])), (q3, .inl (cI, 1503, .inl (fun _ => 0))), (q4, .inl (cI, 1503, .inl (fun _ => 0))), (q5, .inl (cI, 1503, .inl (fun _ => 0)))]) (rn_I (n := 1) (As := [.ref a1_]) (rest := [.ref q6, .ref a0_]) hx hb hml hown ht hKK hFx hP hD hS hA (c_X1_init l dC dI cI cB cZ cJ cR tb H.size q6 a1_) tw_60 tw_61 tw_62 tw_63 rfl (by decide +kernel) rfl rfl ⟨Nat.le_of_ble_eq_true rfl, Nat.le_of_ble_eq_true rfl⟩ [5] rfl (by decide) rfl hl.1 rfl (Nat.le_of_ble_eq_true rfl) dX5_init_27 ⟨Nat.le_of_ble_eq_true rfl, Nat.le_of_ble_eq_true rfl⟩) hP hD hS hA (isC := [5]) (isR := [0, 1, 2, 3, 4]) rfl rfl (by decide) (by decide) (fun u H locs hw7 hP hD hS => ?_)
  obtain ⟨q8, q9, q10, q11, q12⟩ := u
  have hP : va_P (dC, dI) vwCl [(a0_, .inr (8, [.ref a1_, .ref q1, .null, .null, .int 0, .int 0, .int 0])), (q1, .inr (12, [.ref a1_, .ref q3, .ref q4, .ref q5, .int 0, .int 0, .int 0, .int 0, .int 0, .int 0])), (q3, .inl (cI, 1503, .inl (fun _ => 0))), (q4, .inl (cI, 1503, .inl (fun _ => 0))), (q5, .inl (cI, 1503, .inl (fun _ => 0))), (q6, .inr (5, [.ref a1_, .ref q8, .int 0, .int 0, .int 0, .int 0, .ref q9, .int 0, .ref q10, .ref q11, .ref q12, .int 0]))] H := hP
  have hD : va_D A [(a0_, .inr (8, [.ref a1_, .ref q1, .null, .null, .int 0, .int 0, .int 0])), (q1, .inr (12, [.ref a1_, .ref q3, .ref q4, .ref q5, .int 0, .int 0, .int 0, .int 0, .int 0, .int 0])), (q3, .inl (cI, 1503, .inl (fun _ => 0))), (q4, .inl (cI, 1503, .inl (fun _ => 0))), (q5, .inl (cI, 1503, .inl (fun _ => 0))), (q6, .inr (5, [.ref a1_, .ref q8, .int 0, .int 0, .int 0, .int 0, .ref q9, .int 0, .ref q10, .ref q11, .ref q12, .int 0]))] := hD
  refine W.widen (k := 10) (n := 8034) (by omega) (by omega) ?_
  refine va_putF (D := (dC, dI)) (ci := 8) (v := .ref q6) (ty := .object "PocketCompiler$Builder") (C := RX5) (T := TX5) (N := 7) hx hb ht itX5 tyX5 tyX5_ok nmX5 hown hK hP hD hS 0 rfl rfl 2 (by decide) (ht _ tw_64) (fun _ h9 => h9) rfl hin rfl (by decide +kernel) rfl rfl (Nat.le_of_ble_eq_true rfl) dX5_init_30 (fun H locs hP hD hS => ?_)
  have hP : va_P (dC, dI) vwCl [(a0_, .inr (8, [.ref a1_, .ref q1, .ref q6, .null, .int 0, .int 0, .int 0])), (q1, .inr (12, [.ref a1_, .ref q3, .ref q4, .ref q5, .int 0, .int 0, .int 0, .int 0, .int 0, .int 0])), (q3, .inl (cI, 1503, .inl (fun _ => 0))), (q4, .inl (cI, 1503, .inl (fun _ => 0))), (q5, .inl (cI, 1503, .inl (fun _ => 0))), (q6, .inr (5, [.ref a1_, .ref q8, .int 0, .int 0, .int 0, .int 0, .ref q9, .int 0, .ref q10, .ref q11, .ref q12, .int 0]))] H := hP
  have hD : va_D A [(a0_, .inr (8, [.ref a1_, .ref q1, .ref q6, .null, .int 0, .int 0, .int 0])), (q1, .inr (12, [.ref a1_, .ref q3, .ref q4, .ref q5, .int 0, .int 0, .int 0, .int 0, .int 0, .int 0])), (q3, .inl (cI, 1503, .inl (fun _ => 0))), (q4, .inl (cI, 1503, .inl (fun _ => 0))), (q5, .inl (cI, 1503, .inl (fun _ => 0))), (q6, .inr (5, [.ref a1_, .ref q8, .int 0, .int 0, .int 0, .int 0, .ref q9, .int 0, .ref q10, .ref q11, .ref q12, .int 0]))] := hD
  refine lv_aload_n hx hb dX5_init_33 rfl (lv_at hl 0 rfl) ?_
  refine va_new (ci := 6) (fs := [.null, .null, .null, .null, .int 0]) (C := RX2) (T := TX2) (N := 5) hx hb ht itX2 tyX2 tyX2_ok hown (ht _ tw_65) (ht _ tw_66) (ht _ tw_67) hK hP hD hS hA rfl (by decide +kernel) (Nat.le_of_ble_eq_true rfl) (Nat.le_of_ble_eq_true rfl) dX5_init_34 (fun q13 H hP hD hS => ?_)
  have hP : va_P (dC, dI) vwCl [(a0_, .inr (8, [.ref a1_, .ref q1, .ref q6, .null, .int 0, .int 0, .int 0])), (q1, .inr (12, [.ref a1_, .ref q3, .ref q4, .ref q5, .int 0, .int 0, .int 0, .int 0, .int 0, .int 0])), (q3, .inl (cI, 1503, .inl (fun _ => 0))), (q4, .inl (cI, 1503, .inl (fun _ => 0))), (q5, .inl (cI, 1503, .inl (fun _ => 0))), (q6, .inr (5, [.ref a1_, .ref q8, .int 0, .int 0, .int 0, .int 0, .ref q9, .int 0, .ref q10, .ref q11, .ref q12, .int 0])), (q13, .inr (6, [.null, .null, .null, .null, .int 0]))] H := hP
  have hD : va_D A [(a0_, .inr (8, [.ref a1_, .ref q1, .ref q6, .null, .int 0, .int 0, .int 0])), (q1, .inr (12, [.ref a1_, .ref q3, .ref q4, .ref q5, .int 0, .int 0, .int 0, .int 0, .int 0, .int 0])), (q3, .inl (cI, 1503, .inl (fun _ => 0))), (q4, .inl (cI, 1503, .inl (fun _ => 0))), (q5, .inl (cI, 1503, .inl (fun _ => 0))), (q6, .inr (5, [.ref a1_, .ref q8, .int 0, .int 0, .int 0, .int 0, .ref q9, .int 0, .ref q10, .ref q11, .ref q12, .int 0])), (q13, .inr (6, [.null, .null, .null, .null, .int 0]))] := hD
  refine W.widen (k := 11) (n := 8039) (by omega) (by omega) ?_
  refine lv_dup hx hb dX5_init_37 rfl ?_
  refine lv_aload_n hx hb dX5_init_38 rfl (lv_at hl 0 rfl) ?_
  refine va_get (D := (dC, dI)) (ci := 8) (v := .ref q1) (C := RX5) (T := TX5) (N := 7) hx hb ht itX5 hown hK hP 0 rfl rfl 1 (by decide) (ht _ tw_56) (fun _ h9 => h9) rfl dX5_init_39 ?_
  refine lv_aload_n hx hb dX5_init_42 rfl (lv_at hl 0 rfl) ?_
  refine va_get (D := (dC, dI)) (ci := 8) (v := .ref q6) (C := RX5) (T := TX5) (N := 7) hx hb ht itX5 hown hK hP 0 rfl rfl 2 (by decide) (ht _ tw_64) (fun _ h9 => h9) rfl dX5_init_43 ?_
  refine ca_v (wr := [(a0_, .inr (8, [.ref a1_, .ref q1, .ref q6, .null, .int 0, .int 0, .int 0])), (q1, .inr (12, [.ref a1_, .ref q3, .ref q4, .ref q5, .int 0, .int 0, .int 0, .int 0, .int 0, .int 0])), (q3, .inl (cI, 1503, .inl (fun _ => 0))), (q4, .inl (cI, 1503, .inl (fun _ => 0))), (q5, .inl (cI, 1503, .inl (fun _ => 0))), (q6, .inr (5, [.ref a1_, .ref q8, .int 0, .int 0, .int 0, .int 0, .ref q9, .int 0, .ref q10, .ref q11, .ref q12, .int 0]))]) (rn_I (n := 2) (As := [.ref q1, .ref q6]) (rest := [.ref q13, .ref a0_]) hx hb hml hown ht hKK hFx hP hD hS hA (c_X2_init l dC dI cI cB cZ cJ cR tb H.size q13 q1 q6) tw_68 tw_69 tw_70 tw_71 rfl (by decide +kernel) rfl rfl ⟨Nat.le_of_ble_eq_true rfl, Nat.le_of_ble_eq_true rfl⟩ [6] rfl (by decide) rfl hl.1 rfl (Nat.le_of_ble_eq_true rfl) dX5_init_46 ⟨Nat.le_of_ble_eq_true rfl, Nat.le_of_ble_eq_true rfl⟩) hP hD hS hA (isC := [6]) (isR := [0, 1, 2, 3, 4, 5]) rfl rfl (by decide) (by decide) (fun u H locs hw14 hP hD hS => ?_)
  obtain ⟨q15, q16⟩ := u
  have hP : va_P (dC, dI) vwCl [(a0_, .inr (8, [.ref a1_, .ref q1, .ref q6, .null, .int 0, .int 0, .int 0])), (q1, .inr (12, [.ref a1_, .ref q3, .ref q4, .ref q5, .int 0, .int 0, .int 0, .int 0, .int 0, .int 0])), (q3, .inl (cI, 1503, .inl (fun _ => 0))), (q4, .inl (cI, 1503, .inl (fun _ => 0))), (q5, .inl (cI, 1503, .inl (fun _ => 0))), (q6, .inr (5, [.ref a1_, .ref q8, .int 0, .int 0, .int 0, .int 0, .ref q9, .int 0, .ref q10, .ref q11, .ref q12, .int 0])), (q13, .inr (6, [.ref q1, .ref q6, .ref q15, .ref q16, .int 0]))] H := hP
  have hD : va_D A [(a0_, .inr (8, [.ref a1_, .ref q1, .ref q6, .null, .int 0, .int 0, .int 0])), (q1, .inr (12, [.ref a1_, .ref q3, .ref q4, .ref q5, .int 0, .int 0, .int 0, .int 0, .int 0, .int 0])), (q3, .inl (cI, 1503, .inl (fun _ => 0))), (q4, .inl (cI, 1503, .inl (fun _ => 0))), (q5, .inl (cI, 1503, .inl (fun _ => 0))), (q6, .inr (5, [.ref a1_, .ref q8, .int 0, .int 0, .int 0, .int 0, .ref q9, .int 0, .ref q10, .ref q11, .ref q12, .int 0])), (q13, .inr (6, [.ref q1, .ref q6, .ref q15, .ref q16, .int 0]))] := hD
  refine W.widen (k := 13) (n := 8879) (by omega) (by omega) ?_
  refine va_putF (D := (dC, dI)) (ci := 8) (v := .ref q13) (ty := .object "PocketCompiler$Expressions") (C := RX5) (T := TX5) (N := 7) hx hb ht itX5 tyX5 tyX5_ok nmX5 hown hK hP hD hS 0 rfl rfl 3 (by decide) (ht _ tw_72) (fun _ h9 => h9) rfl hin rfl (by decide +kernel) rfl rfl (Nat.le_of_ble_eq_true rfl) dX5_init_49 (fun H locs hP hD hS => ?_)
  have hP : va_P (dC, dI) vwCl [(a0_, .inr (8, [.ref a1_, .ref q1, .ref q6, .ref q13, .int 0, .int 0, .int 0])), (q1, .inr (12, [.ref a1_, .ref q3, .ref q4, .ref q5, .int 0, .int 0, .int 0, .int 0, .int 0, .int 0])), (q3, .inl (cI, 1503, .inl (fun _ => 0))), (q4, .inl (cI, 1503, .inl (fun _ => 0))), (q5, .inl (cI, 1503, .inl (fun _ => 0))), (q6, .inr (5, [.ref a1_, .ref q8, .int 0, .int 0, .int 0, .int 0, .ref q9, .int 0, .ref q10, .ref q11, .ref q12, .int 0])), (q13, .inr (6, [.ref q1, .ref q6, .ref q15, .ref q16, .int 0]))] H := hP
  have hD : va_D A [(a0_, .inr (8, [.ref a1_, .ref q1, .ref q6, .ref q13, .int 0, .int 0, .int 0])), (q1, .inr (12, [.ref a1_, .ref q3, .ref q4, .ref q5, .int 0, .int 0, .int 0, .int 0, .int 0, .int 0])), (q3, .inl (cI, 1503, .inl (fun _ => 0))), (q4, .inl (cI, 1503, .inl (fun _ => 0))), (q5, .inl (cI, 1503, .inl (fun _ => 0))), (q6, .inr (5, [.ref a1_, .ref q8, .int 0, .int 0, .int 0, .int 0, .ref q9, .int 0, .ref q10, .ref q11, .ref q12, .int 0])), (q13, .inr (6, [.ref q1, .ref q6, .ref q15, .ref q16, .int 0]))] := hD
  have hP9 := hP.sub (ws' := [(a0_, .inr (8, [.ref a1_, .ref q1, .ref q6, .ref q13, .int 0, .int 0, .int 0])), (q1, .inr (12, [.ref a1_, .ref q3, .ref q4, .ref q5, .int 0, .int 0, .int 0, .int 0, .int 0, .int 0])), (q3, .inl (cI, 1503, .inl (fun _ => 0))), (q4, .inl (cI, 1503, .inl (fun _ => 0))), (q5, .inl (cI, 1503, .inl (fun _ => 0))), (q6, .inr (5, [.ref a1_, .ref q8, .int 0, .int 0, .int 0, .int 0, .ref q9, .int 0, .ref q10, .ref q11, .ref q12, .int 0])), (q13, .inr (6, [.ref q1, .ref q6, .ref q15, .ref q16, .int 0]))]) [0, 1, 2, 3, 4, 5, 6] rfl
  have hD9 := hD.sub (ws' := [(a0_, .inr (8, [.ref a1_, .ref q1, .ref q6, .ref q13, .int 0, .int 0, .int 0])), (q1, .inr (12, [.ref a1_, .ref q3, .ref q4, .ref q5, .int 0, .int 0, .int 0, .int 0, .int 0, .int 0])), (q3, .inl (cI, 1503, .inl (fun _ => 0))), (q4, .inl (cI, 1503, .inl (fun _ => 0))), (q5, .inl (cI, 1503, .inl (fun _ => 0))), (q6, .inr (5, [.ref a1_, .ref q8, .int 0, .int 0, .int 0, .int 0, .ref q9, .int 0, .ref q10, .ref q11, .ref q12, .int 0])), (q13, .inr (6, [.ref q1, .ref q6, .ref q15, .ref q16, .int 0]))]) [0, 1, 2, 3, 4, 5, 6] (by decide) rfl
  refine W.widen (k := 13) (n := 8879) (by omega) (by omega) ?_
  exact W.vret hx hb hr (fun t ht9 hW => ⟨⟨(q1, q6, q13, q3, q4, q5, q8, q9, q10, q11, q12, q15, q16), rfl, trivial, by rw [ht9]; exact hP9, hD9⟩, hS.F ht9⟩) hS.2.2 dX5_init_52
set_option maxHeartbeats 4000000 in
set_option maxRecDepth 100000 in
/-- Assembler -/
theorem c_X0_init (l : Launch) (dC : Nat → ClassId) (dI : Nat → Nat → Nat) (cI cB cZ cJ cR : ClassId) (tb : Nat → Nat) (sz : Nat) (a0_ : Nat) (a1_ : Nat) (N : Nat) (hf_N_0 : 256 ≤ N) (hf_N_1 : N ≤ 4096) : Met l yX0_init (Cond.code yX0_init cX0_init 3 none :: tw_W) ({ frames := 1, cells := 1, slots := 3009, locals := 12 }) (pc_ (dC, dI) (tyS cI cB cZ cJ cR) tb [(a0_, .inr (4, [.null, .int 0, .null, .int 0, .int 0, .int 0, .int 0, .int 0, .int 0]))] sz [.ref a0_, .ref a1_, .int (nI N)]) (qv_ (dC, dI) [(a0_, .inr (4, [.null, .int 0, .null, .int 0, .int 0, .int 0, .int 0, .int 0, .int 0]))] sz (fun (u : Nat) => True) (fun (u : Nat) => [(a0_, .inr (4, [.ref a1_, .int (4 * (nI N)), .ref u, .int 0, .int 0, .int 0, .int 0, .int 0, .int 0]))])) 1 3009 (va_A [(a0_, .inr (4, [.null, .int 0, .null, .int 0, .int 0, .int 0, .int 0, .int 0, .int 0]))] sz) := by
  refine Met.ofW (cc := cX0_init) (maxL := 3) (ret := none) (by decide) rfl ?_
  intro p e s m args below meth c s₁ B hml hv
  obtain ⟨rfl, hsz, hP, hKK, hD0, hFx⟩ := hv
  have hK := hKK.1
  have hx := B.exec
  have hb := B.bytes
  have hr := B.returns
  have ht : ∀ w ∈ tw_W, w.before _ s = true := fun w h => atoms_spec (ws := Cond.code yX0_init cX0_init 3 none :: tw_W) B.pre w (List.mem_cons_of_mem _ h)
  have hown : s.vm.findClass RX0 = some m.cls := findClass_of_methodNamed B.named
  have hlocks := B.notSynchronized
  have hin : meth.name = "<init>" := (name_of_methodNamed B.named B.method).1
  subst hsz
  unfold qv_
  have hD := hD0.self (sz := s.heap.size)
  generalize hAe : va_A [(a0_, .inr (4, [.null, .int 0, .null, .int 0, .int 0, .int 0, .int 0, .int 0, .int 0]))] s.heap.size = A at hD hFx ⊢
  have hA : ∀ q : Nat, s.heap.size ≤ q → A q := fun q h => by rw [← hAe]; exact Or.inr h
  have hS : va_S A s.heap s.heap [] := va_S.rf
  have hP : va_P (dC, dI) vwCl [(a0_, .inr (4, [.null, .int 0, .null, .int 0, .int 0, .int 0, .int 0, .int 0, .int 0]))] s.heap := hP
  have hl := lv_entry ([.ref a0_, .ref a1_, .int (nI N)]) (n := 3) (Nat.le_of_ble_eq_true rfl)
  rw [lg_entry_eq]
  generalize (lg_sl ([.ref a0_, .ref a1_, .int (nI N)]) ++ List.replicate (3 - (lg_sl ([.ref a0_, .ref a1_, .int (nI N)])).length) Slot.unset).toArray = ls at hl ⊢
  have hl : lv_has ls 3 [(0, .ref a0_), (1, .ref a1_), (2, .int (nI N))] := hl
  refine lv_aload_n hx hb dX0_init_0 rfl (lv_at hl 0 rfl) ?_
  refine W.objInit hx hb hown (ht _ tw_73) (ht _ tw_1) (ht _ tw_2) rfl (by rw [hml]; exact hl.1) rfl dX0_init_1 (Nat.le_of_ble_eq_true rfl) (Nat.le_of_ble_eq_true rfl) ?_
  refine W.eq (g2 := F0 m 4 ls []) rfl ?_
  refine lv_aload_n hx hb dX0_init_4 rfl (lv_at hl 0 rfl) ?_
  refine lv_sipush (v := 3009) hx hb dX0_init_5 (by decide) ?_
  refine va_newE (atype := .int) (ty := .int) (a0 := (3009, .inl (fun _ => 0))) (cE := cI) hx hb (ht _ tw_3) rfl hK hP hD hS hA 0 rfl (fun _ => rfl) (by decide) (by decide) (by decide) (Nat.le_of_ble_eq_true rfl) (Nat.le_of_ble_eq_true rfl) dX0_init_8 (fun q1 H hP hD hS => ?_)
  have hP : va_P (dC, dI) vwCl [(a0_, .inr (4, [.null, .int 0, .null, .int 0, .int 0, .int 0, .int 0, .int 0, .int 0])), (q1, .inl (cI, 3009, .inl (fun _ => 0)))] H := hP
  have hD : va_D A [(a0_, .inr (4, [.null, .int 0, .null, .int 0, .int 0, .int 0, .int 0, .int 0, .int 0])), (q1, .inl (cI, 3009, .inl (fun _ => 0)))] := hD
  refine W.widen (k := 1) (n := 3009) (by omega) (by omega) ?_
  refine va_putF (D := (dC, dI)) (ci := 4) (v := .ref q1) (ty := .array .int) (C := RX0) (T := TX0) (N := 9) hx hb ht itX0 tyX0 tyX0_ok nmX0 hown hK hP hD hS 0 rfl rfl 2 (by decide) (ht _ tw_74) (fun _ h9 => h9) rfl hin rfl (by decide +kernel) rfl rfl (Nat.le_of_ble_eq_true rfl) dX0_init_10 (fun H locs hP hD hS => ?_)
  have hP : va_P (dC, dI) vwCl [(a0_, .inr (4, [.null, .int 0, .ref q1, .int 0, .int 0, .int 0, .int 0, .int 0, .int 0])), (q1, .inl (cI, 3009, .inl (fun _ => 0)))] H := hP
  have hD : va_D A [(a0_, .inr (4, [.null, .int 0, .ref q1, .int 0, .int 0, .int 0, .int 0, .int 0, .int 0])), (q1, .inl (cI, 3009, .inl (fun _ => 0)))] := hD
  refine lv_aload_n hx hb dX0_init_13 rfl (lv_at hl 0 rfl) ?_
  refine lv_aload_n hx hb dX0_init_14 rfl (lv_at hl 1 rfl) ?_
  refine va_put (D := (dC, dI)) (ci := 4) (v := .ref a1_) (ty := .object "PocketCompiler$Program") (C := RX0) (T := TX0) (N := 9) hx hb ht itX0 tyX0 tyX0_ok nmX0 hown hK hP hD hS 0 rfl rfl 0 (by decide) (ht _ tw_75) (fun _ h9 => h9) rfl (by decide +kernel) rfl rfl (Nat.le_of_ble_eq_true rfl) dX0_init_15 (fun H locs hP hD hS => ?_)
  have hP : va_P (dC, dI) vwCl [(a0_, .inr (4, [.ref a1_, .int 0, .ref q1, .int 0, .int 0, .int 0, .int 0, .int 0, .int 0])), (q1, .inl (cI, 3009, .inl (fun _ => 0)))] H := hP
  have hD : va_D A [(a0_, .inr (4, [.ref a1_, .int 0, .ref q1, .int 0, .int 0, .int 0, .int 0, .int 0, .int 0])), (q1, .inl (cI, 3009, .inl (fun _ => 0)))] := hD
  refine lv_aload_n hx hb dX0_init_18 rfl (lv_at hl 0 rfl) ?_
  refine lv_iconst (v := 4) hx hb dX0_init_19 (by decide) ?_
  refine lv_iload_n hx hb dX0_init_20 rfl (lv_at hl 2 rfl) ?_
  refine lv_imul hx hb dX0_init_21 ?_
  refine va_putF (D := (dC, dI)) (ci := 4) (v := .int (4 * (nI N))) (ty := .int) (C := RX0) (T := TX0) (N := 9) hx hb ht itX0 tyX0 tyX0_ok nmX0 hown hK hP hD hS 0 rfl rfl 1 (by decide) (ht _ tw_76) (fun _ h9 => h9) rfl hin rfl (by decide +kernel) rfl rfl (Nat.le_of_ble_eq_true rfl) dX0_init_22 (fun H locs hP hD hS => ?_)
  have hP : va_P (dC, dI) vwCl [(a0_, .inr (4, [.ref a1_, .int (4 * (nI N)), .ref q1, .int 0, .int 0, .int 0, .int 0, .int 0, .int 0])), (q1, .inl (cI, 3009, .inl (fun _ => 0)))] H := hP
  have hD : va_D A [(a0_, .inr (4, [.ref a1_, .int (4 * (nI N)), .ref q1, .int 0, .int 0, .int 0, .int 0, .int 0, .int 0])), (q1, .inl (cI, 3009, .inl (fun _ => 0)))] := hD
  have hP9 := hP.sub (ws' := [(a0_, .inr (4, [.ref a1_, .int (4 * (nI N)), .ref q1, .int 0, .int 0, .int 0, .int 0, .int 0, .int 0]))]) [0] rfl
  have hD9 := hD.sub (ws' := [(a0_, .inr (4, [.ref a1_, .int (4 * (nI N)), .ref q1, .int 0, .int 0, .int 0, .int 0, .int 0, .int 0]))]) [0] (by decide) rfl
  refine W.widen (k := 1) (n := 3009) (by omega) (by omega) ?_
  exact W.vret hx hb hr (fun t ht9 hW => ⟨⟨q1, rfl, trivial, by rw [ht9]; exact hP9, hD9⟩, hS.F ht9⟩) hS.2.2 dX0_init_25
set_option maxHeartbeats 4000000 in
set_option maxRecDepth 100000 in
/-- Worker -/
theorem c_X10_init (l : Launch) (dC : Nat → ClassId) (dI : Nat → Nat → Nat) (cI cB cZ cJ cR : ClassId) (tb : Nat → Nat) (sz : Nat) (a0_ : Nat) (a1_ : Nat) (N : Nat) (a2_ : Nat) (hf_N_0 : 256 ≤ N) (hf_N_1 : N ≤ 4096) : Met l yX10_init (Cond.code yX10_init cX10_init 4 none :: tw_W) ({ frames := 1, cells := 3, slots := 8392, locals := 12 }) (pc_ (dC, dI) (tyS cI cB cZ cJ cR) tb [(a0_, .inr (13, [.null, .null, .int 0, .null, .null, .null, .int 0, .int 0, .int 0, .int 0, .int 0, .int 0, .int 0, .int 0, .int 0, .int 0, .int 0]))] sz [.ref a0_, .ref a1_, .int (nI N), .ref a2_]) (qv_ (dC, dI) [(a0_, .inr (13, [.null, .null, .int 0, .null, .null, .null, .int 0, .int 0, .int 0, .int 0, .int 0, .int 0, .int 0, .int 0, .int 0, .int 0, .int 0]))] sz (fun (u : Nat × Nat × Nat) => True) (fun (u : Nat × Nat × Nat) => [(a0_, .inr (13, [.ref a1_, .ref a2_, .int (4 * (nI N)), .ref u.1, .ref u.2.1, .ref u.2.2, .int 0, .int 0, .int 0, .int 0, .int 0, .int 0, .int 0, .int 0, .int 0, .int 0, .int 0]))])) 3 8392 (va_A [(a0_, .inr (13, [.null, .null, .int 0, .null, .null, .null, .int 0, .int 0, .int 0, .int 0, .int 0, .int 0, .int 0, .int 0, .int 0, .int 0, .int 0]))] sz) := by
  refine Met.ofW (cc := cX10_init) (maxL := 4) (ret := none) (by decide) rfl ?_
  intro p e s m args below meth c s₁ B hml hv
  obtain ⟨rfl, hsz, hP, hKK, hD0, hFx⟩ := hv
  have hK := hKK.1
  have hx := B.exec
  have hb := B.bytes
  have hr := B.returns
  have ht : ∀ w ∈ tw_W, w.before _ s = true := fun w h => atoms_spec (ws := Cond.code yX10_init cX10_init 4 none :: tw_W) B.pre w (List.mem_cons_of_mem _ h)
  have hown : s.vm.findClass RX10 = some m.cls := findClass_of_methodNamed B.named
  have hlocks := B.notSynchronized
  have hin : meth.name = "<init>" := (name_of_methodNamed B.named B.method).1
  subst hsz
  unfold qv_
  have hD := hD0.self (sz := s.heap.size)
  generalize hAe : va_A [(a0_, .inr (13, [.null, .null, .int 0, .null, .null, .null, .int 0, .int 0, .int 0, .int 0, .int 0, .int 0, .int 0, .int 0, .int 0, .int 0, .int 0]))] s.heap.size = A at hD hFx ⊢
  have hA : ∀ q : Nat, s.heap.size ≤ q → A q := fun q h => by rw [← hAe]; exact Or.inr h
  have hS : va_S A s.heap s.heap [] := va_S.rf
  have hP : va_P (dC, dI) vwCl [(a0_, .inr (13, [.null, .null, .int 0, .null, .null, .null, .int 0, .int 0, .int 0, .int 0, .int 0, .int 0, .int 0, .int 0, .int 0, .int 0, .int 0]))] s.heap := hP
  have hl := lv_entry ([.ref a0_, .ref a1_, .int (nI N), .ref a2_]) (n := 4) (Nat.le_of_ble_eq_true rfl)
  rw [lg_entry_eq]
  generalize (lg_sl ([.ref a0_, .ref a1_, .int (nI N), .ref a2_]) ++ List.replicate (4 - (lg_sl ([.ref a0_, .ref a1_, .int (nI N), .ref a2_])).length) Slot.unset).toArray = ls at hl ⊢
  have hl : lv_has ls 4 [(0, .ref a0_), (1, .ref a1_), (2, .int (nI N)), (3, .ref a2_)] := hl
  refine lv_aload_n hx hb dX10_init_0 rfl (lv_at hl 0 rfl) ?_
  refine W.objInit hx hb hown (ht _ tw_77) (ht _ tw_1) (ht _ tw_2) rfl (by rw [hml]; exact hl.1) rfl dX10_init_1 (Nat.le_of_ble_eq_true rfl) (Nat.le_of_ble_eq_true rfl) ?_
  refine W.eq (g2 := F0 m 4 ls []) rfl ?_
  refine lv_aload_n hx hb dX10_init_4 rfl (lv_at hl 0 rfl) ?_
  refine lv_sipush (v := 200) hx hb dX10_init_5 (by decide) ?_
  refine va_newE (atype := .int) (ty := .int) (a0 := (200, .inl (fun _ => 0))) (cE := cI) hx hb (ht _ tw_3) rfl hK hP hD hS hA 0 rfl (fun _ => rfl) (by decide) (by decide) (by decide) (Nat.le_of_ble_eq_true rfl) (Nat.le_of_ble_eq_true rfl) dX10_init_8 (fun q1 H hP hD hS => ?_)
  have hP : va_P (dC, dI) vwCl [(a0_, .inr (13, [.null, .null, .int 0, .null, .null, .null, .int 0, .int 0, .int 0, .int 0, .int 0, .int 0, .int 0, .int 0, .int 0, .int 0, .int 0])), (q1, .inl (cI, 200, .inl (fun _ => 0)))] H := hP
  have hD : va_D A [(a0_, .inr (13, [.null, .null, .int 0, .null, .null, .null, .int 0, .int 0, .int 0, .int 0, .int 0, .int 0, .int 0, .int 0, .int 0, .int 0, .int 0])), (q1, .inl (cI, 200, .inl (fun _ => 0)))] := hD
  refine W.widen (k := 1) (n := 200) (by omega) (by omega) ?_
  refine va_putF (D := (dC, dI)) (ci := 13) (v := .ref q1) (ty := .array .int) (C := RX10) (T := TX10) (N := 17) hx hb ht itX10 tyX10 tyX10_ok nmX10 hown hK hP hD hS 0 rfl rfl 5 (by decide) (ht _ tw_78) (fun _ h9 => h9) rfl hin rfl (by decide +kernel) rfl rfl (Nat.le_of_ble_eq_true rfl) dX10_init_10 (fun H locs hP hD hS => ?_)
  have hP : va_P (dC, dI) vwCl [(a0_, .inr (13, [.null, .null, .int 0, .null, .null, .ref q1, .int 0, .int 0, .int 0, .int 0, .int 0, .int 0, .int 0, .int 0, .int 0, .int 0, .int 0])), (q1, .inl (cI, 200, .inl (fun _ => 0)))] H := hP
  have hD : va_D A [(a0_, .inr (13, [.null, .null, .int 0, .null, .null, .ref q1, .int 0, .int 0, .int 0, .int 0, .int 0, .int 0, .int 0, .int 0, .int 0, .int 0, .int 0])), (q1, .inl (cI, 200, .inl (fun _ => 0)))] := hD
  refine lv_aload_n hx hb dX10_init_13 rfl (lv_at hl 0 rfl) ?_
  refine lv_aload_n hx hb dX10_init_14 rfl (lv_at hl 1 rfl) ?_
  refine va_put (D := (dC, dI)) (ci := 13) (v := .ref a1_) (ty := .object "PocketCompiler$Program") (C := RX10) (T := TX10) (N := 17) hx hb ht itX10 tyX10 tyX10_ok nmX10 hown hK hP hD hS 0 rfl rfl 0 (by decide) (ht _ tw_79) (fun _ h9 => h9) rfl (by decide +kernel) rfl rfl (Nat.le_of_ble_eq_true rfl) dX10_init_15 (fun H locs hP hD hS => ?_)
  have hP : va_P (dC, dI) vwCl [(a0_, .inr (13, [.ref a1_, .null, .int 0, .null, .null, .ref q1, .int 0, .int 0, .int 0, .int 0, .int 0, .int 0, .int 0, .int 0, .int 0, .int 0, .int 0])), (q1, .inl (cI, 200, .inl (fun _ => 0)))] H := hP
  have hD : va_D A [(a0_, .inr (13, [.ref a1_, .null, .int 0, .null, .null, .ref q1, .int 0, .int 0, .int 0, .int 0, .int 0, .int 0, .int 0, .int 0, .int 0, .int 0, .int 0])), (q1, .inl (cI, 200, .inl (fun _ => 0)))] := hD
  refine lv_aload_n hx hb dX10_init_18 rfl (lv_at hl 0 rfl) ?_
  refine lv_aload_n hx hb dX10_init_19 rfl (lv_at hl 3 rfl) ?_
  refine va_putF (D := (dC, dI)) (ci := 13) (v := .ref a2_) (ty := .object "PocketCompiler$Gifts") (C := RX10) (T := TX10) (N := 17) hx hb ht itX10 tyX10 tyX10_ok nmX10 hown hK hP hD hS 0 rfl rfl 1 (by decide) (ht _ tw_80) (fun _ h9 => h9) rfl hin rfl (by decide +kernel) rfl rfl (Nat.le_of_ble_eq_true rfl) dX10_init_20 (fun H locs hP hD hS => ?_)
  have hP : va_P (dC, dI) vwCl [(a0_, .inr (13, [.ref a1_, .ref a2_, .int 0, .null, .null, .ref q1, .int 0, .int 0, .int 0, .int 0, .int 0, .int 0, .int 0, .int 0, .int 0, .int 0, .int 0])), (q1, .inl (cI, 200, .inl (fun _ => 0)))] H := hP
  have hD : va_D A [(a0_, .inr (13, [.ref a1_, .ref a2_, .int 0, .null, .null, .ref q1, .int 0, .int 0, .int 0, .int 0, .int 0, .int 0, .int 0, .int 0, .int 0, .int 0, .int 0])), (q1, .inl (cI, 200, .inl (fun _ => 0)))] := hD
  refine lv_aload_n hx hb dX10_init_23 rfl (lv_at hl 0 rfl) ?_
  refine lv_iconst (v := 4) hx hb dX10_init_24 (by decide) ?_
  refine lv_iload_n hx hb dX10_init_25 rfl (lv_at hl 2 rfl) ?_
  refine lv_imul hx hb dX10_init_26 ?_
  refine va_putF (D := (dC, dI)) (ci := 13) (v := .int (4 * (nI N))) (ty := .int) (C := RX10) (T := TX10) (N := 17) hx hb ht itX10 tyX10 tyX10_ok nmX10 hown hK hP hD hS 0 rfl rfl 2 (by decide) (ht _ tw_81) (fun _ h9 => h9) rfl hin rfl (by decide +kernel) rfl rfl (Nat.le_of_ble_eq_true rfl) dX10_init_27 (fun H locs hP hD hS => ?_)
  have hP : va_P (dC, dI) vwCl [(a0_, .inr (13, [.ref a1_, .ref a2_, .int (4 * (nI N)), .null, .null, .ref q1, .int 0, .int 0, .int 0, .int 0, .int 0, .int 0, .int 0, .int 0, .int 0, .int 0, .int 0])), (q1, .inl (cI, 200, .inl (fun _ => 0)))] H := hP
  have hD : va_D A [(a0_, .inr (13, [.ref a1_, .ref a2_, .int (4 * (nI N)), .null, .null, .ref q1, .int 0, .int 0, .int 0, .int 0, .int 0, .int 0, .int 0, .int 0, .int 0, .int 0, .int 0])), (q1, .inl (cI, 200, .inl (fun _ => 0)))] := hD
  refine lv_aload_n hx hb dX10_init_30 rfl (lv_at hl 0 rfl) ?_
  refine lv_iload_n hx hb dX10_init_31 rfl (lv_at hl 2 rfl) ?_
  refine va_newE (atype := .int) (ty := .int) (a0 := (N, .inl (fun _ => 0))) (cE := cI) hx hb (ht _ tw_3) rfl hK hP hD hS hA 0 rfl (fun _ => rfl) (nI_pos (by omega)) (nI_clamp (by omega)) (show N * 4 ≤ 536870912 by omega) (Nat.le_of_ble_eq_true rfl) (show 200 + N ≤ 8392 by omega) dX10_init_32 (fun q2 H hP hD hS => ?_)
  have hP : va_P (dC, dI) vwCl [(a0_, .inr (13, [.ref a1_, .ref a2_, .int (4 * (nI N)), .null, .null, .ref q1, .int 0, .int 0, .int 0, .int 0, .int 0, .int 0, .int 0, .int 0, .int 0, .int 0, .int 0])), (q1, .inl (cI, 200, .inl (fun _ => 0))), (q2, .inl (cI, N, .inl (fun _ => 0)))] H := hP
  have hD : va_D A [(a0_, .inr (13, [.ref a1_, .ref a2_, .int (4 * (nI N)), .null, .null, .ref q1, .int 0, .int 0, .int 0, .int 0, .int 0, .int 0, .int 0, .int 0, .int 0, .int 0, .int 0])), (q1, .inl (cI, 200, .inl (fun _ => 0))), (q2, .inl (cI, N, .inl (fun _ => 0)))] := hD
  refine W.widen (k := 2) (n := 4296) (by omega) (by omega) ?_
  refine va_putF (D := (dC, dI)) (ci := 13) (v := .ref q2) (ty := .array .int) (C := RX10) (T := TX10) (N := 17) hx hb ht itX10 tyX10 tyX10_ok nmX10 hown hK hP hD hS 0 rfl rfl 3 (by decide) (ht _ tw_82) (fun _ h9 => h9) rfl hin rfl (by decide +kernel) rfl rfl (Nat.le_of_ble_eq_true rfl) dX10_init_34 (fun H locs hP hD hS => ?_)
  have hP : va_P (dC, dI) vwCl [(a0_, .inr (13, [.ref a1_, .ref a2_, .int (4 * (nI N)), .ref q2, .null, .ref q1, .int 0, .int 0, .int 0, .int 0, .int 0, .int 0, .int 0, .int 0, .int 0, .int 0, .int 0])), (q1, .inl (cI, 200, .inl (fun _ => 0))), (q2, .inl (cI, N, .inl (fun _ => 0)))] H := hP
  have hD : va_D A [(a0_, .inr (13, [.ref a1_, .ref a2_, .int (4 * (nI N)), .ref q2, .null, .ref q1, .int 0, .int 0, .int 0, .int 0, .int 0, .int 0, .int 0, .int 0, .int 0, .int 0, .int 0])), (q1, .inl (cI, 200, .inl (fun _ => 0))), (q2, .inl (cI, N, .inl (fun _ => 0)))] := hD
  refine lv_aload_n hx hb dX10_init_37 rfl (lv_at hl 0 rfl) ?_
  refine lv_iload_n hx hb dX10_init_38 rfl (lv_at hl 2 rfl) ?_
  refine va_newE (atype := .int) (ty := .int) (a0 := (N, .inl (fun _ => 0))) (cE := cI) hx hb (ht _ tw_3) rfl hK hP hD hS hA 0 rfl (fun _ => rfl) (nI_pos (by omega)) (nI_clamp (by omega)) (show N * 4 ≤ 536870912 by omega) (Nat.le_of_ble_eq_true rfl) (show 4296 + N ≤ 8392 by omega) dX10_init_39 (fun q3 H hP hD hS => ?_)
  have hP : va_P (dC, dI) vwCl [(a0_, .inr (13, [.ref a1_, .ref a2_, .int (4 * (nI N)), .ref q2, .null, .ref q1, .int 0, .int 0, .int 0, .int 0, .int 0, .int 0, .int 0, .int 0, .int 0, .int 0, .int 0])), (q1, .inl (cI, 200, .inl (fun _ => 0))), (q2, .inl (cI, N, .inl (fun _ => 0))), (q3, .inl (cI, N, .inl (fun _ => 0)))] H := hP
  have hD : va_D A [(a0_, .inr (13, [.ref a1_, .ref a2_, .int (4 * (nI N)), .ref q2, .null, .ref q1, .int 0, .int 0, .int 0, .int 0, .int 0, .int 0, .int 0, .int 0, .int 0, .int 0, .int 0])), (q1, .inl (cI, 200, .inl (fun _ => 0))), (q2, .inl (cI, N, .inl (fun _ => 0))), (q3, .inl (cI, N, .inl (fun _ => 0)))] := hD
  refine W.widen (k := 3) (n := 8392) (by omega) (by omega) ?_
  refine va_putF (D := (dC, dI)) (ci := 13) (v := .ref q3) (ty := .array .int) (C := RX10) (T := TX10) (N := 17) hx hb ht itX10 tyX10 tyX10_ok nmX10 hown hK hP hD hS 0 rfl rfl 4 (by decide) (ht _ tw_83) (fun _ h9 => h9) rfl hin rfl (by decide +kernel) rfl rfl (Nat.le_of_ble_eq_true rfl) dX10_init_41 (fun H locs hP hD hS => ?_)
  have hP : va_P (dC, dI) vwCl [(a0_, .inr (13, [.ref a1_, .ref a2_, .int (4 * (nI N)), .ref q2, .ref q3, .ref q1, .int 0, .int 0, .int 0, .int 0, .int 0, .int 0, .int 0, .int 0, .int 0, .int 0, .int 0])), (q1, .inl (cI, 200, .inl (fun _ => 0))), (q2, .inl (cI, N, .inl (fun _ => 0))), (q3, .inl (cI, N, .inl (fun _ => 0)))] H := hP
  have hD : va_D A [(a0_, .inr (13, [.ref a1_, .ref a2_, .int (4 * (nI N)), .ref q2, .ref q3, .ref q1, .int 0, .int 0, .int 0, .int 0, .int 0, .int 0, .int 0, .int 0, .int 0, .int 0, .int 0])), (q1, .inl (cI, 200, .inl (fun _ => 0))), (q2, .inl (cI, N, .inl (fun _ => 0))), (q3, .inl (cI, N, .inl (fun _ => 0)))] := hD
  have hP9 := hP.sub (ws' := [(a0_, .inr (13, [.ref a1_, .ref a2_, .int (4 * (nI N)), .ref q2, .ref q3, .ref q1, .int 0, .int 0, .int 0, .int 0, .int 0, .int 0, .int 0, .int 0, .int 0, .int 0, .int 0]))]) [0] rfl
  have hD9 := hD.sub (ws' := [(a0_, .inr (13, [.ref a1_, .ref a2_, .int (4 * (nI N)), .ref q2, .ref q3, .ref q1, .int 0, .int 0, .int 0, .int 0, .int 0, .int 0, .int 0, .int 0, .int 0, .int 0, .int 0]))]) [0] (by decide) rfl
  refine W.widen (k := 3) (n := 8392) (by omega) (by omega) ?_
  exact W.vret hx hb hr (fun t ht9 hW => ⟨⟨(q2, q3, q1), rfl, trivial, by rw [ht9]; exact hP9, hD9⟩, hS.F ht9⟩) hS.2.2 dX10_init_44
set_option maxHeartbeats 4000000 in
set_option maxRecDepth 100000 in
theorem c_X3_init (l : Launch) (dC : Nat → ClassId) (dI : Nat → Nat → Nat) (cI cB cZ cJ cR : ClassId) (tb : Nat → Nat) (sz : Nat) (a0_ : Nat)  : Met l yX3_init (Cond.code yX3_init cX3_init 1 none :: tw_W) ({ frames := 1, cells := 1, slots := 64, locals := 12 }) (pc_ (dC, dI) (tyS cI cB cZ cJ cR) tb [(a0_, .inr (7, [.null, .int 0, .int 0]))] sz [.ref a0_]) (qv_ (dC, dI) [(a0_, .inr (7, [.null, .int 0, .int 0]))] sz (fun (u : Nat) => True) (fun (u : Nat) => [(a0_, .inr (7, [.ref u, .int 0, .int 0])), (u, .inl (cI, 64, .inl (fun _ => 0)))])) 1 64 (va_A [(a0_, .inr (7, [.null, .int 0, .int 0]))] sz) := by
  refine Met.ofW (cc := cX3_init) (maxL := 1) (ret := none) (by decide) rfl ?_
  intro p e s m args below meth c s₁ B hml hv
  obtain ⟨rfl, hsz, hP, hKK, hD0, hFx⟩ := hv
  have hK := hKK.1
  have hx := B.exec
  have hb := B.bytes
  have hr := B.returns
  have ht : ∀ w ∈ tw_W, w.before _ s = true := fun w h => atoms_spec (ws := Cond.code yX3_init cX3_init 1 none :: tw_W) B.pre w (List.mem_cons_of_mem _ h)
  have hown : s.vm.findClass RX3 = some m.cls := findClass_of_methodNamed B.named
  have hlocks := B.notSynchronized
  have hin : meth.name = "<init>" := (name_of_methodNamed B.named B.method).1
  subst hsz
  unfold qv_
  have hD := hD0.self (sz := s.heap.size)
  generalize hAe : va_A [(a0_, .inr (7, [.null, .int 0, .int 0]))] s.heap.size = A at hD hFx ⊢
  have hA : ∀ q : Nat, s.heap.size ≤ q → A q := fun q h => by rw [← hAe]; exact Or.inr h
  have hS : va_S A s.heap s.heap [] := va_S.rf
  have hP : va_P (dC, dI) vwCl [(a0_, .inr (7, [.null, .int 0, .int 0]))] s.heap := hP
  have hl := lv_entry ([.ref a0_]) (n := 1) (Nat.le_of_ble_eq_true rfl)
  rw [lg_entry_eq]
  generalize (lg_sl ([.ref a0_]) ++ List.replicate (1 - (lg_sl ([.ref a0_])).length) Slot.unset).toArray = ls at hl ⊢
  have hl : lv_has ls 1 [(0, .ref a0_)] := hl
  refine lv_aload_n hx hb dX3_init_0 rfl (lv_at hl 0 rfl) ?_
  refine W.objInit hx hb hown (ht _ tw_90) (ht _ tw_1) (ht _ tw_2) rfl (by rw [hml]; exact hl.1) rfl dX3_init_1 (Nat.le_of_ble_eq_true rfl) (Nat.le_of_ble_eq_true rfl) ?_
  refine W.eq (g2 := F0 m 4 ls []) rfl ?_
  refine lv_aload_n hx hb dX3_init_4 rfl (lv_at hl 0 rfl) ?_
  refine lv_bipush (v := 64) hx hb dX3_init_5 (by decide) ?_
  refine va_newE (atype := .int) (ty := .int) (a0 := (64, .inl (fun _ => 0))) (cE := cI) hx hb (ht _ tw_3) rfl hK hP hD hS hA 0 rfl (fun _ => rfl) (by decide) (by decide) (by decide) (Nat.le_of_ble_eq_true rfl) (Nat.le_of_ble_eq_true rfl) dX3_init_7 (fun q1 H hP hD hS => ?_)
  have hP : va_P (dC, dI) vwCl [(a0_, .inr (7, [.null, .int 0, .int 0])), (q1, .inl (cI, 64, .inl (fun _ => 0)))] H := hP
  have hD : va_D A [(a0_, .inr (7, [.null, .int 0, .int 0])), (q1, .inl (cI, 64, .inl (fun _ => 0)))] := hD
  refine W.widen (k := 1) (n := 64) (by omega) (by omega) ?_
  refine va_putF (D := (dC, dI)) (ci := 7) (v := .ref q1) (ty := .array .int) (C := RX3) (T := TX3) (N := 3) hx hb ht itX3 tyX3 tyX3_ok nmX3 hown hK hP hD hS 0 rfl rfl 0 (by decide) (ht _ tw_91) (fun _ h9 => h9) rfl hin rfl (by decide +kernel) rfl rfl (Nat.le_of_ble_eq_true rfl) dX3_init_9 (fun H locs hP hD hS => ?_)
  have hP : va_P (dC, dI) vwCl [(a0_, .inr (7, [.ref q1, .int 0, .int 0])), (q1, .inl (cI, 64, .inl (fun _ => 0)))] H := hP
  have hD : va_D A [(a0_, .inr (7, [.ref q1, .int 0, .int 0])), (q1, .inl (cI, 64, .inl (fun _ => 0)))] := hD
  have hP9 := hP.sub (ws' := [(a0_, .inr (7, [.ref q1, .int 0, .int 0])), (q1, .inl (cI, 64, .inl (fun _ => 0)))]) [0, 1] rfl
  have hD9 := hD.sub (ws' := [(a0_, .inr (7, [.ref q1, .int 0, .int 0])), (q1, .inl (cI, 64, .inl (fun _ => 0)))]) [0, 1] (by decide) rfl
  refine W.widen (k := 1) (n := 64) (by omega) (by omega) ?_
  exact W.vret hx hb hr (fun t ht9 hW => ⟨⟨q1, rfl, trivial, by rw [ht9]; exact hP9, hD9⟩, hS.F ht9⟩) hS.2.2 dX3_init_12
set_option maxHeartbeats 4000000 in
set_option maxRecDepth 100000 in
theorem c_X6_init (l : Launch) (dC : Nat → ClassId) (dI : Nat → Nat → Nat) (cI cB cZ cJ cR : ClassId) (tb : Nat → Nat) (sz : Nat) (a0_ : Nat) (N : Nat) (a1_ : Nat) (hf_N_0 : 256 ≤ N) (hf_N_1 : N ≤ 4096) : Met l yX6_init (Cond.code yX6_init cX6_init 3 none :: tw_W) ({ frames := 1, cells := 3, slots := 4328, locals := 12 }) (pc_ (dC, dI) (tyS cI cB cZ cJ cR) tb [(a0_, .inr (9, [.null, .null, .int 0, .int 0, .int 0, .int 0, .null, .int 0, .null]))] sz [.ref a0_, .int (nI N), .ref a1_]) (qv_ (dC, dI) [(a0_, .inr (9, [.null, .null, .int 0, .int 0, .int 0, .int 0, .null, .int 0, .null]))] sz (fun (u : Nat × Nat × Nat) => True) (fun (u : Nat × Nat × Nat) => [(a0_, .inr (9, [.ref u.1, .ref u.2.1, .int 0, .int 0, .int 0, .int 0, .ref u.2.2, .int 0, .ref a1_])), (u.2.1, .inl (cI, 32, .inl (fun _ => 0))), (u.2.2, .inl (cI, 200, .inl (fun _ => 0))), (u.1, .inl (cI, N, .inl (fun _ => 0)))])) 3 4328 (va_A [(a0_, .inr (9, [.null, .null, .int 0, .int 0, .int 0, .int 0, .null, .int 0, .null]))] sz) := by
  refine Met.ofW (cc := cX6_init) (maxL := 3) (ret := none) (by decide) rfl ?_
  intro p e s m args below meth c s₁ B hml hv
  obtain ⟨rfl, hsz, hP, hKK, hD0, hFx⟩ := hv
  have hK := hKK.1
  have hx := B.exec
  have hb := B.bytes
  have hr := B.returns
  have ht : ∀ w ∈ tw_W, w.before _ s = true := fun w h => atoms_spec (ws := Cond.code yX6_init cX6_init 3 none :: tw_W) B.pre w (List.mem_cons_of_mem _ h)
  have hown : s.vm.findClass RX6 = some m.cls := findClass_of_methodNamed B.named
  have hlocks := B.notSynchronized
  have hin : meth.name = "<init>" := (name_of_methodNamed B.named B.method).1
  subst hsz
  unfold qv_
  have hD := hD0.self (sz := s.heap.size)
  generalize hAe : va_A [(a0_, .inr (9, [.null, .null, .int 0, .int 0, .int 0, .int 0, .null, .int 0, .null]))] s.heap.size = A at hD hFx ⊢
  have hA : ∀ q : Nat, s.heap.size ≤ q → A q := fun q h => by rw [← hAe]; exact Or.inr h
  have hS : va_S A s.heap s.heap [] := va_S.rf
  have hP : va_P (dC, dI) vwCl [(a0_, .inr (9, [.null, .null, .int 0, .int 0, .int 0, .int 0, .null, .int 0, .null]))] s.heap := hP
  have hl := lv_entry ([.ref a0_, .int (nI N), .ref a1_]) (n := 3) (Nat.le_of_ble_eq_true rfl)
  rw [lg_entry_eq]
  generalize (lg_sl ([.ref a0_, .int (nI N), .ref a1_]) ++ List.replicate (3 - (lg_sl ([.ref a0_, .int (nI N), .ref a1_])).length) Slot.unset).toArray = ls at hl ⊢
  have hl : lv_has ls 3 [(0, .ref a0_), (1, .int (nI N)), (2, .ref a1_)] := hl
  refine lv_aload_n hx hb dX6_init_0 rfl (lv_at hl 0 rfl) ?_
  refine W.objInit hx hb hown (ht _ tw_131) (ht _ tw_1) (ht _ tw_2) rfl (by rw [hml]; exact hl.1) rfl dX6_init_1 (Nat.le_of_ble_eq_true rfl) (Nat.le_of_ble_eq_true rfl) ?_
  refine W.eq (g2 := F0 m 4 ls []) rfl ?_
  refine lv_aload_n hx hb dX6_init_4 rfl (lv_at hl 0 rfl) ?_
  refine lv_bipush (v := 32) hx hb dX6_init_5 (by decide) ?_
  refine va_newE (atype := .int) (ty := .int) (a0 := (32, .inl (fun _ => 0))) (cE := cI) hx hb (ht _ tw_3) rfl hK hP hD hS hA 0 rfl (fun _ => rfl) (by decide) (by decide) (by decide) (Nat.le_of_ble_eq_true rfl) (Nat.le_of_ble_eq_true rfl) dX6_init_7 (fun q1 H hP hD hS => ?_)
  have hP : va_P (dC, dI) vwCl [(a0_, .inr (9, [.null, .null, .int 0, .int 0, .int 0, .int 0, .null, .int 0, .null])), (q1, .inl (cI, 32, .inl (fun _ => 0)))] H := hP
  have hD : va_D A [(a0_, .inr (9, [.null, .null, .int 0, .int 0, .int 0, .int 0, .null, .int 0, .null])), (q1, .inl (cI, 32, .inl (fun _ => 0)))] := hD
  refine W.widen (k := 1) (n := 32) (by omega) (by omega) ?_
  refine va_putF (D := (dC, dI)) (ci := 9) (v := .ref q1) (ty := .array .int) (C := RX6) (T := TX6) (N := 9) hx hb ht itX6 tyX6 tyX6_ok nmX6 hown hK hP hD hS 0 rfl rfl 1 (by decide) (ht _ tw_132) (fun _ h9 => h9) rfl hin rfl (by decide +kernel) rfl rfl (Nat.le_of_ble_eq_true rfl) dX6_init_9 (fun H locs hP hD hS => ?_)
  have hP : va_P (dC, dI) vwCl [(a0_, .inr (9, [.null, .ref q1, .int 0, .int 0, .int 0, .int 0, .null, .int 0, .null])), (q1, .inl (cI, 32, .inl (fun _ => 0)))] H := hP
  have hD : va_D A [(a0_, .inr (9, [.null, .ref q1, .int 0, .int 0, .int 0, .int 0, .null, .int 0, .null])), (q1, .inl (cI, 32, .inl (fun _ => 0)))] := hD
  refine lv_aload_n hx hb dX6_init_12 rfl (lv_at hl 0 rfl) ?_
  refine lv_sipush (v := 200) hx hb dX6_init_13 (by decide) ?_
  refine va_newE (atype := .int) (ty := .int) (a0 := (200, .inl (fun _ => 0))) (cE := cI) hx hb (ht _ tw_3) rfl hK hP hD hS hA 0 rfl (fun _ => rfl) (by decide) (by decide) (by decide) (Nat.le_of_ble_eq_true rfl) (Nat.le_of_ble_eq_true rfl) dX6_init_16 (fun q2 H hP hD hS => ?_)
  have hP : va_P (dC, dI) vwCl [(a0_, .inr (9, [.null, .ref q1, .int 0, .int 0, .int 0, .int 0, .null, .int 0, .null])), (q1, .inl (cI, 32, .inl (fun _ => 0))), (q2, .inl (cI, 200, .inl (fun _ => 0)))] H := hP
  have hD : va_D A [(a0_, .inr (9, [.null, .ref q1, .int 0, .int 0, .int 0, .int 0, .null, .int 0, .null])), (q1, .inl (cI, 32, .inl (fun _ => 0))), (q2, .inl (cI, 200, .inl (fun _ => 0)))] := hD
  refine W.widen (k := 2) (n := 232) (by omega) (by omega) ?_
  refine va_putF (D := (dC, dI)) (ci := 9) (v := .ref q2) (ty := .array .int) (C := RX6) (T := TX6) (N := 9) hx hb ht itX6 tyX6 tyX6_ok nmX6 hown hK hP hD hS 0 rfl rfl 6 (by decide) (ht _ tw_133) (fun _ h9 => h9) rfl hin rfl (by decide +kernel) rfl rfl (Nat.le_of_ble_eq_true rfl) dX6_init_18 (fun H locs hP hD hS => ?_)
  have hP : va_P (dC, dI) vwCl [(a0_, .inr (9, [.null, .ref q1, .int 0, .int 0, .int 0, .int 0, .ref q2, .int 0, .null])), (q1, .inl (cI, 32, .inl (fun _ => 0))), (q2, .inl (cI, 200, .inl (fun _ => 0)))] H := hP
  have hD : va_D A [(a0_, .inr (9, [.null, .ref q1, .int 0, .int 0, .int 0, .int 0, .ref q2, .int 0, .null])), (q1, .inl (cI, 32, .inl (fun _ => 0))), (q2, .inl (cI, 200, .inl (fun _ => 0)))] := hD
  refine lv_aload_n hx hb dX6_init_21 rfl (lv_at hl 0 rfl) ?_
  refine lv_iload_n hx hb dX6_init_22 rfl (lv_at hl 1 rfl) ?_
  refine va_newE (atype := .int) (ty := .int) (a0 := (N, .inl (fun _ => 0))) (cE := cI) hx hb (ht _ tw_3) rfl hK hP hD hS hA 0 rfl (fun _ => rfl) (nI_pos (by omega)) (nI_clamp (by omega)) (show N * 4 ≤ 536870912 by omega) (Nat.le_of_ble_eq_true rfl) (show 232 + N ≤ 4328 by omega) dX6_init_23 (fun q3 H hP hD hS => ?_)
  have hP : va_P (dC, dI) vwCl [(a0_, .inr (9, [.null, .ref q1, .int 0, .int 0, .int 0, .int 0, .ref q2, .int 0, .null])), (q1, .inl (cI, 32, .inl (fun _ => 0))), (q2, .inl (cI, 200, .inl (fun _ => 0))), (q3, .inl (cI, N, .inl (fun _ => 0)))] H := hP
  have hD : va_D A [(a0_, .inr (9, [.null, .ref q1, .int 0, .int 0, .int 0, .int 0, .ref q2, .int 0, .null])), (q1, .inl (cI, 32, .inl (fun _ => 0))), (q2, .inl (cI, 200, .inl (fun _ => 0))), (q3, .inl (cI, N, .inl (fun _ => 0)))] := hD
  refine W.widen (k := 3) (n := 4328) (by omega) (by omega) ?_
  refine va_putF (D := (dC, dI)) (ci := 9) (v := .ref q3) (ty := .array .int) (C := RX6) (T := TX6) (N := 9) hx hb ht itX6 tyX6 tyX6_ok nmX6 hown hK hP hD hS 0 rfl rfl 0 (by decide) (ht _ tw_134) (fun _ h9 => h9) rfl hin rfl (by decide +kernel) rfl rfl (Nat.le_of_ble_eq_true rfl) dX6_init_25 (fun H locs hP hD hS => ?_)
  have hP : va_P (dC, dI) vwCl [(a0_, .inr (9, [.ref q3, .ref q1, .int 0, .int 0, .int 0, .int 0, .ref q2, .int 0, .null])), (q1, .inl (cI, 32, .inl (fun _ => 0))), (q2, .inl (cI, 200, .inl (fun _ => 0))), (q3, .inl (cI, N, .inl (fun _ => 0)))] H := hP
  have hD : va_D A [(a0_, .inr (9, [.ref q3, .ref q1, .int 0, .int 0, .int 0, .int 0, .ref q2, .int 0, .null])), (q1, .inl (cI, 32, .inl (fun _ => 0))), (q2, .inl (cI, 200, .inl (fun _ => 0))), (q3, .inl (cI, N, .inl (fun _ => 0)))] := hD
  refine lv_aload_n hx hb dX6_init_28 rfl (lv_at hl 0 rfl) ?_
  refine lv_aload_n hx hb dX6_init_29 rfl (lv_at hl 2 rfl) ?_
  refine va_putF (D := (dC, dI)) (ci := 9) (v := .ref a1_) (ty := .object "PocketCompiler$Gifts") (C := RX6) (T := TX6) (N := 9) hx hb ht itX6 tyX6 tyX6_ok nmX6 hown hK hP hD hS 0 rfl rfl 8 (by decide) (ht _ tw_135) (fun _ h9 => h9) rfl hin rfl (by decide +kernel) rfl rfl (Nat.le_of_ble_eq_true rfl) dX6_init_30 (fun H locs hP hD hS => ?_)
  have hP : va_P (dC, dI) vwCl [(a0_, .inr (9, [.ref q3, .ref q1, .int 0, .int 0, .int 0, .int 0, .ref q2, .int 0, .ref a1_])), (q1, .inl (cI, 32, .inl (fun _ => 0))), (q2, .inl (cI, 200, .inl (fun _ => 0))), (q3, .inl (cI, N, .inl (fun _ => 0)))] H := hP
  have hD : va_D A [(a0_, .inr (9, [.ref q3, .ref q1, .int 0, .int 0, .int 0, .int 0, .ref q2, .int 0, .ref a1_])), (q1, .inl (cI, 32, .inl (fun _ => 0))), (q2, .inl (cI, 200, .inl (fun _ => 0))), (q3, .inl (cI, N, .inl (fun _ => 0)))] := hD
  have hP9 := hP.sub (ws' := [(a0_, .inr (9, [.ref q3, .ref q1, .int 0, .int 0, .int 0, .int 0, .ref q2, .int 0, .ref a1_])), (q1, .inl (cI, 32, .inl (fun _ => 0))), (q2, .inl (cI, 200, .inl (fun _ => 0))), (q3, .inl (cI, N, .inl (fun _ => 0)))]) [0, 1, 2, 3] rfl
  have hD9 := hD.sub (ws' := [(a0_, .inr (9, [.ref q3, .ref q1, .int 0, .int 0, .int 0, .int 0, .ref q2, .int 0, .ref a1_])), (q1, .inl (cI, 32, .inl (fun _ => 0))), (q2, .inl (cI, 200, .inl (fun _ => 0))), (q3, .inl (cI, N, .inl (fun _ => 0)))]) [0, 1, 2, 3] (by decide) rfl
  refine W.widen (k := 3) (n := 4328) (by omega) (by omega) ?_
  exact W.vret hx hb hr (fun t ht9 hW => ⟨⟨(q3, q1, q2), rfl, trivial, by rw [ht9]; exact hP9, hD9⟩, hS.F ht9⟩) hS.2.2 dX6_init_33
set_option maxHeartbeats 4000000 in
set_option maxRecDepth 100000 in
theorem c_X9_behindBlanks (l : Launch) (dC : Nat → ClassId) (dI : Nat → Nat → Nat) (cI cB cZ cJ cR : ClassId) (tb : Nat → Nat) (sz : Nat) (a0_ : Nat) (a1_ : Nat) (a2_ : Nat) (a3_ : Nat) (a4_ : Nat) (a5_ : Nat) (a6_ : Nat) (a7_ : Nat) (a8_ : Nat) (a9_ : Nat) (a10_ : Nat) (a11_ : Nat)  : Met l yX9_behindBlanks (Cond.code yX9_behindBlanks cX9_behindBlanks 5 (some .int) :: tw_W) ({ frames := 0, cells := 0, slots := 0, locals := 0 }) (pc_ (dC, dI) (tyS cI cB cZ cJ cR) tb [(a0_, .inr (12, [.ref a1_, .ref a2_, .ref a3_, .ref a4_, .int 0, .int 0, .int 0, .int (-1), .int 0, .int (-1)])), (a1_, .inr (10, [.ref a5_, .int 0, .ref a6_, .int 0, .ref a7_, .int 0, .ref a8_, .ref a9_, .ref a10_, .int 0, .ref a11_, .int 0, .int 0]))] sz [.ref a0_, .int 0]) (qi_ (dC, dI) [(a0_, .inr (12, [.ref a1_, .ref a2_, .ref a3_, .ref a4_, .int 0, .int 0, .int 0, .int (-1), .int 0, .int (-1)])), (a1_, .inr (10, [.ref a5_, .int 0, .ref a6_, .int 0, .ref a7_, .int 0, .ref a8_, .ref a9_, .ref a10_, .int 0, .ref a11_, .int 0, .int 0]))] sz (fun (r : Int32) (u : Unit) => r = 0) (fun (u : Unit) => [(a0_, .inr (12, [.ref a1_, .ref a2_, .ref a3_, .ref a4_, .int 0, .int 0, .int 0, .int (-1), .int 0, .int (-1)])), (a1_, .inr (10, [.ref a5_, .int 0, .ref a6_, .int 0, .ref a7_, .int 0, .ref a8_, .ref a9_, .ref a10_, .int 0, .ref a11_, .int 0, .int 0]))])) 0 0 (va_A [(a0_, .inr (12, [.ref a1_, .ref a2_, .ref a3_, .ref a4_, .int 0, .int 0, .int 0, .int (-1), .int 0, .int (-1)])), (a1_, .inr (10, [.ref a5_, .int 0, .ref a6_, .int 0, .ref a7_, .int 0, .ref a8_, .ref a9_, .ref a10_, .int 0, .ref a11_, .int 0, .int 0]))] sz) := by
  refine Met.ofW (cc := cX9_behindBlanks) (maxL := 5) (ret := (some .int)) (by decide) rfl ?_
  intro p e s m args below meth c s₁ B hml hv
  obtain ⟨rfl, hsz, hP, hKK, hD0, hFx⟩ := hv
  have hK := hKK.1
  have hx := B.exec
  have hb := B.bytes
  have hr := B.returns
  have ht : ∀ w ∈ tw_W, w.before _ s = true := fun w h => atoms_spec (ws := Cond.code yX9_behindBlanks cX9_behindBlanks 5 (some .int) :: tw_W) B.pre w (List.mem_cons_of_mem _ h)
  have hown : s.vm.findClass RX9 = some m.cls := findClass_of_methodNamed B.named
  have hlocks := B.notSynchronized
  subst hsz
  unfold qi_
  have hD := hD0.self (sz := s.heap.size)
  generalize hAe : va_A [(a0_, .inr (12, [.ref a1_, .ref a2_, .ref a3_, .ref a4_, .int 0, .int 0, .int 0, .int (-1), .int 0, .int (-1)])), (a1_, .inr (10, [.ref a5_, .int 0, .ref a6_, .int 0, .ref a7_, .int 0, .ref a8_, .ref a9_, .ref a10_, .int 0, .ref a11_, .int 0, .int 0]))] s.heap.size = A at hD hFx ⊢
  have hA : ∀ q : Nat, s.heap.size ≤ q → A q := fun q h => by rw [← hAe]; exact Or.inr h
  have hS : va_S A s.heap s.heap [] := va_S.rf
  have hP : va_P (dC, dI) vwCl [(a0_, .inr (12, [.ref a1_, .ref a2_, .ref a3_, .ref a4_, .int 0, .int 0, .int 0, .int (-1), .int 0, .int (-1)])), (a1_, .inr (10, [.ref a5_, .int 0, .ref a6_, .int 0, .ref a7_, .int 0, .ref a8_, .ref a9_, .ref a10_, .int 0, .ref a11_, .int 0, .int 0]))] s.heap := hP
  have hl := lv_entry ([.ref a0_, .int 0]) (n := 5) (Nat.le_of_ble_eq_true rfl)
  rw [lg_entry_eq]
  generalize (lg_sl ([.ref a0_, .int 0]) ++ List.replicate (5 - (lg_sl ([.ref a0_, .int 0])).length) Slot.unset).toArray = ls at hl ⊢
  have hl : lv_has ls 5 [(0, .ref a0_), (1, .int 0)] := hl
  refine lv_iconst (v := 0) hx hb dX9_behindBlanks_0 (by decide) ?_
  refine lv_istore_n (lv' := [(2, .int 0), (0, .ref a0_), (1, .int 0)]) hx hb dX9_behindBlanks_1 rfl hl (by decide) rfl (fun ls hl => ?_)
  refine lv_iload_n hx hb dX9_behindBlanks_2 rfl (lv_at hl 2 rfl) ?_
  refine lv_istore_n (lv' := [(3, .int 0), (2, .int 0), (0, .ref a0_), (1, .int 0)]) hx hb dX9_behindBlanks_3 rfl hl (by decide) rfl (fun ls hl => ?_)
  refine lv_iload_n hx hb dX9_behindBlanks_4 rfl (lv_at hl 0 rfl) ?_
  refine lv_aload_n hx hb dX9_behindBlanks_5 rfl (lv_at hl 2 rfl) ?_
  refine va_get (D := (dC, dI)) (ci := 12) (v := .ref a1_) (C := RX9) (T := TX9) (N := 10) hx hb ht itX9 hown hK hP 0 rfl rfl 0 (by decide) (ht _ tw_51) (fun _ h9 => h9) rfl dX9_behindBlanks_6 ?_
  refine va_get (D := (dC, dI)) (ci := 10) (v := .int 0) (C := RX7) (T := TX7) (N := 13) hx hb ht itX7 hown hK hP 1 rfl rfl 1 (by decide) (ht _ tw_155) (fun _ h9 => h9) rfl dX9_behindBlanks_9 ?_
  refine lv_icmp_ge (tgt := 108) hx hb dX9_behindBlanks_12 (by decide) (fun _ => ?_) (fun k1 => absurd k1 (by decide))
  refine lv_aload_n hx hb dX9_behindBlanks_108 rfl (lv_at hl 2 rfl) ?_
  refine va_get (D := (dC, dI)) (ci := 12) (v := .ref a1_) (C := RX9) (T := TX9) (N := 10) hx hb ht itX9 hown hK hP 0 rfl rfl 0 (by decide) (ht _ tw_51) (fun _ h9 => h9) rfl dX9_behindBlanks_109 ?_
  refine va_get (D := (dC, dI)) (ci := 10) (v := .int 0) (C := RX7) (T := TX7) (N := 13) hx hb ht itX7 hown hK hP 1 rfl rfl 1 (by decide) (ht _ tw_155) (fun _ h9 => h9) rfl dX9_behindBlanks_112 ?_
  have hP9 := hP.sub (ws' := [(a0_, .inr (12, [.ref a1_, .ref a2_, .ref a3_, .ref a4_, .int 0, .int 0, .int 0, .int (-1), .int 0, .int (-1)])), (a1_, .inr (10, [.ref a5_, .int 0, .ref a6_, .int 0, .ref a7_, .int 0, .ref a8_, .ref a9_, .ref a10_, .int 0, .ref a11_, .int 0, .int 0]))]) [0, 1] rfl
  have hD9 := hD.sub (ws' := [(a0_, .inr (12, [.ref a1_, .ref a2_, .ref a3_, .ref a4_, .int 0, .int 0, .int 0, .int (-1), .int 0, .int (-1)])), (a1_, .inr (10, [.ref a5_, .int 0, .ref a6_, .int 0, .ref a7_, .int 0, .ref a8_, .ref a9_, .ref a10_, .int 0, .ref a11_, .int 0, .int 0]))]) [0, 1] (by decide) rfl
  refine W.widen (k := 0) (n := 0) (by omega) (by omega) ?_
  exact W.iret (v := 0) hx hb hr (fun t ht9 hW => ⟨⟨0, (), rfl, rfl, by rw [ht9]; exact hP9, hD9⟩, hS.F ht9⟩) hS.2.2 dX9_behindBlanks_115
set_option maxHeartbeats 4000000 in
set_option maxRecDepth 100000 in
theorem c_X7_byteAt (l : Launch) (dC : Nat → ClassId) (dI : Nat → Nat → Nat) (cI cB cZ cJ cR : ClassId) (tb : Nat → Nat) (sz : Nat) (a0_ : Nat) (a1_ : Nat) (a2_ : Nat) (a3_ : Nat) (a4_ : Nat) (a5_ : Nat) (a6_ : Nat) (a7_ : Nat)  : Met l yX7_byteAt (Cond.code yX7_byteAt cX7_byteAt 2 (some .int) :: tw_W) ({ frames := 0, cells := 0, slots := 0, locals := 0 }) (pc_ (dC, dI) (tyS cI cB cZ cJ cR) tb [(a0_, .inr (10, [.ref a1_, .int 0, .ref a2_, .int 0, .ref a3_, .int 0, .ref a4_, .ref a5_, .ref a6_, .int 0, .ref a7_, .int 0, .int 0]))] sz [.ref a0_, .int 0]) (qi_ (dC, dI) [(a0_, .inr (10, [.ref a1_, .int 0, .ref a2_, .int 0, .ref a3_, .int 0, .ref a4_, .ref a5_, .ref a6_, .int 0, .ref a7_, .int 0, .int 0]))] sz (fun (r : Int32) (u : Unit) => r = (-1)) (fun (u : Unit) => [(a0_, .inr (10, [.ref a1_, .int 0, .ref a2_, .int 0, .ref a3_, .int 0, .ref a4_, .ref a5_, .ref a6_, .int 0, .ref a7_, .int 0, .int 0]))])) 0 0 (va_A [(a0_, .inr (10, [.ref a1_, .int 0, .ref a2_, .int 0, .ref a3_, .int 0, .ref a4_, .ref a5_, .ref a6_, .int 0, .ref a7_, .int 0, .int 0]))] sz) := by
  refine Met.ofW (cc := cX7_byteAt) (maxL := 2) (ret := (some .int)) (by decide) rfl ?_
  intro p e s m args below meth c s₁ B hml hv
  obtain ⟨rfl, hsz, hP, hKK, hD0, hFx⟩ := hv
  have hK := hKK.1
  have hx := B.exec
  have hb := B.bytes
  have hr := B.returns
  have ht : ∀ w ∈ tw_W, w.before _ s = true := fun w h => atoms_spec (ws := Cond.code yX7_byteAt cX7_byteAt 2 (some .int) :: tw_W) B.pre w (List.mem_cons_of_mem _ h)
  have hown : s.vm.findClass RX7 = some m.cls := findClass_of_methodNamed B.named
  have hlocks := B.notSynchronized
  subst hsz
  unfold qi_
  have hD := hD0.self (sz := s.heap.size)
  generalize hAe : va_A [(a0_, .inr (10, [.ref a1_, .int 0, .ref a2_, .int 0, .ref a3_, .int 0, .ref a4_, .ref a5_, .ref a6_, .int 0, .ref a7_, .int 0, .int 0]))] s.heap.size = A at hD hFx ⊢
  have hA : ∀ q : Nat, s.heap.size ≤ q → A q := fun q h => by rw [← hAe]; exact Or.inr h
  have hS : va_S A s.heap s.heap [] := va_S.rf
  have hP : va_P (dC, dI) vwCl [(a0_, .inr (10, [.ref a1_, .int 0, .ref a2_, .int 0, .ref a3_, .int 0, .ref a4_, .ref a5_, .ref a6_, .int 0, .ref a7_, .int 0, .int 0]))] s.heap := hP
  have hl := lv_entry ([.ref a0_, .int 0]) (n := 2) (Nat.le_of_ble_eq_true rfl)
  rw [lg_entry_eq]
  generalize (lg_sl ([.ref a0_, .int 0]) ++ List.replicate (2 - (lg_sl ([.ref a0_, .int 0])).length) Slot.unset).toArray = ls at hl ⊢
  have hl : lv_has ls 2 [(0, .ref a0_), (1, .int 0)] := hl
  refine lv_iload_n hx hb dX7_byteAt_0 rfl (lv_at hl 1 rfl) ?_
  refine lv_if_lt (tgt := 21) hx hb dX7_byteAt_1 (by decide) (fun k1 => absurd k1 (by decide)) (fun _ => ?_)
  refine lv_iload_n hx hb dX7_byteAt_4 rfl (lv_at hl 1 rfl) ?_
  refine lv_aload_n hx hb dX7_byteAt_5 rfl (lv_at hl 0 rfl) ?_
  refine va_get (D := (dC, dI)) (ci := 10) (v := .int 0) (C := RX7) (T := TX7) (N := 13) hx hb ht itX7 hown hK hP 0 rfl rfl 1 (by decide) (ht _ tw_158) (fun _ h9 => h9) rfl dX7_byteAt_6 ?_
  refine lv_icmp_ge (tgt := 21) hx hb dX7_byteAt_9 (by decide) (fun _ => ?_) (fun k2 => absurd k2 (by decide))
  refine lv_iconst (v := -1) hx hb dX7_byteAt_21 (by decide) ?_
  have hP9 := hP.sub (ws' := [(a0_, .inr (10, [.ref a1_, .int 0, .ref a2_, .int 0, .ref a3_, .int 0, .ref a4_, .ref a5_, .ref a6_, .int 0, .ref a7_, .int 0, .int 0]))]) [0] rfl
  have hD9 := hD.sub (ws' := [(a0_, .inr (10, [.ref a1_, .int 0, .ref a2_, .int 0, .ref a3_, .int 0, .ref a4_, .ref a5_, .ref a6_, .int 0, .ref a7_, .int 0, .int 0]))]) [0] (by decide) rfl
  refine W.widen (k := 0) (n := 0) (by omega) (by omega) ?_
  exact W.iret (v := (-1)) hx hb hr (fun t ht9 hW => ⟨⟨(-1), (), rfl, rfl, by rw [ht9]; exact hP9, hD9⟩, hS.F ht9⟩) hS.2.2 dX7_byteAt_22
set_option maxHeartbeats 4000000 in
set_option maxRecDepth 100000 in
theorem c_X9_add (l : Launch) (dC : Nat → ClassId) (dI : Nat → Nat → Nat) (cI cB cZ cJ cR : ClassId) (tb : Nat → Nat) (sz : Nat) (a0_ : Nat) (a1_ : Nat) (a2_ : Nat) (a3_ : Nat) (a4_ : Nat)  : Met l yX9_add (Cond.code yX9_add cX9_add 5 (some .int) :: tw_W) ({ frames := 0, cells := 0, slots := 0, locals := 0 }) (pc_ (dC, dI) (tyS cI cB cZ cJ cR) tb [(a0_, .inr (12, [.ref a1_, .ref a2_, .ref a3_, .ref a4_, .int 0, .int 0, .int 0, .int (-1), .int 0, .int (-1)])), (a2_, .inl (cI, 1503, .inl (fun _ => 0))), (a3_, .inl (cI, 1503, .inl (fun _ => 0))), (a4_, .inl (cI, 1503, .inl (fun _ => 0)))] sz [.ref a0_, .int 0, .int 0, .int 0, .int 0]) (qi_ (dC, dI) [(a0_, .inr (12, [.ref a1_, .ref a2_, .ref a3_, .ref a4_, .int 0, .int 0, .int 0, .int (-1), .int 0, .int (-1)])), (a2_, .inl (cI, 1503, .inl (fun _ => 0))), (a3_, .inl (cI, 1503, .inl (fun _ => 0))), (a4_, .inl (cI, 1503, .inl (fun _ => 0)))] sz (fun (r : Int32) (u : Unit) => r = 0) (fun (u : Unit) => [(a0_, .inr (12, [.ref a1_, .ref a2_, .ref a3_, .ref a4_, .int 1, .int 0, .int 0, .int (-1), .int 0, .int (-1)])), (a2_, .inl (cI, 1503, .inl (upd (fun _ => 0) 0 0))), (a3_, .inl (cI, 1503, .inl (upd (fun _ => 0) 0 0))), (a4_, .inl (cI, 1503, .inl (upd (fun _ => 0) 0 0)))])) 0 0 (va_A [(a0_, .inr (12, [.ref a1_, .ref a2_, .ref a3_, .ref a4_, .int 0, .int 0, .int 0, .int (-1), .int 0, .int (-1)])), (a2_, .inl (cI, 1503, .inl (fun _ => 0))), (a3_, .inl (cI, 1503, .inl (fun _ => 0))), (a4_, .inl (cI, 1503, .inl (fun _ => 0)))] sz) := by
  refine Met.ofW (cc := cX9_add) (maxL := 5) (ret := (some .int)) (by decide) rfl ?_
  intro p e s m args below meth c s₁ B hml hv
  obtain ⟨rfl, hsz, hP, hKK, hD0, hFx⟩ := hv
  have hK := hKK.1
  have hx := B.exec
  have hb := B.bytes
  have hr := B.returns
  have ht : ∀ w ∈ tw_W, w.before _ s = true := fun w h => atoms_spec (ws := Cond.code yX9_add cX9_add 5 (some .int) :: tw_W) B.pre w (List.mem_cons_of_mem _ h)
  have hown : s.vm.findClass RX9 = some m.cls := findClass_of_methodNamed B.named
  have hlocks := B.notSynchronized
  subst hsz
  unfold qi_
  have hD := hD0.self (sz := s.heap.size)
  generalize hAe : va_A [(a0_, .inr (12, [.ref a1_, .ref a2_, .ref a3_, .ref a4_, .int 0, .int 0, .int 0, .int (-1), .int 0, .int (-1)])), (a2_, .inl (cI, 1503, .inl (fun _ => 0))), (a3_, .inl (cI, 1503, .inl (fun _ => 0))), (a4_, .inl (cI, 1503, .inl (fun _ => 0)))] s.heap.size = A at hD hFx ⊢
  have hA : ∀ q : Nat, s.heap.size ≤ q → A q := fun q h => by rw [← hAe]; exact Or.inr h
  have hS : va_S A s.heap s.heap [] := va_S.rf
  have hP : va_P (dC, dI) vwCl [(a0_, .inr (12, [.ref a1_, .ref a2_, .ref a3_, .ref a4_, .int 0, .int 0, .int 0, .int (-1), .int 0, .int (-1)])), (a2_, .inl (cI, 1503, .inl (fun _ => 0))), (a3_, .inl (cI, 1503, .inl (fun _ => 0))), (a4_, .inl (cI, 1503, .inl (fun _ => 0)))] s.heap := hP
  have hl := lv_entry ([.ref a0_, .int 0, .int 0, .int 0, .int 0]) (n := 5) (Nat.le_of_ble_eq_true rfl)
  rw [lg_entry_eq]
  generalize (lg_sl ([.ref a0_, .int 0, .int 0, .int 0, .int 0]) ++ List.replicate (5 - (lg_sl ([.ref a0_, .int 0, .int 0, .int 0, .int 0])).length) Slot.unset).toArray = ls at hl ⊢
  have hl : lv_has ls 5 [(0, .ref a0_), (1, .int 0), (2, .int 0), (3, .int 0), (4, .int 0)] := hl
  refine lv_aload_n hx hb dX9_add_0 rfl (lv_at hl 0 rfl) ?_
  refine va_get (D := (dC, dI)) (ci := 12) (v := .int 0) (C := RX9) (T := TX9) (N := 10) hx hb ht itX9 hown hK hP 0 rfl rfl 4 (by decide) (ht _ tw_149) (fun _ h9 => h9) rfl dX9_add_1 ?_
  refine lv_sipush (v := 1503) hx hb dX9_add_4 (by decide) ?_
  refine lv_icmp_ge (tgt := 50) hx hb dX9_add_7 (by decide) (fun k1 => absurd k1 (by decide)) (fun _ => ?_)
  refine lv_aload_n hx hb dX9_add_10 rfl (lv_at hl 0 rfl) ?_
  refine va_get (D := (dC, dI)) (ci := 12) (v := .ref a2_) (C := RX9) (T := TX9) (N := 10) hx hb ht itX9 hown hK hP 0 rfl rfl 1 (by decide) (ht _ tw_48) (fun _ h9 => h9) rfl dX9_add_11 ?_
  refine lv_aload_n hx hb dX9_add_14 rfl (lv_at hl 0 rfl) ?_
  refine va_get (D := (dC, dI)) (ci := 12) (v := .int 0) (C := RX9) (T := TX9) (N := 10) hx hb ht itX9 hown hK hP 0 rfl rfl 4 (by decide) (ht _ tw_149) (fun _ h9 => h9) rfl dX9_add_15 ?_
  refine lv_iload_n hx hb dX9_add_18 rfl (lv_at hl 1 rfl) ?_
  refine va_iast (D := (dC, dI)) hx hb hK hP hD hS 1 0 rfl rfl (vp_in_iff.mpr (by decide)) dX9_add_19 (fun H locs hP hD hS => ?_)
  have hP : va_P (dC, dI) vwCl [(a0_, .inr (12, [.ref a1_, .ref a2_, .ref a3_, .ref a4_, .int 0, .int 0, .int 0, .int (-1), .int 0, .int (-1)])), (a2_, .inl (cI, 1503, .inl (upd (fun _ => 0) 0 0))), (a3_, .inl (cI, 1503, .inl (fun _ => 0))), (a4_, .inl (cI, 1503, .inl (fun _ => 0)))] H := hP
  have hD : va_D A [(a0_, .inr (12, [.ref a1_, .ref a2_, .ref a3_, .ref a4_, .int 0, .int 0, .int 0, .int (-1), .int 0, .int (-1)])), (a2_, .inl (cI, 1503, .inl (upd (fun _ => 0) 0 0))), (a3_, .inl (cI, 1503, .inl (fun _ => 0))), (a4_, .inl (cI, 1503, .inl (fun _ => 0)))] := hD
  refine lv_aload_n hx hb dX9_add_20 rfl (lv_at hl 0 rfl) ?_
  refine va_get (D := (dC, dI)) (ci := 12) (v := .ref a3_) (C := RX9) (T := TX9) (N := 10) hx hb ht itX9 hown hK hP 0 rfl rfl 2 (by decide) (ht _ tw_49) (fun _ h9 => h9) rfl dX9_add_21 ?_
  refine lv_aload_n hx hb dX9_add_24 rfl (lv_at hl 0 rfl) ?_
  refine va_get (D := (dC, dI)) (ci := 12) (v := .int 0) (C := RX9) (T := TX9) (N := 10) hx hb ht itX9 hown hK hP 0 rfl rfl 4 (by decide) (ht _ tw_149) (fun _ h9 => h9) rfl dX9_add_25 ?_
  refine lv_iload_n hx hb dX9_add_28 rfl (lv_at hl 2 rfl) ?_
  refine va_iast (D := (dC, dI)) hx hb hK hP hD hS 2 0 rfl rfl (vp_in_iff.mpr (by decide)) dX9_add_29 (fun H locs hP hD hS => ?_)
  have hP : va_P (dC, dI) vwCl [(a0_, .inr (12, [.ref a1_, .ref a2_, .ref a3_, .ref a4_, .int 0, .int 0, .int 0, .int (-1), .int 0, .int (-1)])), (a2_, .inl (cI, 1503, .inl (upd (fun _ => 0) 0 0))), (a3_, .inl (cI, 1503, .inl (upd (fun _ => 0) 0 0))), (a4_, .inl (cI, 1503, .inl (fun _ => 0)))] H := hP
  have hD : va_D A [(a0_, .inr (12, [.ref a1_, .ref a2_, .ref a3_, .ref a4_, .int 0, .int 0, .int 0, .int (-1), .int 0, .int (-1)])), (a2_, .inl (cI, 1503, .inl (upd (fun _ => 0) 0 0))), (a3_, .inl (cI, 1503, .inl (upd (fun _ => 0) 0 0))), (a4_, .inl (cI, 1503, .inl (fun _ => 0)))] := hD
  refine lv_aload_n hx hb dX9_add_30 rfl (lv_at hl 0 rfl) ?_
  refine va_get (D := (dC, dI)) (ci := 12) (v := .ref a4_) (C := RX9) (T := TX9) (N := 10) hx hb ht itX9 hown hK hP 0 rfl rfl 3 (by decide) (ht _ tw_50) (fun _ h9 => h9) rfl dX9_add_31 ?_
  refine lv_aload_n hx hb dX9_add_34 rfl (lv_at hl 0 rfl) ?_
  refine va_get (D := (dC, dI)) (ci := 12) (v := .int 0) (C := RX9) (T := TX9) (N := 10) hx hb ht itX9 hown hK hP 0 rfl rfl 4 (by decide) (ht _ tw_149) (fun _ h9 => h9) rfl dX9_add_35 ?_
  refine lv_iload_n hx hb dX9_add_38 rfl (lv_at hl 3 rfl) ?_
  refine va_iast (D := (dC, dI)) hx hb hK hP hD hS 3 0 rfl rfl (vp_in_iff.mpr (by decide)) dX9_add_39 (fun H locs hP hD hS => ?_)
  have hP : va_P (dC, dI) vwCl [(a0_, .inr (12, [.ref a1_, .ref a2_, .ref a3_, .ref a4_, .int 0, .int 0, .int 0, .int (-1), .int 0, .int (-1)])), (a2_, .inl (cI, 1503, .inl (upd (fun _ => 0) 0 0))), (a3_, .inl (cI, 1503, .inl (upd (fun _ => 0) 0 0))), (a4_, .inl (cI, 1503, .inl (upd (fun _ => 0) 0 0)))] H := hP
  have hD : va_D A [(a0_, .inr (12, [.ref a1_, .ref a2_, .ref a3_, .ref a4_, .int 0, .int 0, .int 0, .int (-1), .int 0, .int (-1)])), (a2_, .inl (cI, 1503, .inl (upd (fun _ => 0) 0 0))), (a3_, .inl (cI, 1503, .inl (upd (fun _ => 0) 0 0))), (a4_, .inl (cI, 1503, .inl (upd (fun _ => 0) 0 0)))] := hD
  refine lv_aload_n hx hb dX9_add_40 rfl (lv_at hl 0 rfl) ?_
  refine lv_dup hx hb dX9_add_41 rfl ?_
  refine va_get (D := (dC, dI)) (ci := 12) (v := .int 0) (C := RX9) (T := TX9) (N := 10) hx hb ht itX9 hown hK hP 0 rfl rfl 4 (by decide) (ht _ tw_149) (fun _ h9 => h9) rfl dX9_add_42 ?_
  refine lv_iconst (v := 1) hx hb dX9_add_45 (by decide) ?_
  refine lv_iadd hx hb dX9_add_46 ?_
  refine tp_i (y := 1) (by decide) ?_
  refine va_put (D := (dC, dI)) (ci := 12) (v := .int 1) (ty := .int) (C := RX9) (T := TX9) (N := 10) hx hb ht itX9 tyX9 tyX9_ok nmX9 hown hK hP hD hS 0 rfl rfl 4 (by decide) (ht _ tw_149) (fun _ h9 => h9) rfl (by decide +kernel) rfl rfl (Nat.le_of_ble_eq_true rfl) dX9_add_47 (fun H locs hP hD hS => ?_)
  have hP : va_P (dC, dI) vwCl [(a0_, .inr (12, [.ref a1_, .ref a2_, .ref a3_, .ref a4_, .int 1, .int 0, .int 0, .int (-1), .int 0, .int (-1)])), (a2_, .inl (cI, 1503, .inl (upd (fun _ => 0) 0 0))), (a3_, .inl (cI, 1503, .inl (upd (fun _ => 0) 0 0))), (a4_, .inl (cI, 1503, .inl (upd (fun _ => 0) 0 0)))] H := hP
  have hD : va_D A [(a0_, .inr (12, [.ref a1_, .ref a2_, .ref a3_, .ref a4_, .int 1, .int 0, .int 0, .int (-1), .int 0, .int (-1)])), (a2_, .inl (cI, 1503, .inl (upd (fun _ => 0) 0 0))), (a3_, .inl (cI, 1503, .inl (upd (fun _ => 0) 0 0))), (a4_, .inl (cI, 1503, .inl (upd (fun _ => 0) 0 0)))] := hD
  refine lv_iload_n hx hb dX9_add_50 rfl (lv_at hl 2 rfl) ?_
  refine lv_iload hx hb dX9_add_51 (lv_at hl 4 rfl) ?_
  refine lv_iadd hx hb dX9_add_53 ?_
  refine tp_i (y := 0) (by decide) ?_
  have hP9 := hP.sub (ws' := [(a0_, .inr (12, [.ref a1_, .ref a2_, .ref a3_, .ref a4_, .int 1, .int 0, .int 0, .int (-1), .int 0, .int (-1)])), (a2_, .inl (cI, 1503, .inl (upd (fun _ => 0) 0 0))), (a3_, .inl (cI, 1503, .inl (upd (fun _ => 0) 0 0))), (a4_, .inl (cI, 1503, .inl (upd (fun _ => 0) 0 0)))]) [0, 1, 2, 3] rfl
  have hD9 := hD.sub (ws' := [(a0_, .inr (12, [.ref a1_, .ref a2_, .ref a3_, .ref a4_, .int 1, .int 0, .int 0, .int (-1), .int 0, .int (-1)])), (a2_, .inl (cI, 1503, .inl (upd (fun _ => 0) 0 0))), (a3_, .inl (cI, 1503, .inl (upd (fun _ => 0) 0 0))), (a4_, .inl (cI, 1503, .inl (upd (fun _ => 0) 0 0)))]) [0, 1, 2, 3] (by decide) rfl
  refine W.widen (k := 0) (n := 0) (by omega) (by omega) ?_
  exact W.iret (v := 0) hx hb hr (fun t ht9 hW => ⟨⟨0, (), rfl, rfl, by rw [ht9]; exact hP9, hD9⟩, hS.F ht9⟩) hS.2.2 dX9_add_54
set_option maxHeartbeats 4000000 in
set_option maxRecDepth 100000 in
theorem c_X9_scanOne (l : Launch) (dC : Nat → ClassId) (dI : Nat → Nat → Nat) (cI cB cZ cJ cR : ClassId) (tb : Nat → Nat) (sz : Nat) (a0_ : Nat) (a1_ : Nat) (a2_ : Nat) (a3_ : Nat) (a4_ : Nat) (a5_ : Nat) (a6_ : Nat) (a7_ : Nat) (a8_ : Nat) (a9_ : Nat) (a10_ : Nat) (a11_ : Nat)  : Met l yX9_scanOne (Cond.code yX9_scanOne cX9_scanOne 3 (some .int) :: tw_W) ({ frames := 1, cells := 0, slots := 0, locals := 24 }) (pc_ (dC, dI) (tyS cI cB cZ cJ cR) tb [(a0_, .inr (12, [.ref a1_, .ref a2_, .ref a3_, .ref a4_, .int 0, .int 0, .int 0, .int (-1), .int 0, .int (-1)])), (a2_, .inl (cI, 1503, .inl (fun _ => 0))), (a3_, .inl (cI, 1503, .inl (fun _ => 0))), (a4_, .inl (cI, 1503, .inl (fun _ => 0))), (a1_, .inr (10, [.ref a5_, .int 0, .ref a6_, .int 0, .ref a7_, .int 0, .ref a8_, .ref a9_, .ref a10_, .int 0, .ref a11_, .int 0, .int 0]))] sz [.ref a0_, .int 0]) (qi_ (dC, dI) [(a0_, .inr (12, [.ref a1_, .ref a2_, .ref a3_, .ref a4_, .int 0, .int 0, .int 0, .int (-1), .int 0, .int (-1)])), (a2_, .inl (cI, 1503, .inl (fun _ => 0))), (a3_, .inl (cI, 1503, .inl (fun _ => 0))), (a4_, .inl (cI, 1503, .inl (fun _ => 0))), (a1_, .inr (10, [.ref a5_, .int 0, .ref a6_, .int 0, .ref a7_, .int 0, .ref a8_, .ref a9_, .ref a10_, .int 0, .ref a11_, .int 0, .int 0]))] sz (fun (r : Int32) (u : Unit) => r = 0) (fun (u : Unit) => [(a1_, .inr (10, [.ref a5_, .int 0, .ref a6_, .int 0, .ref a7_, .int 0, .ref a8_, .ref a9_, .ref a10_, .int 0, .ref a11_, .int 0, .int 0])), (a0_, .inr (12, [.ref a1_, .ref a2_, .ref a3_, .ref a4_, .int 1, .int 0, .int 0, .int (-1), .int 0, .int (-1)])), (a2_, .inl (cI, 1503, .inl (upd (fun _ => 0) 0 0))), (a3_, .inl (cI, 1503, .inl (upd (fun _ => 0) 0 0))), (a4_, .inl (cI, 1503, .inl (upd (fun _ => 0) 0 0)))])) 0 0 (va_A [(a0_, .inr (12, [.ref a1_, .ref a2_, .ref a3_, .ref a4_, .int 0, .int 0, .int 0, .int (-1), .int 0, .int (-1)])), (a2_, .inl (cI, 1503, .inl (fun _ => 0))), (a3_, .inl (cI, 1503, .inl (fun _ => 0))), (a4_, .inl (cI, 1503, .inl (fun _ => 0))), (a1_, .inr (10, [.ref a5_, .int 0, .ref a6_, .int 0, .ref a7_, .int 0, .ref a8_, .ref a9_, .ref a10_, .int 0, .ref a11_, .int 0, .int 0]))] sz) := by
  refine Met.ofW (cc := cX9_scanOne) (maxL := 3) (ret := (some .int)) (by decide) rfl ?_
  intro p e s m args below meth c s₁ B hml hv
  obtain ⟨rfl, hsz, hP, hKK, hD0, hFx⟩ := hv
  have hK := hKK.1
  have hx := B.exec
  have hb := B.bytes
  have hr := B.returns
  have ht : ∀ w ∈ tw_W, w.before _ s = true := fun w h => atoms_spec (ws := Cond.code yX9_scanOne cX9_scanOne 3 (some .int) :: tw_W) B.pre w (List.mem_cons_of_mem _ h)
  have hown : s.vm.findClass RX9 = some m.cls := findClass_of_methodNamed B.named
  have hlocks := B.notSynchronized
  subst hsz
  unfold qi_
  have hD := hD0.self (sz := s.heap.size)
  generalize hAe : va_A [(a0_, .inr (12, [.ref a1_, .ref a2_, .ref a3_, .ref a4_, .int 0, .int 0, .int 0, .int (-1), .int 0, .int (-1)])), (a2_, .inl (cI, 1503, .inl (fun _ => 0))), (a3_, .inl (cI, 1503, .inl (fun _ => 0))), (a4_, .inl (cI, 1503, .inl (fun _ => 0))), (a1_, .inr (10, [.ref a5_, .int 0, .ref a6_, .int 0, .ref a7_, .int 0, .ref a8_, .ref a9_, .ref a10_, .int 0, .ref a11_, .int 0, .int 0]))] s.heap.size = A at hD hFx ⊢
  have hA : ∀ q : Nat, s.heap.size ≤ q → A q := fun q h => by rw [← hAe]; exact Or.inr h
  have hS : va_S A s.heap s.heap [] := va_S.rf
  have hP : va_P (dC, dI) vwCl [(a0_, .inr (12, [.ref a1_, .ref a2_, .ref a3_, .ref a4_, .int 0, .int 0, .int 0, .int (-1), .int 0, .int (-1)])), (a2_, .inl (cI, 1503, .inl (fun _ => 0))), (a3_, .inl (cI, 1503, .inl (fun _ => 0))), (a4_, .inl (cI, 1503, .inl (fun _ => 0))), (a1_, .inr (10, [.ref a5_, .int 0, .ref a6_, .int 0, .ref a7_, .int 0, .ref a8_, .ref a9_, .ref a10_, .int 0, .ref a11_, .int 0, .int 0]))] s.heap := hP
  have hl := lv_entry ([.ref a0_, .int 0]) (n := 3) (Nat.le_of_ble_eq_true rfl)
  rw [lg_entry_eq]
  generalize (lg_sl ([.ref a0_, .int 0]) ++ List.replicate (3 - (lg_sl ([.ref a0_, .int 0])).length) Slot.unset).toArray = ls at hl ⊢
  have hl : lv_has ls 3 [(0, .ref a0_), (1, .int 0)] := hl
  refine lv_aload_n hx hb dX9_scanOne_0 rfl (lv_at hl 0 rfl) ?_
  refine va_get (D := (dC, dI)) (ci := 12) (v := .ref a1_) (C := RX9) (T := TX9) (N := 10) hx hb ht itX9 hown hK hP 0 rfl rfl 0 (by decide) (ht _ tw_51) (fun _ h9 => h9) rfl dX9_scanOne_1 ?_
  refine lv_iload_n hx hb dX9_scanOne_4 rfl (lv_at hl 1 rfl) ?_
  refine ca_i (wr := [(a0_, .inr (12, [.ref a1_, .ref a2_, .ref a3_, .ref a4_, .int 0, .int 0, .int 0, .int (-1), .int 0, .int (-1)])), (a2_, .inl (cI, 1503, .inl (fun _ => 0))), (a3_, .inl (cI, 1503, .inl (fun _ => 0))), (a4_, .inl (cI, 1503, .inl (fun _ => 0)))]) (rn_V (n := 1) (As := [.int 0]) (rest := []) hx hb hml hown ht hKK hFx hP hD hS hA (c_X7_byteAt l dC dI cI cB cZ cJ cR tb s.heap.size a1_ a5_ a6_ a7_ a8_ a9_ a10_ a11_) tw_159 tw_160 (by decide +kernel) rfl rfl ⟨Nat.le_of_ble_eq_true rfl, Nat.le_of_ble_eq_true rfl⟩ [4] rfl (by decide) rfl rfl rfl rfl hl.1 rfl (Nat.le_of_ble_eq_true rfl) dX9_scanOne_5 ⟨Nat.le_of_ble_eq_true rfl, Nat.le_of_ble_eq_true rfl⟩) hP hD hS hA (isC := [4]) (isR := [0, 1, 2, 3]) rfl rfl (by decide) (by decide) (fun r2 u H locs hw1 hP hD hS => ?_)
  subst hw1
  have hP : va_P (dC, dI) vwCl [(a0_, .inr (12, [.ref a1_, .ref a2_, .ref a3_, .ref a4_, .int 0, .int 0, .int 0, .int (-1), .int 0, .int (-1)])), (a2_, .inl (cI, 1503, .inl (fun _ => 0))), (a3_, .inl (cI, 1503, .inl (fun _ => 0))), (a4_, .inl (cI, 1503, .inl (fun _ => 0))), (a1_, .inr (10, [.ref a5_, .int 0, .ref a6_, .int 0, .ref a7_, .int 0, .ref a8_, .ref a9_, .ref a10_, .int 0, .ref a11_, .int 0, .int 0]))] H := hP
  have hD : va_D A [(a0_, .inr (12, [.ref a1_, .ref a2_, .ref a3_, .ref a4_, .int 0, .int 0, .int 0, .int (-1), .int 0, .int (-1)])), (a2_, .inl (cI, 1503, .inl (fun _ => 0))), (a3_, .inl (cI, 1503, .inl (fun _ => 0))), (a4_, .inl (cI, 1503, .inl (fun _ => 0))), (a1_, .inr (10, [.ref a5_, .int 0, .ref a6_, .int 0, .ref a7_, .int 0, .ref a8_, .ref a9_, .ref a10_, .int 0, .ref a11_, .int 0, .int 0]))] := hD
  refine W.widen (k := 0) (n := 0) (by omega) (by omega) ?_
  refine lv_istore_n (lv' := [(2, .int (-1)), (0, .ref a0_), (1, .int 0)]) hx hb dX9_scanOne_8 rfl hl (by decide) rfl (fun ls hl => ?_)
  refine lv_iload_n hx hb dX9_scanOne_9 rfl (lv_at hl 0 rfl) ?_
  refine lv_iconst (v := -1) hx hb dX9_scanOne_10 (by decide) ?_
  refine lv_icmp_ne (tgt := 23) hx hb dX9_scanOne_11 (by decide) (fun k3 => absurd k3 (by decide)) (fun _ => ?_)
  refine lv_aload_n hx hb dX9_scanOne_14 rfl (lv_at hl 1 rfl) ?_
  refine lv_iconst (v := 0) hx hb dX9_scanOne_15 (by decide) ?_
  refine lv_iload_n hx hb dX9_scanOne_16 rfl (lv_at hl 2 rfl) ?_
  refine lv_iconst (v := 0) hx hb dX9_scanOne_17 (by decide) ?_
  refine lv_iconst (v := 0) hx hb dX9_scanOne_18 (by decide) ?_
  refine ca_i (wr := [(a1_, .inr (10, [.ref a5_, .int 0, .ref a6_, .int 0, .ref a7_, .int 0, .ref a8_, .ref a9_, .ref a10_, .int 0, .ref a11_, .int 0, .int 0]))]) (rn_V (n := 4) (As := [.int 0, .int 0, .int 0, .int 0]) (rest := []) hx hb hml hown ht hKK hFx hP hD hS hA (c_X9_add l dC dI cI cB cZ cJ cR tb H.size a0_ a1_ a2_ a3_ a4_) tw_161 tw_162 (by decide +kernel) rfl rfl ⟨Nat.le_of_ble_eq_true rfl, Nat.le_of_ble_eq_true rfl⟩ [0, 1, 2, 3] rfl (by decide) rfl rfl rfl rfl hl.1 rfl (Nat.le_of_ble_eq_true rfl) dX9_scanOne_19 ⟨Nat.le_of_ble_eq_true rfl, Nat.le_of_ble_eq_true rfl⟩) hP hD hS hA (isC := [0, 1, 2, 3]) (isR := [4]) rfl rfl (by decide) (by decide) (fun r5 u H locs hw4 hP hD hS => ?_)
  subst hw4
  have hP : va_P (dC, dI) vwCl [(a1_, .inr (10, [.ref a5_, .int 0, .ref a6_, .int 0, .ref a7_, .int 0, .ref a8_, .ref a9_, .ref a10_, .int 0, .ref a11_, .int 0, .int 0])), (a0_, .inr (12, [.ref a1_, .ref a2_, .ref a3_, .ref a4_, .int 1, .int 0, .int 0, .int (-1), .int 0, .int (-1)])), (a2_, .inl (cI, 1503, .inl (upd (fun _ => 0) 0 0))), (a3_, .inl (cI, 1503, .inl (upd (fun _ => 0) 0 0))), (a4_, .inl (cI, 1503, .inl (upd (fun _ => 0) 0 0)))] H := hP
  have hD : va_D A [(a1_, .inr (10, [.ref a5_, .int 0, .ref a6_, .int 0, .ref a7_, .int 0, .ref a8_, .ref a9_, .ref a10_, .int 0, .ref a11_, .int 0, .int 0])), (a0_, .inr (12, [.ref a1_, .ref a2_, .ref a3_, .ref a4_, .int 1, .int 0, .int 0, .int (-1), .int 0, .int (-1)])), (a2_, .inl (cI, 1503, .inl (upd (fun _ => 0) 0 0))), (a3_, .inl (cI, 1503, .inl (upd (fun _ => 0) 0 0))), (a4_, .inl (cI, 1503, .inl (upd (fun _ => 0) 0 0)))] := hD
  refine W.widen (k := 0) (n := 0) (by omega) (by omega) ?_
  have hP9 := hP.sub (ws' := [(a1_, .inr (10, [.ref a5_, .int 0, .ref a6_, .int 0, .ref a7_, .int 0, .ref a8_, .ref a9_, .ref a10_, .int 0, .ref a11_, .int 0, .int 0])), (a0_, .inr (12, [.ref a1_, .ref a2_, .ref a3_, .ref a4_, .int 1, .int 0, .int 0, .int (-1), .int 0, .int (-1)])), (a2_, .inl (cI, 1503, .inl (upd (fun _ => 0) 0 0))), (a3_, .inl (cI, 1503, .inl (upd (fun _ => 0) 0 0))), (a4_, .inl (cI, 1503, .inl (upd (fun _ => 0) 0 0)))]) [0, 1, 2, 3, 4] rfl
  have hD9 := hD.sub (ws' := [(a1_, .inr (10, [.ref a5_, .int 0, .ref a6_, .int 0, .ref a7_, .int 0, .ref a8_, .ref a9_, .ref a10_, .int 0, .ref a11_, .int 0, .int 0])), (a0_, .inr (12, [.ref a1_, .ref a2_, .ref a3_, .ref a4_, .int 1, .int 0, .int 0, .int (-1), .int 0, .int (-1)])), (a2_, .inl (cI, 1503, .inl (upd (fun _ => 0) 0 0))), (a3_, .inl (cI, 1503, .inl (upd (fun _ => 0) 0 0))), (a4_, .inl (cI, 1503, .inl (upd (fun _ => 0) 0 0)))]) [0, 1, 2, 3, 4] (by decide) rfl
  refine W.widen (k := 0) (n := 0) (by omega) (by omega) ?_
  exact W.iret (v := 0) hx hb hr (fun t ht9 hW => ⟨⟨0, (), rfl, rfl, by rw [ht9]; exact hP9, hD9⟩, hS.F ht9⟩) hS.2.2 dX9_scanOne_22
set_option maxHeartbeats 4000000 in
set_option maxRecDepth 100000 in
theorem c_X9_scan (l : Launch) (dC : Nat → ClassId) (dI : Nat → Nat → Nat) (cI cB cZ cJ cR : ClassId) (tb : Nat → Nat) (sz : Nat) (a0_ : Nat) (a1_ : Nat) (a2_ : Nat) (a3_ : Nat) (a4_ : Nat) (a5_ : Nat) (a6_ : Nat) (a7_ : Nat) (a8_ : Nat) (a9_ : Nat) (a10_ : Nat) (a11_ : Nat)  : Met l yX9_scan (Cond.code yX9_scan cX9_scan 4 none :: tw_W) ({ frames := 2, cells := 0, slots := 0, locals := 46 }) (pc_ (dC, dI) (tyS cI cB cZ cJ cR) tb [(a0_, .inr (12, [.ref a1_, .ref a2_, .ref a3_, .ref a4_, .int 0, .int 0, .int 0, .int 0, .int 0, .int 0])), (a1_, .inr (10, [.ref a5_, .int 0, .ref a6_, .int 0, .ref a7_, .int 0, .ref a8_, .ref a9_, .ref a10_, .int 0, .ref a11_, .int 0, .int 0])), (a2_, .inl (cI, 1503, .inl (fun _ => 0))), (a3_, .inl (cI, 1503, .inl (fun _ => 0))), (a4_, .inl (cI, 1503, .inl (fun _ => 0)))] sz [.ref a0_, .ref a1_]) (qv_ (dC, dI) [(a0_, .inr (12, [.ref a1_, .ref a2_, .ref a3_, .ref a4_, .int 0, .int 0, .int 0, .int 0, .int 0, .int 0])), (a1_, .inr (10, [.ref a5_, .int 0, .ref a6_, .int 0, .ref a7_, .int 0, .ref a8_, .ref a9_, .ref a10_, .int 0, .ref a11_, .int 0, .int 0])), (a2_, .inl (cI, 1503, .inl (fun _ => 0))), (a3_, .inl (cI, 1503, .inl (fun _ => 0))), (a4_, .inl (cI, 1503, .inl (fun _ => 0)))] sz (fun (u : Unit) => True) (fun (u : Unit) => [(a1_, .inr (10, [.ref a5_, .int 0, .ref a6_, .int 0, .ref a7_, .int 0, .ref a8_, .ref a9_, .ref a10_, .int 0, .ref a11_, .int 0, .int 0])), (a0_, .inr (12, [.ref a1_, .ref a2_, .ref a3_, .ref a4_, .int 1, .int 0, .int 0, .int (-1), .int 0, .int (-1)])), (a2_, .inl (cI, 1503, .inl (upd (fun _ => 0) 0 0))), (a3_, .inl (cI, 1503, .inl (upd (fun _ => 0) 0 0))), (a4_, .inl (cI, 1503, .inl (upd (fun _ => 0) 0 0)))])) 0 0 (va_A [(a0_, .inr (12, [.ref a1_, .ref a2_, .ref a3_, .ref a4_, .int 0, .int 0, .int 0, .int 0, .int 0, .int 0])), (a1_, .inr (10, [.ref a5_, .int 0, .ref a6_, .int 0, .ref a7_, .int 0, .ref a8_, .ref a9_, .ref a10_, .int 0, .ref a11_, .int 0, .int 0])), (a2_, .inl (cI, 1503, .inl (fun _ => 0))), (a3_, .inl (cI, 1503, .inl (fun _ => 0))), (a4_, .inl (cI, 1503, .inl (fun _ => 0)))] sz) := by
  refine Met.ofW (cc := cX9_scan) (maxL := 4) (ret := none) (by decide) rfl ?_
  intro p e s m args below meth c s₁ B hml hv
  obtain ⟨rfl, hsz, hP, hKK, hD0, hFx⟩ := hv
  have hK := hKK.1
  have hx := B.exec
  have hb := B.bytes
  have hr := B.returns
  have ht : ∀ w ∈ tw_W, w.before _ s = true := fun w h => atoms_spec (ws := Cond.code yX9_scan cX9_scan 4 none :: tw_W) B.pre w (List.mem_cons_of_mem _ h)
  have hown : s.vm.findClass RX9 = some m.cls := findClass_of_methodNamed B.named
  have hlocks := B.notSynchronized
  subst hsz
  unfold qv_
  have hD := hD0.self (sz := s.heap.size)
  generalize hAe : va_A [(a0_, .inr (12, [.ref a1_, .ref a2_, .ref a3_, .ref a4_, .int 0, .int 0, .int 0, .int 0, .int 0, .int 0])), (a1_, .inr (10, [.ref a5_, .int 0, .ref a6_, .int 0, .ref a7_, .int 0, .ref a8_, .ref a9_, .ref a10_, .int 0, .ref a11_, .int 0, .int 0])), (a2_, .inl (cI, 1503, .inl (fun _ => 0))), (a3_, .inl (cI, 1503, .inl (fun _ => 0))), (a4_, .inl (cI, 1503, .inl (fun _ => 0)))] s.heap.size = A at hD hFx ⊢
  have hA : ∀ q : Nat, s.heap.size ≤ q → A q := fun q h => by rw [← hAe]; exact Or.inr h
  have hS : va_S A s.heap s.heap [] := va_S.rf
  have hP : va_P (dC, dI) vwCl [(a0_, .inr (12, [.ref a1_, .ref a2_, .ref a3_, .ref a4_, .int 0, .int 0, .int 0, .int 0, .int 0, .int 0])), (a1_, .inr (10, [.ref a5_, .int 0, .ref a6_, .int 0, .ref a7_, .int 0, .ref a8_, .ref a9_, .ref a10_, .int 0, .ref a11_, .int 0, .int 0])), (a2_, .inl (cI, 1503, .inl (fun _ => 0))), (a3_, .inl (cI, 1503, .inl (fun _ => 0))), (a4_, .inl (cI, 1503, .inl (fun _ => 0)))] s.heap := hP
  have hl := lv_entry ([.ref a0_, .ref a1_]) (n := 4) (Nat.le_of_ble_eq_true rfl)
  rw [lg_entry_eq]
  generalize (lg_sl ([.ref a0_, .ref a1_]) ++ List.replicate (4 - (lg_sl ([.ref a0_, .ref a1_])).length) Slot.unset).toArray = ls at hl ⊢
  have hl : lv_has ls 4 [(0, .ref a0_), (1, .ref a1_)] := hl
  refine lv_aload_n hx hb dX9_scan_0 rfl (lv_at hl 0 rfl) ?_
  refine lv_aload_n hx hb dX9_scan_1 rfl (lv_at hl 1 rfl) ?_
  refine va_put (D := (dC, dI)) (ci := 12) (v := .ref a1_) (ty := .object "PocketCompiler$Program") (C := RX9) (T := TX9) (N := 10) hx hb ht itX9 tyX9 tyX9_ok nmX9 hown hK hP hD hS 0 rfl rfl 0 (by decide) (ht _ tw_51) (fun _ h9 => h9) rfl (by decide +kernel) rfl rfl (Nat.le_of_ble_eq_true rfl) dX9_scan_2 (fun H locs hP hD hS => ?_)
  have hP : va_P (dC, dI) vwCl [(a0_, .inr (12, [.ref a1_, .ref a2_, .ref a3_, .ref a4_, .int 0, .int 0, .int 0, .int 0, .int 0, .int 0])), (a1_, .inr (10, [.ref a5_, .int 0, .ref a6_, .int 0, .ref a7_, .int 0, .ref a8_, .ref a9_, .ref a10_, .int 0, .ref a11_, .int 0, .int 0])), (a2_, .inl (cI, 1503, .inl (fun _ => 0))), (a3_, .inl (cI, 1503, .inl (fun _ => 0))), (a4_, .inl (cI, 1503, .inl (fun _ => 0)))] H := hP
  have hD : va_D A [(a0_, .inr (12, [.ref a1_, .ref a2_, .ref a3_, .ref a4_, .int 0, .int 0, .int 0, .int 0, .int 0, .int 0])), (a1_, .inr (10, [.ref a5_, .int 0, .ref a6_, .int 0, .ref a7_, .int 0, .ref a8_, .ref a9_, .ref a10_, .int 0, .ref a11_, .int 0, .int 0])), (a2_, .inl (cI, 1503, .inl (fun _ => 0))), (a3_, .inl (cI, 1503, .inl (fun _ => 0))), (a4_, .inl (cI, 1503, .inl (fun _ => 0)))] := hD
  refine lv_aload_n hx hb dX9_scan_5 rfl (lv_at hl 0 rfl) ?_
  refine lv_iconst (v := 0) hx hb dX9_scan_6 (by decide) ?_
  refine va_put (D := (dC, dI)) (ci := 12) (v := .int 0) (ty := .int) (C := RX9) (T := TX9) (N := 10) hx hb ht itX9 tyX9 tyX9_ok nmX9 hown hK hP hD hS 0 rfl rfl 4 (by decide) (ht _ tw_149) (fun _ h9 => h9) rfl (by decide +kernel) rfl rfl (Nat.le_of_ble_eq_true rfl) dX9_scan_7 (fun H locs hP hD hS => ?_)
  have hP : va_P (dC, dI) vwCl [(a0_, .inr (12, [.ref a1_, .ref a2_, .ref a3_, .ref a4_, .int 0, .int 0, .int 0, .int 0, .int 0, .int 0])), (a1_, .inr (10, [.ref a5_, .int 0, .ref a6_, .int 0, .ref a7_, .int 0, .ref a8_, .ref a9_, .ref a10_, .int 0, .ref a11_, .int 0, .int 0])), (a2_, .inl (cI, 1503, .inl (fun _ => 0))), (a3_, .inl (cI, 1503, .inl (fun _ => 0))), (a4_, .inl (cI, 1503, .inl (fun _ => 0)))] H := hP
  have hD : va_D A [(a0_, .inr (12, [.ref a1_, .ref a2_, .ref a3_, .ref a4_, .int 0, .int 0, .int 0, .int 0, .int 0, .int 0])), (a1_, .inr (10, [.ref a5_, .int 0, .ref a6_, .int 0, .ref a7_, .int 0, .ref a8_, .ref a9_, .ref a10_, .int 0, .ref a11_, .int 0, .int 0])), (a2_, .inl (cI, 1503, .inl (fun _ => 0))), (a3_, .inl (cI, 1503, .inl (fun _ => 0))), (a4_, .inl (cI, 1503, .inl (fun _ => 0)))] := hD
  refine lv_aload_n hx hb dX9_scan_10 rfl (lv_at hl 0 rfl) ?_
  refine lv_iconst (v := 0) hx hb dX9_scan_11 (by decide) ?_
  refine va_put (D := (dC, dI)) (ci := 12) (v := .int 0) (ty := .int) (C := RX9) (T := TX9) (N := 10) hx hb ht itX9 tyX9 tyX9_ok nmX9 hown hK hP hD hS 0 rfl rfl 5 (by decide) (ht _ tw_150) (fun _ h9 => h9) rfl (by decide +kernel) rfl rfl (Nat.le_of_ble_eq_true rfl) dX9_scan_12 (fun H locs hP hD hS => ?_)
  have hP : va_P (dC, dI) vwCl [(a0_, .inr (12, [.ref a1_, .ref a2_, .ref a3_, .ref a4_, .int 0, .int 0, .int 0, .int 0, .int 0, .int 0])), (a1_, .inr (10, [.ref a5_, .int 0, .ref a6_, .int 0, .ref a7_, .int 0, .ref a8_, .ref a9_, .ref a10_, .int 0, .ref a11_, .int 0, .int 0])), (a2_, .inl (cI, 1503, .inl (fun _ => 0))), (a3_, .inl (cI, 1503, .inl (fun _ => 0))), (a4_, .inl (cI, 1503, .inl (fun _ => 0)))] H := hP
  have hD : va_D A [(a0_, .inr (12, [.ref a1_, .ref a2_, .ref a3_, .ref a4_, .int 0, .int 0, .int 0, .int 0, .int 0, .int 0])), (a1_, .inr (10, [.ref a5_, .int 0, .ref a6_, .int 0, .ref a7_, .int 0, .ref a8_, .ref a9_, .ref a10_, .int 0, .ref a11_, .int 0, .int 0])), (a2_, .inl (cI, 1503, .inl (fun _ => 0))), (a3_, .inl (cI, 1503, .inl (fun _ => 0))), (a4_, .inl (cI, 1503, .inl (fun _ => 0)))] := hD
  refine lv_aload_n hx hb dX9_scan_15 rfl (lv_at hl 0 rfl) ?_
  refine lv_iconst (v := 0) hx hb dX9_scan_16 (by decide) ?_
  refine va_put (D := (dC, dI)) (ci := 12) (v := .int 0) (ty := .int) (C := RX9) (T := TX9) (N := 10) hx hb ht itX9 tyX9 tyX9_ok nmX9 hown hK hP hD hS 0 rfl rfl 6 (by decide) (ht _ tw_151) (fun _ h9 => h9) rfl (by decide +kernel) rfl rfl (Nat.le_of_ble_eq_true rfl) dX9_scan_17 (fun H locs hP hD hS => ?_)
  have hP : va_P (dC, dI) vwCl [(a0_, .inr (12, [.ref a1_, .ref a2_, .ref a3_, .ref a4_, .int 0, .int 0, .int 0, .int 0, .int 0, .int 0])), (a1_, .inr (10, [.ref a5_, .int 0, .ref a6_, .int 0, .ref a7_, .int 0, .ref a8_, .ref a9_, .ref a10_, .int 0, .ref a11_, .int 0, .int 0])), (a2_, .inl (cI, 1503, .inl (fun _ => 0))), (a3_, .inl (cI, 1503, .inl (fun _ => 0))), (a4_, .inl (cI, 1503, .inl (fun _ => 0)))] H := hP
  have hD : va_D A [(a0_, .inr (12, [.ref a1_, .ref a2_, .ref a3_, .ref a4_, .int 0, .int 0, .int 0, .int 0, .int 0, .int 0])), (a1_, .inr (10, [.ref a5_, .int 0, .ref a6_, .int 0, .ref a7_, .int 0, .ref a8_, .ref a9_, .ref a10_, .int 0, .ref a11_, .int 0, .int 0])), (a2_, .inl (cI, 1503, .inl (fun _ => 0))), (a3_, .inl (cI, 1503, .inl (fun _ => 0))), (a4_, .inl (cI, 1503, .inl (fun _ => 0)))] := hD
  refine lv_aload_n hx hb dX9_scan_20 rfl (lv_at hl 0 rfl) ?_
  refine lv_iconst (v := -1) hx hb dX9_scan_21 (by decide) ?_
  refine va_put (D := (dC, dI)) (ci := 12) (v := .int (-1)) (ty := .int) (C := RX9) (T := TX9) (N := 10) hx hb ht itX9 tyX9 tyX9_ok nmX9 hown hK hP hD hS 0 rfl rfl 7 (by decide) (ht _ tw_152) (fun _ h9 => h9) rfl (by decide +kernel) rfl rfl (Nat.le_of_ble_eq_true rfl) dX9_scan_22 (fun H locs hP hD hS => ?_)
  have hP : va_P (dC, dI) vwCl [(a0_, .inr (12, [.ref a1_, .ref a2_, .ref a3_, .ref a4_, .int 0, .int 0, .int 0, .int (-1), .int 0, .int 0])), (a1_, .inr (10, [.ref a5_, .int 0, .ref a6_, .int 0, .ref a7_, .int 0, .ref a8_, .ref a9_, .ref a10_, .int 0, .ref a11_, .int 0, .int 0])), (a2_, .inl (cI, 1503, .inl (fun _ => 0))), (a3_, .inl (cI, 1503, .inl (fun _ => 0))), (a4_, .inl (cI, 1503, .inl (fun _ => 0)))] H := hP
  have hD : va_D A [(a0_, .inr (12, [.ref a1_, .ref a2_, .ref a3_, .ref a4_, .int 0, .int 0, .int 0, .int (-1), .int 0, .int 0])), (a1_, .inr (10, [.ref a5_, .int 0, .ref a6_, .int 0, .ref a7_, .int 0, .ref a8_, .ref a9_, .ref a10_, .int 0, .ref a11_, .int 0, .int 0])), (a2_, .inl (cI, 1503, .inl (fun _ => 0))), (a3_, .inl (cI, 1503, .inl (fun _ => 0))), (a4_, .inl (cI, 1503, .inl (fun _ => 0)))] := hD
  refine lv_aload_n hx hb dX9_scan_25 rfl (lv_at hl 0 rfl) ?_
  refine lv_iconst (v := 0) hx hb dX9_scan_26 (by decide) ?_
  refine va_put (D := (dC, dI)) (ci := 12) (v := .int 0) (ty := .int) (C := RX9) (T := TX9) (N := 10) hx hb ht itX9 tyX9 tyX9_ok nmX9 hown hK hP hD hS 0 rfl rfl 8 (by decide) (ht _ tw_153) (fun _ h9 => h9) rfl (by decide +kernel) rfl rfl (Nat.le_of_ble_eq_true rfl) dX9_scan_27 (fun H locs hP hD hS => ?_)
  have hP : va_P (dC, dI) vwCl [(a0_, .inr (12, [.ref a1_, .ref a2_, .ref a3_, .ref a4_, .int 0, .int 0, .int 0, .int (-1), .int 0, .int 0])), (a1_, .inr (10, [.ref a5_, .int 0, .ref a6_, .int 0, .ref a7_, .int 0, .ref a8_, .ref a9_, .ref a10_, .int 0, .ref a11_, .int 0, .int 0])), (a2_, .inl (cI, 1503, .inl (fun _ => 0))), (a3_, .inl (cI, 1503, .inl (fun _ => 0))), (a4_, .inl (cI, 1503, .inl (fun _ => 0)))] H := hP
  have hD : va_D A [(a0_, .inr (12, [.ref a1_, .ref a2_, .ref a3_, .ref a4_, .int 0, .int 0, .int 0, .int (-1), .int 0, .int 0])), (a1_, .inr (10, [.ref a5_, .int 0, .ref a6_, .int 0, .ref a7_, .int 0, .ref a8_, .ref a9_, .ref a10_, .int 0, .ref a11_, .int 0, .int 0])), (a2_, .inl (cI, 1503, .inl (fun _ => 0))), (a3_, .inl (cI, 1503, .inl (fun _ => 0))), (a4_, .inl (cI, 1503, .inl (fun _ => 0)))] := hD
  refine lv_aload_n hx hb dX9_scan_30 rfl (lv_at hl 0 rfl) ?_
  refine lv_iconst (v := -1) hx hb dX9_scan_31 (by decide) ?_
  refine va_put (D := (dC, dI)) (ci := 12) (v := .int (-1)) (ty := .int) (C := RX9) (T := TX9) (N := 10) hx hb ht itX9 tyX9 tyX9_ok nmX9 hown hK hP hD hS 0 rfl rfl 9 (by decide) (ht _ tw_154) (fun _ h9 => h9) rfl (by decide +kernel) rfl rfl (Nat.le_of_ble_eq_true rfl) dX9_scan_32 (fun H locs hP hD hS => ?_)
  have hP : va_P (dC, dI) vwCl [(a0_, .inr (12, [.ref a1_, .ref a2_, .ref a3_, .ref a4_, .int 0, .int 0, .int 0, .int (-1), .int 0, .int (-1)])), (a1_, .inr (10, [.ref a5_, .int 0, .ref a6_, .int 0, .ref a7_, .int 0, .ref a8_, .ref a9_, .ref a10_, .int 0, .ref a11_, .int 0, .int 0])), (a2_, .inl (cI, 1503, .inl (fun _ => 0))), (a3_, .inl (cI, 1503, .inl (fun _ => 0))), (a4_, .inl (cI, 1503, .inl (fun _ => 0)))] H := hP
  have hD : va_D A [(a0_, .inr (12, [.ref a1_, .ref a2_, .ref a3_, .ref a4_, .int 0, .int 0, .int 0, .int (-1), .int 0, .int (-1)])), (a1_, .inr (10, [.ref a5_, .int 0, .ref a6_, .int 0, .ref a7_, .int 0, .ref a8_, .ref a9_, .ref a10_, .int 0, .ref a11_, .int 0, .int 0])), (a2_, .inl (cI, 1503, .inl (fun _ => 0))), (a3_, .inl (cI, 1503, .inl (fun _ => 0))), (a4_, .inl (cI, 1503, .inl (fun _ => 0)))] := hD
  refine lv_iconst (v := 0) hx hb dX9_scan_35 (by decide) ?_
  refine lv_istore_n (lv' := [(2, .int 0), (0, .ref a0_), (1, .ref a1_)]) hx hb dX9_scan_36 rfl hl (by decide) rfl (fun ls hl => ?_)
  refine lv_iconst (v := 0) hx hb dX9_scan_37 (by decide) ?_
  refine lv_istore_n (lv' := [(3, .int 0), (2, .int 0), (0, .ref a0_), (1, .ref a1_)]) hx hb dX9_scan_38 rfl hl (by decide) rfl (fun ls hl => ?_)
  refine lv_iload_n hx hb dX9_scan_39 rfl (lv_at hl 0 rfl) ?_
  refine lv_sipush (v := 1503) hx hb dX9_scan_40 (by decide) ?_
  refine lv_icmp_ge (tgt := 82) hx hb dX9_scan_43 (by decide) (fun k1 => absurd k1 (by decide)) (fun _ => ?_)
  refine lv_aload_n hx hb dX9_scan_46 rfl (lv_at hl 2 rfl) ?_
  refine lv_aload_n hx hb dX9_scan_47 rfl (lv_at hl 2 rfl) ?_
  refine lv_iload_n hx hb dX9_scan_48 rfl (lv_at hl 1 rfl) ?_
  refine ca_i (wr := [(a2_, .inl (cI, 1503, .inl (fun _ => 0))), (a3_, .inl (cI, 1503, .inl (fun _ => 0))), (a4_, .inl (cI, 1503, .inl (fun _ => 0)))]) (rn_V (n := 1) (As := [.int 0]) (rest := [.ref a0_]) hx hb hml hown ht hKK hFx hP hD hS hA (c_X9_behindBlanks l dC dI cI cB cZ cJ cR tb H.size a0_ a1_ a2_ a3_ a4_ a5_ a6_ a7_ a8_ a9_ a10_ a11_) tw_156 tw_157 (by decide +kernel) rfl rfl ⟨Nat.le_of_ble_eq_true rfl, Nat.le_of_ble_eq_true rfl⟩ [0, 1] rfl (by decide) rfl rfl rfl rfl hl.1 rfl (Nat.le_of_ble_eq_true rfl) dX9_scan_49 ⟨Nat.le_of_ble_eq_true rfl, Nat.le_of_ble_eq_true rfl⟩) hP hD hS hA (isC := [0, 1]) (isR := [2, 3, 4]) rfl rfl (by decide) (by decide) (fun r3 u H locs hw2 hP hD hS => ?_)
  subst hw2
  have hP : va_P (dC, dI) vwCl [(a2_, .inl (cI, 1503, .inl (fun _ => 0))), (a3_, .inl (cI, 1503, .inl (fun _ => 0))), (a4_, .inl (cI, 1503, .inl (fun _ => 0))), (a0_, .inr (12, [.ref a1_, .ref a2_, .ref a3_, .ref a4_, .int 0, .int 0, .int 0, .int (-1), .int 0, .int (-1)])), (a1_, .inr (10, [.ref a5_, .int 0, .ref a6_, .int 0, .ref a7_, .int 0, .ref a8_, .ref a9_, .ref a10_, .int 0, .ref a11_, .int 0, .int 0]))] H := hP
  have hD : va_D A [(a2_, .inl (cI, 1503, .inl (fun _ => 0))), (a3_, .inl (cI, 1503, .inl (fun _ => 0))), (a4_, .inl (cI, 1503, .inl (fun _ => 0))), (a0_, .inr (12, [.ref a1_, .ref a2_, .ref a3_, .ref a4_, .int 0, .int 0, .int 0, .int (-1), .int 0, .int (-1)])), (a1_, .inr (10, [.ref a5_, .int 0, .ref a6_, .int 0, .ref a7_, .int 0, .ref a8_, .ref a9_, .ref a10_, .int 0, .ref a11_, .int 0, .int 0]))] := hD
  refine W.widen (k := 0) (n := 0) (by omega) (by omega) ?_
  refine ca_i (wr := []) (rn_V (n := 1) (As := [.int 0]) (rest := []) hx hb hml hown ht hKK hFx hP hD hS hA (c_X9_scanOne l dC dI cI cB cZ cJ cR tb H.size a0_ a1_ a2_ a3_ a4_ a5_ a6_ a7_ a8_ a9_ a10_ a11_) tw_163 tw_164 (by decide +kernel) rfl rfl ⟨Nat.le_of_ble_eq_true rfl, Nat.le_of_ble_eq_true rfl⟩ [3, 0, 1, 2, 4] rfl (by decide) rfl rfl rfl rfl hl.1 rfl (Nat.le_of_ble_eq_true rfl) dX9_scan_52 ⟨Nat.le_of_ble_eq_true rfl, Nat.le_of_ble_eq_true rfl⟩) hP hD hS hA (isC := [3, 0, 1, 2, 4]) (isR := []) rfl rfl (by decide) (by decide) (fun r5 u H locs hw4 hP hD hS => ?_)
  subst hw4
  have hP : va_P (dC, dI) vwCl [(a1_, .inr (10, [.ref a5_, .int 0, .ref a6_, .int 0, .ref a7_, .int 0, .ref a8_, .ref a9_, .ref a10_, .int 0, .ref a11_, .int 0, .int 0])), (a0_, .inr (12, [.ref a1_, .ref a2_, .ref a3_, .ref a4_, .int 1, .int 0, .int 0, .int (-1), .int 0, .int (-1)])), (a2_, .inl (cI, 1503, .inl (upd (fun _ => 0) 0 0))), (a3_, .inl (cI, 1503, .inl (upd (fun _ => 0) 0 0))), (a4_, .inl (cI, 1503, .inl (upd (fun _ => 0) 0 0)))] H := hP
  have hD : va_D A [(a1_, .inr (10, [.ref a5_, .int 0, .ref a6_, .int 0, .ref a7_, .int 0, .ref a8_, .ref a9_, .ref a10_, .int 0, .ref a11_, .int 0, .int 0])), (a0_, .inr (12, [.ref a1_, .ref a2_, .ref a3_, .ref a4_, .int 1, .int 0, .int 0, .int (-1), .int 0, .int (-1)])), (a2_, .inl (cI, 1503, .inl (upd (fun _ => 0) 0 0))), (a3_, .inl (cI, 1503, .inl (upd (fun _ => 0) 0 0))), (a4_, .inl (cI, 1503, .inl (upd (fun _ => 0) 0 0)))] := hD
  refine W.widen (k := 0) (n := 0) (by omega) (by omega) ?_
  refine lv_istore_n (lv' := [(2, .int 0), (3, .int 0), (0, .ref a0_), (1, .ref a1_)]) hx hb dX9_scan_55 rfl hl (by decide) rfl (fun ls hl => ?_)
  refine lv_aload_n hx hb dX9_scan_56 rfl (lv_at hl 2 rfl) ?_
  refine va_get (D := (dC, dI)) (ci := 12) (v := .ref a2_) (C := RX9) (T := TX9) (N := 10) hx hb ht itX9 hown hK hP 1 rfl rfl 1 (by decide) (ht _ tw_48) (fun _ h9 => h9) rfl dX9_scan_57 ?_
  refine lv_iload_n hx hb dX9_scan_60 rfl (lv_at hl 1 rfl) ?_
  refine va_iald (D := (dC, dI)) hx hb hK hP 2 0 rfl rfl (vp_in_iff.mpr (by decide)) dX9_scan_61 ?_
  refine tp_i (y := 0) (rfl) ?_
  refine lv_if_eq (tgt := 75) hx hb dX9_scan_62 (by decide) (fun _ => ?_) (fun k6 => absurd k6 (by decide))
  have hP9 := hP.sub (ws' := [(a1_, .inr (10, [.ref a5_, .int 0, .ref a6_, .int 0, .ref a7_, .int 0, .ref a8_, .ref a9_, .ref a10_, .int 0, .ref a11_, .int 0, .int 0])), (a0_, .inr (12, [.ref a1_, .ref a2_, .ref a3_, .ref a4_, .int 1, .int 0, .int 0, .int (-1), .int 0, .int (-1)])), (a2_, .inl (cI, 1503, .inl (upd (fun _ => 0) 0 0))), (a3_, .inl (cI, 1503, .inl (upd (fun _ => 0) 0 0))), (a4_, .inl (cI, 1503, .inl (upd (fun _ => 0) 0 0)))]) [0, 1, 2, 3, 4] rfl
  have hD9 := hD.sub (ws' := [(a1_, .inr (10, [.ref a5_, .int 0, .ref a6_, .int 0, .ref a7_, .int 0, .ref a8_, .ref a9_, .ref a10_, .int 0, .ref a11_, .int 0, .int 0])), (a0_, .inr (12, [.ref a1_, .ref a2_, .ref a3_, .ref a4_, .int 1, .int 0, .int 0, .int (-1), .int 0, .int (-1)])), (a2_, .inl (cI, 1503, .inl (upd (fun _ => 0) 0 0))), (a3_, .inl (cI, 1503, .inl (upd (fun _ => 0) 0 0))), (a4_, .inl (cI, 1503, .inl (upd (fun _ => 0) 0 0)))]) [0, 1, 2, 3, 4] (by decide) rfl
  refine W.widen (k := 0) (n := 0) (by omega) (by omega) ?_
  exact W.vret hx hb hr (fun t ht9 hW => ⟨⟨(), rfl, trivial, by rw [ht9]; exact hP9, hD9⟩, hS.F ht9⟩) hS.2.2 dX9_scan_75
set_option maxHeartbeats 4000000 in
set_option maxRecDepth 100000 in
theorem c_X7_clear (l : Launch) (dC : Nat → ClassId) (dI : Nat → Nat → Nat) (cI cB cZ cJ cR : ClassId) (tb : Nat → Nat) (sz : Nat) (a0_ : Nat) (a1_ : Nat) (a2_ : Nat) (a3_ : Nat) (a4_ : Nat) (a5_ : Nat) (a6_ : Nat) (a7_ : Nat)  : Met l yX7_clear (Cond.code yX7_clear cX7_clear 1 none :: tw_W) ({ frames := 0, cells := 0, slots := 0, locals := 0 }) (pc_ (dC, dI) (tyS cI cB cZ cJ cR) tb [(a0_, .inr (10, [.ref a1_, .int 0, .ref a2_, .int 0, .ref a3_, .int 0, .ref a4_, .ref a5_, .ref a6_, .int 0, .ref a7_, .int 0, .int 0]))] sz [.ref a0_]) (qv_ (dC, dI) [(a0_, .inr (10, [.ref a1_, .int 0, .ref a2_, .int 0, .ref a3_, .int 0, .ref a4_, .ref a5_, .ref a6_, .int 0, .ref a7_, .int 0, .int 0]))] sz (fun (u : Unit) => True) (fun (u : Unit) => [(a0_, .inr (10, [.ref a1_, .int 0, .ref a2_, .int 0, .ref a3_, .int 0, .ref a4_, .ref a5_, .ref a6_, .int 0, .ref a7_, .int 0, .int 0]))])) 0 0 (va_A [(a0_, .inr (10, [.ref a1_, .int 0, .ref a2_, .int 0, .ref a3_, .int 0, .ref a4_, .ref a5_, .ref a6_, .int 0, .ref a7_, .int 0, .int 0]))] sz) := by
  refine Met.ofW (cc := cX7_clear) (maxL := 1) (ret := none) (by decide) rfl ?_
  intro p e s m args below meth c s₁ B hml hv
  obtain ⟨rfl, hsz, hP, hKK, hD0, hFx⟩ := hv
  have hK := hKK.1
  have hx := B.exec
  have hb := B.bytes
  have hr := B.returns
  have ht : ∀ w ∈ tw_W, w.before _ s = true := fun w h => atoms_spec (ws := Cond.code yX7_clear cX7_clear 1 none :: tw_W) B.pre w (List.mem_cons_of_mem _ h)
  have hown : s.vm.findClass RX7 = some m.cls := findClass_of_methodNamed B.named
  have hlocks := B.notSynchronized
  subst hsz
  unfold qv_
  have hD := hD0.self (sz := s.heap.size)
  generalize hAe : va_A [(a0_, .inr (10, [.ref a1_, .int 0, .ref a2_, .int 0, .ref a3_, .int 0, .ref a4_, .ref a5_, .ref a6_, .int 0, .ref a7_, .int 0, .int 0]))] s.heap.size = A at hD hFx ⊢
  have hA : ∀ q : Nat, s.heap.size ≤ q → A q := fun q h => by rw [← hAe]; exact Or.inr h
  have hS : va_S A s.heap s.heap [] := va_S.rf
  have hP : va_P (dC, dI) vwCl [(a0_, .inr (10, [.ref a1_, .int 0, .ref a2_, .int 0, .ref a3_, .int 0, .ref a4_, .ref a5_, .ref a6_, .int 0, .ref a7_, .int 0, .int 0]))] s.heap := hP
  have hl := lv_entry ([.ref a0_]) (n := 1) (Nat.le_of_ble_eq_true rfl)
  rw [lg_entry_eq]
  generalize (lg_sl ([.ref a0_]) ++ List.replicate (1 - (lg_sl ([.ref a0_])).length) Slot.unset).toArray = ls at hl ⊢
  have hl : lv_has ls 1 [(0, .ref a0_)] := hl
  refine lv_aload_n hx hb dX7_clear_0 rfl (lv_at hl 0 rfl) ?_
  refine lv_iconst (v := 0) hx hb dX7_clear_1 (by decide) ?_
  refine va_put (D := (dC, dI)) (ci := 10) (v := .int 0) (ty := .int) (C := RX7) (T := TX7) (N := 13) hx hb ht itX7 tyX7 tyX7_ok nmX7 hown hK hP hD hS 0 rfl rfl 3 (by decide) (ht _ tw_167) (fun _ h9 => h9) rfl (by decide +kernel) rfl rfl (Nat.le_of_ble_eq_true rfl) dX7_clear_2 (fun H locs hP hD hS => ?_)
  have hP : va_P (dC, dI) vwCl [(a0_, .inr (10, [.ref a1_, .int 0, .ref a2_, .int 0, .ref a3_, .int 0, .ref a4_, .ref a5_, .ref a6_, .int 0, .ref a7_, .int 0, .int 0]))] H := hP
  have hD : va_D A [(a0_, .inr (10, [.ref a1_, .int 0, .ref a2_, .int 0, .ref a3_, .int 0, .ref a4_, .ref a5_, .ref a6_, .int 0, .ref a7_, .int 0, .int 0]))] := hD
  refine lv_aload_n hx hb dX7_clear_5 rfl (lv_at hl 0 rfl) ?_
  refine lv_iconst (v := 0) hx hb dX7_clear_6 (by decide) ?_
  refine va_put (D := (dC, dI)) (ci := 10) (v := .int 0) (ty := .int) (C := RX7) (T := TX7) (N := 13) hx hb ht itX7 tyX7 tyX7_ok nmX7 hown hK hP hD hS 0 rfl rfl 5 (by decide) (ht _ tw_168) (fun _ h9 => h9) rfl (by decide +kernel) rfl rfl (Nat.le_of_ble_eq_true rfl) dX7_clear_7 (fun H locs hP hD hS => ?_)
  have hP : va_P (dC, dI) vwCl [(a0_, .inr (10, [.ref a1_, .int 0, .ref a2_, .int 0, .ref a3_, .int 0, .ref a4_, .ref a5_, .ref a6_, .int 0, .ref a7_, .int 0, .int 0]))] H := hP
  have hD : va_D A [(a0_, .inr (10, [.ref a1_, .int 0, .ref a2_, .int 0, .ref a3_, .int 0, .ref a4_, .ref a5_, .ref a6_, .int 0, .ref a7_, .int 0, .int 0]))] := hD
  refine lv_aload_n hx hb dX7_clear_10 rfl (lv_at hl 0 rfl) ?_
  refine lv_iconst (v := 0) hx hb dX7_clear_11 (by decide) ?_
  refine va_put (D := (dC, dI)) (ci := 10) (v := .int 0) (ty := .int) (C := RX7) (T := TX7) (N := 13) hx hb ht itX7 tyX7 tyX7_ok nmX7 hown hK hP hD hS 0 rfl rfl 9 (by decide) (ht _ tw_169) (fun _ h9 => h9) rfl (by decide +kernel) rfl rfl (Nat.le_of_ble_eq_true rfl) dX7_clear_12 (fun H locs hP hD hS => ?_)
  have hP : va_P (dC, dI) vwCl [(a0_, .inr (10, [.ref a1_, .int 0, .ref a2_, .int 0, .ref a3_, .int 0, .ref a4_, .ref a5_, .ref a6_, .int 0, .ref a7_, .int 0, .int 0]))] H := hP
  have hD : va_D A [(a0_, .inr (10, [.ref a1_, .int 0, .ref a2_, .int 0, .ref a3_, .int 0, .ref a4_, .ref a5_, .ref a6_, .int 0, .ref a7_, .int 0, .int 0]))] := hD
  refine lv_aload_n hx hb dX7_clear_15 rfl (lv_at hl 0 rfl) ?_
  refine lv_iconst (v := 0) hx hb dX7_clear_16 (by decide) ?_
  refine va_put (D := (dC, dI)) (ci := 10) (v := .int 0) (ty := .int) (C := RX7) (T := TX7) (N := 13) hx hb ht itX7 tyX7 tyX7_ok nmX7 hown hK hP hD hS 0 rfl rfl 11 (by decide) (ht _ tw_170) (fun _ h9 => h9) rfl (by decide +kernel) rfl rfl (Nat.le_of_ble_eq_true rfl) dX7_clear_17 (fun H locs hP hD hS => ?_)
  have hP : va_P (dC, dI) vwCl [(a0_, .inr (10, [.ref a1_, .int 0, .ref a2_, .int 0, .ref a3_, .int 0, .ref a4_, .ref a5_, .ref a6_, .int 0, .ref a7_, .int 0, .int 0]))] H := hP
  have hD : va_D A [(a0_, .inr (10, [.ref a1_, .int 0, .ref a2_, .int 0, .ref a3_, .int 0, .ref a4_, .ref a5_, .ref a6_, .int 0, .ref a7_, .int 0, .int 0]))] := hD
  refine lv_aload_n hx hb dX7_clear_20 rfl (lv_at hl 0 rfl) ?_
  refine lv_iconst (v := 0) hx hb dX7_clear_21 (by decide) ?_
  refine va_put (D := (dC, dI)) (ci := 10) (v := .int 0) (ty := .int) (C := RX7) (T := TX7) (N := 13) hx hb ht itX7 tyX7 tyX7_ok nmX7 hown hK hP hD hS 0 rfl rfl 12 (by decide) (ht _ tw_171) (fun _ h9 => h9) rfl (by decide +kernel) rfl rfl (Nat.le_of_ble_eq_true rfl) dX7_clear_22 (fun H locs hP hD hS => ?_)
  have hP : va_P (dC, dI) vwCl [(a0_, .inr (10, [.ref a1_, .int 0, .ref a2_, .int 0, .ref a3_, .int 0, .ref a4_, .ref a5_, .ref a6_, .int 0, .ref a7_, .int 0, .int 0]))] H := hP
  have hD : va_D A [(a0_, .inr (10, [.ref a1_, .int 0, .ref a2_, .int 0, .ref a3_, .int 0, .ref a4_, .ref a5_, .ref a6_, .int 0, .ref a7_, .int 0, .int 0]))] := hD
  have hP9 := hP.sub (ws' := [(a0_, .inr (10, [.ref a1_, .int 0, .ref a2_, .int 0, .ref a3_, .int 0, .ref a4_, .ref a5_, .ref a6_, .int 0, .ref a7_, .int 0, .int 0]))]) [0] rfl
  have hD9 := hD.sub (ws' := [(a0_, .inr (10, [.ref a1_, .int 0, .ref a2_, .int 0, .ref a3_, .int 0, .ref a4_, .ref a5_, .ref a6_, .int 0, .ref a7_, .int 0, .int 0]))]) [0] (by decide) rfl
  refine W.widen (k := 0) (n := 0) (by omega) (by omega) ?_
  exact W.vret hx hb hr (fun t ht9 hW => ⟨⟨(), rfl, trivial, by rw [ht9]; exact hP9, hD9⟩, hS.F ht9⟩) hS.2.2 dX7_clear_25
set_option maxHeartbeats 4000000 in
set_option maxRecDepth 100000 in
theorem c_X1_begin (l : Launch) (dC : Nat → ClassId) (dI : Nat → Nat → Nat) (cI cB cZ cJ cR : ClassId) (tb : Nat → Nat) (sz : Nat) (a0_ : Nat) (a1_ : Nat) (a2_ : Nat) (a3_ : Nat) (a4_ : Nat) (a5_ : Nat) (a6_ : Nat) (a7_ : Nat) (a8_ : Nat) (a9_ : Nat) (a10_ : Nat) (a11_ : Nat) (a12_ : Nat) (a13_ : Nat)  : Met l yX1_begin (Cond.code yX1_begin cX1_begin 2 none :: tw_W) ({ frames := 1, cells := 0, slots := 0, locals := 20 }) (pc_ (dC, dI) (tyS cI cB cZ cJ cR) tb [(a0_, .inr (5, [.ref a1_, .ref a2_, .int 0, .int 0, .int 0, .int 0, .ref a3_, .int 0, .ref a4_, .ref a5_, .ref a6_, .int 0])), (a1_, .inr (10, [.ref a7_, .int 0, .ref a8_, .int 0, .ref a9_, .int 0, .ref a10_, .ref a11_, .ref a12_, .int 0, .ref a13_, .int 0, .int 0]))] sz [.ref a0_, .ref a1_]) (qv_ (dC, dI) [(a0_, .inr (5, [.ref a1_, .ref a2_, .int 0, .int 0, .int 0, .int 0, .ref a3_, .int 0, .ref a4_, .ref a5_, .ref a6_, .int 0])), (a1_, .inr (10, [.ref a7_, .int 0, .ref a8_, .int 0, .ref a9_, .int 0, .ref a10_, .ref a11_, .ref a12_, .int 0, .ref a13_, .int 0, .int 0]))] sz (fun (u : Unit) => True) (fun (u : Unit) => [(a0_, .inr (5, [.ref a1_, .ref a2_, .int 0, .int 0, .int 0, .int 0, .ref a3_, .int 0, .ref a4_, .ref a5_, .ref a6_, .int 0])), (a1_, .inr (10, [.ref a7_, .int 0, .ref a8_, .int 0, .ref a9_, .int 0, .ref a10_, .ref a11_, .ref a12_, .int 0, .ref a13_, .int 0, .int 0]))])) 0 0 (va_A [(a0_, .inr (5, [.ref a1_, .ref a2_, .int 0, .int 0, .int 0, .int 0, .ref a3_, .int 0, .ref a4_, .ref a5_, .ref a6_, .int 0])), (a1_, .inr (10, [.ref a7_, .int 0, .ref a8_, .int 0, .ref a9_, .int 0, .ref a10_, .ref a11_, .ref a12_, .int 0, .ref a13_, .int 0, .int 0]))] sz) := by
  refine Met.ofW (cc := cX1_begin) (maxL := 2) (ret := none) (by decide) rfl ?_
  intro p e s m args below meth c s₁ B hml hv
  obtain ⟨rfl, hsz, hP, hKK, hD0, hFx⟩ := hv
  have hK := hKK.1
  have hx := B.exec
  have hb := B.bytes
  have hr := B.returns
  have ht : ∀ w ∈ tw_W, w.before _ s = true := fun w h => atoms_spec (ws := Cond.code yX1_begin cX1_begin 2 none :: tw_W) B.pre w (List.mem_cons_of_mem _ h)
  have hown : s.vm.findClass RX1 = some m.cls := findClass_of_methodNamed B.named
  have hlocks := B.notSynchronized
  subst hsz
  unfold qv_
  have hD := hD0.self (sz := s.heap.size)
  generalize hAe : va_A [(a0_, .inr (5, [.ref a1_, .ref a2_, .int 0, .int 0, .int 0, .int 0, .ref a3_, .int 0, .ref a4_, .ref a5_, .ref a6_, .int 0])), (a1_, .inr (10, [.ref a7_, .int 0, .ref a8_, .int 0, .ref a9_, .int 0, .ref a10_, .ref a11_, .ref a12_, .int 0, .ref a13_, .int 0, .int 0]))] s.heap.size = A at hD hFx ⊢
  have hA : ∀ q : Nat, s.heap.size ≤ q → A q := fun q h => by rw [← hAe]; exact Or.inr h
  have hS : va_S A s.heap s.heap [] := va_S.rf
  have hP : va_P (dC, dI) vwCl [(a0_, .inr (5, [.ref a1_, .ref a2_, .int 0, .int 0, .int 0, .int 0, .ref a3_, .int 0, .ref a4_, .ref a5_, .ref a6_, .int 0])), (a1_, .inr (10, [.ref a7_, .int 0, .ref a8_, .int 0, .ref a9_, .int 0, .ref a10_, .ref a11_, .ref a12_, .int 0, .ref a13_, .int 0, .int 0]))] s.heap := hP
  have hl := lv_entry ([.ref a0_, .ref a1_]) (n := 2) (Nat.le_of_ble_eq_true rfl)
  rw [lg_entry_eq]
  generalize (lg_sl ([.ref a0_, .ref a1_]) ++ List.replicate (2 - (lg_sl ([.ref a0_, .ref a1_])).length) Slot.unset).toArray = ls at hl ⊢
  have hl : lv_has ls 2 [(0, .ref a0_), (1, .ref a1_)] := hl
  refine lv_aload_n hx hb dX1_begin_0 rfl (lv_at hl 0 rfl) ?_
  refine lv_aload_n hx hb dX1_begin_1 rfl (lv_at hl 1 rfl) ?_
  refine va_put (D := (dC, dI)) (ci := 5) (v := .ref a1_) (ty := .object "PocketCompiler$Program") (C := RX1) (T := TX1) (N := 12) hx hb ht itX1 tyX1 tyX1_ok nmX1 hown hK hP hD hS 0 rfl rfl 0 (by decide) (ht _ tw_36) (fun _ h9 => h9) rfl (by decide +kernel) rfl rfl (Nat.le_of_ble_eq_true rfl) dX1_begin_2 (fun H locs hP hD hS => ?_)
  have hP : va_P (dC, dI) vwCl [(a0_, .inr (5, [.ref a1_, .ref a2_, .int 0, .int 0, .int 0, .int 0, .ref a3_, .int 0, .ref a4_, .ref a5_, .ref a6_, .int 0])), (a1_, .inr (10, [.ref a7_, .int 0, .ref a8_, .int 0, .ref a9_, .int 0, .ref a10_, .ref a11_, .ref a12_, .int 0, .ref a13_, .int 0, .int 0]))] H := hP
  have hD : va_D A [(a0_, .inr (5, [.ref a1_, .ref a2_, .int 0, .int 0, .int 0, .int 0, .ref a3_, .int 0, .ref a4_, .ref a5_, .ref a6_, .int 0])), (a1_, .inr (10, [.ref a7_, .int 0, .ref a8_, .int 0, .ref a9_, .int 0, .ref a10_, .ref a11_, .ref a12_, .int 0, .ref a13_, .int 0, .int 0]))] := hD
  refine lv_aload_n hx hb dX1_begin_5 rfl (lv_at hl 0 rfl) ?_
  refine va_get (D := (dC, dI)) (ci := 5) (v := .ref a1_) (C := RX1) (T := TX1) (N := 12) hx hb ht itX1 hown hK hP 0 rfl rfl 0 (by decide) (ht _ tw_36) (fun _ h9 => h9) rfl dX1_begin_6 ?_
  refine ca_v (wr := [(a0_, .inr (5, [.ref a1_, .ref a2_, .int 0, .int 0, .int 0, .int 0, .ref a3_, .int 0, .ref a4_, .ref a5_, .ref a6_, .int 0]))]) (rn_V (n := 0) (As := []) (rest := []) hx hb hml hown ht hKK hFx hP hD hS hA (c_X7_clear l dC dI cI cB cZ cJ cR tb H.size a1_ a7_ a8_ a9_ a10_ a11_ a12_ a13_) tw_172 tw_173 (by decide +kernel) rfl rfl ⟨Nat.le_of_ble_eq_true rfl, Nat.le_of_ble_eq_true rfl⟩ [1] rfl (by decide) rfl rfl rfl rfl hl.1 rfl (Nat.le_of_ble_eq_true rfl) dX1_begin_9 ⟨Nat.le_of_ble_eq_true rfl, Nat.le_of_ble_eq_true rfl⟩) hP hD hS hA (isC := [1]) (isR := [0]) rfl rfl (by decide) (by decide) (fun u H locs hw1 hP hD hS => ?_)
  have hP : va_P (dC, dI) vwCl [(a0_, .inr (5, [.ref a1_, .ref a2_, .int 0, .int 0, .int 0, .int 0, .ref a3_, .int 0, .ref a4_, .ref a5_, .ref a6_, .int 0])), (a1_, .inr (10, [.ref a7_, .int 0, .ref a8_, .int 0, .ref a9_, .int 0, .ref a10_, .ref a11_, .ref a12_, .int 0, .ref a13_, .int 0, .int 0]))] H := hP
  have hD : va_D A [(a0_, .inr (5, [.ref a1_, .ref a2_, .int 0, .int 0, .int 0, .int 0, .ref a3_, .int 0, .ref a4_, .ref a5_, .ref a6_, .int 0])), (a1_, .inr (10, [.ref a7_, .int 0, .ref a8_, .int 0, .ref a9_, .int 0, .ref a10_, .ref a11_, .ref a12_, .int 0, .ref a13_, .int 0, .int 0]))] := hD
  refine W.widen (k := 0) (n := 0) (by omega) (by omega) ?_
  refine lv_aload_n hx hb dX1_begin_12 rfl (lv_at hl 0 rfl) ?_
  refine lv_iconst (v := 0) hx hb dX1_begin_13 (by decide) ?_
  refine va_put (D := (dC, dI)) (ci := 5) (v := .int 0) (ty := .int) (C := RX1) (T := TX1) (N := 12) hx hb ht itX1 tyX1 tyX1_ok nmX1 hown hK hP hD hS 0 rfl rfl 7 (by decide) (ht _ tw_174) (fun _ h9 => h9) rfl (by decide +kernel) rfl rfl (Nat.le_of_ble_eq_true rfl) dX1_begin_14 (fun H locs hP hD hS => ?_)
  have hP : va_P (dC, dI) vwCl [(a0_, .inr (5, [.ref a1_, .ref a2_, .int 0, .int 0, .int 0, .int 0, .ref a3_, .int 0, .ref a4_, .ref a5_, .ref a6_, .int 0])), (a1_, .inr (10, [.ref a7_, .int 0, .ref a8_, .int 0, .ref a9_, .int 0, .ref a10_, .ref a11_, .ref a12_, .int 0, .ref a13_, .int 0, .int 0]))] H := hP
  have hD : va_D A [(a0_, .inr (5, [.ref a1_, .ref a2_, .int 0, .int 0, .int 0, .int 0, .ref a3_, .int 0, .ref a4_, .ref a5_, .ref a6_, .int 0])), (a1_, .inr (10, [.ref a7_, .int 0, .ref a8_, .int 0, .ref a9_, .int 0, .ref a10_, .ref a11_, .ref a12_, .int 0, .ref a13_, .int 0, .int 0]))] := hD
  refine lv_aload_n hx hb dX1_begin_17 rfl (lv_at hl 0 rfl) ?_
  refine lv_iconst (v := 0) hx hb dX1_begin_18 (by decide) ?_
  refine va_put (D := (dC, dI)) (ci := 5) (v := .int 0) (ty := .int) (C := RX1) (T := TX1) (N := 12) hx hb ht itX1 tyX1 tyX1_ok nmX1 hown hK hP hD hS 0 rfl rfl 11 (by decide) (ht _ tw_175) (fun _ h9 => h9) rfl (by decide +kernel) rfl rfl (Nat.le_of_ble_eq_true rfl) dX1_begin_19 (fun H locs hP hD hS => ?_)
  have hP : va_P (dC, dI) vwCl [(a0_, .inr (5, [.ref a1_, .ref a2_, .int 0, .int 0, .int 0, .int 0, .ref a3_, .int 0, .ref a4_, .ref a5_, .ref a6_, .int 0])), (a1_, .inr (10, [.ref a7_, .int 0, .ref a8_, .int 0, .ref a9_, .int 0, .ref a10_, .ref a11_, .ref a12_, .int 0, .ref a13_, .int 0, .int 0]))] H := hP
  have hD : va_D A [(a0_, .inr (5, [.ref a1_, .ref a2_, .int 0, .int 0, .int 0, .int 0, .ref a3_, .int 0, .ref a4_, .ref a5_, .ref a6_, .int 0])), (a1_, .inr (10, [.ref a7_, .int 0, .ref a8_, .int 0, .ref a9_, .int 0, .ref a10_, .ref a11_, .ref a12_, .int 0, .ref a13_, .int 0, .int 0]))] := hD
  have hP9 := hP.sub (ws' := [(a0_, .inr (5, [.ref a1_, .ref a2_, .int 0, .int 0, .int 0, .int 0, .ref a3_, .int 0, .ref a4_, .ref a5_, .ref a6_, .int 0])), (a1_, .inr (10, [.ref a7_, .int 0, .ref a8_, .int 0, .ref a9_, .int 0, .ref a10_, .ref a11_, .ref a12_, .int 0, .ref a13_, .int 0, .int 0]))]) [0, 1] rfl
  have hD9 := hD.sub (ws' := [(a0_, .inr (5, [.ref a1_, .ref a2_, .int 0, .int 0, .int 0, .int 0, .ref a3_, .int 0, .ref a4_, .ref a5_, .ref a6_, .int 0])), (a1_, .inr (10, [.ref a7_, .int 0, .ref a8_, .int 0, .ref a9_, .int 0, .ref a10_, .ref a11_, .ref a12_, .int 0, .ref a13_, .int 0, .int 0]))]) [0, 1] (by decide) rfl
  refine W.widen (k := 0) (n := 0) (by omega) (by omega) ?_
  exact W.vret hx hb hr (fun t ht9 hW => ⟨⟨(), rfl, trivial, by rw [ht9]; exact hP9, hD9⟩, hS.F ht9⟩) hS.2.2 dX1_begin_22
set_option maxHeartbeats 4000000 in
set_option maxRecDepth 100000 in
theorem c_X2_begin (l : Launch) (dC : Nat → ClassId) (dI : Nat → Nat → Nat) (cI cB cZ cJ cR : ClassId) (tb : Nat → Nat) (sz : Nat) (a0_ : Nat) (a1_ : Nat) (a2_ : Nat) (a3_ : Nat) (a4_ : Nat)  : Met l yX2_begin (Cond.code yX2_begin cX2_begin 1 none :: tw_W) ({ frames := 0, cells := 0, slots := 0, locals := 0 }) (pc_ (dC, dI) (tyS cI cB cZ cJ cR) tb [(a0_, .inr (6, [.ref a1_, .ref a2_, .ref a3_, .ref a4_, .int 0]))] sz [.ref a0_]) (qv_ (dC, dI) [(a0_, .inr (6, [.ref a1_, .ref a2_, .ref a3_, .ref a4_, .int 0]))] sz (fun (u : Unit) => True) (fun (u : Unit) => [(a0_, .inr (6, [.ref a1_, .ref a2_, .ref a3_, .ref a4_, .int 0]))])) 0 0 (va_A [(a0_, .inr (6, [.ref a1_, .ref a2_, .ref a3_, .ref a4_, .int 0]))] sz) := by
  refine Met.ofW (cc := cX2_begin) (maxL := 1) (ret := none) (by decide) rfl ?_
  intro p e s m args below meth c s₁ B hml hv
  obtain ⟨rfl, hsz, hP, hKK, hD0, hFx⟩ := hv
  have hK := hKK.1
  have hx := B.exec
  have hb := B.bytes
  have hr := B.returns
  have ht : ∀ w ∈ tw_W, w.before _ s = true := fun w h => atoms_spec (ws := Cond.code yX2_begin cX2_begin 1 none :: tw_W) B.pre w (List.mem_cons_of_mem _ h)
  have hown : s.vm.findClass RX2 = some m.cls := findClass_of_methodNamed B.named
  have hlocks := B.notSynchronized
  subst hsz
  unfold qv_
  have hD := hD0.self (sz := s.heap.size)
  generalize hAe : va_A [(a0_, .inr (6, [.ref a1_, .ref a2_, .ref a3_, .ref a4_, .int 0]))] s.heap.size = A at hD hFx ⊢
  have hA : ∀ q : Nat, s.heap.size ≤ q → A q := fun q h => by rw [← hAe]; exact Or.inr h
  have hS : va_S A s.heap s.heap [] := va_S.rf
  have hP : va_P (dC, dI) vwCl [(a0_, .inr (6, [.ref a1_, .ref a2_, .ref a3_, .ref a4_, .int 0]))] s.heap := hP
  have hl := lv_entry ([.ref a0_]) (n := 1) (Nat.le_of_ble_eq_true rfl)
  rw [lg_entry_eq]
  generalize (lg_sl ([.ref a0_]) ++ List.replicate (1 - (lg_sl ([.ref a0_])).length) Slot.unset).toArray = ls at hl ⊢
  have hl : lv_has ls 1 [(0, .ref a0_)] := hl
  refine lv_aload_n hx hb dX2_begin_0 rfl (lv_at hl 0 rfl) ?_
  refine lv_iconst (v := 0) hx hb dX2_begin_1 (by decide) ?_
  refine va_put (D := (dC, dI)) (ci := 6) (v := .int 0) (ty := .int) (C := RX2) (T := TX2) (N := 5) hx hb ht itX2 tyX2 tyX2_ok nmX2 hown hK hP hD hS 0 rfl rfl 4 (by decide) (ht _ tw_178) (fun _ h9 => h9) rfl (by decide +kernel) rfl rfl (Nat.le_of_ble_eq_true rfl) dX2_begin_2 (fun H locs hP hD hS => ?_)
  have hP : va_P (dC, dI) vwCl [(a0_, .inr (6, [.ref a1_, .ref a2_, .ref a3_, .ref a4_, .int 0]))] H := hP
  have hD : va_D A [(a0_, .inr (6, [.ref a1_, .ref a2_, .ref a3_, .ref a4_, .int 0]))] := hD
  have hP9 := hP.sub (ws' := [(a0_, .inr (6, [.ref a1_, .ref a2_, .ref a3_, .ref a4_, .int 0]))]) [0] rfl
  have hD9 := hD.sub (ws' := [(a0_, .inr (6, [.ref a1_, .ref a2_, .ref a3_, .ref a4_, .int 0]))]) [0] (by decide) rfl
  refine W.widen (k := 0) (n := 0) (by omega) (by omega) ?_
  exact W.vret hx hb hr (fun t ht9 hW => ⟨⟨(), rfl, trivial, by rw [ht9]; exact hP9, hD9⟩, hS.F ht9⟩) hS.2.2 dX2_begin_5
set_option maxHeartbeats 4000000 in
set_option maxRecDepth 100000 in
theorem c_X9_kind (l : Launch) (dC : Nat → ClassId) (dI : Nat → Nat → Nat) (cI cB cZ cJ cR : ClassId) (tb : Nat → Nat) (sz : Nat) (a0_ : Nat) (a1_ : Nat) (a2_ : Nat) (a3_ : Nat) (a4_ : Nat)  : Met l yX9_kind (Cond.code yX9_kind cX9_kind 1 (some .int) :: tw_W) ({ frames := 0, cells := 0, slots := 0, locals := 0 }) (pc_ (dC, dI) (tyS cI cB cZ cJ cR) tb [(a0_, .inr (12, [.ref a1_, .ref a2_, .ref a3_, .ref a4_, .int 1, .int 0, .int 0, .int (-1), .int 0, .int (-1)])), (a2_, .inl (cI, 1503, .inl (upd (fun _ => 0) 0 0)))] sz [.ref a0_]) (qi_ (dC, dI) [(a0_, .inr (12, [.ref a1_, .ref a2_, .ref a3_, .ref a4_, .int 1, .int 0, .int 0, .int (-1), .int 0, .int (-1)])), (a2_, .inl (cI, 1503, .inl (upd (fun _ => 0) 0 0)))] sz (fun (r : Int32) (u : Unit) => r = 0) (fun (u : Unit) => [(a0_, .inr (12, [.ref a1_, .ref a2_, .ref a3_, .ref a4_, .int 1, .int 0, .int 0, .int (-1), .int 0, .int (-1)])), (a2_, .inl (cI, 1503, .inl (upd (fun _ => 0) 0 0)))])) 0 0 (va_A [(a0_, .inr (12, [.ref a1_, .ref a2_, .ref a3_, .ref a4_, .int 1, .int 0, .int 0, .int (-1), .int 0, .int (-1)])), (a2_, .inl (cI, 1503, .inl (upd (fun _ => 0) 0 0)))] sz) := by
  refine Met.ofW (cc := cX9_kind) (maxL := 1) (ret := (some .int)) (by decide) rfl ?_
  intro p e s m args below meth c s₁ B hml hv
  obtain ⟨rfl, hsz, hP, hKK, hD0, hFx⟩ := hv
  have hK := hKK.1
  have hx := B.exec
  have hb := B.bytes
  have hr := B.returns
  have ht : ∀ w ∈ tw_W, w.before _ s = true := fun w h => atoms_spec (ws := Cond.code yX9_kind cX9_kind 1 (some .int) :: tw_W) B.pre w (List.mem_cons_of_mem _ h)
  have hown : s.vm.findClass RX9 = some m.cls := findClass_of_methodNamed B.named
  have hlocks := B.notSynchronized
  subst hsz
  unfold qi_
  have hD := hD0.self (sz := s.heap.size)
  generalize hAe : va_A [(a0_, .inr (12, [.ref a1_, .ref a2_, .ref a3_, .ref a4_, .int 1, .int 0, .int 0, .int (-1), .int 0, .int (-1)])), (a2_, .inl (cI, 1503, .inl (upd (fun _ => 0) 0 0)))] s.heap.size = A at hD hFx ⊢
  have hA : ∀ q : Nat, s.heap.size ≤ q → A q := fun q h => by rw [← hAe]; exact Or.inr h
  have hS : va_S A s.heap s.heap [] := va_S.rf
  have hP : va_P (dC, dI) vwCl [(a0_, .inr (12, [.ref a1_, .ref a2_, .ref a3_, .ref a4_, .int 1, .int 0, .int 0, .int (-1), .int 0, .int (-1)])), (a2_, .inl (cI, 1503, .inl (upd (fun _ => 0) 0 0)))] s.heap := hP
  have hl := lv_entry ([.ref a0_]) (n := 1) (Nat.le_of_ble_eq_true rfl)
  rw [lg_entry_eq]
  generalize (lg_sl ([.ref a0_]) ++ List.replicate (1 - (lg_sl ([.ref a0_])).length) Slot.unset).toArray = ls at hl ⊢
  have hl : lv_has ls 1 [(0, .ref a0_)] := hl
  refine lv_aload_n hx hb dX9_kind_0 rfl (lv_at hl 0 rfl) ?_
  refine va_get (D := (dC, dI)) (ci := 12) (v := .int 0) (C := RX9) (T := TX9) (N := 10) hx hb ht itX9 hown hK hP 0 rfl rfl 5 (by decide) (ht _ tw_150) (fun _ h9 => h9) rfl dX9_kind_1 ?_
  refine lv_if_lt (tgt := 30) hx hb dX9_kind_4 (by decide) (fun k1 => absurd k1 (by decide)) (fun _ => ?_)
  refine lv_aload_n hx hb dX9_kind_7 rfl (lv_at hl 0 rfl) ?_
  refine va_get (D := (dC, dI)) (ci := 12) (v := .int 0) (C := RX9) (T := TX9) (N := 10) hx hb ht itX9 hown hK hP 0 rfl rfl 5 (by decide) (ht _ tw_150) (fun _ h9 => h9) rfl dX9_kind_8 ?_
  refine lv_aload_n hx hb dX9_kind_11 rfl (lv_at hl 0 rfl) ?_
  refine va_get (D := (dC, dI)) (ci := 12) (v := .int 1) (C := RX9) (T := TX9) (N := 10) hx hb ht itX9 hown hK hP 0 rfl rfl 4 (by decide) (ht _ tw_149) (fun _ h9 => h9) rfl dX9_kind_12 ?_
  refine lv_icmp_ge (tgt := 30) hx hb dX9_kind_15 (by decide) (fun k2 => absurd k2 (by decide)) (fun _ => ?_)
  refine lv_aload_n hx hb dX9_kind_18 rfl (lv_at hl 0 rfl) ?_
  refine va_get (D := (dC, dI)) (ci := 12) (v := .ref a2_) (C := RX9) (T := TX9) (N := 10) hx hb ht itX9 hown hK hP 0 rfl rfl 1 (by decide) (ht _ tw_48) (fun _ h9 => h9) rfl dX9_kind_19 ?_
  refine lv_aload_n hx hb dX9_kind_22 rfl (lv_at hl 0 rfl) ?_
  refine va_get (D := (dC, dI)) (ci := 12) (v := .int 0) (C := RX9) (T := TX9) (N := 10) hx hb ht itX9 hown hK hP 0 rfl rfl 5 (by decide) (ht _ tw_150) (fun _ h9 => h9) rfl dX9_kind_23 ?_
  refine va_iald (D := (dC, dI)) hx hb hK hP 1 0 rfl rfl (vp_in_iff.mpr (by decide)) dX9_kind_26 ?_
  refine tp_i (y := 0) (rfl) ?_
  refine lv_goto (tgt := 31) hx hb dX9_kind_27 (by decide) ?_
  have hP9 := hP.sub (ws' := [(a0_, .inr (12, [.ref a1_, .ref a2_, .ref a3_, .ref a4_, .int 1, .int 0, .int 0, .int (-1), .int 0, .int (-1)])), (a2_, .inl (cI, 1503, .inl (upd (fun _ => 0) 0 0)))]) [0, 1] rfl
  have hD9 := hD.sub (ws' := [(a0_, .inr (12, [.ref a1_, .ref a2_, .ref a3_, .ref a4_, .int 1, .int 0, .int 0, .int (-1), .int 0, .int (-1)])), (a2_, .inl (cI, 1503, .inl (upd (fun _ => 0) 0 0)))]) [0, 1] (by decide) rfl
  refine W.widen (k := 0) (n := 0) (by omega) (by omega) ?_
  exact W.iret (v := 0) hx hb hr (fun t ht9 hW => ⟨⟨0, (), rfl, rfl, by rw [ht9]; exact hP9, hD9⟩, hS.F ht9⟩) hS.2.2 dX9_kind_31
set_option maxHeartbeats 4000000 in
set_option maxRecDepth 100000 in
theorem c_X5_checkCalls (l : Launch) (dC : Nat → ClassId) (dI : Nat → Nat → Nat) (cI cB cZ cJ cR : ClassId) (tb : Nat → Nat) (sz : Nat) (a0_ : Nat) (a1_ : Nat) (a2_ : Nat) (a3_ : Nat) (a4_ : Nat) (a5_ : Nat) (a6_ : Nat) (a7_ : Nat) (a8_ : Nat) (a9_ : Nat)  : Met l yX5_checkCalls (Cond.code yX5_checkCalls cX5_checkCalls 2 none :: tw_W) ({ frames := 0, cells := 0, slots := 0, locals := 0 }) (pc_ (dC, dI) (tyS cI cB cZ cJ cR) tb [(a0_, .inr (8, [.ref a1_, .ref a2_, .ref a3_, .ref a4_, .int 0, .int 0, .int 0])), (a3_, .inr (5, [.ref a1_, .ref a5_, .int 0, .int 0, .int 0, .int 0, .ref a6_, .int 0, .ref a7_, .ref a8_, .ref a9_, .int 0]))] sz [.ref a0_]) (qv_ (dC, dI) [(a0_, .inr (8, [.ref a1_, .ref a2_, .ref a3_, .ref a4_, .int 0, .int 0, .int 0])), (a3_, .inr (5, [.ref a1_, .ref a5_, .int 0, .int 0, .int 0, .int 0, .ref a6_, .int 0, .ref a7_, .ref a8_, .ref a9_, .int 0]))] sz (fun (u : Unit) => True) (fun (u : Unit) => [(a0_, .inr (8, [.ref a1_, .ref a2_, .ref a3_, .ref a4_, .int 0, .int 0, .int 0])), (a3_, .inr (5, [.ref a1_, .ref a5_, .int 0, .int 0, .int 0, .int 0, .ref a6_, .int 0, .ref a7_, .ref a8_, .ref a9_, .int 0]))])) 0 0 (va_A [(a0_, .inr (8, [.ref a1_, .ref a2_, .ref a3_, .ref a4_, .int 0, .int 0, .int 0])), (a3_, .inr (5, [.ref a1_, .ref a5_, .int 0, .int 0, .int 0, .int 0, .ref a6_, .int 0, .ref a7_, .ref a8_, .ref a9_, .int 0]))] sz) := by
  refine Met.ofW (cc := cX5_checkCalls) (maxL := 2) (ret := none) (by decide) rfl ?_
  intro p e s m args below meth c s₁ B hml hv
  obtain ⟨rfl, hsz, hP, hKK, hD0, hFx⟩ := hv
  have hK := hKK.1
  have hx := B.exec
  have hb := B.bytes
  have hr := B.returns
  have ht : ∀ w ∈ tw_W, w.before _ s = true := fun w h => atoms_spec (ws := Cond.code yX5_checkCalls cX5_checkCalls 2 none :: tw_W) B.pre w (List.mem_cons_of_mem _ h)
  have hown : s.vm.findClass RX5 = some m.cls := findClass_of_methodNamed B.named
  have hlocks := B.notSynchronized
  subst hsz
  unfold qv_
  have hD := hD0.self (sz := s.heap.size)
  generalize hAe : va_A [(a0_, .inr (8, [.ref a1_, .ref a2_, .ref a3_, .ref a4_, .int 0, .int 0, .int 0])), (a3_, .inr (5, [.ref a1_, .ref a5_, .int 0, .int 0, .int 0, .int 0, .ref a6_, .int 0, .ref a7_, .ref a8_, .ref a9_, .int 0]))] s.heap.size = A at hD hFx ⊢
  have hA : ∀ q : Nat, s.heap.size ≤ q → A q := fun q h => by rw [← hAe]; exact Or.inr h
  have hS : va_S A s.heap s.heap [] := va_S.rf
  have hP : va_P (dC, dI) vwCl [(a0_, .inr (8, [.ref a1_, .ref a2_, .ref a3_, .ref a4_, .int 0, .int 0, .int 0])), (a3_, .inr (5, [.ref a1_, .ref a5_, .int 0, .int 0, .int 0, .int 0, .ref a6_, .int 0, .ref a7_, .ref a8_, .ref a9_, .int 0]))] s.heap := hP
  have hl := lv_entry ([.ref a0_]) (n := 2) (Nat.le_of_ble_eq_true rfl)
  rw [lg_entry_eq]
  generalize (lg_sl ([.ref a0_]) ++ List.replicate (2 - (lg_sl ([.ref a0_])).length) Slot.unset).toArray = ls at hl ⊢
  have hl : lv_has ls 2 [(0, .ref a0_)] := hl
  refine lv_iconst (v := 0) hx hb dX5_checkCalls_0 (by decide) ?_
  refine lv_istore_n (lv' := [(1, .int 0), (0, .ref a0_)]) hx hb dX5_checkCalls_1 rfl hl (by decide) rfl (fun ls hl => ?_)
  refine lv_iload_n hx hb dX5_checkCalls_2 rfl (lv_at hl 0 rfl) ?_
  refine lv_aload_n hx hb dX5_checkCalls_3 rfl (lv_at hl 1 rfl) ?_
  refine va_get (D := (dC, dI)) (ci := 8) (v := .ref a3_) (C := RX5) (T := TX5) (N := 7) hx hb ht itX5 hown hK hP 0 rfl rfl 2 (by decide) (ht _ tw_64) (fun _ h9 => h9) rfl dX5_checkCalls_4 ?_
  refine va_getN (D := (dC, dI)) (ci := 5) (v := .int 0) (C := RX1) (T := TX1) (N := 12) hx hb ht itX1 hown hK hP 1 rfl rfl 11 (by decide) (hKK.fld 7 rfl) (fun _ h9 => h9) rfl dX5_checkCalls_7 ?_
  refine lv_icmp_ge (tgt := 74) hx hb dX5_checkCalls_10 (by decide) (fun _ => ?_) (fun k1 => absurd k1 (by decide))
  have hP9 := hP.sub (ws' := [(a0_, .inr (8, [.ref a1_, .ref a2_, .ref a3_, .ref a4_, .int 0, .int 0, .int 0])), (a3_, .inr (5, [.ref a1_, .ref a5_, .int 0, .int 0, .int 0, .int 0, .ref a6_, .int 0, .ref a7_, .ref a8_, .ref a9_, .int 0]))]) [0, 1] rfl
  have hD9 := hD.sub (ws' := [(a0_, .inr (8, [.ref a1_, .ref a2_, .ref a3_, .ref a4_, .int 0, .int 0, .int 0])), (a3_, .inr (5, [.ref a1_, .ref a5_, .int 0, .int 0, .int 0, .int 0, .ref a6_, .int 0, .ref a7_, .ref a8_, .ref a9_, .int 0]))]) [0, 1] (by decide) rfl
  refine W.widen (k := 0) (n := 0) (by omega) (by omega) ?_
  exact W.vret hx hb hr (fun t ht9 hW => ⟨⟨(), rfl, trivial, by rw [ht9]; exact hP9, hD9⟩, hS.F ht9⟩) hS.2.2 dX5_checkCalls_74
set_option maxHeartbeats 4000000 in
set_option maxRecDepth 100000 in
theorem c_X1_link (l : Launch) (dC : Nat → ClassId) (dI : Nat → Nat → Nat) (cI cB cZ cJ cR : ClassId) (tb : Nat → Nat) (sz : Nat) (a0_ : Nat) (a1_ : Nat) (a2_ : Nat) (a3_ : Nat) (a4_ : Nat) (a5_ : Nat) (a6_ : Nat) (a7_ : Nat) (a8_ : Nat) (a9_ : Nat) (a10_ : Nat) (a11_ : Nat) (a12_ : Nat) (a13_ : Nat)  : Met l yX1_link (Cond.code yX1_link cX1_link 4 none :: tw_W) ({ frames := 0, cells := 0, slots := 0, locals := 0 }) (pc_ (dC, dI) (tyS cI cB cZ cJ cR) tb [(a0_, .inr (5, [.ref a1_, .ref a2_, .int 0, .int 0, .int 0, .int 0, .ref a3_, .int 0, .ref a4_, .ref a5_, .ref a6_, .int 0])), (a1_, .inr (10, [.ref a7_, .int 0, .ref a8_, .int 0, .ref a9_, .int 0, .ref a10_, .ref a11_, .ref a12_, .int 0, .ref a13_, .int 0, .int 0]))] sz [.ref a0_]) (qv_ (dC, dI) [(a0_, .inr (5, [.ref a1_, .ref a2_, .int 0, .int 0, .int 0, .int 0, .ref a3_, .int 0, .ref a4_, .ref a5_, .ref a6_, .int 0])), (a1_, .inr (10, [.ref a7_, .int 0, .ref a8_, .int 0, .ref a9_, .int 0, .ref a10_, .ref a11_, .ref a12_, .int 0, .ref a13_, .int 0, .int 0]))] sz (fun (u : Unit) => True) (fun (u : Unit) => [(a0_, .inr (5, [.ref a1_, .ref a2_, .int 0, .int 0, .int 0, .int 0, .ref a3_, .int 0, .ref a4_, .ref a5_, .ref a6_, .int 0])), (a1_, .inr (10, [.ref a7_, .int 0, .ref a8_, .int 0, .ref a9_, .int 0, .ref a10_, .ref a11_, .ref a12_, .int 0, .ref a13_, .int 0, .int 0]))])) 0 0 (va_A [(a0_, .inr (5, [.ref a1_, .ref a2_, .int 0, .int 0, .int 0, .int 0, .ref a3_, .int 0, .ref a4_, .ref a5_, .ref a6_, .int 0])), (a1_, .inr (10, [.ref a7_, .int 0, .ref a8_, .int 0, .ref a9_, .int 0, .ref a10_, .ref a11_, .ref a12_, .int 0, .ref a13_, .int 0, .int 0]))] sz) := by
  refine Met.ofW (cc := cX1_link) (maxL := 4) (ret := none) (by decide) rfl ?_
  intro p e s m args below meth c s₁ B hml hv
  obtain ⟨rfl, hsz, hP, hKK, hD0, hFx⟩ := hv
  have hK := hKK.1
  have hx := B.exec
  have hb := B.bytes
  have hr := B.returns
  have ht : ∀ w ∈ tw_W, w.before _ s = true := fun w h => atoms_spec (ws := Cond.code yX1_link cX1_link 4 none :: tw_W) B.pre w (List.mem_cons_of_mem _ h)
  have hown : s.vm.findClass RX1 = some m.cls := findClass_of_methodNamed B.named
  have hlocks := B.notSynchronized
  subst hsz
  unfold qv_
  have hD := hD0.self (sz := s.heap.size)
  generalize hAe : va_A [(a0_, .inr (5, [.ref a1_, .ref a2_, .int 0, .int 0, .int 0, .int 0, .ref a3_, .int 0, .ref a4_, .ref a5_, .ref a6_, .int 0])), (a1_, .inr (10, [.ref a7_, .int 0, .ref a8_, .int 0, .ref a9_, .int 0, .ref a10_, .ref a11_, .ref a12_, .int 0, .ref a13_, .int 0, .int 0]))] s.heap.size = A at hD hFx ⊢
  have hA : ∀ q : Nat, s.heap.size ≤ q → A q := fun q h => by rw [← hAe]; exact Or.inr h
  have hS : va_S A s.heap s.heap [] := va_S.rf
  have hP : va_P (dC, dI) vwCl [(a0_, .inr (5, [.ref a1_, .ref a2_, .int 0, .int 0, .int 0, .int 0, .ref a3_, .int 0, .ref a4_, .ref a5_, .ref a6_, .int 0])), (a1_, .inr (10, [.ref a7_, .int 0, .ref a8_, .int 0, .ref a9_, .int 0, .ref a10_, .ref a11_, .ref a12_, .int 0, .ref a13_, .int 0, .int 0]))] s.heap := hP
  have hl := lv_entry ([.ref a0_]) (n := 4) (Nat.le_of_ble_eq_true rfl)
  rw [lg_entry_eq]
  generalize (lg_sl ([.ref a0_]) ++ List.replicate (4 - (lg_sl ([.ref a0_])).length) Slot.unset).toArray = ls at hl ⊢
  have hl : lv_has ls 4 [(0, .ref a0_)] := hl
  refine lv_iconst (v := 0) hx hb dX1_link_0 (by decide) ?_
  refine lv_istore_n (lv' := [(1, .int 0), (0, .ref a0_)]) hx hb dX1_link_1 rfl hl (by decide) rfl (fun ls hl => ?_)
  refine lv_iload_n hx hb dX1_link_2 rfl (lv_at hl 0 rfl) ?_
  refine lv_aload_n hx hb dX1_link_3 rfl (lv_at hl 1 rfl) ?_
  refine va_get (D := (dC, dI)) (ci := 5) (v := .ref a1_) (C := RX1) (T := TX1) (N := 12) hx hb ht itX1 hown hK hP 0 rfl rfl 0 (by decide) (ht _ tw_36) (fun _ h9 => h9) rfl dX1_link_4 ?_
  refine va_get (D := (dC, dI)) (ci := 10) (v := .int 0) (C := RX7) (T := TX7) (N := 13) hx hb ht itX7 hown hK hP 1 rfl rfl 9 (by decide) (ht _ tw_185) (fun _ h9 => h9) rfl dX1_link_7 ?_
  refine lv_icmp_ge (tgt := 106) hx hb dX1_link_10 (by decide) (fun _ => ?_) (fun k1 => absurd k1 (by decide))
  have hP9 := hP.sub (ws' := [(a0_, .inr (5, [.ref a1_, .ref a2_, .int 0, .int 0, .int 0, .int 0, .ref a3_, .int 0, .ref a4_, .ref a5_, .ref a6_, .int 0])), (a1_, .inr (10, [.ref a7_, .int 0, .ref a8_, .int 0, .ref a9_, .int 0, .ref a10_, .ref a11_, .ref a12_, .int 0, .ref a13_, .int 0, .int 0]))]) [0, 1] rfl
  have hD9 := hD.sub (ws' := [(a0_, .inr (5, [.ref a1_, .ref a2_, .int 0, .int 0, .int 0, .int 0, .ref a3_, .int 0, .ref a4_, .ref a5_, .ref a6_, .int 0])), (a1_, .inr (10, [.ref a7_, .int 0, .ref a8_, .int 0, .ref a9_, .int 0, .ref a10_, .ref a11_, .ref a12_, .int 0, .ref a13_, .int 0, .int 0]))]) [0, 1] (by decide) rfl
  refine W.widen (k := 0) (n := 0) (by omega) (by omega) ?_
  exact W.vret hx hb hr (fun t ht9 hW => ⟨⟨(), rfl, trivial, by rw [ht9]; exact hP9, hD9⟩, hS.F ht9⟩) hS.2.2 dX1_link_106
set_option maxHeartbeats 4000000 in
set_option maxRecDepth 100000 in
theorem c_X5_readText (l : Launch) (dC : Nat → ClassId) (dI : Nat → Nat → Nat) (cI cB cZ cJ cR : ClassId) (tb : Nat → Nat) (sz : Nat) (a0_ : Nat) (a1_ : Nat) (a2_ : Nat) (a3_ : Nat) (a4_ : Nat) (a5_ : Nat) (a6_ : Nat) (a7_ : Nat) (a8_ : Nat) (a9_ : Nat) (a10_ : Nat) (a11_ : Nat) (a12_ : Nat) (a13_ : Nat) (a14_ : Nat) (a15_ : Nat) (a16_ : Nat) (a17_ : Nat) (a18_ : Nat) (a19_ : Nat) (a20_ : Nat) (a21_ : Nat)  : Met l yX5_readText (Cond.code yX5_readText cX5_readText 4 none :: tw_W) ({ frames := 3, cells := 0, slots := 0, locals := 69 }) (pc_ (dC, dI) (tyS cI cB cZ cJ cR) tb [(a0_, .inr (8, [.ref a1_, .ref a2_, .ref a3_, .ref a4_, .int 0, .int 0, .int 0])), (a1_, .inr (10, [.ref a5_, .int 0, .ref a6_, .int 0, .ref a7_, .int 0, .ref a8_, .ref a9_, .ref a10_, .int 0, .ref a11_, .int 0, .int 0])), (a2_, .inr (12, [.ref a1_, .ref a12_, .ref a13_, .ref a14_, .int 0, .int 0, .int 0, .int 0, .int 0, .int 0])), (a12_, .inl (cI, 1503, .inl (fun _ => 0))), (a13_, .inl (cI, 1503, .inl (fun _ => 0))), (a14_, .inl (cI, 1503, .inl (fun _ => 0))), (a3_, .inr (5, [.ref a1_, .ref a15_, .int 0, .int 0, .int 0, .int 0, .ref a16_, .int 0, .ref a17_, .ref a18_, .ref a19_, .int 0])), (a4_, .inr (6, [.ref a2_, .ref a3_, .ref a20_, .ref a21_, .int 0]))] sz [.ref a0_, .ref a1_]) (qv_ (dC, dI) [(a0_, .inr (8, [.ref a1_, .ref a2_, .ref a3_, .ref a4_, .int 0, .int 0, .int 0])), (a1_, .inr (10, [.ref a5_, .int 0, .ref a6_, .int 0, .ref a7_, .int 0, .ref a8_, .ref a9_, .ref a10_, .int 0, .ref a11_, .int 0, .int 0])), (a2_, .inr (12, [.ref a1_, .ref a12_, .ref a13_, .ref a14_, .int 0, .int 0, .int 0, .int 0, .int 0, .int 0])), (a12_, .inl (cI, 1503, .inl (fun _ => 0))), (a13_, .inl (cI, 1503, .inl (fun _ => 0))), (a14_, .inl (cI, 1503, .inl (fun _ => 0))), (a3_, .inr (5, [.ref a1_, .ref a15_, .int 0, .int 0, .int 0, .int 0, .ref a16_, .int 0, .ref a17_, .ref a18_, .ref a19_, .int 0])), (a4_, .inr (6, [.ref a2_, .ref a3_, .ref a20_, .ref a21_, .int 0]))] sz (fun (u : Unit) => True) (fun (u : Unit) => [(a13_, .inl (cI, 1503, .inl (upd (fun _ => 0) 0 0))), (a14_, .inl (cI, 1503, .inl (upd (fun _ => 0) 0 0))), (a4_, .inr (6, [.ref a2_, .ref a3_, .ref a20_, .ref a21_, .int 0])), (a2_, .inr (12, [.ref a1_, .ref a12_, .ref a13_, .ref a14_, .int 1, .int 0, .int 0, .int (-1), .int 0, .int (-1)])), (a12_, .inl (cI, 1503, .inl (upd (fun _ => 0) 0 0))), (a0_, .inr (8, [.ref a1_, .ref a2_, .ref a3_, .ref a4_, .int 0, .int 0, .int 0])), (a3_, .inr (5, [.ref a1_, .ref a15_, .int 0, .int 0, .int 0, .int 0, .ref a16_, .int 0, .ref a17_, .ref a18_, .ref a19_, .int 0])), (a1_, .inr (10, [.ref a5_, .int 0, .ref a6_, .int 0, .ref a7_, .int 0, .ref a8_, .ref a9_, .ref a10_, .int 0, .ref a11_, .int 0, .int 0]))])) 0 0 (va_A [(a0_, .inr (8, [.ref a1_, .ref a2_, .ref a3_, .ref a4_, .int 0, .int 0, .int 0])), (a1_, .inr (10, [.ref a5_, .int 0, .ref a6_, .int 0, .ref a7_, .int 0, .ref a8_, .ref a9_, .ref a10_, .int 0, .ref a11_, .int 0, .int 0])), (a2_, .inr (12, [.ref a1_, .ref a12_, .ref a13_, .ref a14_, .int 0, .int 0, .int 0, .int 0, .int 0, .int 0])), (a12_, .inl (cI, 1503, .inl (fun _ => 0))), (a13_, .inl (cI, 1503, .inl (fun _ => 0))), (a14_, .inl (cI, 1503, .inl (fun _ => 0))), (a3_, .inr (5, [.ref a1_, .ref a15_, .int 0, .int 0, .int 0, .int 0, .ref a16_, .int 0, .ref a17_, .ref a18_, .ref a19_, .int 0])), (a4_, .inr (6, [.ref a2_, .ref a3_, .ref a20_, .ref a21_, .int 0]))] sz) := by
  refine Met.ofW (cc := cX5_readText) (maxL := 4) (ret := none) (by decide) rfl ?_
  intro p e s m args below meth c s₁ B hml hv
  obtain ⟨rfl, hsz, hP, hKK, hD0, hFx⟩ := hv
  have hK := hKK.1
  have hx := B.exec
  have hb := B.bytes
  have hr := B.returns
  have ht : ∀ w ∈ tw_W, w.before _ s = true := fun w h => atoms_spec (ws := Cond.code yX5_readText cX5_readText 4 none :: tw_W) B.pre w (List.mem_cons_of_mem _ h)
  have hown : s.vm.findClass RX5 = some m.cls := findClass_of_methodNamed B.named
  have hlocks := B.notSynchronized
  subst hsz
  unfold qv_
  have hD := hD0.self (sz := s.heap.size)
  generalize hAe : va_A [(a0_, .inr (8, [.ref a1_, .ref a2_, .ref a3_, .ref a4_, .int 0, .int 0, .int 0])), (a1_, .inr (10, [.ref a5_, .int 0, .ref a6_, .int 0, .ref a7_, .int 0, .ref a8_, .ref a9_, .ref a10_, .int 0, .ref a11_, .int 0, .int 0])), (a2_, .inr (12, [.ref a1_, .ref a12_, .ref a13_, .ref a14_, .int 0, .int 0, .int 0, .int 0, .int 0, .int 0])), (a12_, .inl (cI, 1503, .inl (fun _ => 0))), (a13_, .inl (cI, 1503, .inl (fun _ => 0))), (a14_, .inl (cI, 1503, .inl (fun _ => 0))), (a3_, .inr (5, [.ref a1_, .ref a15_, .int 0, .int 0, .int 0, .int 0, .ref a16_, .int 0, .ref a17_, .ref a18_, .ref a19_, .int 0])), (a4_, .inr (6, [.ref a2_, .ref a3_, .ref a20_, .ref a21_, .int 0]))] s.heap.size = A at hD hFx ⊢
  have hA : ∀ q : Nat, s.heap.size ≤ q → A q := fun q h => by rw [← hAe]; exact Or.inr h
  have hS : va_S A s.heap s.heap [] := va_S.rf
  have hP : va_P (dC, dI) vwCl [(a0_, .inr (8, [.ref a1_, .ref a2_, .ref a3_, .ref a4_, .int 0, .int 0, .int 0])), (a1_, .inr (10, [.ref a5_, .int 0, .ref a6_, .int 0, .ref a7_, .int 0, .ref a8_, .ref a9_, .ref a10_, .int 0, .ref a11_, .int 0, .int 0])), (a2_, .inr (12, [.ref a1_, .ref a12_, .ref a13_, .ref a14_, .int 0, .int 0, .int 0, .int 0, .int 0, .int 0])), (a12_, .inl (cI, 1503, .inl (fun _ => 0))), (a13_, .inl (cI, 1503, .inl (fun _ => 0))), (a14_, .inl (cI, 1503, .inl (fun _ => 0))), (a3_, .inr (5, [.ref a1_, .ref a15_, .int 0, .int 0, .int 0, .int 0, .ref a16_, .int 0, .ref a17_, .ref a18_, .ref a19_, .int 0])), (a4_, .inr (6, [.ref a2_, .ref a3_, .ref a20_, .ref a21_, .int 0]))] s.heap := hP
  have hl := lv_entry ([.ref a0_, .ref a1_]) (n := 4) (Nat.le_of_ble_eq_true rfl)
  rw [lg_entry_eq]
  generalize (lg_sl ([.ref a0_, .ref a1_]) ++ List.replicate (4 - (lg_sl ([.ref a0_, .ref a1_])).length) Slot.unset).toArray = ls at hl ⊢
  have hl : lv_has ls 4 [(0, .ref a0_), (1, .ref a1_)] := hl
  refine lv_aload_n hx hb dX5_readText_0 rfl (lv_at hl 0 rfl) ?_
  refine lv_aload_n hx hb dX5_readText_1 rfl (lv_at hl 1 rfl) ?_
  refine va_put (D := (dC, dI)) (ci := 8) (v := .ref a1_) (ty := .object "PocketCompiler$Program") (C := RX5) (T := TX5) (N := 7) hx hb ht itX5 tyX5 tyX5_ok nmX5 hown hK hP hD hS 0 rfl rfl 0 (by decide) (ht _ tw_43) (fun _ h9 => h9) rfl (by decide +kernel) rfl rfl (Nat.le_of_ble_eq_true rfl) dX5_readText_2 (fun H locs hP hD hS => ?_)
  have hP : va_P (dC, dI) vwCl [(a0_, .inr (8, [.ref a1_, .ref a2_, .ref a3_, .ref a4_, .int 0, .int 0, .int 0])), (a1_, .inr (10, [.ref a5_, .int 0, .ref a6_, .int 0, .ref a7_, .int 0, .ref a8_, .ref a9_, .ref a10_, .int 0, .ref a11_, .int 0, .int 0])), (a2_, .inr (12, [.ref a1_, .ref a12_, .ref a13_, .ref a14_, .int 0, .int 0, .int 0, .int 0, .int 0, .int 0])), (a12_, .inl (cI, 1503, .inl (fun _ => 0))), (a13_, .inl (cI, 1503, .inl (fun _ => 0))), (a14_, .inl (cI, 1503, .inl (fun _ => 0))), (a3_, .inr (5, [.ref a1_, .ref a15_, .int 0, .int 0, .int 0, .int 0, .ref a16_, .int 0, .ref a17_, .ref a18_, .ref a19_, .int 0])), (a4_, .inr (6, [.ref a2_, .ref a3_, .ref a20_, .ref a21_, .int 0]))] H := hP
  have hD : va_D A [(a0_, .inr (8, [.ref a1_, .ref a2_, .ref a3_, .ref a4_, .int 0, .int 0, .int 0])), (a1_, .inr (10, [.ref a5_, .int 0, .ref a6_, .int 0, .ref a7_, .int 0, .ref a8_, .ref a9_, .ref a10_, .int 0, .ref a11_, .int 0, .int 0])), (a2_, .inr (12, [.ref a1_, .ref a12_, .ref a13_, .ref a14_, .int 0, .int 0, .int 0, .int 0, .int 0, .int 0])), (a12_, .inl (cI, 1503, .inl (fun _ => 0))), (a13_, .inl (cI, 1503, .inl (fun _ => 0))), (a14_, .inl (cI, 1503, .inl (fun _ => 0))), (a3_, .inr (5, [.ref a1_, .ref a15_, .int 0, .int 0, .int 0, .int 0, .ref a16_, .int 0, .ref a17_, .ref a18_, .ref a19_, .int 0])), (a4_, .inr (6, [.ref a2_, .ref a3_, .ref a20_, .ref a21_, .int 0]))] := hD
  refine lv_aload_n hx hb dX5_readText_5 rfl (lv_at hl 0 rfl) ?_
  refine va_get (D := (dC, dI)) (ci := 8) (v := .ref a2_) (C := RX5) (T := TX5) (N := 7) hx hb ht itX5 hown hK hP 0 rfl rfl 1 (by decide) (ht _ tw_56) (fun _ h9 => h9) rfl dX5_readText_6 ?_
  refine lv_aload_n hx hb dX5_readText_9 rfl (lv_at hl 1 rfl) ?_
  refine ca_v (wr := [(a0_, .inr (8, [.ref a1_, .ref a2_, .ref a3_, .ref a4_, .int 0, .int 0, .int 0])), (a3_, .inr (5, [.ref a1_, .ref a15_, .int 0, .int 0, .int 0, .int 0, .ref a16_, .int 0, .ref a17_, .ref a18_, .ref a19_, .int 0])), (a4_, .inr (6, [.ref a2_, .ref a3_, .ref a20_, .ref a21_, .int 0]))]) (rn_V (n := 1) (As := [.ref a1_]) (rest := []) hx hb hml hown ht hKK hFx hP hD hS hA (c_X9_scan l dC dI cI cB cZ cJ cR tb H.size a2_ a1_ a12_ a13_ a14_ a5_ a6_ a7_ a8_ a9_ a10_ a11_) tw_165 tw_166 (by decide +kernel) rfl rfl ⟨Nat.le_of_ble_eq_true rfl, Nat.le_of_ble_eq_true rfl⟩ [2, 1, 3, 4, 5] rfl (by decide) rfl rfl rfl rfl hl.1 rfl (Nat.le_of_ble_eq_true rfl) dX5_readText_10 ⟨Nat.le_of_ble_eq_true rfl, Nat.le_of_ble_eq_true rfl⟩) hP hD hS hA (isC := [2, 1, 3, 4, 5]) (isR := [0, 6, 7]) rfl rfl (by decide) (by decide) (fun u H locs hw1 hP hD hS => ?_)
  have hP : va_P (dC, dI) vwCl [(a0_, .inr (8, [.ref a1_, .ref a2_, .ref a3_, .ref a4_, .int 0, .int 0, .int 0])), (a3_, .inr (5, [.ref a1_, .ref a15_, .int 0, .int 0, .int 0, .int 0, .ref a16_, .int 0, .ref a17_, .ref a18_, .ref a19_, .int 0])), (a4_, .inr (6, [.ref a2_, .ref a3_, .ref a20_, .ref a21_, .int 0])), (a1_, .inr (10, [.ref a5_, .int 0, .ref a6_, .int 0, .ref a7_, .int 0, .ref a8_, .ref a9_, .ref a10_, .int 0, .ref a11_, .int 0, .int 0])), (a2_, .inr (12, [.ref a1_, .ref a12_, .ref a13_, .ref a14_, .int 1, .int 0, .int 0, .int (-1), .int 0, .int (-1)])), (a12_, .inl (cI, 1503, .inl (upd (fun _ => 0) 0 0))), (a13_, .inl (cI, 1503, .inl (upd (fun _ => 0) 0 0))), (a14_, .inl (cI, 1503, .inl (upd (fun _ => 0) 0 0)))] H := hP
  have hD : va_D A [(a0_, .inr (8, [.ref a1_, .ref a2_, .ref a3_, .ref a4_, .int 0, .int 0, .int 0])), (a3_, .inr (5, [.ref a1_, .ref a15_, .int 0, .int 0, .int 0, .int 0, .ref a16_, .int 0, .ref a17_, .ref a18_, .ref a19_, .int 0])), (a4_, .inr (6, [.ref a2_, .ref a3_, .ref a20_, .ref a21_, .int 0])), (a1_, .inr (10, [.ref a5_, .int 0, .ref a6_, .int 0, .ref a7_, .int 0, .ref a8_, .ref a9_, .ref a10_, .int 0, .ref a11_, .int 0, .int 0])), (a2_, .inr (12, [.ref a1_, .ref a12_, .ref a13_, .ref a14_, .int 1, .int 0, .int 0, .int (-1), .int 0, .int (-1)])), (a12_, .inl (cI, 1503, .inl (upd (fun _ => 0) 0 0))), (a13_, .inl (cI, 1503, .inl (upd (fun _ => 0) 0 0))), (a14_, .inl (cI, 1503, .inl (upd (fun _ => 0) 0 0)))] := hD
  refine W.widen (k := 0) (n := 0) (by omega) (by omega) ?_
  refine lv_aload_n hx hb dX5_readText_13 rfl (lv_at hl 0 rfl) ?_
  refine va_get (D := (dC, dI)) (ci := 8) (v := .ref a3_) (C := RX5) (T := TX5) (N := 7) hx hb ht itX5 hown hK hP 0 rfl rfl 2 (by decide) (ht _ tw_64) (fun _ h9 => h9) rfl dX5_readText_14 ?_
  refine lv_aload_n hx hb dX5_readText_17 rfl (lv_at hl 1 rfl) ?_
  refine ca_v (wr := [(a0_, .inr (8, [.ref a1_, .ref a2_, .ref a3_, .ref a4_, .int 0, .int 0, .int 0])), (a4_, .inr (6, [.ref a2_, .ref a3_, .ref a20_, .ref a21_, .int 0])), (a2_, .inr (12, [.ref a1_, .ref a12_, .ref a13_, .ref a14_, .int 1, .int 0, .int 0, .int (-1), .int 0, .int (-1)])), (a12_, .inl (cI, 1503, .inl (upd (fun _ => 0) 0 0))), (a13_, .inl (cI, 1503, .inl (upd (fun _ => 0) 0 0))), (a14_, .inl (cI, 1503, .inl (upd (fun _ => 0) 0 0)))]) (rn_V (n := 1) (As := [.ref a1_]) (rest := []) hx hb hml hown ht hKK hFx hP hD hS hA (c_X1_begin l dC dI cI cB cZ cJ cR tb H.size a3_ a1_ a15_ a16_ a17_ a18_ a19_ a5_ a6_ a7_ a8_ a9_ a10_ a11_) tw_176 tw_177 (by decide +kernel) rfl rfl ⟨Nat.le_of_ble_eq_true rfl, Nat.le_of_ble_eq_true rfl⟩ [1, 3] rfl (by decide) rfl rfl rfl rfl hl.1 rfl (Nat.le_of_ble_eq_true rfl) dX5_readText_18 ⟨Nat.le_of_ble_eq_true rfl, Nat.le_of_ble_eq_true rfl⟩) hP hD hS hA (isC := [1, 3]) (isR := [0, 2, 4, 5, 6, 7]) rfl rfl (by decide) (by decide) (fun u H locs hw2 hP hD hS => ?_)
  have hP : va_P (dC, dI) vwCl [(a0_, .inr (8, [.ref a1_, .ref a2_, .ref a3_, .ref a4_, .int 0, .int 0, .int 0])), (a4_, .inr (6, [.ref a2_, .ref a3_, .ref a20_, .ref a21_, .int 0])), (a2_, .inr (12, [.ref a1_, .ref a12_, .ref a13_, .ref a14_, .int 1, .int 0, .int 0, .int (-1), .int 0, .int (-1)])), (a12_, .inl (cI, 1503, .inl (upd (fun _ => 0) 0 0))), (a13_, .inl (cI, 1503, .inl (upd (fun _ => 0) 0 0))), (a14_, .inl (cI, 1503, .inl (upd (fun _ => 0) 0 0))), (a3_, .inr (5, [.ref a1_, .ref a15_, .int 0, .int 0, .int 0, .int 0, .ref a16_, .int 0, .ref a17_, .ref a18_, .ref a19_, .int 0])), (a1_, .inr (10, [.ref a5_, .int 0, .ref a6_, .int 0, .ref a7_, .int 0, .ref a8_, .ref a9_, .ref a10_, .int 0, .ref a11_, .int 0, .int 0]))] H := hP
  have hD : va_D A [(a0_, .inr (8, [.ref a1_, .ref a2_, .ref a3_, .ref a4_, .int 0, .int 0, .int 0])), (a4_, .inr (6, [.ref a2_, .ref a3_, .ref a20_, .ref a21_, .int 0])), (a2_, .inr (12, [.ref a1_, .ref a12_, .ref a13_, .ref a14_, .int 1, .int 0, .int 0, .int (-1), .int 0, .int (-1)])), (a12_, .inl (cI, 1503, .inl (upd (fun _ => 0) 0 0))), (a13_, .inl (cI, 1503, .inl (upd (fun _ => 0) 0 0))), (a14_, .inl (cI, 1503, .inl (upd (fun _ => 0) 0 0))), (a3_, .inr (5, [.ref a1_, .ref a15_, .int 0, .int 0, .int 0, .int 0, .ref a16_, .int 0, .ref a17_, .ref a18_, .ref a19_, .int 0])), (a1_, .inr (10, [.ref a5_, .int 0, .ref a6_, .int 0, .ref a7_, .int 0, .ref a8_, .ref a9_, .ref a10_, .int 0, .ref a11_, .int 0, .int 0]))] := hD
  refine W.widen (k := 0) (n := 0) (by omega) (by omega) ?_
  refine lv_aload_n hx hb dX5_readText_21 rfl (lv_at hl 0 rfl) ?_
  refine va_get (D := (dC, dI)) (ci := 8) (v := .ref a4_) (C := RX5) (T := TX5) (N := 7) hx hb ht itX5 hown hK hP 0 rfl rfl 3 (by decide) (ht _ tw_72) (fun _ h9 => h9) rfl dX5_readText_22 ?_
  refine ca_v (wr := [(a0_, .inr (8, [.ref a1_, .ref a2_, .ref a3_, .ref a4_, .int 0, .int 0, .int 0])), (a2_, .inr (12, [.ref a1_, .ref a12_, .ref a13_, .ref a14_, .int 1, .int 0, .int 0, .int (-1), .int 0, .int (-1)])), (a12_, .inl (cI, 1503, .inl (upd (fun _ => 0) 0 0))), (a13_, .inl (cI, 1503, .inl (upd (fun _ => 0) 0 0))), (a14_, .inl (cI, 1503, .inl (upd (fun _ => 0) 0 0))), (a3_, .inr (5, [.ref a1_, .ref a15_, .int 0, .int 0, .int 0, .int 0, .ref a16_, .int 0, .ref a17_, .ref a18_, .ref a19_, .int 0])), (a1_, .inr (10, [.ref a5_, .int 0, .ref a6_, .int 0, .ref a7_, .int 0, .ref a8_, .ref a9_, .ref a10_, .int 0, .ref a11_, .int 0, .int 0]))]) (rn_V (n := 0) (As := []) (rest := []) hx hb hml hown ht hKK hFx hP hD hS hA (c_X2_begin l dC dI cI cB cZ cJ cR tb H.size a4_ a2_ a3_ a20_ a21_) tw_179 tw_180 (by decide +kernel) rfl rfl ⟨Nat.le_of_ble_eq_true rfl, Nat.le_of_ble_eq_true rfl⟩ [1] rfl (by decide) rfl rfl rfl rfl hl.1 rfl (Nat.le_of_ble_eq_true rfl) dX5_readText_25 ⟨Nat.le_of_ble_eq_true rfl, Nat.le_of_ble_eq_true rfl⟩) hP hD hS hA (isC := [1]) (isR := [0, 2, 3, 4, 5, 6, 7]) rfl rfl (by decide) (by decide) (fun u H locs hw3 hP hD hS => ?_)
  have hP : va_P (dC, dI) vwCl [(a0_, .inr (8, [.ref a1_, .ref a2_, .ref a3_, .ref a4_, .int 0, .int 0, .int 0])), (a2_, .inr (12, [.ref a1_, .ref a12_, .ref a13_, .ref a14_, .int 1, .int 0, .int 0, .int (-1), .int 0, .int (-1)])), (a12_, .inl (cI, 1503, .inl (upd (fun _ => 0) 0 0))), (a13_, .inl (cI, 1503, .inl (upd (fun _ => 0) 0 0))), (a14_, .inl (cI, 1503, .inl (upd (fun _ => 0) 0 0))), (a3_, .inr (5, [.ref a1_, .ref a15_, .int 0, .int 0, .int 0, .int 0, .ref a16_, .int 0, .ref a17_, .ref a18_, .ref a19_, .int 0])), (a1_, .inr (10, [.ref a5_, .int 0, .ref a6_, .int 0, .ref a7_, .int 0, .ref a8_, .ref a9_, .ref a10_, .int 0, .ref a11_, .int 0, .int 0])), (a4_, .inr (6, [.ref a2_, .ref a3_, .ref a20_, .ref a21_, .int 0]))] H := hP
  have hD : va_D A [(a0_, .inr (8, [.ref a1_, .ref a2_, .ref a3_, .ref a4_, .int 0, .int 0, .int 0])), (a2_, .inr (12, [.ref a1_, .ref a12_, .ref a13_, .ref a14_, .int 1, .int 0, .int 0, .int (-1), .int 0, .int (-1)])), (a12_, .inl (cI, 1503, .inl (upd (fun _ => 0) 0 0))), (a13_, .inl (cI, 1503, .inl (upd (fun _ => 0) 0 0))), (a14_, .inl (cI, 1503, .inl (upd (fun _ => 0) 0 0))), (a3_, .inr (5, [.ref a1_, .ref a15_, .int 0, .int 0, .int 0, .int 0, .ref a16_, .int 0, .ref a17_, .ref a18_, .ref a19_, .int 0])), (a1_, .inr (10, [.ref a5_, .int 0, .ref a6_, .int 0, .ref a7_, .int 0, .ref a8_, .ref a9_, .ref a10_, .int 0, .ref a11_, .int 0, .int 0])), (a4_, .inr (6, [.ref a2_, .ref a3_, .ref a20_, .ref a21_, .int 0]))] := hD
  refine W.widen (k := 0) (n := 0) (by omega) (by omega) ?_
  refine lv_iconst (v := 0) hx hb dX5_readText_28 (by decide) ?_
  refine lv_istore_n (lv' := [(2, .int 0), (0, .ref a0_), (1, .ref a1_)]) hx hb dX5_readText_29 rfl hl (by decide) rfl (fun ls hl => ?_)
  refine lv_iload_n hx hb dX5_readText_30 rfl (lv_at hl 0 rfl) ?_
  refine lv_sipush (v := 1500) hx hb dX5_readText_31 (by decide) ?_
  refine lv_icmp_ge (tgt := 76) hx hb dX5_readText_34 (by decide) (fun k4 => absurd k4 (by decide)) (fun _ => ?_)
  refine lv_aload_n hx hb dX5_readText_37 rfl (lv_at hl 1 rfl) ?_
  refine va_get (D := (dC, dI)) (ci := 8) (v := .ref a2_) (C := RX5) (T := TX5) (N := 7) hx hb ht itX5 hown hK hP 0 rfl rfl 1 (by decide) (ht _ tw_56) (fun _ h9 => h9) rfl dX5_readText_38 ?_
  refine ca_i (wr := [(a0_, .inr (8, [.ref a1_, .ref a2_, .ref a3_, .ref a4_, .int 0, .int 0, .int 0])), (a13_, .inl (cI, 1503, .inl (upd (fun _ => 0) 0 0))), (a14_, .inl (cI, 1503, .inl (upd (fun _ => 0) 0 0))), (a3_, .inr (5, [.ref a1_, .ref a15_, .int 0, .int 0, .int 0, .int 0, .ref a16_, .int 0, .ref a17_, .ref a18_, .ref a19_, .int 0])), (a1_, .inr (10, [.ref a5_, .int 0, .ref a6_, .int 0, .ref a7_, .int 0, .ref a8_, .ref a9_, .ref a10_, .int 0, .ref a11_, .int 0, .int 0])), (a4_, .inr (6, [.ref a2_, .ref a3_, .ref a20_, .ref a21_, .int 0]))]) (rn_V (n := 0) (As := []) (rest := []) hx hb hml hown ht hKK hFx hP hD hS hA (c_X9_kind l dC dI cI cB cZ cJ cR tb H.size a2_ a1_ a12_ a13_ a14_) tw_181 tw_182 (by decide +kernel) rfl rfl ⟨Nat.le_of_ble_eq_true rfl, Nat.le_of_ble_eq_true rfl⟩ [1, 2] rfl (by decide) rfl rfl rfl rfl hl.1 rfl (Nat.le_of_ble_eq_true rfl) dX5_readText_41 ⟨Nat.le_of_ble_eq_true rfl, Nat.le_of_ble_eq_true rfl⟩) hP hD hS hA (isC := [1, 2]) (isR := [0, 3, 4, 5, 6, 7]) rfl rfl (by decide) (by decide) (fun r6 u H locs hw5 hP hD hS => ?_)
  subst hw5
  have hP : va_P (dC, dI) vwCl [(a0_, .inr (8, [.ref a1_, .ref a2_, .ref a3_, .ref a4_, .int 0, .int 0, .int 0])), (a13_, .inl (cI, 1503, .inl (upd (fun _ => 0) 0 0))), (a14_, .inl (cI, 1503, .inl (upd (fun _ => 0) 0 0))), (a3_, .inr (5, [.ref a1_, .ref a15_, .int 0, .int 0, .int 0, .int 0, .ref a16_, .int 0, .ref a17_, .ref a18_, .ref a19_, .int 0])), (a1_, .inr (10, [.ref a5_, .int 0, .ref a6_, .int 0, .ref a7_, .int 0, .ref a8_, .ref a9_, .ref a10_, .int 0, .ref a11_, .int 0, .int 0])), (a4_, .inr (6, [.ref a2_, .ref a3_, .ref a20_, .ref a21_, .int 0])), (a2_, .inr (12, [.ref a1_, .ref a12_, .ref a13_, .ref a14_, .int 1, .int 0, .int 0, .int (-1), .int 0, .int (-1)])), (a12_, .inl (cI, 1503, .inl (upd (fun _ => 0) 0 0)))] H := hP
  have hD : va_D A [(a0_, .inr (8, [.ref a1_, .ref a2_, .ref a3_, .ref a4_, .int 0, .int 0, .int 0])), (a13_, .inl (cI, 1503, .inl (upd (fun _ => 0) 0 0))), (a14_, .inl (cI, 1503, .inl (upd (fun _ => 0) 0 0))), (a3_, .inr (5, [.ref a1_, .ref a15_, .int 0, .int 0, .int 0, .int 0, .ref a16_, .int 0, .ref a17_, .ref a18_, .ref a19_, .int 0])), (a1_, .inr (10, [.ref a5_, .int 0, .ref a6_, .int 0, .ref a7_, .int 0, .ref a8_, .ref a9_, .ref a10_, .int 0, .ref a11_, .int 0, .int 0])), (a4_, .inr (6, [.ref a2_, .ref a3_, .ref a20_, .ref a21_, .int 0])), (a2_, .inr (12, [.ref a1_, .ref a12_, .ref a13_, .ref a14_, .int 1, .int 0, .int 0, .int (-1), .int 0, .int (-1)])), (a12_, .inl (cI, 1503, .inl (upd (fun _ => 0) 0 0)))] := hD
  refine W.widen (k := 0) (n := 0) (by omega) (by omega) ?_
  refine lv_if_eq (tgt := 76) hx hb dX5_readText_44 (by decide) (fun _ => ?_) (fun k7 => absurd k7 (by decide))
  refine lv_aload_n hx hb dX5_readText_76 rfl (lv_at hl 1 rfl) ?_
  refine ca_v (wr := [(a13_, .inl (cI, 1503, .inl (upd (fun _ => 0) 0 0))), (a14_, .inl (cI, 1503, .inl (upd (fun _ => 0) 0 0))), (a1_, .inr (10, [.ref a5_, .int 0, .ref a6_, .int 0, .ref a7_, .int 0, .ref a8_, .ref a9_, .ref a10_, .int 0, .ref a11_, .int 0, .int 0])), (a4_, .inr (6, [.ref a2_, .ref a3_, .ref a20_, .ref a21_, .int 0])), (a2_, .inr (12, [.ref a1_, .ref a12_, .ref a13_, .ref a14_, .int 1, .int 0, .int 0, .int (-1), .int 0, .int (-1)])), (a12_, .inl (cI, 1503, .inl (upd (fun _ => 0) 0 0)))]) (rn_V (n := 0) (As := []) (rest := []) hx hb hml hown ht hKK hFx hP hD hS hA (c_X5_checkCalls l dC dI cI cB cZ cJ cR tb H.size a0_ a1_ a2_ a3_ a4_ a15_ a16_ a17_ a18_ a19_) tw_183 tw_184 (by decide +kernel) rfl rfl ⟨Nat.le_of_ble_eq_true rfl, Nat.le_of_ble_eq_true rfl⟩ [0, 3] rfl (by decide) rfl rfl rfl rfl hl.1 rfl (Nat.le_of_ble_eq_true rfl) dX5_readText_77 ⟨Nat.le_of_ble_eq_true rfl, Nat.le_of_ble_eq_true rfl⟩) hP hD hS hA (isC := [0, 3]) (isR := [1, 2, 4, 5, 6, 7]) rfl rfl (by decide) (by decide) (fun u H locs hw8 hP hD hS => ?_)
  have hP : va_P (dC, dI) vwCl [(a13_, .inl (cI, 1503, .inl (upd (fun _ => 0) 0 0))), (a14_, .inl (cI, 1503, .inl (upd (fun _ => 0) 0 0))), (a1_, .inr (10, [.ref a5_, .int 0, .ref a6_, .int 0, .ref a7_, .int 0, .ref a8_, .ref a9_, .ref a10_, .int 0, .ref a11_, .int 0, .int 0])), (a4_, .inr (6, [.ref a2_, .ref a3_, .ref a20_, .ref a21_, .int 0])), (a2_, .inr (12, [.ref a1_, .ref a12_, .ref a13_, .ref a14_, .int 1, .int 0, .int 0, .int (-1), .int 0, .int (-1)])), (a12_, .inl (cI, 1503, .inl (upd (fun _ => 0) 0 0))), (a0_, .inr (8, [.ref a1_, .ref a2_, .ref a3_, .ref a4_, .int 0, .int 0, .int 0])), (a3_, .inr (5, [.ref a1_, .ref a15_, .int 0, .int 0, .int 0, .int 0, .ref a16_, .int 0, .ref a17_, .ref a18_, .ref a19_, .int 0]))] H := hP
  have hD : va_D A [(a13_, .inl (cI, 1503, .inl (upd (fun _ => 0) 0 0))), (a14_, .inl (cI, 1503, .inl (upd (fun _ => 0) 0 0))), (a1_, .inr (10, [.ref a5_, .int 0, .ref a6_, .int 0, .ref a7_, .int 0, .ref a8_, .ref a9_, .ref a10_, .int 0, .ref a11_, .int 0, .int 0])), (a4_, .inr (6, [.ref a2_, .ref a3_, .ref a20_, .ref a21_, .int 0])), (a2_, .inr (12, [.ref a1_, .ref a12_, .ref a13_, .ref a14_, .int 1, .int 0, .int 0, .int (-1), .int 0, .int (-1)])), (a12_, .inl (cI, 1503, .inl (upd (fun _ => 0) 0 0))), (a0_, .inr (8, [.ref a1_, .ref a2_, .ref a3_, .ref a4_, .int 0, .int 0, .int 0])), (a3_, .inr (5, [.ref a1_, .ref a15_, .int 0, .int 0, .int 0, .int 0, .ref a16_, .int 0, .ref a17_, .ref a18_, .ref a19_, .int 0]))] := hD
  refine W.widen (k := 0) (n := 0) (by omega) (by omega) ?_
  refine lv_aload_n hx hb dX5_readText_80 rfl (lv_at hl 1 rfl) ?_
  refine va_get (D := (dC, dI)) (ci := 8) (v := .ref a3_) (C := RX5) (T := TX5) (N := 7) hx hb ht itX5 hown hK hP 6 rfl rfl 2 (by decide) (ht _ tw_64) (fun _ h9 => h9) rfl dX5_readText_81 ?_
  refine ca_v (wr := [(a13_, .inl (cI, 1503, .inl (upd (fun _ => 0) 0 0))), (a14_, .inl (cI, 1503, .inl (upd (fun _ => 0) 0 0))), (a4_, .inr (6, [.ref a2_, .ref a3_, .ref a20_, .ref a21_, .int 0])), (a2_, .inr (12, [.ref a1_, .ref a12_, .ref a13_, .ref a14_, .int 1, .int 0, .int 0, .int (-1), .int 0, .int (-1)])), (a12_, .inl (cI, 1503, .inl (upd (fun _ => 0) 0 0))), (a0_, .inr (8, [.ref a1_, .ref a2_, .ref a3_, .ref a4_, .int 0, .int 0, .int 0]))]) (rn_V (n := 0) (As := []) (rest := []) hx hb hml hown ht hKK hFx hP hD hS hA (c_X1_link l dC dI cI cB cZ cJ cR tb H.size a3_ a1_ a15_ a16_ a17_ a18_ a19_ a5_ a6_ a7_ a8_ a9_ a10_ a11_) tw_186 tw_187 (by decide +kernel) rfl rfl ⟨Nat.le_of_ble_eq_true rfl, Nat.le_of_ble_eq_true rfl⟩ [7, 2] rfl (by decide) rfl rfl rfl rfl hl.1 rfl (Nat.le_of_ble_eq_true rfl) dX5_readText_84 ⟨Nat.le_of_ble_eq_true rfl, Nat.le_of_ble_eq_true rfl⟩) hP hD hS hA (isC := [7, 2]) (isR := [0, 1, 3, 4, 5, 6]) rfl rfl (by decide) (by decide) (fun u H locs hw9 hP hD hS => ?_)
  have hP : va_P (dC, dI) vwCl [(a13_, .inl (cI, 1503, .inl (upd (fun _ => 0) 0 0))), (a14_, .inl (cI, 1503, .inl (upd (fun _ => 0) 0 0))), (a4_, .inr (6, [.ref a2_, .ref a3_, .ref a20_, .ref a21_, .int 0])), (a2_, .inr (12, [.ref a1_, .ref a12_, .ref a13_, .ref a14_, .int 1, .int 0, .int 0, .int (-1), .int 0, .int (-1)])), (a12_, .inl (cI, 1503, .inl (upd (fun _ => 0) 0 0))), (a0_, .inr (8, [.ref a1_, .ref a2_, .ref a3_, .ref a4_, .int 0, .int 0, .int 0])), (a3_, .inr (5, [.ref a1_, .ref a15_, .int 0, .int 0, .int 0, .int 0, .ref a16_, .int 0, .ref a17_, .ref a18_, .ref a19_, .int 0])), (a1_, .inr (10, [.ref a5_, .int 0, .ref a6_, .int 0, .ref a7_, .int 0, .ref a8_, .ref a9_, .ref a10_, .int 0, .ref a11_, .int 0, .int 0]))] H := hP
  have hD : va_D A [(a13_, .inl (cI, 1503, .inl (upd (fun _ => 0) 0 0))), (a14_, .inl (cI, 1503, .inl (upd (fun _ => 0) 0 0))), (a4_, .inr (6, [.ref a2_, .ref a3_, .ref a20_, .ref a21_, .int 0])), (a2_, .inr (12, [.ref a1_, .ref a12_, .ref a13_, .ref a14_, .int 1, .int 0, .int 0, .int (-1), .int 0, .int (-1)])), (a12_, .inl (cI, 1503, .inl (upd (fun _ => 0) 0 0))), (a0_, .inr (8, [.ref a1_, .ref a2_, .ref a3_, .ref a4_, .int 0, .int 0, .int 0])), (a3_, .inr (5, [.ref a1_, .ref a15_, .int 0, .int 0, .int 0, .int 0, .ref a16_, .int 0, .ref a17_, .ref a18_, .ref a19_, .int 0])), (a1_, .inr (10, [.ref a5_, .int 0, .ref a6_, .int 0, .ref a7_, .int 0, .ref a8_, .ref a9_, .ref a10_, .int 0, .ref a11_, .int 0, .int 0]))] := hD
  refine W.widen (k := 0) (n := 0) (by omega) (by omega) ?_
  have hP9 := hP.sub (ws' := [(a13_, .inl (cI, 1503, .inl (upd (fun _ => 0) 0 0))), (a14_, .inl (cI, 1503, .inl (upd (fun _ => 0) 0 0))), (a4_, .inr (6, [.ref a2_, .ref a3_, .ref a20_, .ref a21_, .int 0])), (a2_, .inr (12, [.ref a1_, .ref a12_, .ref a13_, .ref a14_, .int 1, .int 0, .int 0, .int (-1), .int 0, .int (-1)])), (a12_, .inl (cI, 1503, .inl (upd (fun _ => 0) 0 0))), (a0_, .inr (8, [.ref a1_, .ref a2_, .ref a3_, .ref a4_, .int 0, .int 0, .int 0])), (a3_, .inr (5, [.ref a1_, .ref a15_, .int 0, .int 0, .int 0, .int 0, .ref a16_, .int 0, .ref a17_, .ref a18_, .ref a19_, .int 0])), (a1_, .inr (10, [.ref a5_, .int 0, .ref a6_, .int 0, .ref a7_, .int 0, .ref a8_, .ref a9_, .ref a10_, .int 0, .ref a11_, .int 0, .int 0]))]) [0, 1, 2, 3, 4, 5, 6, 7] rfl
  have hD9 := hD.sub (ws' := [(a13_, .inl (cI, 1503, .inl (upd (fun _ => 0) 0 0))), (a14_, .inl (cI, 1503, .inl (upd (fun _ => 0) 0 0))), (a4_, .inr (6, [.ref a2_, .ref a3_, .ref a20_, .ref a21_, .int 0])), (a2_, .inr (12, [.ref a1_, .ref a12_, .ref a13_, .ref a14_, .int 1, .int 0, .int 0, .int (-1), .int 0, .int (-1)])), (a12_, .inl (cI, 1503, .inl (upd (fun _ => 0) 0 0))), (a0_, .inr (8, [.ref a1_, .ref a2_, .ref a3_, .ref a4_, .int 0, .int 0, .int 0])), (a3_, .inr (5, [.ref a1_, .ref a15_, .int 0, .int 0, .int 0, .int 0, .ref a16_, .int 0, .ref a17_, .ref a18_, .ref a19_, .int 0])), (a1_, .inr (10, [.ref a5_, .int 0, .ref a6_, .int 0, .ref a7_, .int 0, .ref a8_, .ref a9_, .ref a10_, .int 0, .ref a11_, .int 0, .int 0]))]) [0, 1, 2, 3, 4, 5, 6, 7] (by decide) rfl
  refine W.widen (k := 0) (n := 0) (by omega) (by omega) ?_
  exact W.vret hx hb hr (fun t ht9 hW => ⟨⟨(), rfl, trivial, by rw [ht9]; exact hP9, hD9⟩, hS.F ht9⟩) hS.2.2 dX5_readText_87
set_option maxHeartbeats 4000000 in
set_option maxRecDepth 100000 in
theorem c_X0_emit (l : Launch) (dC : Nat → ClassId) (dI : Nat → Nat → Nat) (cI cB cZ cJ cR : ClassId) (tb : Nat → Nat) (sz : Nat) (a0_ : Nat) (a1_ : Nat) (N : Nat) (a2_ : Nat) (hf_N_0 : 256 ≤ N) (hf_N_1 : N ≤ 4096) : Met l yX0_emit (Cond.code yX0_emit cX0_emit 2 none :: tw_W) ({ frames := 0, cells := 0, slots := 0, locals := 0 }) (pc_ (dC, dI) (tyS cI cB cZ cJ cR) tb [(a0_, .inr (4, [.ref a1_, .int (4 * (nI N)), .ref a2_, .int 0, .int 0, .int 0, .int 0, .int 0, .int 0]))] sz [.ref a0_, .int 2195]) (qv_ (dC, dI) [(a0_, .inr (4, [.ref a1_, .int (4 * (nI N)), .ref a2_, .int 0, .int 0, .int 0, .int 0, .int 0, .int 0]))] sz (fun (u : Unit) => True) (fun (u : Unit) => [(a0_, .inr (4, [.ref a1_, .int (4 * (nI N)), .ref a2_, .int 1, .int 0, .int 0, .int 0, .int 0, .int 0]))])) 0 0 (va_A [(a0_, .inr (4, [.ref a1_, .int (4 * (nI N)), .ref a2_, .int 0, .int 0, .int 0, .int 0, .int 0, .int 0]))] sz) := by
  refine Met.ofW (cc := cX0_emit) (maxL := 2) (ret := none) (by decide) rfl ?_
  intro p e s m args below meth c s₁ B hml hv
  obtain ⟨rfl, hsz, hP, hKK, hD0, hFx⟩ := hv
  have hK := hKK.1
  have hx := B.exec
  have hb := B.bytes
  have hr := B.returns
  have ht : ∀ w ∈ tw_W, w.before _ s = true := fun w h => atoms_spec (ws := Cond.code yX0_emit cX0_emit 2 none :: tw_W) B.pre w (List.mem_cons_of_mem _ h)
  have hown : s.vm.findClass RX0 = some m.cls := findClass_of_methodNamed B.named
  have hlocks := B.notSynchronized
  subst hsz
  unfold qv_
  have hD := hD0.self (sz := s.heap.size)
  generalize hAe : va_A [(a0_, .inr (4, [.ref a1_, .int (4 * (nI N)), .ref a2_, .int 0, .int 0, .int 0, .int 0, .int 0, .int 0]))] s.heap.size = A at hD hFx ⊢
  have hA : ∀ q : Nat, s.heap.size ≤ q → A q := fun q h => by rw [← hAe]; exact Or.inr h
  have hS : va_S A s.heap s.heap [] := va_S.rf
  have hP : va_P (dC, dI) vwCl [(a0_, .inr (4, [.ref a1_, .int (4 * (nI N)), .ref a2_, .int 0, .int 0, .int 0, .int 0, .int 0, .int 0]))] s.heap := hP
  have hl := lv_entry ([.ref a0_, .int 2195]) (n := 2) (Nat.le_of_ble_eq_true rfl)
  rw [lg_entry_eq]
  generalize (lg_sl ([.ref a0_, .int 2195]) ++ List.replicate (2 - (lg_sl ([.ref a0_, .int 2195])).length) Slot.unset).toArray = ls at hl ⊢
  have hl : lv_has ls 2 [(0, .ref a0_), (1, .int 2195)] := hl
  refine lv_aload_n hx hb dX0_emit_0 rfl (lv_at hl 0 rfl) ?_
  refine va_get (D := (dC, dI)) (ci := 4) (v := .int 0) (C := RX0) (T := TX0) (N := 9) hx hb ht itX0 hown hK hP 0 rfl rfl 4 (by decide) (ht _ tw_190) (fun _ h9 => h9) rfl dX0_emit_1 ?_
  refine lv_if_eq (tgt := 35) hx hb dX0_emit_4 (by decide) (fun _ => ?_) (fun k1 => absurd k1 (by decide))
  refine lv_aload_n hx hb dX0_emit_35 rfl (lv_at hl 0 rfl) ?_
  refine lv_dup hx hb dX0_emit_36 rfl ?_
  refine va_get (D := (dC, dI)) (ci := 4) (v := .int 0) (C := RX0) (T := TX0) (N := 9) hx hb ht itX0 hown hK hP 0 rfl rfl 3 (by decide) (ht _ tw_191) (fun _ h9 => h9) rfl dX0_emit_37 ?_
  refine lv_iconst (v := 1) hx hb dX0_emit_40 (by decide) ?_
  refine lv_iadd hx hb dX0_emit_41 ?_
  refine tp_i (y := 1) (by decide) ?_
  refine va_put (D := (dC, dI)) (ci := 4) (v := .int 1) (ty := .int) (C := RX0) (T := TX0) (N := 9) hx hb ht itX0 tyX0 tyX0_ok nmX0 hown hK hP hD hS 0 rfl rfl 3 (by decide) (ht _ tw_191) (fun _ h9 => h9) rfl (by decide +kernel) rfl rfl (Nat.le_of_ble_eq_true rfl) dX0_emit_42 (fun H locs hP hD hS => ?_)
  have hP : va_P (dC, dI) vwCl [(a0_, .inr (4, [.ref a1_, .int (4 * (nI N)), .ref a2_, .int 1, .int 0, .int 0, .int 0, .int 0, .int 0]))] H := hP
  have hD : va_D A [(a0_, .inr (4, [.ref a1_, .int (4 * (nI N)), .ref a2_, .int 1, .int 0, .int 0, .int 0, .int 0, .int 0]))] := hD
  have hP9 := hP.sub (ws' := [(a0_, .inr (4, [.ref a1_, .int (4 * (nI N)), .ref a2_, .int 1, .int 0, .int 0, .int 0, .int 0, .int 0]))]) [0] rfl
  have hD9 := hD.sub (ws' := [(a0_, .inr (4, [.ref a1_, .int (4 * (nI N)), .ref a2_, .int 1, .int 0, .int 0, .int 0, .int 0, .int 0]))]) [0] (by decide) rfl
  refine W.widen (k := 0) (n := 0) (by omega) (by omega) ?_
  exact W.vret hx hb hr (fun t ht9 hW => ⟨⟨(), rfl, trivial, by rw [ht9]; exact hP9, hD9⟩, hS.F ht9⟩) hS.2.2 dX0_emit_45
set_option maxHeartbeats 4000000 in
set_option maxRecDepth 100000 in
theorem c_X0_immediate (l : Launch) (dC : Nat → ClassId) (dI : Nat → Nat → Nat) (cI cB cZ cJ cR : ClassId) (tb : Nat → Nat) (sz : Nat) (a0_ : Nat) (a1_ : Nat) (N : Nat) (a2_ : Nat) (hf_N_0 : 256 ≤ N) (hf_N_1 : N ≤ 4096) : Met l yX0_immediate (Cond.code yX0_immediate cX0_immediate 5 none :: tw_W) ({ frames := 1, cells := 0, slots := 0, locals := 21 }) (pc_ (dC, dI) (tyS cI cB cZ cJ cR) tb [(a0_, .inr (4, [.ref a1_, .int (4 * (nI N)), .ref a2_, .int 0, .int 0, .int 0, .int 0, .int 0, .int 0]))] sz [.ref a0_, .int 19, .int 17, .int 0, .int 0]) (qv_ (dC, dI) [(a0_, .inr (4, [.ref a1_, .int (4 * (nI N)), .ref a2_, .int 0, .int 0, .int 0, .int 0, .int 0, .int 0]))] sz (fun (u : Unit) => True) (fun (u : Unit) => [(a0_, .inr (4, [.ref a1_, .int (4 * (nI N)), .ref a2_, .int 1, .int 0, .int 0, .int 0, .int 0, .int 0]))])) 0 0 (va_A [(a0_, .inr (4, [.ref a1_, .int (4 * (nI N)), .ref a2_, .int 0, .int 0, .int 0, .int 0, .int 0, .int 0]))] sz) := by
  refine Met.ofW (cc := cX0_immediate) (maxL := 5) (ret := none) (by decide) rfl ?_
  intro p e s m args below meth c s₁ B hml hv
  obtain ⟨rfl, hsz, hP, hKK, hD0, hFx⟩ := hv
  have hK := hKK.1
  have hx := B.exec
  have hb := B.bytes
  have hr := B.returns
  have ht : ∀ w ∈ tw_W, w.before _ s = true := fun w h => atoms_spec (ws := Cond.code yX0_immediate cX0_immediate 5 none :: tw_W) B.pre w (List.mem_cons_of_mem _ h)
  have hown : s.vm.findClass RX0 = some m.cls := findClass_of_methodNamed B.named
  have hlocks := B.notSynchronized
  subst hsz
  unfold qv_
  have hD := hD0.self (sz := s.heap.size)
  generalize hAe : va_A [(a0_, .inr (4, [.ref a1_, .int (4 * (nI N)), .ref a2_, .int 0, .int 0, .int 0, .int 0, .int 0, .int 0]))] s.heap.size = A at hD hFx ⊢
  have hA : ∀ q : Nat, s.heap.size ≤ q → A q := fun q h => by rw [← hAe]; exact Or.inr h
  have hS : va_S A s.heap s.heap [] := va_S.rf
  have hP : va_P (dC, dI) vwCl [(a0_, .inr (4, [.ref a1_, .int (4 * (nI N)), .ref a2_, .int 0, .int 0, .int 0, .int 0, .int 0, .int 0]))] s.heap := hP
  have hl := lv_entry ([.ref a0_, .int 19, .int 17, .int 0, .int 0]) (n := 5) (Nat.le_of_ble_eq_true rfl)
  rw [lg_entry_eq]
  generalize (lg_sl ([.ref a0_, .int 19, .int 17, .int 0, .int 0]) ++ List.replicate (5 - (lg_sl ([.ref a0_, .int 19, .int 17, .int 0, .int 0])).length) Slot.unset).toArray = ls at hl ⊢
  have hl : lv_has ls 5 [(0, .ref a0_), (1, .int 19), (2, .int 17), (3, .int 0), (4, .int 0)] := hl
  refine lv_aload_n hx hb dX0_immediate_0 rfl (lv_at hl 0 rfl) ?_
  refine lv_iload_n hx hb dX0_immediate_1 rfl (lv_at hl 1 rfl) ?_
  refine lv_iload_n hx hb dX0_immediate_2 rfl (lv_at hl 2 rfl) ?_
  refine lv_bipush (v := 7) hx hb dX0_immediate_3 (by decide) ?_
  refine lv_ishl hx hb dX0_immediate_5 ?_
  refine tp_i (y := 2176) (by decide) ?_
  refine lv_ior hx hb dX0_immediate_6 ?_
  refine tp_i (y := 2195) (by decide) ?_
  refine lv_iload_n hx hb dX0_immediate_7 rfl (lv_at hl 3 rfl) ?_
  refine lv_bipush (v := 15) hx hb dX0_immediate_8 (by decide) ?_
  refine lv_ishl hx hb dX0_immediate_10 ?_
  refine tp_i (y := 0) (by decide) ?_
  refine lv_ior hx hb dX0_immediate_11 ?_
  refine tp_i (y := 2195) (by decide) ?_
  refine lv_iload hx hb dX0_immediate_12 (lv_at hl 4 rfl) ?_
  refine lv_bipush (v := 20) hx hb dX0_immediate_14 (by decide) ?_
  refine lv_ishl hx hb dX0_immediate_16 ?_
  refine tp_i (y := 0) (by decide) ?_
  refine lv_ior hx hb dX0_immediate_17 ?_
  refine tp_i (y := 2195) (by decide) ?_
  refine ca_v (wr := []) (rn_V (n := 1) (As := [.int 2195]) (rest := []) hx hb hml hown ht hKK hFx hP hD hS hA (c_X0_emit l dC dI cI cB cZ cJ cR tb s.heap.size a0_ a1_ N a2_ (by omega) (by omega)) tw_194 tw_195 (by decide +kernel) rfl rfl ⟨Nat.le_of_ble_eq_true rfl, Nat.le_of_ble_eq_true rfl⟩ [0] rfl (by decide) rfl rfl rfl rfl hl.1 rfl (Nat.le_of_ble_eq_true rfl) dX0_immediate_18 ⟨Nat.le_of_ble_eq_true rfl, Nat.le_of_ble_eq_true rfl⟩) hP hD hS hA (isC := [0]) (isR := []) rfl rfl (by decide) (by decide) (fun u H locs hw1 hP hD hS => ?_)
  have hP : va_P (dC, dI) vwCl [(a0_, .inr (4, [.ref a1_, .int (4 * (nI N)), .ref a2_, .int 1, .int 0, .int 0, .int 0, .int 0, .int 0]))] H := hP
  have hD : va_D A [(a0_, .inr (4, [.ref a1_, .int (4 * (nI N)), .ref a2_, .int 1, .int 0, .int 0, .int 0, .int 0, .int 0]))] := hD
  refine W.widen (k := 0) (n := 0) (by omega) (by omega) ?_
  have hP9 := hP.sub (ws' := [(a0_, .inr (4, [.ref a1_, .int (4 * (nI N)), .ref a2_, .int 1, .int 0, .int 0, .int 0, .int 0, .int 0]))]) [0] rfl
  have hD9 := hD.sub (ws' := [(a0_, .inr (4, [.ref a1_, .int (4 * (nI N)), .ref a2_, .int 1, .int 0, .int 0, .int 0, .int 0, .int 0]))]) [0] (by decide) rfl
  refine W.widen (k := 0) (n := 0) (by omega) (by omega) ?_
  exact W.vret hx hb hr (fun t ht9 hW => ⟨⟨(), rfl, trivial, by rw [ht9]; exact hP9, hD9⟩, hS.F ht9⟩) hS.2.2 dX0_immediate_21
set_option maxHeartbeats 4000000 in
set_option maxRecDepth 100000 in
theorem c_X0_emit_2 (l : Launch) (dC : Nat → ClassId) (dI : Nat → Nat → Nat) (cI cB cZ cJ cR : ClassId) (tb : Nat → Nat) (sz : Nat) (a0_ : Nat) (a1_ : Nat) (N : Nat) (a2_ : Nat) (hf_N_0 : 256 ≤ N) (hf_N_1 : N ≤ 4096) : Met l yX0_emit (Cond.code yX0_emit cX0_emit 2 none :: tw_W) ({ frames := 0, cells := 0, slots := 0, locals := 0 }) (pc_ (dC, dI) (tyS cI cB cZ cJ cR) tb [(a0_, .inr (4, [.ref a1_, .int (4 * (nI N)), .ref a2_, .int 1, .int 0, .int 0, .int 0, .int 0, .int 0]))] sz [.ref a0_, .int 1048691]) (qv_ (dC, dI) [(a0_, .inr (4, [.ref a1_, .int (4 * (nI N)), .ref a2_, .int 1, .int 0, .int 0, .int 0, .int 0, .int 0]))] sz (fun (u : Unit) => True) (fun (u : Unit) => [(a0_, .inr (4, [.ref a1_, .int (4 * (nI N)), .ref a2_, .int 2, .int 0, .int 0, .int 0, .int 0, .int 0]))])) 0 0 (va_A [(a0_, .inr (4, [.ref a1_, .int (4 * (nI N)), .ref a2_, .int 1, .int 0, .int 0, .int 0, .int 0, .int 0]))] sz) := by
  refine Met.ofW (cc := cX0_emit) (maxL := 2) (ret := none) (by decide) rfl ?_
  intro p e s m args below meth c s₁ B hml hv
  obtain ⟨rfl, hsz, hP, hKK, hD0, hFx⟩ := hv
  have hK := hKK.1
  have hx := B.exec
  have hb := B.bytes
  have hr := B.returns
  have ht : ∀ w ∈ tw_W, w.before _ s = true := fun w h => atoms_spec (ws := Cond.code yX0_emit cX0_emit 2 none :: tw_W) B.pre w (List.mem_cons_of_mem _ h)
  have hown : s.vm.findClass RX0 = some m.cls := findClass_of_methodNamed B.named
  have hlocks := B.notSynchronized
  subst hsz
  unfold qv_
  have hD := hD0.self (sz := s.heap.size)
  generalize hAe : va_A [(a0_, .inr (4, [.ref a1_, .int (4 * (nI N)), .ref a2_, .int 1, .int 0, .int 0, .int 0, .int 0, .int 0]))] s.heap.size = A at hD hFx ⊢
  have hA : ∀ q : Nat, s.heap.size ≤ q → A q := fun q h => by rw [← hAe]; exact Or.inr h
  have hS : va_S A s.heap s.heap [] := va_S.rf
  have hP : va_P (dC, dI) vwCl [(a0_, .inr (4, [.ref a1_, .int (4 * (nI N)), .ref a2_, .int 1, .int 0, .int 0, .int 0, .int 0, .int 0]))] s.heap := hP
  have hl := lv_entry ([.ref a0_, .int 1048691]) (n := 2) (Nat.le_of_ble_eq_true rfl)
  rw [lg_entry_eq]
  generalize (lg_sl ([.ref a0_, .int 1048691]) ++ List.replicate (2 - (lg_sl ([.ref a0_, .int 1048691])).length) Slot.unset).toArray = ls at hl ⊢
  have hl : lv_has ls 2 [(0, .ref a0_), (1, .int 1048691)] := hl
  refine lv_aload_n hx hb dX0_emit_0 rfl (lv_at hl 0 rfl) ?_
  refine va_get (D := (dC, dI)) (ci := 4) (v := .int 0) (C := RX0) (T := TX0) (N := 9) hx hb ht itX0 hown hK hP 0 rfl rfl 4 (by decide) (ht _ tw_190) (fun _ h9 => h9) rfl dX0_emit_1 ?_
  refine lv_if_eq (tgt := 35) hx hb dX0_emit_4 (by decide) (fun _ => ?_) (fun k1 => absurd k1 (by decide))
  refine lv_aload_n hx hb dX0_emit_35 rfl (lv_at hl 0 rfl) ?_
  refine lv_dup hx hb dX0_emit_36 rfl ?_
  refine va_get (D := (dC, dI)) (ci := 4) (v := .int 1) (C := RX0) (T := TX0) (N := 9) hx hb ht itX0 hown hK hP 0 rfl rfl 3 (by decide) (ht _ tw_191) (fun _ h9 => h9) rfl dX0_emit_37 ?_
  refine lv_iconst (v := 1) hx hb dX0_emit_40 (by decide) ?_
  refine lv_iadd hx hb dX0_emit_41 ?_
  refine tp_i (y := 2) (by decide) ?_
  refine va_put (D := (dC, dI)) (ci := 4) (v := .int 2) (ty := .int) (C := RX0) (T := TX0) (N := 9) hx hb ht itX0 tyX0 tyX0_ok nmX0 hown hK hP hD hS 0 rfl rfl 3 (by decide) (ht _ tw_191) (fun _ h9 => h9) rfl (by decide +kernel) rfl rfl (Nat.le_of_ble_eq_true rfl) dX0_emit_42 (fun H locs hP hD hS => ?_)
  have hP : va_P (dC, dI) vwCl [(a0_, .inr (4, [.ref a1_, .int (4 * (nI N)), .ref a2_, .int 2, .int 0, .int 0, .int 0, .int 0, .int 0]))] H := hP
  have hD : va_D A [(a0_, .inr (4, [.ref a1_, .int (4 * (nI N)), .ref a2_, .int 2, .int 0, .int 0, .int 0, .int 0, .int 0]))] := hD
  have hP9 := hP.sub (ws' := [(a0_, .inr (4, [.ref a1_, .int (4 * (nI N)), .ref a2_, .int 2, .int 0, .int 0, .int 0, .int 0, .int 0]))]) [0] rfl
  have hD9 := hD.sub (ws' := [(a0_, .inr (4, [.ref a1_, .int (4 * (nI N)), .ref a2_, .int 2, .int 0, .int 0, .int 0, .int 0, .int 0]))]) [0] (by decide) rfl
  refine W.widen (k := 0) (n := 0) (by omega) (by omega) ?_
  exact W.vret hx hb hr (fun t ht9 hW => ⟨⟨(), rfl, trivial, by rw [ht9]; exact hP9, hD9⟩, hS.F ht9⟩) hS.2.2 dX0_emit_45
set_option maxHeartbeats 4000000 in
set_option maxRecDepth 100000 in
theorem c_X0_placeGlobals (l : Launch) (dC : Nat → ClassId) (dI : Nat → Nat → Nat) (cI cB cZ cJ cR : ClassId) (tb : Nat → Nat) (sz : Nat) (a0_ : Nat) (a1_ : Nat) (N : Nat) (a2_ : Nat) (a3_ : Nat) (a4_ : Nat) (a5_ : Nat) (a6_ : Nat) (a7_ : Nat) (a8_ : Nat) (a9_ : Nat) (hf_N_0 : 256 ≤ N) (hf_N_1 : N ≤ 4096) : Met l yX0_placeGlobals (Cond.code yX0_placeGlobals cX0_placeGlobals 3 none :: tw_W) ({ frames := 0, cells := 0, slots := 0, locals := 0 }) (pc_ (dC, dI) (tyS cI cB cZ cJ cR) tb [(a0_, .inr (4, [.ref a1_, .int (4 * (nI N)), .ref a2_, .int 2, .int 0, .int 0, .int 0, .int 8, .int 8])), (a1_, .inr (10, [.ref a3_, .int 0, .ref a4_, .int 0, .ref a5_, .int 0, .ref a6_, .ref a7_, .ref a8_, .int 0, .ref a9_, .int 2, .int 0]))] sz [.ref a0_]) (qv_ (dC, dI) [(a0_, .inr (4, [.ref a1_, .int (4 * (nI N)), .ref a2_, .int 2, .int 0, .int 0, .int 0, .int 8, .int 8])), (a1_, .inr (10, [.ref a3_, .int 0, .ref a4_, .int 0, .ref a5_, .int 0, .ref a6_, .ref a7_, .ref a8_, .int 0, .ref a9_, .int 2, .int 0]))] sz (fun (u : Unit) => True) (fun (u : Unit) => [(a0_, .inr (4, [.ref a1_, .int (4 * (nI N)), .ref a2_, .int 2, .int 0, .int 0, .int 0, .int 8, .int 8])), (a1_, .inr (10, [.ref a3_, .int 0, .ref a4_, .int 0, .ref a5_, .int 0, .ref a6_, .ref a7_, .ref a8_, .int 0, .ref a9_, .int 2, .int 8]))])) 0 0 (va_A [(a0_, .inr (4, [.ref a1_, .int (4 * (nI N)), .ref a2_, .int 2, .int 0, .int 0, .int 0, .int 8, .int 8])), (a1_, .inr (10, [.ref a3_, .int 0, .ref a4_, .int 0, .ref a5_, .int 0, .ref a6_, .ref a7_, .ref a8_, .int 0, .ref a9_, .int 2, .int 0]))] sz) := by
  refine Met.ofW (cc := cX0_placeGlobals) (maxL := 3) (ret := none) (by decide) rfl ?_
  intro p e s m args below meth c s₁ B hml hv
  obtain ⟨rfl, hsz, hP, hKK, hD0, hFx⟩ := hv
  have hK := hKK.1
  have hx := B.exec
  have hb := B.bytes
  have hr := B.returns
  have ht : ∀ w ∈ tw_W, w.before _ s = true := fun w h => atoms_spec (ws := Cond.code yX0_placeGlobals cX0_placeGlobals 3 none :: tw_W) B.pre w (List.mem_cons_of_mem _ h)
  have hown : s.vm.findClass RX0 = some m.cls := findClass_of_methodNamed B.named
  have hlocks := B.notSynchronized
  subst hsz
  unfold qv_
  have hD := hD0.self (sz := s.heap.size)
  generalize hAe : va_A [(a0_, .inr (4, [.ref a1_, .int (4 * (nI N)), .ref a2_, .int 2, .int 0, .int 0, .int 0, .int 8, .int 8])), (a1_, .inr (10, [.ref a3_, .int 0, .ref a4_, .int 0, .ref a5_, .int 0, .ref a6_, .ref a7_, .ref a8_, .int 0, .ref a9_, .int 2, .int 0]))] s.heap.size = A at hD hFx ⊢
  have hA : ∀ q : Nat, s.heap.size ≤ q → A q := fun q h => by rw [← hAe]; exact Or.inr h
  have hS : va_S A s.heap s.heap [] := va_S.rf
  have hP : va_P (dC, dI) vwCl [(a0_, .inr (4, [.ref a1_, .int (4 * (nI N)), .ref a2_, .int 2, .int 0, .int 0, .int 0, .int 8, .int 8])), (a1_, .inr (10, [.ref a3_, .int 0, .ref a4_, .int 0, .ref a5_, .int 0, .ref a6_, .ref a7_, .ref a8_, .int 0, .ref a9_, .int 2, .int 0]))] s.heap := hP
  have hl := lv_entry ([.ref a0_]) (n := 3) (Nat.le_of_ble_eq_true rfl)
  rw [lg_entry_eq]
  generalize (lg_sl ([.ref a0_]) ++ List.replicate (3 - (lg_sl ([.ref a0_])).length) Slot.unset).toArray = ls at hl ⊢
  have hl : lv_has ls 3 [(0, .ref a0_)] := hl
  refine lv_iconst (v := 4) hx hb dX0_placeGlobals_0 (by decide) ?_
  refine lv_aload_n hx hb dX0_placeGlobals_1 rfl (lv_at hl 0 rfl) ?_
  refine va_get (D := (dC, dI)) (ci := 4) (v := .int 2) (C := RX0) (T := TX0) (N := 9) hx hb ht itX0 hown hK hP 0 rfl rfl 3 (by decide) (ht _ tw_191) (fun _ h9 => h9) rfl dX0_placeGlobals_2 ?_
  refine lv_imul hx hb dX0_placeGlobals_5 ?_
  refine tp_i (y := 8) (by decide) ?_
  refine lv_istore_n (lv' := [(1, .int 8), (0, .ref a0_)]) hx hb dX0_placeGlobals_6 rfl hl (by decide) rfl (fun ls hl => ?_)
  refine lv_iconst (v := 0) hx hb dX0_placeGlobals_7 (by decide) ?_
  refine lv_istore_n (lv' := [(2, .int 0), (1, .int 8), (0, .ref a0_)]) hx hb dX0_placeGlobals_8 rfl hl (by decide) rfl (fun ls hl => ?_)
  refine lv_iload_n hx hb dX0_placeGlobals_9 rfl (lv_at hl 0 rfl) ?_
  refine lv_aload_n hx hb dX0_placeGlobals_10 rfl (lv_at hl 2 rfl) ?_
  refine va_get (D := (dC, dI)) (ci := 4) (v := .ref a1_) (C := RX0) (T := TX0) (N := 9) hx hb ht itX0 hown hK hP 0 rfl rfl 0 (by decide) (ht _ tw_75) (fun _ h9 => h9) rfl dX0_placeGlobals_11 ?_
  refine va_get (D := (dC, dI)) (ci := 10) (v := .int 0) (C := RX7) (T := TX7) (N := 13) hx hb ht itX7 hown hK hP 1 rfl rfl 5 (by decide) (ht _ tw_203) (fun _ h9 => h9) rfl dX0_placeGlobals_14 ?_
  refine lv_icmp_ge (tgt := 50) hx hb dX0_placeGlobals_17 (by decide) (fun _ => ?_) (fun k1 => absurd k1 (by decide))
  refine lv_aload_n hx hb dX0_placeGlobals_50 rfl (lv_at hl 2 rfl) ?_
  refine va_get (D := (dC, dI)) (ci := 4) (v := .ref a1_) (C := RX0) (T := TX0) (N := 9) hx hb ht itX0 hown hK hP 0 rfl rfl 0 (by decide) (ht _ tw_75) (fun _ h9 => h9) rfl dX0_placeGlobals_51 ?_
  refine lv_iload_n hx hb dX0_placeGlobals_54 rfl (lv_at hl 1 rfl) ?_
  refine va_put (D := (dC, dI)) (ci := 10) (v := .int 8) (ty := .int) (C := RX7) (T := TX7) (N := 13) hx hb ht itX7 tyX7 tyX7_ok nmX7 hown hK hP hD hS 1 rfl rfl 12 (by decide) (ht _ tw_204) (fun _ h9 => h9) rfl (by decide +kernel) rfl rfl (Nat.le_of_ble_eq_true rfl) dX0_placeGlobals_55 (fun H locs hP hD hS => ?_)
  have hP : va_P (dC, dI) vwCl [(a0_, .inr (4, [.ref a1_, .int (4 * (nI N)), .ref a2_, .int 2, .int 0, .int 0, .int 0, .int 8, .int 8])), (a1_, .inr (10, [.ref a3_, .int 0, .ref a4_, .int 0, .ref a5_, .int 0, .ref a6_, .ref a7_, .ref a8_, .int 0, .ref a9_, .int 2, .int 8]))] H := hP
  have hD : va_D A [(a0_, .inr (4, [.ref a1_, .int (4 * (nI N)), .ref a2_, .int 2, .int 0, .int 0, .int 0, .int 8, .int 8])), (a1_, .inr (10, [.ref a3_, .int 0, .ref a4_, .int 0, .ref a5_, .int 0, .ref a6_, .ref a7_, .ref a8_, .int 0, .ref a9_, .int 2, .int 8]))] := hD
  have hP9 := hP.sub (ws' := [(a0_, .inr (4, [.ref a1_, .int (4 * (nI N)), .ref a2_, .int 2, .int 0, .int 0, .int 0, .int 8, .int 8])), (a1_, .inr (10, [.ref a3_, .int 0, .ref a4_, .int 0, .ref a5_, .int 0, .ref a6_, .ref a7_, .ref a8_, .int 0, .ref a9_, .int 2, .int 8]))]) [0, 1] rfl
  have hD9 := hD.sub (ws' := [(a0_, .inr (4, [.ref a1_, .int (4 * (nI N)), .ref a2_, .int 2, .int 0, .int 0, .int 0, .int 8, .int 8])), (a1_, .inr (10, [.ref a3_, .int 0, .ref a4_, .int 0, .ref a5_, .int 0, .ref a6_, .ref a7_, .ref a8_, .int 0, .ref a9_, .int 2, .int 8]))]) [0, 1] (by decide) rfl
  refine W.widen (k := 0) (n := 0) (by omega) (by omega) ?_
  exact W.vret hx hb hr (fun t ht9 hW => ⟨⟨(), rfl, trivial, by rw [ht9]; exact hP9, hD9⟩, hS.F ht9⟩) hS.2.2 dX0_placeGlobals_58
set_option maxHeartbeats 4000000 in
set_option maxRecDepth 100000 in
theorem c_X0_layAll (l : Launch) (dC : Nat → ClassId) (dI : Nat → Nat → Nat) (cI cB cZ cJ cR : ClassId) (tb : Nat → Nat) (sz : Nat) (a0_ : Nat) (a1_ : Nat) (N : Nat) (a2_ : Nat) (a3_ : Nat) (a4_ : Nat) (a5_ : Nat) (a6_ : Nat) (a7_ : Nat) (a8_ : Nat) (a9_ : Nat) (hf_N_0 : 256 ≤ N) (hf_N_1 : N ≤ 4096) : Met l yX0_layAll (Cond.code yX0_layAll cX0_layAll 2 none :: tw_W) ({ frames := 2, cells := 0, slots := 0, locals := 45 }) (pc_ (dC, dI) (tyS cI cB cZ cJ cR) tb [(a0_, .inr (4, [.ref a1_, .int (4 * (nI N)), .ref a2_, .int 0, .int 0, .int 0, .int 0, .int 0, .int 0])), (a1_, .inr (10, [.ref a3_, .int 0, .ref a4_, .int 0, .ref a5_, .int 0, .ref a6_, .ref a7_, .ref a8_, .int 0, .ref a9_, .int 0, .int 0]))] sz [.ref a0_]) (qv_ (dC, dI) [(a0_, .inr (4, [.ref a1_, .int (4 * (nI N)), .ref a2_, .int 0, .int 0, .int 0, .int 0, .int 0, .int 0])), (a1_, .inr (10, [.ref a3_, .int 0, .ref a4_, .int 0, .ref a5_, .int 0, .ref a6_, .ref a7_, .ref a8_, .int 0, .ref a9_, .int 0, .int 0]))] sz (fun (u : Unit) => True) (fun (u : Unit) => [(a0_, .inr (4, [.ref a1_, .int (4 * (nI N)), .ref a2_, .int 2, .int 0, .int 0, .int 0, .int 8, .int 8])), (a1_, .inr (10, [.ref a3_, .int 0, .ref a4_, .int 0, .ref a5_, .int 0, .ref a6_, .ref a7_, .ref a8_, .int 0, .ref a9_, .int 2, .int 8]))])) 0 0 (va_A [(a0_, .inr (4, [.ref a1_, .int (4 * (nI N)), .ref a2_, .int 0, .int 0, .int 0, .int 0, .int 0, .int 0])), (a1_, .inr (10, [.ref a3_, .int 0, .ref a4_, .int 0, .ref a5_, .int 0, .ref a6_, .ref a7_, .ref a8_, .int 0, .ref a9_, .int 0, .int 0]))] sz) := by
  refine Met.ofW (cc := cX0_layAll) (maxL := 2) (ret := none) (by decide) rfl ?_
  intro p e s m args below meth c s₁ B hml hv
  obtain ⟨rfl, hsz, hP, hKK, hD0, hFx⟩ := hv
  have hK := hKK.1
  have hx := B.exec
  have hb := B.bytes
  have hr := B.returns
  have ht : ∀ w ∈ tw_W, w.before _ s = true := fun w h => atoms_spec (ws := Cond.code yX0_layAll cX0_layAll 2 none :: tw_W) B.pre w (List.mem_cons_of_mem _ h)
  have hown : s.vm.findClass RX0 = some m.cls := findClass_of_methodNamed B.named
  have hlocks := B.notSynchronized
  subst hsz
  unfold qv_
  have hD := hD0.self (sz := s.heap.size)
  generalize hAe : va_A [(a0_, .inr (4, [.ref a1_, .int (4 * (nI N)), .ref a2_, .int 0, .int 0, .int 0, .int 0, .int 0, .int 0])), (a1_, .inr (10, [.ref a3_, .int 0, .ref a4_, .int 0, .ref a5_, .int 0, .ref a6_, .ref a7_, .ref a8_, .int 0, .ref a9_, .int 0, .int 0]))] s.heap.size = A at hD hFx ⊢
  have hA : ∀ q : Nat, s.heap.size ≤ q → A q := fun q h => by rw [← hAe]; exact Or.inr h
  have hS : va_S A s.heap s.heap [] := va_S.rf
  have hP : va_P (dC, dI) vwCl [(a0_, .inr (4, [.ref a1_, .int (4 * (nI N)), .ref a2_, .int 0, .int 0, .int 0, .int 0, .int 0, .int 0])), (a1_, .inr (10, [.ref a3_, .int 0, .ref a4_, .int 0, .ref a5_, .int 0, .ref a6_, .ref a7_, .ref a8_, .int 0, .ref a9_, .int 0, .int 0]))] s.heap := hP
  have hl := lv_entry ([.ref a0_]) (n := 2) (Nat.le_of_ble_eq_true rfl)
  rw [lg_entry_eq]
  generalize (lg_sl ([.ref a0_]) ++ List.replicate (2 - (lg_sl ([.ref a0_])).length) Slot.unset).toArray = ls at hl ⊢
  have hl : lv_has ls 2 [(0, .ref a0_)] := hl
  refine lv_aload_n hx hb dX0_layAll_0 rfl (lv_at hl 0 rfl) ?_
  refine lv_iconst (v := 0) hx hb dX0_layAll_1 (by decide) ?_
  refine va_put (D := (dC, dI)) (ci := 4) (v := .int 0) (ty := .int) (C := RX0) (T := TX0) (N := 9) hx hb ht itX0 tyX0 tyX0_ok nmX0 hown hK hP hD hS 0 rfl rfl 3 (by decide) (ht _ tw_191) (fun _ h9 => h9) rfl (by decide +kernel) rfl rfl (Nat.le_of_ble_eq_true rfl) dX0_layAll_2 (fun H locs hP hD hS => ?_)
  have hP : va_P (dC, dI) vwCl [(a0_, .inr (4, [.ref a1_, .int (4 * (nI N)), .ref a2_, .int 0, .int 0, .int 0, .int 0, .int 0, .int 0])), (a1_, .inr (10, [.ref a3_, .int 0, .ref a4_, .int 0, .ref a5_, .int 0, .ref a6_, .ref a7_, .ref a8_, .int 0, .ref a9_, .int 0, .int 0]))] H := hP
  have hD : va_D A [(a0_, .inr (4, [.ref a1_, .int (4 * (nI N)), .ref a2_, .int 0, .int 0, .int 0, .int 0, .int 0, .int 0])), (a1_, .inr (10, [.ref a3_, .int 0, .ref a4_, .int 0, .ref a5_, .int 0, .ref a6_, .ref a7_, .ref a8_, .int 0, .ref a9_, .int 0, .int 0]))] := hD
  refine lv_aload_n hx hb dX0_layAll_5 rfl (lv_at hl 0 rfl) ?_
  refine lv_iconst (v := 0) hx hb dX0_layAll_6 (by decide) ?_
  refine va_put (D := (dC, dI)) (ci := 4) (v := .int 0) (ty := .boolean) (C := RX0) (T := TX0) (N := 9) hx hb ht itX0 tyX0 tyX0_ok nmX0 hown hK hP hD hS 0 rfl rfl 5 (by decide) (ht _ tw_192) (fun _ h9 => h9) rfl (by decide +kernel) rfl rfl (Nat.le_of_ble_eq_true rfl) dX0_layAll_7 (fun H locs hP hD hS => ?_)
  have hP : va_P (dC, dI) vwCl [(a0_, .inr (4, [.ref a1_, .int (4 * (nI N)), .ref a2_, .int 0, .int 0, .int 0, .int 0, .int 0, .int 0])), (a1_, .inr (10, [.ref a3_, .int 0, .ref a4_, .int 0, .ref a5_, .int 0, .ref a6_, .ref a7_, .ref a8_, .int 0, .ref a9_, .int 0, .int 0]))] H := hP
  have hD : va_D A [(a0_, .inr (4, [.ref a1_, .int (4 * (nI N)), .ref a2_, .int 0, .int 0, .int 0, .int 0, .int 0, .int 0])), (a1_, .inr (10, [.ref a3_, .int 0, .ref a4_, .int 0, .ref a5_, .int 0, .ref a6_, .ref a7_, .ref a8_, .int 0, .ref a9_, .int 0, .int 0]))] := hD
  refine lv_aload_n hx hb dX0_layAll_10 rfl (lv_at hl 0 rfl) ?_
  refine lv_iconst (v := 0) hx hb dX0_layAll_11 (by decide) ?_
  refine va_put (D := (dC, dI)) (ci := 4) (v := .int 0) (ty := .boolean) (C := RX0) (T := TX0) (N := 9) hx hb ht itX0 tyX0 tyX0_ok nmX0 hown hK hP hD hS 0 rfl rfl 6 (by decide) (ht _ tw_193) (fun _ h9 => h9) rfl (by decide +kernel) rfl rfl (Nat.le_of_ble_eq_true rfl) dX0_layAll_12 (fun H locs hP hD hS => ?_)
  have hP : va_P (dC, dI) vwCl [(a0_, .inr (4, [.ref a1_, .int (4 * (nI N)), .ref a2_, .int 0, .int 0, .int 0, .int 0, .int 0, .int 0])), (a1_, .inr (10, [.ref a3_, .int 0, .ref a4_, .int 0, .ref a5_, .int 0, .ref a6_, .ref a7_, .ref a8_, .int 0, .ref a9_, .int 0, .int 0]))] H := hP
  have hD : va_D A [(a0_, .inr (4, [.ref a1_, .int (4 * (nI N)), .ref a2_, .int 0, .int 0, .int 0, .int 0, .int 0, .int 0])), (a1_, .inr (10, [.ref a3_, .int 0, .ref a4_, .int 0, .ref a5_, .int 0, .ref a6_, .ref a7_, .ref a8_, .int 0, .ref a9_, .int 0, .int 0]))] := hD
  refine lv_aload_n hx hb dX0_layAll_15 rfl (lv_at hl 0 rfl) ?_
  refine lv_bipush (v := 19) hx hb dX0_layAll_16 (by decide) ?_
  refine lv_bipush (v := 17) hx hb dX0_layAll_18 (by decide) ?_
  refine lv_iconst (v := 0) hx hb dX0_layAll_20 (by decide) ?_
  refine lv_iconst (v := 0) hx hb dX0_layAll_21 (by decide) ?_
  refine ca_v (wr := [(a1_, .inr (10, [.ref a3_, .int 0, .ref a4_, .int 0, .ref a5_, .int 0, .ref a6_, .ref a7_, .ref a8_, .int 0, .ref a9_, .int 0, .int 0]))]) (rn_V (n := 4) (As := [.int 19, .int 17, .int 0, .int 0]) (rest := []) hx hb hml hown ht hKK hFx hP hD hS hA (c_X0_immediate l dC dI cI cB cZ cJ cR tb H.size a0_ a1_ N a2_ (by omega) (by omega)) tw_196 tw_197 (by decide +kernel) rfl rfl ⟨Nat.le_of_ble_eq_true rfl, Nat.le_of_ble_eq_true rfl⟩ [0] rfl (by decide) rfl rfl rfl rfl hl.1 rfl (Nat.le_of_ble_eq_true rfl) dX0_layAll_22 ⟨Nat.le_of_ble_eq_true rfl, Nat.le_of_ble_eq_true rfl⟩) hP hD hS hA (isC := [0]) (isR := [1]) rfl rfl (by decide) (by decide) (fun u H locs hw1 hP hD hS => ?_)
  have hP : va_P (dC, dI) vwCl [(a1_, .inr (10, [.ref a3_, .int 0, .ref a4_, .int 0, .ref a5_, .int 0, .ref a6_, .ref a7_, .ref a8_, .int 0, .ref a9_, .int 0, .int 0])), (a0_, .inr (4, [.ref a1_, .int (4 * (nI N)), .ref a2_, .int 1, .int 0, .int 0, .int 0, .int 0, .int 0]))] H := hP
  have hD : va_D A [(a1_, .inr (10, [.ref a3_, .int 0, .ref a4_, .int 0, .ref a5_, .int 0, .ref a6_, .ref a7_, .ref a8_, .int 0, .ref a9_, .int 0, .int 0])), (a0_, .inr (4, [.ref a1_, .int (4 * (nI N)), .ref a2_, .int 1, .int 0, .int 0, .int 0, .int 0, .int 0]))] := hD
  refine W.widen (k := 0) (n := 0) (by omega) (by omega) ?_
  refine lv_aload_n hx hb dX0_layAll_25 rfl (lv_at hl 0 rfl) ?_
  refine lv_ldc (v := 1048691) hx hb hown (ht _ tw_198) dX0_layAll_26 ?_
  refine ca_v (wr := [(a1_, .inr (10, [.ref a3_, .int 0, .ref a4_, .int 0, .ref a5_, .int 0, .ref a6_, .ref a7_, .ref a8_, .int 0, .ref a9_, .int 0, .int 0]))]) (rn_V (n := 1) (As := [.int 1048691]) (rest := []) hx hb hml hown ht hKK hFx hP hD hS hA (c_X0_emit_2 l dC dI cI cB cZ cJ cR tb H.size a0_ a1_ N a2_ (by omega) (by omega)) tw_194 tw_195 (by decide +kernel) rfl rfl ⟨Nat.le_of_ble_eq_true rfl, Nat.le_of_ble_eq_true rfl⟩ [1] rfl (by decide) rfl rfl rfl rfl hl.1 rfl (Nat.le_of_ble_eq_true rfl) dX0_layAll_28 ⟨Nat.le_of_ble_eq_true rfl, Nat.le_of_ble_eq_true rfl⟩) hP hD hS hA (isC := [1]) (isR := [0]) rfl rfl (by decide) (by decide) (fun u H locs hw2 hP hD hS => ?_)
  have hP : va_P (dC, dI) vwCl [(a1_, .inr (10, [.ref a3_, .int 0, .ref a4_, .int 0, .ref a5_, .int 0, .ref a6_, .ref a7_, .ref a8_, .int 0, .ref a9_, .int 0, .int 0])), (a0_, .inr (4, [.ref a1_, .int (4 * (nI N)), .ref a2_, .int 2, .int 0, .int 0, .int 0, .int 0, .int 0]))] H := hP
  have hD : va_D A [(a1_, .inr (10, [.ref a3_, .int 0, .ref a4_, .int 0, .ref a5_, .int 0, .ref a6_, .ref a7_, .ref a8_, .int 0, .ref a9_, .int 0, .int 0])), (a0_, .inr (4, [.ref a1_, .int (4 * (nI N)), .ref a2_, .int 2, .int 0, .int 0, .int 0, .int 0, .int 0]))] := hD
  refine W.widen (k := 0) (n := 0) (by omega) (by omega) ?_
  refine lv_iconst (v := 0) hx hb dX0_layAll_31 (by decide) ?_
  refine lv_istore_n (lv' := [(1, .int 0), (0, .ref a0_)]) hx hb dX0_layAll_32 rfl hl (by decide) rfl (fun ls hl => ?_)
  refine lv_iload_n hx hb dX0_layAll_33 rfl (lv_at hl 0 rfl) ?_
  refine lv_aload_n hx hb dX0_layAll_34 rfl (lv_at hl 1 rfl) ?_
  refine va_get (D := (dC, dI)) (ci := 4) (v := .ref a1_) (C := RX0) (T := TX0) (N := 9) hx hb ht itX0 hown hK hP 1 rfl rfl 0 (by decide) (ht _ tw_75) (fun _ h9 => h9) rfl dX0_layAll_35 ?_
  refine va_get (D := (dC, dI)) (ci := 10) (v := .int 0) (C := RX7) (T := TX7) (N := 13) hx hb ht itX7 hown hK hP 0 rfl rfl 9 (by decide) (ht _ tw_199) (fun _ h9 => h9) rfl dX0_layAll_38 ?_
  refine lv_icmp_ge (tgt := 100) hx hb dX0_layAll_41 (by decide) (fun _ => ?_) (fun k3 => absurd k3 (by decide))
  refine lv_aload_n hx hb dX0_layAll_100 rfl (lv_at hl 1 rfl) ?_
  refine lv_iconst (v := 4) hx hb dX0_layAll_101 (by decide) ?_
  refine lv_aload_n hx hb dX0_layAll_102 rfl (lv_at hl 1 rfl) ?_
  refine va_get (D := (dC, dI)) (ci := 4) (v := .int 2) (C := RX0) (T := TX0) (N := 9) hx hb ht itX0 hown hK hP 1 rfl rfl 3 (by decide) (ht _ tw_191) (fun _ h9 => h9) rfl dX0_layAll_103 ?_
  refine lv_imul hx hb dX0_layAll_106 ?_
  refine tp_i (y := 8) (by decide) ?_
  refine va_put (D := (dC, dI)) (ci := 4) (v := .int 8) (ty := .int) (C := RX0) (T := TX0) (N := 9) hx hb ht itX0 tyX0 tyX0_ok nmX0 hown hK hP hD hS 1 rfl rfl 7 (by decide) (ht _ tw_200) (fun _ h9 => h9) rfl (by decide +kernel) rfl rfl (Nat.le_of_ble_eq_true rfl) dX0_layAll_107 (fun H locs hP hD hS => ?_)
  have hP : va_P (dC, dI) vwCl [(a1_, .inr (10, [.ref a3_, .int 0, .ref a4_, .int 0, .ref a5_, .int 0, .ref a6_, .ref a7_, .ref a8_, .int 0, .ref a9_, .int 0, .int 0])), (a0_, .inr (4, [.ref a1_, .int (4 * (nI N)), .ref a2_, .int 2, .int 0, .int 0, .int 0, .int 8, .int 0]))] H := hP
  have hD : va_D A [(a1_, .inr (10, [.ref a3_, .int 0, .ref a4_, .int 0, .ref a5_, .int 0, .ref a6_, .ref a7_, .ref a8_, .int 0, .ref a9_, .int 0, .int 0])), (a0_, .inr (4, [.ref a1_, .int (4 * (nI N)), .ref a2_, .int 2, .int 0, .int 0, .int 0, .int 8, .int 0]))] := hD
  refine lv_aload_n hx hb dX0_layAll_110 rfl (lv_at hl 1 rfl) ?_
  refine va_get (D := (dC, dI)) (ci := 4) (v := .int 0) (C := RX0) (T := TX0) (N := 9) hx hb ht itX0 hown hK hP 1 rfl rfl 5 (by decide) (ht _ tw_192) (fun _ h9 => h9) rfl dX0_layAll_111 ?_
  refine lv_if_eq (tgt := 121) hx hb dX0_layAll_114 (by decide) (fun _ => ?_) (fun k4 => absurd k4 (by decide))
  refine lv_aload_n hx hb dX0_layAll_121 rfl (lv_at hl 1 rfl) ?_
  refine lv_iconst (v := 4) hx hb dX0_layAll_122 (by decide) ?_
  refine lv_aload_n hx hb dX0_layAll_123 rfl (lv_at hl 1 rfl) ?_
  refine va_get (D := (dC, dI)) (ci := 4) (v := .int 2) (C := RX0) (T := TX0) (N := 9) hx hb ht itX0 hown hK hP 1 rfl rfl 3 (by decide) (ht _ tw_191) (fun _ h9 => h9) rfl dX0_layAll_124 ?_
  refine lv_imul hx hb dX0_layAll_127 ?_
  refine tp_i (y := 8) (by decide) ?_
  refine va_put (D := (dC, dI)) (ci := 4) (v := .int 8) (ty := .int) (C := RX0) (T := TX0) (N := 9) hx hb ht itX0 tyX0 tyX0_ok nmX0 hown hK hP hD hS 1 rfl rfl 8 (by decide) (ht _ tw_201) (fun _ h9 => h9) rfl (by decide +kernel) rfl rfl (Nat.le_of_ble_eq_true rfl) dX0_layAll_128 (fun H locs hP hD hS => ?_)
  have hP : va_P (dC, dI) vwCl [(a1_, .inr (10, [.ref a3_, .int 0, .ref a4_, .int 0, .ref a5_, .int 0, .ref a6_, .ref a7_, .ref a8_, .int 0, .ref a9_, .int 0, .int 0])), (a0_, .inr (4, [.ref a1_, .int (4 * (nI N)), .ref a2_, .int 2, .int 0, .int 0, .int 0, .int 8, .int 8]))] H := hP
  have hD : va_D A [(a1_, .inr (10, [.ref a3_, .int 0, .ref a4_, .int 0, .ref a5_, .int 0, .ref a6_, .ref a7_, .ref a8_, .int 0, .ref a9_, .int 0, .int 0])), (a0_, .inr (4, [.ref a1_, .int (4 * (nI N)), .ref a2_, .int 2, .int 0, .int 0, .int 0, .int 8, .int 8]))] := hD
  refine lv_aload_n hx hb dX0_layAll_131 rfl (lv_at hl 1 rfl) ?_
  refine va_get (D := (dC, dI)) (ci := 4) (v := .int 0) (C := RX0) (T := TX0) (N := 9) hx hb ht itX0 hown hK hP 1 rfl rfl 6 (by decide) (ht _ tw_193) (fun _ h9 => h9) rfl dX0_layAll_132 ?_
  refine lv_if_eq (tgt := 142) hx hb dX0_layAll_135 (by decide) (fun _ => ?_) (fun k5 => absurd k5 (by decide))
  refine lv_aload_n hx hb dX0_layAll_142 rfl (lv_at hl 1 rfl) ?_
  refine va_get (D := (dC, dI)) (ci := 4) (v := .ref a1_) (C := RX0) (T := TX0) (N := 9) hx hb ht itX0 hown hK hP 1 rfl rfl 0 (by decide) (ht _ tw_75) (fun _ h9 => h9) rfl dX0_layAll_143 ?_
  refine lv_aload_n hx hb dX0_layAll_146 rfl (lv_at hl 1 rfl) ?_
  refine va_get (D := (dC, dI)) (ci := 4) (v := .int 2) (C := RX0) (T := TX0) (N := 9) hx hb ht itX0 hown hK hP 1 rfl rfl 3 (by decide) (ht _ tw_191) (fun _ h9 => h9) rfl dX0_layAll_147 ?_
  refine va_put (D := (dC, dI)) (ci := 10) (v := .int 2) (ty := .int) (C := RX7) (T := TX7) (N := 13) hx hb ht itX7 tyX7 tyX7_ok nmX7 hown hK hP hD hS 0 rfl rfl 11 (by decide) (ht _ tw_202) (fun _ h9 => h9) rfl (by decide +kernel) rfl rfl (Nat.le_of_ble_eq_true rfl) dX0_layAll_150 (fun H locs hP hD hS => ?_)
  have hP : va_P (dC, dI) vwCl [(a1_, .inr (10, [.ref a3_, .int 0, .ref a4_, .int 0, .ref a5_, .int 0, .ref a6_, .ref a7_, .ref a8_, .int 0, .ref a9_, .int 2, .int 0])), (a0_, .inr (4, [.ref a1_, .int (4 * (nI N)), .ref a2_, .int 2, .int 0, .int 0, .int 0, .int 8, .int 8]))] H := hP
  have hD : va_D A [(a1_, .inr (10, [.ref a3_, .int 0, .ref a4_, .int 0, .ref a5_, .int 0, .ref a6_, .ref a7_, .ref a8_, .int 0, .ref a9_, .int 2, .int 0])), (a0_, .inr (4, [.ref a1_, .int (4 * (nI N)), .ref a2_, .int 2, .int 0, .int 0, .int 0, .int 8, .int 8]))] := hD
  refine lv_aload_n hx hb dX0_layAll_153 rfl (lv_at hl 1 rfl) ?_
  refine ca_v (wr := []) (rn_V (n := 0) (As := []) (rest := []) hx hb hml hown ht hKK hFx hP hD hS hA (c_X0_placeGlobals l dC dI cI cB cZ cJ cR tb H.size a0_ a1_ N a2_ a3_ a4_ a5_ a6_ a7_ a8_ a9_ (by omega) (by omega)) tw_205 tw_206 (by decide +kernel) rfl rfl ⟨Nat.le_of_ble_eq_true rfl, Nat.le_of_ble_eq_true rfl⟩ [1, 0] rfl (by decide) rfl rfl rfl rfl hl.1 rfl (Nat.le_of_ble_eq_true rfl) dX0_layAll_154 ⟨Nat.le_of_ble_eq_true rfl, Nat.le_of_ble_eq_true rfl⟩) hP hD hS hA (isC := [1, 0]) (isR := []) rfl rfl (by decide) (by decide) (fun u H locs hw6 hP hD hS => ?_)
  have hP : va_P (dC, dI) vwCl [(a0_, .inr (4, [.ref a1_, .int (4 * (nI N)), .ref a2_, .int 2, .int 0, .int 0, .int 0, .int 8, .int 8])), (a1_, .inr (10, [.ref a3_, .int 0, .ref a4_, .int 0, .ref a5_, .int 0, .ref a6_, .ref a7_, .ref a8_, .int 0, .ref a9_, .int 2, .int 8]))] H := hP
  have hD : va_D A [(a0_, .inr (4, [.ref a1_, .int (4 * (nI N)), .ref a2_, .int 2, .int 0, .int 0, .int 0, .int 8, .int 8])), (a1_, .inr (10, [.ref a3_, .int 0, .ref a4_, .int 0, .ref a5_, .int 0, .ref a6_, .ref a7_, .ref a8_, .int 0, .ref a9_, .int 2, .int 8]))] := hD
  refine W.widen (k := 0) (n := 0) (by omega) (by omega) ?_
  have hP9 := hP.sub (ws' := [(a0_, .inr (4, [.ref a1_, .int (4 * (nI N)), .ref a2_, .int 2, .int 0, .int 0, .int 0, .int 8, .int 8])), (a1_, .inr (10, [.ref a3_, .int 0, .ref a4_, .int 0, .ref a5_, .int 0, .ref a6_, .ref a7_, .ref a8_, .int 0, .ref a9_, .int 2, .int 8]))]) [0, 1] rfl
  have hD9 := hD.sub (ws' := [(a0_, .inr (4, [.ref a1_, .int (4 * (nI N)), .ref a2_, .int 2, .int 0, .int 0, .int 0, .int 8, .int 8])), (a1_, .inr (10, [.ref a3_, .int 0, .ref a4_, .int 0, .ref a5_, .int 0, .ref a6_, .ref a7_, .ref a8_, .int 0, .ref a9_, .int 2, .int 8]))]) [0, 1] (by decide) rfl
  refine W.widen (k := 0) (n := 0) (by omega) (by omega) ?_
  exact W.vret hx hb hr (fun t ht9 hW => ⟨⟨(), rfl, trivial, by rw [ht9]; exact hP9, hD9⟩, hS.F ht9⟩) hS.2.2 dX0_layAll_157
set_option maxHeartbeats 4000000 in
set_option maxRecDepth 100000 in
theorem c_X0_emit_3 (l : Launch) (dC : Nat → ClassId) (dI : Nat → Nat → Nat) (cI cB cZ cJ cR : ClassId) (tb : Nat → Nat) (sz : Nat) (a0_ : Nat) (a1_ : Nat) (N : Nat) (a2_ : Nat) (a3_ : Nat) (a4_ : Nat) (a5_ : Nat) (a6_ : Nat) (a7_ : Nat) (a8_ : Nat) (a9_ : Nat) (hf_N_0 : 256 ≤ N) (hf_N_1 : N ≤ 4096) : Met l yX0_emit (Cond.code yX0_emit cX0_emit 2 none :: tw_W) ({ frames := 0, cells := 0, slots := 0, locals := 0 }) (pc_ (dC, dI) (tyS cI cB cZ cJ cR) tb [(a0_, .inr (4, [.ref a1_, .int (4 * (nI N)), .ref a2_, .int 0, .int 1, .int 0, .int 0, .int 8, .int 8])), (a3_, .inl (cI, N, .inl (fun _ => 0))), (a1_, .inr (10, [.ref a4_, .int 0, .ref a5_, .int 0, .ref a6_, .int 0, .ref a7_, .ref a8_, .ref a9_, .int 0, .ref a3_, .int 2, .int 8]))] sz [.ref a0_, .int 2195]) (qv_ (dC, dI) [(a0_, .inr (4, [.ref a1_, .int (4 * (nI N)), .ref a2_, .int 0, .int 1, .int 0, .int 0, .int 8, .int 8])), (a3_, .inl (cI, N, .inl (fun _ => 0))), (a1_, .inr (10, [.ref a4_, .int 0, .ref a5_, .int 0, .ref a6_, .int 0, .ref a7_, .ref a8_, .ref a9_, .int 0, .ref a3_, .int 2, .int 8]))] sz (fun (u : Unit) => True) (fun (u : Unit) => [(a0_, .inr (4, [.ref a1_, .int (4 * (nI N)), .ref a2_, .int 1, .int 1, .int 0, .int 0, .int 8, .int 8])), (a3_, .inl (cI, N, .inl (upd (fun _ => 0) 0 2195))), (a1_, .inr (10, [.ref a4_, .int 0, .ref a5_, .int 0, .ref a6_, .int 0, .ref a7_, .ref a8_, .ref a9_, .int 0, .ref a3_, .int 2, .int 8]))])) 0 0 (va_A [(a0_, .inr (4, [.ref a1_, .int (4 * (nI N)), .ref a2_, .int 0, .int 1, .int 0, .int 0, .int 8, .int 8])), (a3_, .inl (cI, N, .inl (fun _ => 0))), (a1_, .inr (10, [.ref a4_, .int 0, .ref a5_, .int 0, .ref a6_, .int 0, .ref a7_, .ref a8_, .ref a9_, .int 0, .ref a3_, .int 2, .int 8]))] sz) := by
  refine Met.ofW (cc := cX0_emit) (maxL := 2) (ret := none) (by decide) rfl ?_
  intro p e s m args below meth c s₁ B hml hv
  obtain ⟨rfl, hsz, hP, hKK, hD0, hFx⟩ := hv
  have hK := hKK.1
  have hx := B.exec
  have hb := B.bytes
  have hr := B.returns
  have ht : ∀ w ∈ tw_W, w.before _ s = true := fun w h => atoms_spec (ws := Cond.code yX0_emit cX0_emit 2 none :: tw_W) B.pre w (List.mem_cons_of_mem _ h)
  have hown : s.vm.findClass RX0 = some m.cls := findClass_of_methodNamed B.named
  have hlocks := B.notSynchronized
  subst hsz
  unfold qv_
  have hD := hD0.self (sz := s.heap.size)
  generalize hAe : va_A [(a0_, .inr (4, [.ref a1_, .int (4 * (nI N)), .ref a2_, .int 0, .int 1, .int 0, .int 0, .int 8, .int 8])), (a3_, .inl (cI, N, .inl (fun _ => 0))), (a1_, .inr (10, [.ref a4_, .int 0, .ref a5_, .int 0, .ref a6_, .int 0, .ref a7_, .ref a8_, .ref a9_, .int 0, .ref a3_, .int 2, .int 8]))] s.heap.size = A at hD hFx ⊢
  have hA : ∀ q : Nat, s.heap.size ≤ q → A q := fun q h => by rw [← hAe]; exact Or.inr h
  have hS : va_S A s.heap s.heap [] := va_S.rf
  have hP : va_P (dC, dI) vwCl [(a0_, .inr (4, [.ref a1_, .int (4 * (nI N)), .ref a2_, .int 0, .int 1, .int 0, .int 0, .int 8, .int 8])), (a3_, .inl (cI, N, .inl (fun _ => 0))), (a1_, .inr (10, [.ref a4_, .int 0, .ref a5_, .int 0, .ref a6_, .int 0, .ref a7_, .ref a8_, .ref a9_, .int 0, .ref a3_, .int 2, .int 8]))] s.heap := hP
  have hl := lv_entry ([.ref a0_, .int 2195]) (n := 2) (Nat.le_of_ble_eq_true rfl)
  rw [lg_entry_eq]
  generalize (lg_sl ([.ref a0_, .int 2195]) ++ List.replicate (2 - (lg_sl ([.ref a0_, .int 2195])).length) Slot.unset).toArray = ls at hl ⊢
  have hl : lv_has ls 2 [(0, .ref a0_), (1, .int 2195)] := hl
  refine lv_aload_n hx hb dX0_emit_0 rfl (lv_at hl 0 rfl) ?_
  refine va_get (D := (dC, dI)) (ci := 4) (v := .int 1) (C := RX0) (T := TX0) (N := 9) hx hb ht itX0 hown hK hP 0 rfl rfl 4 (by decide) (ht _ tw_190) (fun _ h9 => h9) rfl dX0_emit_1 ?_
  refine lv_if_eq (tgt := 35) hx hb dX0_emit_4 (by decide) (fun k1 => absurd k1 (by decide)) (fun _ => ?_)
  refine lv_aload_n hx hb dX0_emit_7 rfl (lv_at hl 0 rfl) ?_
  refine va_get (D := (dC, dI)) (ci := 4) (v := .int 0) (C := RX0) (T := TX0) (N := 9) hx hb ht itX0 hown hK hP 0 rfl rfl 3 (by decide) (ht _ tw_191) (fun _ h9 => h9) rfl dX0_emit_8 ?_
  refine lv_aload_n hx hb dX0_emit_11 rfl (lv_at hl 0 rfl) ?_
  refine va_get (D := (dC, dI)) (ci := 4) (v := .ref a1_) (C := RX0) (T := TX0) (N := 9) hx hb ht itX0 hown hK hP 0 rfl rfl 0 (by decide) (ht _ tw_75) (fun _ h9 => h9) rfl dX0_emit_12 ?_
  refine va_get (D := (dC, dI)) (ci := 10) (v := .ref a3_) (C := RX7) (T := TX7) (N := 13) hx hb ht itX7 hown hK hP 2 rfl rfl 10 (by decide) (ht _ tw_209) (fun _ h9 => h9) rfl dX0_emit_15 ?_
  refine va_alen (D := (dC, dI)) (v := (nI N)) hx hb hK hP 1 0 rfl rfl rfl dX0_emit_18 ?_
  refine lv_icmp_ge (tgt := 35) hx hb dX0_emit_19 (by decide) (fun k2 => absurd k2 (nge_c (j := 0) (by decide) (by omega) (by omega))) (fun _ => ?_)
  refine lv_aload_n hx hb dX0_emit_22 rfl (lv_at hl 0 rfl) ?_
  refine va_get (D := (dC, dI)) (ci := 4) (v := .ref a1_) (C := RX0) (T := TX0) (N := 9) hx hb ht itX0 hown hK hP 0 rfl rfl 0 (by decide) (ht _ tw_75) (fun _ h9 => h9) rfl dX0_emit_23 ?_
  refine va_get (D := (dC, dI)) (ci := 10) (v := .ref a3_) (C := RX7) (T := TX7) (N := 13) hx hb ht itX7 hown hK hP 2 rfl rfl 10 (by decide) (ht _ tw_209) (fun _ h9 => h9) rfl dX0_emit_26 ?_
  refine lv_aload_n hx hb dX0_emit_29 rfl (lv_at hl 0 rfl) ?_
  refine va_get (D := (dC, dI)) (ci := 4) (v := .int 0) (C := RX0) (T := TX0) (N := 9) hx hb ht itX0 hown hK hP 0 rfl rfl 3 (by decide) (ht _ tw_191) (fun _ h9 => h9) rfl dX0_emit_30 ?_
  refine lv_iload_n hx hb dX0_emit_33 rfl (lv_at hl 1 rfl) ?_
  refine va_iast (D := (dC, dI)) hx hb hK hP hD hS 1 0 rfl rfl (in_c (j := 0) (by decide) (by omega) (by omega)) dX0_emit_34 (fun H locs hP hD hS => ?_)
  have hP : va_P (dC, dI) vwCl [(a0_, .inr (4, [.ref a1_, .int (4 * (nI N)), .ref a2_, .int 0, .int 1, .int 0, .int 0, .int 8, .int 8])), (a3_, .inl (cI, N, .inl (upd (fun _ => 0) 0 2195))), (a1_, .inr (10, [.ref a4_, .int 0, .ref a5_, .int 0, .ref a6_, .int 0, .ref a7_, .ref a8_, .ref a9_, .int 0, .ref a3_, .int 2, .int 8]))] H := hP
  have hD : va_D A [(a0_, .inr (4, [.ref a1_, .int (4 * (nI N)), .ref a2_, .int 0, .int 1, .int 0, .int 0, .int 8, .int 8])), (a3_, .inl (cI, N, .inl (upd (fun _ => 0) 0 2195))), (a1_, .inr (10, [.ref a4_, .int 0, .ref a5_, .int 0, .ref a6_, .int 0, .ref a7_, .ref a8_, .ref a9_, .int 0, .ref a3_, .int 2, .int 8]))] := hD
  refine lv_aload_n hx hb dX0_emit_35 rfl (lv_at hl 0 rfl) ?_
  refine lv_dup hx hb dX0_emit_36 rfl ?_
  refine va_get (D := (dC, dI)) (ci := 4) (v := .int 0) (C := RX0) (T := TX0) (N := 9) hx hb ht itX0 hown hK hP 0 rfl rfl 3 (by decide) (ht _ tw_191) (fun _ h9 => h9) rfl dX0_emit_37 ?_
  refine lv_iconst (v := 1) hx hb dX0_emit_40 (by decide) ?_
  refine lv_iadd hx hb dX0_emit_41 ?_
  refine tp_i (y := 1) (by decide) ?_
  refine va_put (D := (dC, dI)) (ci := 4) (v := .int 1) (ty := .int) (C := RX0) (T := TX0) (N := 9) hx hb ht itX0 tyX0 tyX0_ok nmX0 hown hK hP hD hS 0 rfl rfl 3 (by decide) (ht _ tw_191) (fun _ h9 => h9) rfl (by decide +kernel) rfl rfl (Nat.le_of_ble_eq_true rfl) dX0_emit_42 (fun H locs hP hD hS => ?_)
  have hP : va_P (dC, dI) vwCl [(a0_, .inr (4, [.ref a1_, .int (4 * (nI N)), .ref a2_, .int 1, .int 1, .int 0, .int 0, .int 8, .int 8])), (a3_, .inl (cI, N, .inl (upd (fun _ => 0) 0 2195))), (a1_, .inr (10, [.ref a4_, .int 0, .ref a5_, .int 0, .ref a6_, .int 0, .ref a7_, .ref a8_, .ref a9_, .int 0, .ref a3_, .int 2, .int 8]))] H := hP
  have hD : va_D A [(a0_, .inr (4, [.ref a1_, .int (4 * (nI N)), .ref a2_, .int 1, .int 1, .int 0, .int 0, .int 8, .int 8])), (a3_, .inl (cI, N, .inl (upd (fun _ => 0) 0 2195))), (a1_, .inr (10, [.ref a4_, .int 0, .ref a5_, .int 0, .ref a6_, .int 0, .ref a7_, .ref a8_, .ref a9_, .int 0, .ref a3_, .int 2, .int 8]))] := hD
  have hP9 := hP.sub (ws' := [(a0_, .inr (4, [.ref a1_, .int (4 * (nI N)), .ref a2_, .int 1, .int 1, .int 0, .int 0, .int 8, .int 8])), (a3_, .inl (cI, N, .inl (upd (fun _ => 0) 0 2195))), (a1_, .inr (10, [.ref a4_, .int 0, .ref a5_, .int 0, .ref a6_, .int 0, .ref a7_, .ref a8_, .ref a9_, .int 0, .ref a3_, .int 2, .int 8]))]) [0, 1, 2] rfl
  have hD9 := hD.sub (ws' := [(a0_, .inr (4, [.ref a1_, .int (4 * (nI N)), .ref a2_, .int 1, .int 1, .int 0, .int 0, .int 8, .int 8])), (a3_, .inl (cI, N, .inl (upd (fun _ => 0) 0 2195))), (a1_, .inr (10, [.ref a4_, .int 0, .ref a5_, .int 0, .ref a6_, .int 0, .ref a7_, .ref a8_, .ref a9_, .int 0, .ref a3_, .int 2, .int 8]))]) [0, 1, 2] (by decide) rfl
  refine W.widen (k := 0) (n := 0) (by omega) (by omega) ?_
  exact W.vret hx hb hr (fun t ht9 hW => ⟨⟨(), rfl, trivial, by rw [ht9]; exact hP9, hD9⟩, hS.F ht9⟩) hS.2.2 dX0_emit_45
set_option maxHeartbeats 4000000 in
set_option maxRecDepth 100000 in
theorem c_X0_immediate_2 (l : Launch) (dC : Nat → ClassId) (dI : Nat → Nat → Nat) (cI cB cZ cJ cR : ClassId) (tb : Nat → Nat) (sz : Nat) (a0_ : Nat) (a1_ : Nat) (N : Nat) (a2_ : Nat) (a3_ : Nat) (a4_ : Nat) (a5_ : Nat) (a6_ : Nat) (a7_ : Nat) (a8_ : Nat) (a9_ : Nat) (hf_N_0 : 256 ≤ N) (hf_N_1 : N ≤ 4096) : Met l yX0_immediate (Cond.code yX0_immediate cX0_immediate 5 none :: tw_W) ({ frames := 1, cells := 0, slots := 0, locals := 21 }) (pc_ (dC, dI) (tyS cI cB cZ cJ cR) tb [(a0_, .inr (4, [.ref a1_, .int (4 * (nI N)), .ref a2_, .int 0, .int 1, .int 0, .int 0, .int 8, .int 8])), (a3_, .inl (cI, N, .inl (fun _ => 0))), (a1_, .inr (10, [.ref a4_, .int 0, .ref a5_, .int 0, .ref a6_, .int 0, .ref a7_, .ref a8_, .ref a9_, .int 0, .ref a3_, .int 2, .int 8]))] sz [.ref a0_, .int 19, .int 17, .int 0, .int 0]) (qv_ (dC, dI) [(a0_, .inr (4, [.ref a1_, .int (4 * (nI N)), .ref a2_, .int 0, .int 1, .int 0, .int 0, .int 8, .int 8])), (a3_, .inl (cI, N, .inl (fun _ => 0))), (a1_, .inr (10, [.ref a4_, .int 0, .ref a5_, .int 0, .ref a6_, .int 0, .ref a7_, .ref a8_, .ref a9_, .int 0, .ref a3_, .int 2, .int 8]))] sz (fun (u : Unit) => True) (fun (u : Unit) => [(a0_, .inr (4, [.ref a1_, .int (4 * (nI N)), .ref a2_, .int 1, .int 1, .int 0, .int 0, .int 8, .int 8])), (a3_, .inl (cI, N, .inl (upd (fun _ => 0) 0 2195))), (a1_, .inr (10, [.ref a4_, .int 0, .ref a5_, .int 0, .ref a6_, .int 0, .ref a7_, .ref a8_, .ref a9_, .int 0, .ref a3_, .int 2, .int 8]))])) 0 0 (va_A [(a0_, .inr (4, [.ref a1_, .int (4 * (nI N)), .ref a2_, .int 0, .int 1, .int 0, .int 0, .int 8, .int 8])), (a3_, .inl (cI, N, .inl (fun _ => 0))), (a1_, .inr (10, [.ref a4_, .int 0, .ref a5_, .int 0, .ref a6_, .int 0, .ref a7_, .ref a8_, .ref a9_, .int 0, .ref a3_, .int 2, .int 8]))] sz) := by
  refine Met.ofW (cc := cX0_immediate) (maxL := 5) (ret := none) (by decide) rfl ?_
  intro p e s m args below meth c s₁ B hml hv
  obtain ⟨rfl, hsz, hP, hKK, hD0, hFx⟩ := hv
  have hK := hKK.1
  have hx := B.exec
  have hb := B.bytes
  have hr := B.returns
  have ht : ∀ w ∈ tw_W, w.before _ s = true := fun w h => atoms_spec (ws := Cond.code yX0_immediate cX0_immediate 5 none :: tw_W) B.pre w (List.mem_cons_of_mem _ h)
  have hown : s.vm.findClass RX0 = some m.cls := findClass_of_methodNamed B.named
  have hlocks := B.notSynchronized
  subst hsz
  unfold qv_
  have hD := hD0.self (sz := s.heap.size)
  generalize hAe : va_A [(a0_, .inr (4, [.ref a1_, .int (4 * (nI N)), .ref a2_, .int 0, .int 1, .int 0, .int 0, .int 8, .int 8])), (a3_, .inl (cI, N, .inl (fun _ => 0))), (a1_, .inr (10, [.ref a4_, .int 0, .ref a5_, .int 0, .ref a6_, .int 0, .ref a7_, .ref a8_, .ref a9_, .int 0, .ref a3_, .int 2, .int 8]))] s.heap.size = A at hD hFx ⊢
  have hA : ∀ q : Nat, s.heap.size ≤ q → A q := fun q h => by rw [← hAe]; exact Or.inr h
  have hS : va_S A s.heap s.heap [] := va_S.rf
  have hP : va_P (dC, dI) vwCl [(a0_, .inr (4, [.ref a1_, .int (4 * (nI N)), .ref a2_, .int 0, .int 1, .int 0, .int 0, .int 8, .int 8])), (a3_, .inl (cI, N, .inl (fun _ => 0))), (a1_, .inr (10, [.ref a4_, .int 0, .ref a5_, .int 0, .ref a6_, .int 0, .ref a7_, .ref a8_, .ref a9_, .int 0, .ref a3_, .int 2, .int 8]))] s.heap := hP
  have hl := lv_entry ([.ref a0_, .int 19, .int 17, .int 0, .int 0]) (n := 5) (Nat.le_of_ble_eq_true rfl)
  rw [lg_entry_eq]
  generalize (lg_sl ([.ref a0_, .int 19, .int 17, .int 0, .int 0]) ++ List.replicate (5 - (lg_sl ([.ref a0_, .int 19, .int 17, .int 0, .int 0])).length) Slot.unset).toArray = ls at hl ⊢
  have hl : lv_has ls 5 [(0, .ref a0_), (1, .int 19), (2, .int 17), (3, .int 0), (4, .int 0)] := hl
  refine lv_aload_n hx hb dX0_immediate_0 rfl (lv_at hl 0 rfl) ?_
  refine lv_iload_n hx hb dX0_immediate_1 rfl (lv_at hl 1 rfl) ?_
  refine lv_iload_n hx hb dX0_immediate_2 rfl (lv_at hl 2 rfl) ?_
  refine lv_bipush (v := 7) hx hb dX0_immediate_3 (by decide) ?_
  refine lv_ishl hx hb dX0_immediate_5 ?_
  refine tp_i (y := 2176) (by decide) ?_
  refine lv_ior hx hb dX0_immediate_6 ?_
  refine tp_i (y := 2195) (by decide) ?_
  refine lv_iload_n hx hb dX0_immediate_7 rfl (lv_at hl 3 rfl) ?_
  refine lv_bipush (v := 15) hx hb dX0_immediate_8 (by decide) ?_
  refine lv_ishl hx hb dX0_immediate_10 ?_
  refine tp_i (y := 0) (by decide) ?_
  refine lv_ior hx hb dX0_immediate_11 ?_
  refine tp_i (y := 2195) (by decide) ?_
  refine lv_iload hx hb dX0_immediate_12 (lv_at hl 4 rfl) ?_
  refine lv_bipush (v := 20) hx hb dX0_immediate_14 (by decide) ?_
  refine lv_ishl hx hb dX0_immediate_16 ?_
  refine tp_i (y := 0) (by decide) ?_
  refine lv_ior hx hb dX0_immediate_17 ?_
  refine tp_i (y := 2195) (by decide) ?_
  refine ca_v (wr := []) (rn_V (n := 1) (As := [.int 2195]) (rest := []) hx hb hml hown ht hKK hFx hP hD hS hA (c_X0_emit_3 l dC dI cI cB cZ cJ cR tb s.heap.size a0_ a1_ N a2_ a3_ a4_ a5_ a6_ a7_ a8_ a9_ (by omega) (by omega)) tw_194 tw_195 (by decide +kernel) rfl rfl ⟨Nat.le_of_ble_eq_true rfl, Nat.le_of_ble_eq_true rfl⟩ [0, 1, 2] rfl (by decide) rfl rfl rfl rfl hl.1 rfl (Nat.le_of_ble_eq_true rfl) dX0_immediate_18 ⟨Nat.le_of_ble_eq_true rfl, Nat.le_of_ble_eq_true rfl⟩) hP hD hS hA (isC := [0, 1, 2]) (isR := []) rfl rfl (by decide) (by decide) (fun u H locs hw1 hP hD hS => ?_)
  have hP : va_P (dC, dI) vwCl [(a0_, .inr (4, [.ref a1_, .int (4 * (nI N)), .ref a2_, .int 1, .int 1, .int 0, .int 0, .int 8, .int 8])), (a3_, .inl (cI, N, .inl (upd (fun _ => 0) 0 2195))), (a1_, .inr (10, [.ref a4_, .int 0, .ref a5_, .int 0, .ref a6_, .int 0, .ref a7_, .ref a8_, .ref a9_, .int 0, .ref a3_, .int 2, .int 8]))] H := hP
  have hD : va_D A [(a0_, .inr (4, [.ref a1_, .int (4 * (nI N)), .ref a2_, .int 1, .int 1, .int 0, .int 0, .int 8, .int 8])), (a3_, .inl (cI, N, .inl (upd (fun _ => 0) 0 2195))), (a1_, .inr (10, [.ref a4_, .int 0, .ref a5_, .int 0, .ref a6_, .int 0, .ref a7_, .ref a8_, .ref a9_, .int 0, .ref a3_, .int 2, .int 8]))] := hD
  refine W.widen (k := 0) (n := 0) (by omega) (by omega) ?_
  have hP9 := hP.sub (ws' := [(a0_, .inr (4, [.ref a1_, .int (4 * (nI N)), .ref a2_, .int 1, .int 1, .int 0, .int 0, .int 8, .int 8])), (a3_, .inl (cI, N, .inl (upd (fun _ => 0) 0 2195))), (a1_, .inr (10, [.ref a4_, .int 0, .ref a5_, .int 0, .ref a6_, .int 0, .ref a7_, .ref a8_, .ref a9_, .int 0, .ref a3_, .int 2, .int 8]))]) [0, 1, 2] rfl
  have hD9 := hD.sub (ws' := [(a0_, .inr (4, [.ref a1_, .int (4 * (nI N)), .ref a2_, .int 1, .int 1, .int 0, .int 0, .int 8, .int 8])), (a3_, .inl (cI, N, .inl (upd (fun _ => 0) 0 2195))), (a1_, .inr (10, [.ref a4_, .int 0, .ref a5_, .int 0, .ref a6_, .int 0, .ref a7_, .ref a8_, .ref a9_, .int 0, .ref a3_, .int 2, .int 8]))]) [0, 1, 2] (by decide) rfl
  refine W.widen (k := 0) (n := 0) (by omega) (by omega) ?_
  exact W.vret hx hb hr (fun t ht9 hW => ⟨⟨(), rfl, trivial, by rw [ht9]; exact hP9, hD9⟩, hS.F ht9⟩) hS.2.2 dX0_immediate_21
set_option maxHeartbeats 4000000 in
set_option maxRecDepth 100000 in
theorem c_X0_emit_4 (l : Launch) (dC : Nat → ClassId) (dI : Nat → Nat → Nat) (cI cB cZ cJ cR : ClassId) (tb : Nat → Nat) (sz : Nat) (a0_ : Nat) (a1_ : Nat) (N : Nat) (a2_ : Nat) (a3_ : Nat) (a4_ : Nat) (a5_ : Nat) (a6_ : Nat) (a7_ : Nat) (a8_ : Nat) (a9_ : Nat) (hf_N_0 : 256 ≤ N) (hf_N_1 : N ≤ 4096) : Met l yX0_emit (Cond.code yX0_emit cX0_emit 2 none :: tw_W) ({ frames := 0, cells := 0, slots := 0, locals := 0 }) (pc_ (dC, dI) (tyS cI cB cZ cJ cR) tb [(a0_, .inr (4, [.ref a1_, .int (4 * (nI N)), .ref a2_, .int 1, .int 1, .int 0, .int 0, .int 8, .int 8])), (a3_, .inl (cI, N, .inl (upd (fun _ => 0) 0 2195))), (a1_, .inr (10, [.ref a4_, .int 0, .ref a5_, .int 0, .ref a6_, .int 0, .ref a7_, .ref a8_, .ref a9_, .int 0, .ref a3_, .int 2, .int 8]))] sz [.ref a0_, .int 1048691]) (qv_ (dC, dI) [(a0_, .inr (4, [.ref a1_, .int (4 * (nI N)), .ref a2_, .int 1, .int 1, .int 0, .int 0, .int 8, .int 8])), (a3_, .inl (cI, N, .inl (upd (fun _ => 0) 0 2195))), (a1_, .inr (10, [.ref a4_, .int 0, .ref a5_, .int 0, .ref a6_, .int 0, .ref a7_, .ref a8_, .ref a9_, .int 0, .ref a3_, .int 2, .int 8]))] sz (fun (u : Unit) => True) (fun (u : Unit) => [(a0_, .inr (4, [.ref a1_, .int (4 * (nI N)), .ref a2_, .int 2, .int 1, .int 0, .int 0, .int 8, .int 8])), (a3_, .inl (cI, N, .inl (upd (upd (fun _ => 0) 0 2195) 1 1048691))), (a1_, .inr (10, [.ref a4_, .int 0, .ref a5_, .int 0, .ref a6_, .int 0, .ref a7_, .ref a8_, .ref a9_, .int 0, .ref a3_, .int 2, .int 8]))])) 0 0 (va_A [(a0_, .inr (4, [.ref a1_, .int (4 * (nI N)), .ref a2_, .int 1, .int 1, .int 0, .int 0, .int 8, .int 8])), (a3_, .inl (cI, N, .inl (upd (fun _ => 0) 0 2195))), (a1_, .inr (10, [.ref a4_, .int 0, .ref a5_, .int 0, .ref a6_, .int 0, .ref a7_, .ref a8_, .ref a9_, .int 0, .ref a3_, .int 2, .int 8]))] sz) := by
  refine Met.ofW (cc := cX0_emit) (maxL := 2) (ret := none) (by decide) rfl ?_
  intro p e s m args below meth c s₁ B hml hv
  obtain ⟨rfl, hsz, hP, hKK, hD0, hFx⟩ := hv
  have hK := hKK.1
  have hx := B.exec
  have hb := B.bytes
  have hr := B.returns
  have ht : ∀ w ∈ tw_W, w.before _ s = true := fun w h => atoms_spec (ws := Cond.code yX0_emit cX0_emit 2 none :: tw_W) B.pre w (List.mem_cons_of_mem _ h)
  have hown : s.vm.findClass RX0 = some m.cls := findClass_of_methodNamed B.named
  have hlocks := B.notSynchronized
  subst hsz
  unfold qv_
  have hD := hD0.self (sz := s.heap.size)
  generalize hAe : va_A [(a0_, .inr (4, [.ref a1_, .int (4 * (nI N)), .ref a2_, .int 1, .int 1, .int 0, .int 0, .int 8, .int 8])), (a3_, .inl (cI, N, .inl (upd (fun _ => 0) 0 2195))), (a1_, .inr (10, [.ref a4_, .int 0, .ref a5_, .int 0, .ref a6_, .int 0, .ref a7_, .ref a8_, .ref a9_, .int 0, .ref a3_, .int 2, .int 8]))] s.heap.size = A at hD hFx ⊢
  have hA : ∀ q : Nat, s.heap.size ≤ q → A q := fun q h => by rw [← hAe]; exact Or.inr h
  have hS : va_S A s.heap s.heap [] := va_S.rf
  have hP : va_P (dC, dI) vwCl [(a0_, .inr (4, [.ref a1_, .int (4 * (nI N)), .ref a2_, .int 1, .int 1, .int 0, .int 0, .int 8, .int 8])), (a3_, .inl (cI, N, .inl (upd (fun _ => 0) 0 2195))), (a1_, .inr (10, [.ref a4_, .int 0, .ref a5_, .int 0, .ref a6_, .int 0, .ref a7_, .ref a8_, .ref a9_, .int 0, .ref a3_, .int 2, .int 8]))] s.heap := hP
  have hl := lv_entry ([.ref a0_, .int 1048691]) (n := 2) (Nat.le_of_ble_eq_true rfl)
  rw [lg_entry_eq]
  generalize (lg_sl ([.ref a0_, .int 1048691]) ++ List.replicate (2 - (lg_sl ([.ref a0_, .int 1048691])).length) Slot.unset).toArray = ls at hl ⊢
  have hl : lv_has ls 2 [(0, .ref a0_), (1, .int 1048691)] := hl
  refine lv_aload_n hx hb dX0_emit_0 rfl (lv_at hl 0 rfl) ?_
  refine va_get (D := (dC, dI)) (ci := 4) (v := .int 1) (C := RX0) (T := TX0) (N := 9) hx hb ht itX0 hown hK hP 0 rfl rfl 4 (by decide) (ht _ tw_190) (fun _ h9 => h9) rfl dX0_emit_1 ?_
  refine lv_if_eq (tgt := 35) hx hb dX0_emit_4 (by decide) (fun k1 => absurd k1 (by decide)) (fun _ => ?_)
  refine lv_aload_n hx hb dX0_emit_7 rfl (lv_at hl 0 rfl) ?_
  refine va_get (D := (dC, dI)) (ci := 4) (v := .int 1) (C := RX0) (T := TX0) (N := 9) hx hb ht itX0 hown hK hP 0 rfl rfl 3 (by decide) (ht _ tw_191) (fun _ h9 => h9) rfl dX0_emit_8 ?_
  refine lv_aload_n hx hb dX0_emit_11 rfl (lv_at hl 0 rfl) ?_
  refine va_get (D := (dC, dI)) (ci := 4) (v := .ref a1_) (C := RX0) (T := TX0) (N := 9) hx hb ht itX0 hown hK hP 0 rfl rfl 0 (by decide) (ht _ tw_75) (fun _ h9 => h9) rfl dX0_emit_12 ?_
  refine va_get (D := (dC, dI)) (ci := 10) (v := .ref a3_) (C := RX7) (T := TX7) (N := 13) hx hb ht itX7 hown hK hP 2 rfl rfl 10 (by decide) (ht _ tw_209) (fun _ h9 => h9) rfl dX0_emit_15 ?_
  refine va_alen (D := (dC, dI)) (v := (nI N)) hx hb hK hP 1 0 rfl rfl rfl dX0_emit_18 ?_
  refine lv_icmp_ge (tgt := 35) hx hb dX0_emit_19 (by decide) (fun k2 => absurd k2 (nge_c (j := 1) (by decide) (by omega) (by omega))) (fun _ => ?_)
  refine lv_aload_n hx hb dX0_emit_22 rfl (lv_at hl 0 rfl) ?_
  refine va_get (D := (dC, dI)) (ci := 4) (v := .ref a1_) (C := RX0) (T := TX0) (N := 9) hx hb ht itX0 hown hK hP 0 rfl rfl 0 (by decide) (ht _ tw_75) (fun _ h9 => h9) rfl dX0_emit_23 ?_
  refine va_get (D := (dC, dI)) (ci := 10) (v := .ref a3_) (C := RX7) (T := TX7) (N := 13) hx hb ht itX7 hown hK hP 2 rfl rfl 10 (by decide) (ht _ tw_209) (fun _ h9 => h9) rfl dX0_emit_26 ?_
  refine lv_aload_n hx hb dX0_emit_29 rfl (lv_at hl 0 rfl) ?_
  refine va_get (D := (dC, dI)) (ci := 4) (v := .int 1) (C := RX0) (T := TX0) (N := 9) hx hb ht itX0 hown hK hP 0 rfl rfl 3 (by decide) (ht _ tw_191) (fun _ h9 => h9) rfl dX0_emit_30 ?_
  refine lv_iload_n hx hb dX0_emit_33 rfl (lv_at hl 1 rfl) ?_
  refine va_iast (D := (dC, dI)) hx hb hK hP hD hS 1 0 rfl rfl (in_c (j := 1) (by decide) (by omega) (by omega)) dX0_emit_34 (fun H locs hP hD hS => ?_)
  have hP : va_P (dC, dI) vwCl [(a0_, .inr (4, [.ref a1_, .int (4 * (nI N)), .ref a2_, .int 1, .int 1, .int 0, .int 0, .int 8, .int 8])), (a3_, .inl (cI, N, .inl (upd (upd (fun _ => 0) 0 2195) 1 1048691))), (a1_, .inr (10, [.ref a4_, .int 0, .ref a5_, .int 0, .ref a6_, .int 0, .ref a7_, .ref a8_, .ref a9_, .int 0, .ref a3_, .int 2, .int 8]))] H := hP
  have hD : va_D A [(a0_, .inr (4, [.ref a1_, .int (4 * (nI N)), .ref a2_, .int 1, .int 1, .int 0, .int 0, .int 8, .int 8])), (a3_, .inl (cI, N, .inl (upd (upd (fun _ => 0) 0 2195) 1 1048691))), (a1_, .inr (10, [.ref a4_, .int 0, .ref a5_, .int 0, .ref a6_, .int 0, .ref a7_, .ref a8_, .ref a9_, .int 0, .ref a3_, .int 2, .int 8]))] := hD
  refine lv_aload_n hx hb dX0_emit_35 rfl (lv_at hl 0 rfl) ?_
  refine lv_dup hx hb dX0_emit_36 rfl ?_
  refine va_get (D := (dC, dI)) (ci := 4) (v := .int 1) (C := RX0) (T := TX0) (N := 9) hx hb ht itX0 hown hK hP 0 rfl rfl 3 (by decide) (ht _ tw_191) (fun _ h9 => h9) rfl dX0_emit_37 ?_
  refine lv_iconst (v := 1) hx hb dX0_emit_40 (by decide) ?_
  refine lv_iadd hx hb dX0_emit_41 ?_
  refine tp_i (y := 2) (by decide) ?_
  refine va_put (D := (dC, dI)) (ci := 4) (v := .int 2) (ty := .int) (C := RX0) (T := TX0) (N := 9) hx hb ht itX0 tyX0 tyX0_ok nmX0 hown hK hP hD hS 0 rfl rfl 3 (by decide) (ht _ tw_191) (fun _ h9 => h9) rfl (by decide +kernel) rfl rfl (Nat.le_of_ble_eq_true rfl) dX0_emit_42 (fun H locs hP hD hS => ?_)
  have hP : va_P (dC, dI) vwCl [(a0_, .inr (4, [.ref a1_, .int (4 * (nI N)), .ref a2_, .int 2, .int 1, .int 0, .int 0, .int 8, .int 8])), (a3_, .inl (cI, N, .inl (upd (upd (fun _ => 0) 0 2195) 1 1048691))), (a1_, .inr (10, [.ref a4_, .int 0, .ref a5_, .int 0, .ref a6_, .int 0, .ref a7_, .ref a8_, .ref a9_, .int 0, .ref a3_, .int 2, .int 8]))] H := hP
  have hD : va_D A [(a0_, .inr (4, [.ref a1_, .int (4 * (nI N)), .ref a2_, .int 2, .int 1, .int 0, .int 0, .int 8, .int 8])), (a3_, .inl (cI, N, .inl (upd (upd (fun _ => 0) 0 2195) 1 1048691))), (a1_, .inr (10, [.ref a4_, .int 0, .ref a5_, .int 0, .ref a6_, .int 0, .ref a7_, .ref a8_, .ref a9_, .int 0, .ref a3_, .int 2, .int 8]))] := hD
  have hP9 := hP.sub (ws' := [(a0_, .inr (4, [.ref a1_, .int (4 * (nI N)), .ref a2_, .int 2, .int 1, .int 0, .int 0, .int 8, .int 8])), (a3_, .inl (cI, N, .inl (upd (upd (fun _ => 0) 0 2195) 1 1048691))), (a1_, .inr (10, [.ref a4_, .int 0, .ref a5_, .int 0, .ref a6_, .int 0, .ref a7_, .ref a8_, .ref a9_, .int 0, .ref a3_, .int 2, .int 8]))]) [0, 1, 2] rfl
  have hD9 := hD.sub (ws' := [(a0_, .inr (4, [.ref a1_, .int (4 * (nI N)), .ref a2_, .int 2, .int 1, .int 0, .int 0, .int 8, .int 8])), (a3_, .inl (cI, N, .inl (upd (upd (fun _ => 0) 0 2195) 1 1048691))), (a1_, .inr (10, [.ref a4_, .int 0, .ref a5_, .int 0, .ref a6_, .int 0, .ref a7_, .ref a8_, .ref a9_, .int 0, .ref a3_, .int 2, .int 8]))]) [0, 1, 2] (by decide) rfl
  refine W.widen (k := 0) (n := 0) (by omega) (by omega) ?_
  exact W.vret hx hb hr (fun t ht9 hW => ⟨⟨(), rfl, trivial, by rw [ht9]; exact hP9, hD9⟩, hS.F ht9⟩) hS.2.2 dX0_emit_45
set_option maxHeartbeats 4000000 in
set_option maxRecDepth 100000 in
theorem c_X0_placeGlobals_2 (l : Launch) (dC : Nat → ClassId) (dI : Nat → Nat → Nat) (cI cB cZ cJ cR : ClassId) (tb : Nat → Nat) (sz : Nat) (a0_ : Nat) (a1_ : Nat) (N : Nat) (a2_ : Nat) (a3_ : Nat) (a4_ : Nat) (a5_ : Nat) (a6_ : Nat) (a7_ : Nat) (a8_ : Nat) (a9_ : Nat) (hf_N_0 : 256 ≤ N) (hf_N_1 : N ≤ 4096) : Met l yX0_placeGlobals (Cond.code yX0_placeGlobals cX0_placeGlobals 3 none :: tw_W) ({ frames := 0, cells := 0, slots := 0, locals := 0 }) (pc_ (dC, dI) (tyS cI cB cZ cJ cR) tb [(a0_, .inr (4, [.ref a1_, .int (4 * (nI N)), .ref a2_, .int 2, .int 1, .int 0, .int 0, .int 8, .int 8])), (a1_, .inr (10, [.ref a3_, .int 0, .ref a4_, .int 0, .ref a5_, .int 0, .ref a6_, .ref a7_, .ref a8_, .int 0, .ref a9_, .int 2, .int 8]))] sz [.ref a0_]) (qv_ (dC, dI) [(a0_, .inr (4, [.ref a1_, .int (4 * (nI N)), .ref a2_, .int 2, .int 1, .int 0, .int 0, .int 8, .int 8])), (a1_, .inr (10, [.ref a3_, .int 0, .ref a4_, .int 0, .ref a5_, .int 0, .ref a6_, .ref a7_, .ref a8_, .int 0, .ref a9_, .int 2, .int 8]))] sz (fun (u : Unit) => True) (fun (u : Unit) => [(a0_, .inr (4, [.ref a1_, .int (4 * (nI N)), .ref a2_, .int 2, .int 1, .int 0, .int 0, .int 8, .int 8])), (a1_, .inr (10, [.ref a3_, .int 0, .ref a4_, .int 0, .ref a5_, .int 0, .ref a6_, .ref a7_, .ref a8_, .int 0, .ref a9_, .int 2, .int 8]))])) 0 0 (va_A [(a0_, .inr (4, [.ref a1_, .int (4 * (nI N)), .ref a2_, .int 2, .int 1, .int 0, .int 0, .int 8, .int 8])), (a1_, .inr (10, [.ref a3_, .int 0, .ref a4_, .int 0, .ref a5_, .int 0, .ref a6_, .ref a7_, .ref a8_, .int 0, .ref a9_, .int 2, .int 8]))] sz) := by
  refine Met.ofW (cc := cX0_placeGlobals) (maxL := 3) (ret := none) (by decide) rfl ?_
  intro p e s m args below meth c s₁ B hml hv
  obtain ⟨rfl, hsz, hP, hKK, hD0, hFx⟩ := hv
  have hK := hKK.1
  have hx := B.exec
  have hb := B.bytes
  have hr := B.returns
  have ht : ∀ w ∈ tw_W, w.before _ s = true := fun w h => atoms_spec (ws := Cond.code yX0_placeGlobals cX0_placeGlobals 3 none :: tw_W) B.pre w (List.mem_cons_of_mem _ h)
  have hown : s.vm.findClass RX0 = some m.cls := findClass_of_methodNamed B.named
  have hlocks := B.notSynchronized
  subst hsz
  unfold qv_
  have hD := hD0.self (sz := s.heap.size)
  generalize hAe : va_A [(a0_, .inr (4, [.ref a1_, .int (4 * (nI N)), .ref a2_, .int 2, .int 1, .int 0, .int 0, .int 8, .int 8])), (a1_, .inr (10, [.ref a3_, .int 0, .ref a4_, .int 0, .ref a5_, .int 0, .ref a6_, .ref a7_, .ref a8_, .int 0, .ref a9_, .int 2, .int 8]))] s.heap.size = A at hD hFx ⊢
  have hA : ∀ q : Nat, s.heap.size ≤ q → A q := fun q h => by rw [← hAe]; exact Or.inr h
  have hS : va_S A s.heap s.heap [] := va_S.rf
  have hP : va_P (dC, dI) vwCl [(a0_, .inr (4, [.ref a1_, .int (4 * (nI N)), .ref a2_, .int 2, .int 1, .int 0, .int 0, .int 8, .int 8])), (a1_, .inr (10, [.ref a3_, .int 0, .ref a4_, .int 0, .ref a5_, .int 0, .ref a6_, .ref a7_, .ref a8_, .int 0, .ref a9_, .int 2, .int 8]))] s.heap := hP
  have hl := lv_entry ([.ref a0_]) (n := 3) (Nat.le_of_ble_eq_true rfl)
  rw [lg_entry_eq]
  generalize (lg_sl ([.ref a0_]) ++ List.replicate (3 - (lg_sl ([.ref a0_])).length) Slot.unset).toArray = ls at hl ⊢
  have hl : lv_has ls 3 [(0, .ref a0_)] := hl
  refine lv_iconst (v := 4) hx hb dX0_placeGlobals_0 (by decide) ?_
  refine lv_aload_n hx hb dX0_placeGlobals_1 rfl (lv_at hl 0 rfl) ?_
  refine va_get (D := (dC, dI)) (ci := 4) (v := .int 2) (C := RX0) (T := TX0) (N := 9) hx hb ht itX0 hown hK hP 0 rfl rfl 3 (by decide) (ht _ tw_191) (fun _ h9 => h9) rfl dX0_placeGlobals_2 ?_
  refine lv_imul hx hb dX0_placeGlobals_5 ?_
  refine tp_i (y := 8) (by decide) ?_
  refine lv_istore_n (lv' := [(1, .int 8), (0, .ref a0_)]) hx hb dX0_placeGlobals_6 rfl hl (by decide) rfl (fun ls hl => ?_)
  refine lv_iconst (v := 0) hx hb dX0_placeGlobals_7 (by decide) ?_
  refine lv_istore_n (lv' := [(2, .int 0), (1, .int 8), (0, .ref a0_)]) hx hb dX0_placeGlobals_8 rfl hl (by decide) rfl (fun ls hl => ?_)
  refine lv_iload_n hx hb dX0_placeGlobals_9 rfl (lv_at hl 0 rfl) ?_
  refine lv_aload_n hx hb dX0_placeGlobals_10 rfl (lv_at hl 2 rfl) ?_
  refine va_get (D := (dC, dI)) (ci := 4) (v := .ref a1_) (C := RX0) (T := TX0) (N := 9) hx hb ht itX0 hown hK hP 0 rfl rfl 0 (by decide) (ht _ tw_75) (fun _ h9 => h9) rfl dX0_placeGlobals_11 ?_
  refine va_get (D := (dC, dI)) (ci := 10) (v := .int 0) (C := RX7) (T := TX7) (N := 13) hx hb ht itX7 hown hK hP 1 rfl rfl 5 (by decide) (ht _ tw_203) (fun _ h9 => h9) rfl dX0_placeGlobals_14 ?_
  refine lv_icmp_ge (tgt := 50) hx hb dX0_placeGlobals_17 (by decide) (fun _ => ?_) (fun k1 => absurd k1 (by decide))
  refine lv_aload_n hx hb dX0_placeGlobals_50 rfl (lv_at hl 2 rfl) ?_
  refine va_get (D := (dC, dI)) (ci := 4) (v := .ref a1_) (C := RX0) (T := TX0) (N := 9) hx hb ht itX0 hown hK hP 0 rfl rfl 0 (by decide) (ht _ tw_75) (fun _ h9 => h9) rfl dX0_placeGlobals_51 ?_
  refine lv_iload_n hx hb dX0_placeGlobals_54 rfl (lv_at hl 1 rfl) ?_
  refine va_put (D := (dC, dI)) (ci := 10) (v := .int 8) (ty := .int) (C := RX7) (T := TX7) (N := 13) hx hb ht itX7 tyX7 tyX7_ok nmX7 hown hK hP hD hS 1 rfl rfl 12 (by decide) (ht _ tw_204) (fun _ h9 => h9) rfl (by decide +kernel) rfl rfl (Nat.le_of_ble_eq_true rfl) dX0_placeGlobals_55 (fun H locs hP hD hS => ?_)
  have hP : va_P (dC, dI) vwCl [(a0_, .inr (4, [.ref a1_, .int (4 * (nI N)), .ref a2_, .int 2, .int 1, .int 0, .int 0, .int 8, .int 8])), (a1_, .inr (10, [.ref a3_, .int 0, .ref a4_, .int 0, .ref a5_, .int 0, .ref a6_, .ref a7_, .ref a8_, .int 0, .ref a9_, .int 2, .int 8]))] H := hP
  have hD : va_D A [(a0_, .inr (4, [.ref a1_, .int (4 * (nI N)), .ref a2_, .int 2, .int 1, .int 0, .int 0, .int 8, .int 8])), (a1_, .inr (10, [.ref a3_, .int 0, .ref a4_, .int 0, .ref a5_, .int 0, .ref a6_, .ref a7_, .ref a8_, .int 0, .ref a9_, .int 2, .int 8]))] := hD
  have hP9 := hP.sub (ws' := [(a0_, .inr (4, [.ref a1_, .int (4 * (nI N)), .ref a2_, .int 2, .int 1, .int 0, .int 0, .int 8, .int 8])), (a1_, .inr (10, [.ref a3_, .int 0, .ref a4_, .int 0, .ref a5_, .int 0, .ref a6_, .ref a7_, .ref a8_, .int 0, .ref a9_, .int 2, .int 8]))]) [0, 1] rfl
  have hD9 := hD.sub (ws' := [(a0_, .inr (4, [.ref a1_, .int (4 * (nI N)), .ref a2_, .int 2, .int 1, .int 0, .int 0, .int 8, .int 8])), (a1_, .inr (10, [.ref a3_, .int 0, .ref a4_, .int 0, .ref a5_, .int 0, .ref a6_, .ref a7_, .ref a8_, .int 0, .ref a9_, .int 2, .int 8]))]) [0, 1] (by decide) rfl
  refine W.widen (k := 0) (n := 0) (by omega) (by omega) ?_
  exact W.vret hx hb hr (fun t ht9 hW => ⟨⟨(), rfl, trivial, by rw [ht9]; exact hP9, hD9⟩, hS.F ht9⟩) hS.2.2 dX0_placeGlobals_58
set_option maxHeartbeats 4000000 in
set_option maxRecDepth 100000 in
theorem c_X0_layAll_2 (l : Launch) (dC : Nat → ClassId) (dI : Nat → Nat → Nat) (cI cB cZ cJ cR : ClassId) (tb : Nat → Nat) (sz : Nat) (a0_ : Nat) (a1_ : Nat) (N : Nat) (a2_ : Nat) (a3_ : Nat) (a4_ : Nat) (a5_ : Nat) (a6_ : Nat) (a7_ : Nat) (a8_ : Nat) (a9_ : Nat) (hf_N_0 : 256 ≤ N) (hf_N_1 : N ≤ 4096) : Met l yX0_layAll (Cond.code yX0_layAll cX0_layAll 2 none :: tw_W) ({ frames := 2, cells := 0, slots := 0, locals := 45 }) (pc_ (dC, dI) (tyS cI cB cZ cJ cR) tb [(a0_, .inr (4, [.ref a1_, .int (4 * (nI N)), .ref a2_, .int 2, .int 1, .int 0, .int 0, .int 8, .int 8])), (a3_, .inl (cI, N, .inl (fun _ => 0))), (a1_, .inr (10, [.ref a4_, .int 0, .ref a5_, .int 0, .ref a6_, .int 0, .ref a7_, .ref a8_, .ref a9_, .int 0, .ref a3_, .int 2, .int 8]))] sz [.ref a0_]) (qv_ (dC, dI) [(a0_, .inr (4, [.ref a1_, .int (4 * (nI N)), .ref a2_, .int 2, .int 1, .int 0, .int 0, .int 8, .int 8])), (a3_, .inl (cI, N, .inl (fun _ => 0))), (a1_, .inr (10, [.ref a4_, .int 0, .ref a5_, .int 0, .ref a6_, .int 0, .ref a7_, .ref a8_, .ref a9_, .int 0, .ref a3_, .int 2, .int 8]))] sz (fun (u : Unit) => True) (fun (u : Unit) => [(a3_, .inl (cI, N, .inl (upd (upd (fun _ => 0) 0 2195) 1 1048691))), (a0_, .inr (4, [.ref a1_, .int (4 * (nI N)), .ref a2_, .int 2, .int 1, .int 0, .int 0, .int 8, .int 8])), (a1_, .inr (10, [.ref a4_, .int 0, .ref a5_, .int 0, .ref a6_, .int 0, .ref a7_, .ref a8_, .ref a9_, .int 0, .ref a3_, .int 2, .int 8]))])) 0 0 (va_A [(a0_, .inr (4, [.ref a1_, .int (4 * (nI N)), .ref a2_, .int 2, .int 1, .int 0, .int 0, .int 8, .int 8])), (a3_, .inl (cI, N, .inl (fun _ => 0))), (a1_, .inr (10, [.ref a4_, .int 0, .ref a5_, .int 0, .ref a6_, .int 0, .ref a7_, .ref a8_, .ref a9_, .int 0, .ref a3_, .int 2, .int 8]))] sz) := by
  refine Met.ofW (cc := cX0_layAll) (maxL := 2) (ret := none) (by decide) rfl ?_
  intro p e s m args below meth c s₁ B hml hv
  obtain ⟨rfl, hsz, hP, hKK, hD0, hFx⟩ := hv
  have hK := hKK.1
  have hx := B.exec
  have hb := B.bytes
  have hr := B.returns
  have ht : ∀ w ∈ tw_W, w.before _ s = true := fun w h => atoms_spec (ws := Cond.code yX0_layAll cX0_layAll 2 none :: tw_W) B.pre w (List.mem_cons_of_mem _ h)
  have hown : s.vm.findClass RX0 = some m.cls := findClass_of_methodNamed B.named
  have hlocks := B.notSynchronized
  subst hsz
  unfold qv_
  have hD := hD0.self (sz := s.heap.size)
  generalize hAe : va_A [(a0_, .inr (4, [.ref a1_, .int (4 * (nI N)), .ref a2_, .int 2, .int 1, .int 0, .int 0, .int 8, .int 8])), (a3_, .inl (cI, N, .inl (fun _ => 0))), (a1_, .inr (10, [.ref a4_, .int 0, .ref a5_, .int 0, .ref a6_, .int 0, .ref a7_, .ref a8_, .ref a9_, .int 0, .ref a3_, .int 2, .int 8]))] s.heap.size = A at hD hFx ⊢
  have hA : ∀ q : Nat, s.heap.size ≤ q → A q := fun q h => by rw [← hAe]; exact Or.inr h
  have hS : va_S A s.heap s.heap [] := va_S.rf
  have hP : va_P (dC, dI) vwCl [(a0_, .inr (4, [.ref a1_, .int (4 * (nI N)), .ref a2_, .int 2, .int 1, .int 0, .int 0, .int 8, .int 8])), (a3_, .inl (cI, N, .inl (fun _ => 0))), (a1_, .inr (10, [.ref a4_, .int 0, .ref a5_, .int 0, .ref a6_, .int 0, .ref a7_, .ref a8_, .ref a9_, .int 0, .ref a3_, .int 2, .int 8]))] s.heap := hP
  have hl := lv_entry ([.ref a0_]) (n := 2) (Nat.le_of_ble_eq_true rfl)
  rw [lg_entry_eq]
  generalize (lg_sl ([.ref a0_]) ++ List.replicate (2 - (lg_sl ([.ref a0_])).length) Slot.unset).toArray = ls at hl ⊢
  have hl : lv_has ls 2 [(0, .ref a0_)] := hl
  refine lv_aload_n hx hb dX0_layAll_0 rfl (lv_at hl 0 rfl) ?_
  refine lv_iconst (v := 0) hx hb dX0_layAll_1 (by decide) ?_
  refine va_put (D := (dC, dI)) (ci := 4) (v := .int 0) (ty := .int) (C := RX0) (T := TX0) (N := 9) hx hb ht itX0 tyX0 tyX0_ok nmX0 hown hK hP hD hS 0 rfl rfl 3 (by decide) (ht _ tw_191) (fun _ h9 => h9) rfl (by decide +kernel) rfl rfl (Nat.le_of_ble_eq_true rfl) dX0_layAll_2 (fun H locs hP hD hS => ?_)
  have hP : va_P (dC, dI) vwCl [(a0_, .inr (4, [.ref a1_, .int (4 * (nI N)), .ref a2_, .int 0, .int 1, .int 0, .int 0, .int 8, .int 8])), (a3_, .inl (cI, N, .inl (fun _ => 0))), (a1_, .inr (10, [.ref a4_, .int 0, .ref a5_, .int 0, .ref a6_, .int 0, .ref a7_, .ref a8_, .ref a9_, .int 0, .ref a3_, .int 2, .int 8]))] H := hP
  have hD : va_D A [(a0_, .inr (4, [.ref a1_, .int (4 * (nI N)), .ref a2_, .int 0, .int 1, .int 0, .int 0, .int 8, .int 8])), (a3_, .inl (cI, N, .inl (fun _ => 0))), (a1_, .inr (10, [.ref a4_, .int 0, .ref a5_, .int 0, .ref a6_, .int 0, .ref a7_, .ref a8_, .ref a9_, .int 0, .ref a3_, .int 2, .int 8]))] := hD
  refine lv_aload_n hx hb dX0_layAll_5 rfl (lv_at hl 0 rfl) ?_
  refine lv_iconst (v := 0) hx hb dX0_layAll_6 (by decide) ?_
  refine va_put (D := (dC, dI)) (ci := 4) (v := .int 0) (ty := .boolean) (C := RX0) (T := TX0) (N := 9) hx hb ht itX0 tyX0 tyX0_ok nmX0 hown hK hP hD hS 0 rfl rfl 5 (by decide) (ht _ tw_192) (fun _ h9 => h9) rfl (by decide +kernel) rfl rfl (Nat.le_of_ble_eq_true rfl) dX0_layAll_7 (fun H locs hP hD hS => ?_)
  have hP : va_P (dC, dI) vwCl [(a0_, .inr (4, [.ref a1_, .int (4 * (nI N)), .ref a2_, .int 0, .int 1, .int 0, .int 0, .int 8, .int 8])), (a3_, .inl (cI, N, .inl (fun _ => 0))), (a1_, .inr (10, [.ref a4_, .int 0, .ref a5_, .int 0, .ref a6_, .int 0, .ref a7_, .ref a8_, .ref a9_, .int 0, .ref a3_, .int 2, .int 8]))] H := hP
  have hD : va_D A [(a0_, .inr (4, [.ref a1_, .int (4 * (nI N)), .ref a2_, .int 0, .int 1, .int 0, .int 0, .int 8, .int 8])), (a3_, .inl (cI, N, .inl (fun _ => 0))), (a1_, .inr (10, [.ref a4_, .int 0, .ref a5_, .int 0, .ref a6_, .int 0, .ref a7_, .ref a8_, .ref a9_, .int 0, .ref a3_, .int 2, .int 8]))] := hD
  refine lv_aload_n hx hb dX0_layAll_10 rfl (lv_at hl 0 rfl) ?_
  refine lv_iconst (v := 0) hx hb dX0_layAll_11 (by decide) ?_
  refine va_put (D := (dC, dI)) (ci := 4) (v := .int 0) (ty := .boolean) (C := RX0) (T := TX0) (N := 9) hx hb ht itX0 tyX0 tyX0_ok nmX0 hown hK hP hD hS 0 rfl rfl 6 (by decide) (ht _ tw_193) (fun _ h9 => h9) rfl (by decide +kernel) rfl rfl (Nat.le_of_ble_eq_true rfl) dX0_layAll_12 (fun H locs hP hD hS => ?_)
  have hP : va_P (dC, dI) vwCl [(a0_, .inr (4, [.ref a1_, .int (4 * (nI N)), .ref a2_, .int 0, .int 1, .int 0, .int 0, .int 8, .int 8])), (a3_, .inl (cI, N, .inl (fun _ => 0))), (a1_, .inr (10, [.ref a4_, .int 0, .ref a5_, .int 0, .ref a6_, .int 0, .ref a7_, .ref a8_, .ref a9_, .int 0, .ref a3_, .int 2, .int 8]))] H := hP
  have hD : va_D A [(a0_, .inr (4, [.ref a1_, .int (4 * (nI N)), .ref a2_, .int 0, .int 1, .int 0, .int 0, .int 8, .int 8])), (a3_, .inl (cI, N, .inl (fun _ => 0))), (a1_, .inr (10, [.ref a4_, .int 0, .ref a5_, .int 0, .ref a6_, .int 0, .ref a7_, .ref a8_, .ref a9_, .int 0, .ref a3_, .int 2, .int 8]))] := hD
  refine lv_aload_n hx hb dX0_layAll_15 rfl (lv_at hl 0 rfl) ?_
  refine lv_bipush (v := 19) hx hb dX0_layAll_16 (by decide) ?_
  refine lv_bipush (v := 17) hx hb dX0_layAll_18 (by decide) ?_
  refine lv_iconst (v := 0) hx hb dX0_layAll_20 (by decide) ?_
  refine lv_iconst (v := 0) hx hb dX0_layAll_21 (by decide) ?_
  refine ca_v (wr := []) (rn_V (n := 4) (As := [.int 19, .int 17, .int 0, .int 0]) (rest := []) hx hb hml hown ht hKK hFx hP hD hS hA (c_X0_immediate_2 l dC dI cI cB cZ cJ cR tb H.size a0_ a1_ N a2_ a3_ a4_ a5_ a6_ a7_ a8_ a9_ (by omega) (by omega)) tw_196 tw_197 (by decide +kernel) rfl rfl ⟨Nat.le_of_ble_eq_true rfl, Nat.le_of_ble_eq_true rfl⟩ [0, 1, 2] rfl (by decide) rfl rfl rfl rfl hl.1 rfl (Nat.le_of_ble_eq_true rfl) dX0_layAll_22 ⟨Nat.le_of_ble_eq_true rfl, Nat.le_of_ble_eq_true rfl⟩) hP hD hS hA (isC := [0, 1, 2]) (isR := []) rfl rfl (by decide) (by decide) (fun u H locs hw1 hP hD hS => ?_)
  have hP : va_P (dC, dI) vwCl [(a0_, .inr (4, [.ref a1_, .int (4 * (nI N)), .ref a2_, .int 1, .int 1, .int 0, .int 0, .int 8, .int 8])), (a3_, .inl (cI, N, .inl (upd (fun _ => 0) 0 2195))), (a1_, .inr (10, [.ref a4_, .int 0, .ref a5_, .int 0, .ref a6_, .int 0, .ref a7_, .ref a8_, .ref a9_, .int 0, .ref a3_, .int 2, .int 8]))] H := hP
  have hD : va_D A [(a0_, .inr (4, [.ref a1_, .int (4 * (nI N)), .ref a2_, .int 1, .int 1, .int 0, .int 0, .int 8, .int 8])), (a3_, .inl (cI, N, .inl (upd (fun _ => 0) 0 2195))), (a1_, .inr (10, [.ref a4_, .int 0, .ref a5_, .int 0, .ref a6_, .int 0, .ref a7_, .ref a8_, .ref a9_, .int 0, .ref a3_, .int 2, .int 8]))] := hD
  refine W.widen (k := 0) (n := 0) (by omega) (by omega) ?_
  refine lv_aload_n hx hb dX0_layAll_25 rfl (lv_at hl 0 rfl) ?_
  refine lv_ldc (v := 1048691) hx hb hown (ht _ tw_198) dX0_layAll_26 ?_
  refine ca_v (wr := []) (rn_V (n := 1) (As := [.int 1048691]) (rest := []) hx hb hml hown ht hKK hFx hP hD hS hA (c_X0_emit_4 l dC dI cI cB cZ cJ cR tb H.size a0_ a1_ N a2_ a3_ a4_ a5_ a6_ a7_ a8_ a9_ (by omega) (by omega)) tw_194 tw_195 (by decide +kernel) rfl rfl ⟨Nat.le_of_ble_eq_true rfl, Nat.le_of_ble_eq_true rfl⟩ [0, 1, 2] rfl (by decide) rfl rfl rfl rfl hl.1 rfl (Nat.le_of_ble_eq_true rfl) dX0_layAll_28 ⟨Nat.le_of_ble_eq_true rfl, Nat.le_of_ble_eq_true rfl⟩) hP hD hS hA (isC := [0, 1, 2]) (isR := []) rfl rfl (by decide) (by decide) (fun u H locs hw2 hP hD hS => ?_)
  have hP : va_P (dC, dI) vwCl [(a0_, .inr (4, [.ref a1_, .int (4 * (nI N)), .ref a2_, .int 2, .int 1, .int 0, .int 0, .int 8, .int 8])), (a3_, .inl (cI, N, .inl (upd (upd (fun _ => 0) 0 2195) 1 1048691))), (a1_, .inr (10, [.ref a4_, .int 0, .ref a5_, .int 0, .ref a6_, .int 0, .ref a7_, .ref a8_, .ref a9_, .int 0, .ref a3_, .int 2, .int 8]))] H := hP
  have hD : va_D A [(a0_, .inr (4, [.ref a1_, .int (4 * (nI N)), .ref a2_, .int 2, .int 1, .int 0, .int 0, .int 8, .int 8])), (a3_, .inl (cI, N, .inl (upd (upd (fun _ => 0) 0 2195) 1 1048691))), (a1_, .inr (10, [.ref a4_, .int 0, .ref a5_, .int 0, .ref a6_, .int 0, .ref a7_, .ref a8_, .ref a9_, .int 0, .ref a3_, .int 2, .int 8]))] := hD
  refine W.widen (k := 0) (n := 0) (by omega) (by omega) ?_
  refine lv_iconst (v := 0) hx hb dX0_layAll_31 (by decide) ?_
  refine lv_istore_n (lv' := [(1, .int 0), (0, .ref a0_)]) hx hb dX0_layAll_32 rfl hl (by decide) rfl (fun ls hl => ?_)
  refine lv_iload_n hx hb dX0_layAll_33 rfl (lv_at hl 0 rfl) ?_
  refine lv_aload_n hx hb dX0_layAll_34 rfl (lv_at hl 1 rfl) ?_
  refine va_get (D := (dC, dI)) (ci := 4) (v := .ref a1_) (C := RX0) (T := TX0) (N := 9) hx hb ht itX0 hown hK hP 0 rfl rfl 0 (by decide) (ht _ tw_75) (fun _ h9 => h9) rfl dX0_layAll_35 ?_
  refine va_get (D := (dC, dI)) (ci := 10) (v := .int 0) (C := RX7) (T := TX7) (N := 13) hx hb ht itX7 hown hK hP 2 rfl rfl 9 (by decide) (ht _ tw_199) (fun _ h9 => h9) rfl dX0_layAll_38 ?_
  refine lv_icmp_ge (tgt := 100) hx hb dX0_layAll_41 (by decide) (fun _ => ?_) (fun k3 => absurd k3 (by decide))
  refine lv_aload_n hx hb dX0_layAll_100 rfl (lv_at hl 1 rfl) ?_
  refine lv_iconst (v := 4) hx hb dX0_layAll_101 (by decide) ?_
  refine lv_aload_n hx hb dX0_layAll_102 rfl (lv_at hl 1 rfl) ?_
  refine va_get (D := (dC, dI)) (ci := 4) (v := .int 2) (C := RX0) (T := TX0) (N := 9) hx hb ht itX0 hown hK hP 0 rfl rfl 3 (by decide) (ht _ tw_191) (fun _ h9 => h9) rfl dX0_layAll_103 ?_
  refine lv_imul hx hb dX0_layAll_106 ?_
  refine tp_i (y := 8) (by decide) ?_
  refine va_put (D := (dC, dI)) (ci := 4) (v := .int 8) (ty := .int) (C := RX0) (T := TX0) (N := 9) hx hb ht itX0 tyX0 tyX0_ok nmX0 hown hK hP hD hS 0 rfl rfl 7 (by decide) (ht _ tw_200) (fun _ h9 => h9) rfl (by decide +kernel) rfl rfl (Nat.le_of_ble_eq_true rfl) dX0_layAll_107 (fun H locs hP hD hS => ?_)
  have hP : va_P (dC, dI) vwCl [(a0_, .inr (4, [.ref a1_, .int (4 * (nI N)), .ref a2_, .int 2, .int 1, .int 0, .int 0, .int 8, .int 8])), (a3_, .inl (cI, N, .inl (upd (upd (fun _ => 0) 0 2195) 1 1048691))), (a1_, .inr (10, [.ref a4_, .int 0, .ref a5_, .int 0, .ref a6_, .int 0, .ref a7_, .ref a8_, .ref a9_, .int 0, .ref a3_, .int 2, .int 8]))] H := hP
  have hD : va_D A [(a0_, .inr (4, [.ref a1_, .int (4 * (nI N)), .ref a2_, .int 2, .int 1, .int 0, .int 0, .int 8, .int 8])), (a3_, .inl (cI, N, .inl (upd (upd (fun _ => 0) 0 2195) 1 1048691))), (a1_, .inr (10, [.ref a4_, .int 0, .ref a5_, .int 0, .ref a6_, .int 0, .ref a7_, .ref a8_, .ref a9_, .int 0, .ref a3_, .int 2, .int 8]))] := hD
  refine lv_aload_n hx hb dX0_layAll_110 rfl (lv_at hl 1 rfl) ?_
  refine va_get (D := (dC, dI)) (ci := 4) (v := .int 0) (C := RX0) (T := TX0) (N := 9) hx hb ht itX0 hown hK hP 0 rfl rfl 5 (by decide) (ht _ tw_192) (fun _ h9 => h9) rfl dX0_layAll_111 ?_
  refine lv_if_eq (tgt := 121) hx hb dX0_layAll_114 (by decide) (fun _ => ?_) (fun k4 => absurd k4 (by decide))
  refine lv_aload_n hx hb dX0_layAll_121 rfl (lv_at hl 1 rfl) ?_
  refine lv_iconst (v := 4) hx hb dX0_layAll_122 (by decide) ?_
  refine lv_aload_n hx hb dX0_layAll_123 rfl (lv_at hl 1 rfl) ?_
  refine va_get (D := (dC, dI)) (ci := 4) (v := .int 2) (C := RX0) (T := TX0) (N := 9) hx hb ht itX0 hown hK hP 0 rfl rfl 3 (by decide) (ht _ tw_191) (fun _ h9 => h9) rfl dX0_layAll_124 ?_
  refine lv_imul hx hb dX0_layAll_127 ?_
  refine tp_i (y := 8) (by decide) ?_
  refine va_put (D := (dC, dI)) (ci := 4) (v := .int 8) (ty := .int) (C := RX0) (T := TX0) (N := 9) hx hb ht itX0 tyX0 tyX0_ok nmX0 hown hK hP hD hS 0 rfl rfl 8 (by decide) (ht _ tw_201) (fun _ h9 => h9) rfl (by decide +kernel) rfl rfl (Nat.le_of_ble_eq_true rfl) dX0_layAll_128 (fun H locs hP hD hS => ?_)
  have hP : va_P (dC, dI) vwCl [(a0_, .inr (4, [.ref a1_, .int (4 * (nI N)), .ref a2_, .int 2, .int 1, .int 0, .int 0, .int 8, .int 8])), (a3_, .inl (cI, N, .inl (upd (upd (fun _ => 0) 0 2195) 1 1048691))), (a1_, .inr (10, [.ref a4_, .int 0, .ref a5_, .int 0, .ref a6_, .int 0, .ref a7_, .ref a8_, .ref a9_, .int 0, .ref a3_, .int 2, .int 8]))] H := hP
  have hD : va_D A [(a0_, .inr (4, [.ref a1_, .int (4 * (nI N)), .ref a2_, .int 2, .int 1, .int 0, .int 0, .int 8, .int 8])), (a3_, .inl (cI, N, .inl (upd (upd (fun _ => 0) 0 2195) 1 1048691))), (a1_, .inr (10, [.ref a4_, .int 0, .ref a5_, .int 0, .ref a6_, .int 0, .ref a7_, .ref a8_, .ref a9_, .int 0, .ref a3_, .int 2, .int 8]))] := hD
  refine lv_aload_n hx hb dX0_layAll_131 rfl (lv_at hl 1 rfl) ?_
  refine va_get (D := (dC, dI)) (ci := 4) (v := .int 0) (C := RX0) (T := TX0) (N := 9) hx hb ht itX0 hown hK hP 0 rfl rfl 6 (by decide) (ht _ tw_193) (fun _ h9 => h9) rfl dX0_layAll_132 ?_
  refine lv_if_eq (tgt := 142) hx hb dX0_layAll_135 (by decide) (fun _ => ?_) (fun k5 => absurd k5 (by decide))
  refine lv_aload_n hx hb dX0_layAll_142 rfl (lv_at hl 1 rfl) ?_
  refine va_get (D := (dC, dI)) (ci := 4) (v := .ref a1_) (C := RX0) (T := TX0) (N := 9) hx hb ht itX0 hown hK hP 0 rfl rfl 0 (by decide) (ht _ tw_75) (fun _ h9 => h9) rfl dX0_layAll_143 ?_
  refine lv_aload_n hx hb dX0_layAll_146 rfl (lv_at hl 1 rfl) ?_
  refine va_get (D := (dC, dI)) (ci := 4) (v := .int 2) (C := RX0) (T := TX0) (N := 9) hx hb ht itX0 hown hK hP 0 rfl rfl 3 (by decide) (ht _ tw_191) (fun _ h9 => h9) rfl dX0_layAll_147 ?_
  refine va_put (D := (dC, dI)) (ci := 10) (v := .int 2) (ty := .int) (C := RX7) (T := TX7) (N := 13) hx hb ht itX7 tyX7 tyX7_ok nmX7 hown hK hP hD hS 2 rfl rfl 11 (by decide) (ht _ tw_202) (fun _ h9 => h9) rfl (by decide +kernel) rfl rfl (Nat.le_of_ble_eq_true rfl) dX0_layAll_150 (fun H locs hP hD hS => ?_)
  have hP : va_P (dC, dI) vwCl [(a0_, .inr (4, [.ref a1_, .int (4 * (nI N)), .ref a2_, .int 2, .int 1, .int 0, .int 0, .int 8, .int 8])), (a3_, .inl (cI, N, .inl (upd (upd (fun _ => 0) 0 2195) 1 1048691))), (a1_, .inr (10, [.ref a4_, .int 0, .ref a5_, .int 0, .ref a6_, .int 0, .ref a7_, .ref a8_, .ref a9_, .int 0, .ref a3_, .int 2, .int 8]))] H := hP
  have hD : va_D A [(a0_, .inr (4, [.ref a1_, .int (4 * (nI N)), .ref a2_, .int 2, .int 1, .int 0, .int 0, .int 8, .int 8])), (a3_, .inl (cI, N, .inl (upd (upd (fun _ => 0) 0 2195) 1 1048691))), (a1_, .inr (10, [.ref a4_, .int 0, .ref a5_, .int 0, .ref a6_, .int 0, .ref a7_, .ref a8_, .ref a9_, .int 0, .ref a3_, .int 2, .int 8]))] := hD
  refine lv_aload_n hx hb dX0_layAll_153 rfl (lv_at hl 1 rfl) ?_
  refine ca_v (wr := [(a3_, .inl (cI, N, .inl (upd (upd (fun _ => 0) 0 2195) 1 1048691)))]) (rn_V (n := 0) (As := []) (rest := []) hx hb hml hown ht hKK hFx hP hD hS hA (c_X0_placeGlobals_2 l dC dI cI cB cZ cJ cR tb H.size a0_ a1_ N a2_ a4_ a5_ a6_ a7_ a8_ a9_ a3_ (by omega) (by omega)) tw_205 tw_206 (by decide +kernel) rfl rfl ⟨Nat.le_of_ble_eq_true rfl, Nat.le_of_ble_eq_true rfl⟩ [0, 2] rfl (by decide) rfl rfl rfl rfl hl.1 rfl (Nat.le_of_ble_eq_true rfl) dX0_layAll_154 ⟨Nat.le_of_ble_eq_true rfl, Nat.le_of_ble_eq_true rfl⟩) hP hD hS hA (isC := [0, 2]) (isR := [1]) rfl rfl (by decide) (by decide) (fun u H locs hw6 hP hD hS => ?_)
  have hP : va_P (dC, dI) vwCl [(a3_, .inl (cI, N, .inl (upd (upd (fun _ => 0) 0 2195) 1 1048691))), (a0_, .inr (4, [.ref a1_, .int (4 * (nI N)), .ref a2_, .int 2, .int 1, .int 0, .int 0, .int 8, .int 8])), (a1_, .inr (10, [.ref a4_, .int 0, .ref a5_, .int 0, .ref a6_, .int 0, .ref a7_, .ref a8_, .ref a9_, .int 0, .ref a3_, .int 2, .int 8]))] H := hP
  have hD : va_D A [(a3_, .inl (cI, N, .inl (upd (upd (fun _ => 0) 0 2195) 1 1048691))), (a0_, .inr (4, [.ref a1_, .int (4 * (nI N)), .ref a2_, .int 2, .int 1, .int 0, .int 0, .int 8, .int 8])), (a1_, .inr (10, [.ref a4_, .int 0, .ref a5_, .int 0, .ref a6_, .int 0, .ref a7_, .ref a8_, .ref a9_, .int 0, .ref a3_, .int 2, .int 8]))] := hD
  refine W.widen (k := 0) (n := 0) (by omega) (by omega) ?_
  have hP9 := hP.sub (ws' := [(a3_, .inl (cI, N, .inl (upd (upd (fun _ => 0) 0 2195) 1 1048691))), (a0_, .inr (4, [.ref a1_, .int (4 * (nI N)), .ref a2_, .int 2, .int 1, .int 0, .int 0, .int 8, .int 8])), (a1_, .inr (10, [.ref a4_, .int 0, .ref a5_, .int 0, .ref a6_, .int 0, .ref a7_, .ref a8_, .ref a9_, .int 0, .ref a3_, .int 2, .int 8]))]) [0, 1, 2] rfl
  have hD9 := hD.sub (ws' := [(a3_, .inl (cI, N, .inl (upd (upd (fun _ => 0) 0 2195) 1 1048691))), (a0_, .inr (4, [.ref a1_, .int (4 * (nI N)), .ref a2_, .int 2, .int 1, .int 0, .int 0, .int 8, .int 8])), (a1_, .inr (10, [.ref a4_, .int 0, .ref a5_, .int 0, .ref a6_, .int 0, .ref a7_, .ref a8_, .ref a9_, .int 0, .ref a3_, .int 2, .int 8]))]) [0, 1, 2] (by decide) rfl
  refine W.widen (k := 0) (n := 0) (by omega) (by omega) ?_
  exact W.vret hx hb hr (fun t ht9 hW => ⟨⟨(), rfl, trivial, by rw [ht9]; exact hP9, hD9⟩, hS.F ht9⟩) hS.2.2 dX0_layAll_157
set_option maxHeartbeats 4000000 in
set_option maxRecDepth 100000 in
theorem c_X0_assemble (l : Launch) (dC : Nat → ClassId) (dI : Nat → Nat → Nat) (cI cB cZ cJ cR : ClassId) (tb : Nat → Nat) (sz : Nat) (a0_ : Nat) (a1_ : Nat) (N : Nat) (a2_ : Nat) (a3_ : Nat) (a4_ : Nat) (a5_ : Nat) (a6_ : Nat) (a7_ : Nat) (a8_ : Nat) (a9_ : Nat) (hf_N_0 : 256 ≤ N) (hf_N_1 : N ≤ 4096) : Met l yX0_assemble (Cond.code yX0_assemble cX0_assemble 2 (some .boolean) :: tw_W) ({ frames := 3, cells := 0, slots := 0, locals := 66 }) (pc_ (dC, dI) (tyS cI cB cZ cJ cR) tb [(a0_, .inr (4, [.ref a1_, .int (4 * (nI N)), .ref a2_, .int 0, .int 0, .int 0, .int 0, .int 0, .int 0])), (a3_, .inl (cI, N, .inl (fun _ => 0))), (a1_, .inr (10, [.ref a4_, .int 0, .ref a5_, .int 0, .ref a6_, .int 0, .ref a7_, .ref a8_, .ref a9_, .int 0, .ref a3_, .int 0, .int 0]))] sz [.ref a0_, .ref a1_]) (qi_ (dC, dI) [(a0_, .inr (4, [.ref a1_, .int (4 * (nI N)), .ref a2_, .int 0, .int 0, .int 0, .int 0, .int 0, .int 0])), (a3_, .inl (cI, N, .inl (fun _ => 0))), (a1_, .inr (10, [.ref a4_, .int 0, .ref a5_, .int 0, .ref a6_, .int 0, .ref a7_, .ref a8_, .ref a9_, .int 0, .ref a3_, .int 0, .int 0]))] sz (fun (r : Int32) (u : Unit) => r = 1) (fun (u : Unit) => [(a3_, .inl (cI, N, .inl (upd (upd (fun _ => 0) 0 2195) 1 1048691))), (a0_, .inr (4, [.ref a1_, .int (4 * (nI N)), .ref a2_, .int 2, .int 1, .int 0, .int 0, .int 8, .int 8])), (a1_, .inr (10, [.ref a4_, .int 0, .ref a5_, .int 0, .ref a6_, .int 0, .ref a7_, .ref a8_, .ref a9_, .int 0, .ref a3_, .int 2, .int 8]))])) 0 0 (va_A [(a0_, .inr (4, [.ref a1_, .int (4 * (nI N)), .ref a2_, .int 0, .int 0, .int 0, .int 0, .int 0, .int 0])), (a3_, .inl (cI, N, .inl (fun _ => 0))), (a1_, .inr (10, [.ref a4_, .int 0, .ref a5_, .int 0, .ref a6_, .int 0, .ref a7_, .ref a8_, .ref a9_, .int 0, .ref a3_, .int 0, .int 0]))] sz) := by
  refine Met.ofW (cc := cX0_assemble) (maxL := 2) (ret := (some .boolean)) (by decide) rfl ?_
  intro p e s m args below meth c s₁ B hml hv
  obtain ⟨rfl, hsz, hP, hKK, hD0, hFx⟩ := hv
  have hK := hKK.1
  have hx := B.exec
  have hb := B.bytes
  have hr := B.returns
  have ht : ∀ w ∈ tw_W, w.before _ s = true := fun w h => atoms_spec (ws := Cond.code yX0_assemble cX0_assemble 2 (some .boolean) :: tw_W) B.pre w (List.mem_cons_of_mem _ h)
  have hown : s.vm.findClass RX0 = some m.cls := findClass_of_methodNamed B.named
  have hlocks := B.notSynchronized
  subst hsz
  unfold qi_
  have hD := hD0.self (sz := s.heap.size)
  generalize hAe : va_A [(a0_, .inr (4, [.ref a1_, .int (4 * (nI N)), .ref a2_, .int 0, .int 0, .int 0, .int 0, .int 0, .int 0])), (a3_, .inl (cI, N, .inl (fun _ => 0))), (a1_, .inr (10, [.ref a4_, .int 0, .ref a5_, .int 0, .ref a6_, .int 0, .ref a7_, .ref a8_, .ref a9_, .int 0, .ref a3_, .int 0, .int 0]))] s.heap.size = A at hD hFx ⊢
  have hA : ∀ q : Nat, s.heap.size ≤ q → A q := fun q h => by rw [← hAe]; exact Or.inr h
  have hS : va_S A s.heap s.heap [] := va_S.rf
  have hP : va_P (dC, dI) vwCl [(a0_, .inr (4, [.ref a1_, .int (4 * (nI N)), .ref a2_, .int 0, .int 0, .int 0, .int 0, .int 0, .int 0])), (a3_, .inl (cI, N, .inl (fun _ => 0))), (a1_, .inr (10, [.ref a4_, .int 0, .ref a5_, .int 0, .ref a6_, .int 0, .ref a7_, .ref a8_, .ref a9_, .int 0, .ref a3_, .int 0, .int 0]))] s.heap := hP
  have hl := lv_entry ([.ref a0_, .ref a1_]) (n := 2) (Nat.le_of_ble_eq_true rfl)
  rw [lg_entry_eq]
  generalize (lg_sl ([.ref a0_, .ref a1_]) ++ List.replicate (2 - (lg_sl ([.ref a0_, .ref a1_])).length) Slot.unset).toArray = ls at hl ⊢
  have hl : lv_has ls 2 [(0, .ref a0_), (1, .ref a1_)] := hl
  refine lv_aload_n hx hb dX0_assemble_0 rfl (lv_at hl 0 rfl) ?_
  refine lv_aload_n hx hb dX0_assemble_1 rfl (lv_at hl 1 rfl) ?_
  refine va_put (D := (dC, dI)) (ci := 4) (v := .ref a1_) (ty := .object "PocketCompiler$Program") (C := RX0) (T := TX0) (N := 9) hx hb ht itX0 tyX0 tyX0_ok nmX0 hown hK hP hD hS 0 rfl rfl 0 (by decide) (ht _ tw_75) (fun _ h9 => h9) rfl (by decide +kernel) rfl rfl (Nat.le_of_ble_eq_true rfl) dX0_assemble_2 (fun H locs hP hD hS => ?_)
  have hP : va_P (dC, dI) vwCl [(a0_, .inr (4, [.ref a1_, .int (4 * (nI N)), .ref a2_, .int 0, .int 0, .int 0, .int 0, .int 0, .int 0])), (a3_, .inl (cI, N, .inl (fun _ => 0))), (a1_, .inr (10, [.ref a4_, .int 0, .ref a5_, .int 0, .ref a6_, .int 0, .ref a7_, .ref a8_, .ref a9_, .int 0, .ref a3_, .int 0, .int 0]))] H := hP
  have hD : va_D A [(a0_, .inr (4, [.ref a1_, .int (4 * (nI N)), .ref a2_, .int 0, .int 0, .int 0, .int 0, .int 0, .int 0])), (a3_, .inl (cI, N, .inl (fun _ => 0))), (a1_, .inr (10, [.ref a4_, .int 0, .ref a5_, .int 0, .ref a6_, .int 0, .ref a7_, .ref a8_, .ref a9_, .int 0, .ref a3_, .int 0, .int 0]))] := hD
  refine lv_aload_n hx hb dX0_assemble_5 rfl (lv_at hl 0 rfl) ?_
  refine lv_iconst (v := 0) hx hb dX0_assemble_6 (by decide) ?_
  refine va_put (D := (dC, dI)) (ci := 4) (v := .int 0) (ty := .boolean) (C := RX0) (T := TX0) (N := 9) hx hb ht itX0 tyX0 tyX0_ok nmX0 hown hK hP hD hS 0 rfl rfl 4 (by decide) (ht _ tw_190) (fun _ h9 => h9) rfl (by decide +kernel) rfl rfl (Nat.le_of_ble_eq_true rfl) dX0_assemble_7 (fun H locs hP hD hS => ?_)
  have hP : va_P (dC, dI) vwCl [(a0_, .inr (4, [.ref a1_, .int (4 * (nI N)), .ref a2_, .int 0, .int 0, .int 0, .int 0, .int 0, .int 0])), (a3_, .inl (cI, N, .inl (fun _ => 0))), (a1_, .inr (10, [.ref a4_, .int 0, .ref a5_, .int 0, .ref a6_, .int 0, .ref a7_, .ref a8_, .ref a9_, .int 0, .ref a3_, .int 0, .int 0]))] H := hP
  have hD : va_D A [(a0_, .inr (4, [.ref a1_, .int (4 * (nI N)), .ref a2_, .int 0, .int 0, .int 0, .int 0, .int 0, .int 0])), (a3_, .inl (cI, N, .inl (fun _ => 0))), (a1_, .inr (10, [.ref a4_, .int 0, .ref a5_, .int 0, .ref a6_, .int 0, .ref a7_, .ref a8_, .ref a9_, .int 0, .ref a3_, .int 0, .int 0]))] := hD
  refine lv_aload_n hx hb dX0_assemble_10 rfl (lv_at hl 0 rfl) ?_
  refine ca_v (wr := [(a3_, .inl (cI, N, .inl (fun _ => 0)))]) (rn_V (n := 0) (As := []) (rest := []) hx hb hml hown ht hKK hFx hP hD hS hA (c_X0_layAll l dC dI cI cB cZ cJ cR tb H.size a0_ a1_ N a2_ a4_ a5_ a6_ a7_ a8_ a9_ a3_ (by omega) (by omega)) tw_207 tw_208 (by decide +kernel) rfl rfl ⟨Nat.le_of_ble_eq_true rfl, Nat.le_of_ble_eq_true rfl⟩ [0, 2] rfl (by decide) rfl rfl rfl rfl hl.1 rfl (Nat.le_of_ble_eq_true rfl) dX0_assemble_11 ⟨Nat.le_of_ble_eq_true rfl, Nat.le_of_ble_eq_true rfl⟩) hP hD hS hA (isC := [0, 2]) (isR := [1]) rfl rfl (by decide) (by decide) (fun u H locs hw1 hP hD hS => ?_)
  have hP : va_P (dC, dI) vwCl [(a3_, .inl (cI, N, .inl (fun _ => 0))), (a0_, .inr (4, [.ref a1_, .int (4 * (nI N)), .ref a2_, .int 2, .int 0, .int 0, .int 0, .int 8, .int 8])), (a1_, .inr (10, [.ref a4_, .int 0, .ref a5_, .int 0, .ref a6_, .int 0, .ref a7_, .ref a8_, .ref a9_, .int 0, .ref a3_, .int 2, .int 8]))] H := hP
  have hD : va_D A [(a3_, .inl (cI, N, .inl (fun _ => 0))), (a0_, .inr (4, [.ref a1_, .int (4 * (nI N)), .ref a2_, .int 2, .int 0, .int 0, .int 0, .int 8, .int 8])), (a1_, .inr (10, [.ref a4_, .int 0, .ref a5_, .int 0, .ref a6_, .int 0, .ref a7_, .ref a8_, .ref a9_, .int 0, .ref a3_, .int 2, .int 8]))] := hD
  refine W.widen (k := 0) (n := 0) (by omega) (by omega) ?_
  refine lv_aload_n hx hb dX0_assemble_14 rfl (lv_at hl 0 rfl) ?_
  refine va_get (D := (dC, dI)) (ci := 4) (v := .ref a1_) (C := RX0) (T := TX0) (N := 9) hx hb ht itX0 hown hK hP 1 rfl rfl 0 (by decide) (ht _ tw_75) (fun _ h9 => h9) rfl dX0_assemble_15 ?_
  refine va_get (D := (dC, dI)) (ci := 10) (v := .int 8) (C := RX7) (T := TX7) (N := 13) hx hb ht itX7 hown hK hP 2 rfl rfl 12 (by decide) (ht _ tw_204) (fun _ h9 => h9) rfl dX0_assemble_18 ?_
  refine lv_bipush (v := 64) hx hb dX0_assemble_21 (by decide) ?_
  refine lv_iadd hx hb dX0_assemble_23 ?_
  refine tp_i (y := 72) (by decide) ?_
  refine lv_aload_n hx hb dX0_assemble_24 rfl (lv_at hl 0 rfl) ?_
  refine va_get (D := (dC, dI)) (ci := 4) (v := .int (4 * (nI N))) (C := RX0) (T := TX0) (N := 9) hx hb ht itX0 hown hK hP 1 rfl rfl 1 (by decide) (ht _ tw_76) (fun _ h9 => h9) rfl dX0_assemble_25 ?_
  refine lv_icmp_le (tgt := 33) hx hb dX0_assemble_28 (by decide) (fun _ => ?_) (fun k2 => absurd (le_4 (j := 72) (by decide) (by omega) (by omega)) k2)
  refine lv_aload_n hx hb dX0_assemble_33 rfl (lv_at hl 0 rfl) ?_
  refine lv_iconst (v := 1) hx hb dX0_assemble_34 (by decide) ?_
  refine va_put (D := (dC, dI)) (ci := 4) (v := .int 1) (ty := .boolean) (C := RX0) (T := TX0) (N := 9) hx hb ht itX0 tyX0 tyX0_ok nmX0 hown hK hP hD hS 1 rfl rfl 4 (by decide) (ht _ tw_190) (fun _ h9 => h9) rfl (by decide +kernel) rfl rfl (Nat.le_of_ble_eq_true rfl) dX0_assemble_35 (fun H locs hP hD hS => ?_)
  have hP : va_P (dC, dI) vwCl [(a3_, .inl (cI, N, .inl (fun _ => 0))), (a0_, .inr (4, [.ref a1_, .int (4 * (nI N)), .ref a2_, .int 2, .int 1, .int 0, .int 0, .int 8, .int 8])), (a1_, .inr (10, [.ref a4_, .int 0, .ref a5_, .int 0, .ref a6_, .int 0, .ref a7_, .ref a8_, .ref a9_, .int 0, .ref a3_, .int 2, .int 8]))] H := hP
  have hD : va_D A [(a3_, .inl (cI, N, .inl (fun _ => 0))), (a0_, .inr (4, [.ref a1_, .int (4 * (nI N)), .ref a2_, .int 2, .int 1, .int 0, .int 0, .int 8, .int 8])), (a1_, .inr (10, [.ref a4_, .int 0, .ref a5_, .int 0, .ref a6_, .int 0, .ref a7_, .ref a8_, .ref a9_, .int 0, .ref a3_, .int 2, .int 8]))] := hD
  refine lv_aload_n hx hb dX0_assemble_38 rfl (lv_at hl 0 rfl) ?_
  refine ca_v (wr := []) (rn_V (n := 0) (As := []) (rest := []) hx hb hml hown ht hKK hFx hP hD hS hA (c_X0_layAll_2 l dC dI cI cB cZ cJ cR tb H.size a0_ a1_ N a2_ a3_ a4_ a5_ a6_ a7_ a8_ a9_ (by omega) (by omega)) tw_207 tw_208 (by decide +kernel) rfl rfl ⟨Nat.le_of_ble_eq_true rfl, Nat.le_of_ble_eq_true rfl⟩ [1, 0, 2] rfl (by decide) rfl rfl rfl rfl hl.1 rfl (Nat.le_of_ble_eq_true rfl) dX0_assemble_39 ⟨Nat.le_of_ble_eq_true rfl, Nat.le_of_ble_eq_true rfl⟩) hP hD hS hA (isC := [1, 0, 2]) (isR := []) rfl rfl (by decide) (by decide) (fun u H locs hw3 hP hD hS => ?_)
  have hP : va_P (dC, dI) vwCl [(a3_, .inl (cI, N, .inl (upd (upd (fun _ => 0) 0 2195) 1 1048691))), (a0_, .inr (4, [.ref a1_, .int (4 * (nI N)), .ref a2_, .int 2, .int 1, .int 0, .int 0, .int 8, .int 8])), (a1_, .inr (10, [.ref a4_, .int 0, .ref a5_, .int 0, .ref a6_, .int 0, .ref a7_, .ref a8_, .ref a9_, .int 0, .ref a3_, .int 2, .int 8]))] H := hP
  have hD : va_D A [(a3_, .inl (cI, N, .inl (upd (upd (fun _ => 0) 0 2195) 1 1048691))), (a0_, .inr (4, [.ref a1_, .int (4 * (nI N)), .ref a2_, .int 2, .int 1, .int 0, .int 0, .int 8, .int 8])), (a1_, .inr (10, [.ref a4_, .int 0, .ref a5_, .int 0, .ref a6_, .int 0, .ref a7_, .ref a8_, .ref a9_, .int 0, .ref a3_, .int 2, .int 8]))] := hD
  refine W.widen (k := 0) (n := 0) (by omega) (by omega) ?_
  refine lv_iconst (v := 1) hx hb dX0_assemble_42 (by decide) ?_
  have hP9 := hP.sub (ws' := [(a3_, .inl (cI, N, .inl (upd (upd (fun _ => 0) 0 2195) 1 1048691))), (a0_, .inr (4, [.ref a1_, .int (4 * (nI N)), .ref a2_, .int 2, .int 1, .int 0, .int 0, .int 8, .int 8])), (a1_, .inr (10, [.ref a4_, .int 0, .ref a5_, .int 0, .ref a6_, .int 0, .ref a7_, .ref a8_, .ref a9_, .int 0, .ref a3_, .int 2, .int 8]))]) [0, 1, 2] rfl
  have hD9 := hD.sub (ws' := [(a3_, .inl (cI, N, .inl (upd (upd (fun _ => 0) 0 2195) 1 1048691))), (a0_, .inr (4, [.ref a1_, .int (4 * (nI N)), .ref a2_, .int 2, .int 1, .int 0, .int 0, .int 8, .int 8])), (a1_, .inr (10, [.ref a4_, .int 0, .ref a5_, .int 0, .ref a6_, .int 0, .ref a7_, .ref a8_, .ref a9_, .int 0, .ref a3_, .int 2, .int 8]))]) [0, 1, 2] (by decide) rfl
  refine W.widen (k := 0) (n := 0) (by omega) (by omega) ?_
  exact W.zret (v := 1) hx hb hr rfl (fun t ht9 hW => ⟨⟨1, (), rfl, rfl, by rw [ht9]; exact hP9, hD9⟩, hS.F ht9⟩) hS.2.2 dX0_assemble_43
set_option maxHeartbeats 4000000 in
set_option maxRecDepth 100000 in
/-- PocketCompiler(w) -/
theorem c_X11_init (l : Launch) (dC : Nat → ClassId) (dI : Nat → Nat → Nat) (cI cB cZ cJ cR : ClassId) (tb : Nat → Nat) (sz : Nat) (h0 : Nat) (w : Int32) (N : Nat) (hN1 : 256 ≤ N) (hN2 : N ≤ 4096) (hNw : N = sizeW w) : Met l yX11_init (Cond.code yX11_init cX11_init 3 none :: tw_W) ({ frames := 4, cells := 246, slots := 64284, locals := 92 }) (pc_ (dC, dI) (tyS cI cB cZ cJ cR) tb [(h0, .inr (14, [.null, .int 0, .null, .null, .null, .null, .int 0, .int 0, .null, .null, .null, .null]))] sz [.ref h0, .int w]) (qv_ (dC, dI) [(h0, .inr (14, [.null, .int 0, .null, .null, .null, .null, .int 0, .int 0, .null, .null, .null, .null]))] sz (fun (u : Nat × Nat × Nat × Nat × Nat × Nat × Nat × Nat × Nat × Nat × Nat × Nat × Nat × Nat × Nat × Nat × Nat × Nat × Nat × Nat × Nat × Nat × Nat × Nat × Nat × Nat × Nat × Nat × Nat × Nat × Nat × Nat × Nat × Nat × Nat × Nat × Nat × Nat × Nat × Nat × Nat × Nat × Nat × Nat × Nat × Nat) => True) (fun (u : Nat × Nat × Nat × Nat × Nat × Nat × Nat × Nat × Nat × Nat × Nat × Nat × Nat × Nat × Nat × Nat × Nat × Nat × Nat × Nat × Nat × Nat × Nat × Nat × Nat × Nat × Nat × Nat × Nat × Nat × Nat × Nat × Nat × Nat × Nat × Nat × Nat × Nat × Nat × Nat × Nat × Nat × Nat × Nat × Nat × Nat) => [(h0, .inr (14, [.ref u.1, .int 0, .ref u.2.1, .ref u.2.2.1, .ref u.2.2.2.1, .ref u.2.2.2.2.1, .int 0, .int (-1), .ref u.2.2.2.2.2.1, .ref u.2.2.2.2.2.2.1, .ref u.2.2.2.2.2.2.2.1, .ref u.2.2.2.2.2.2.2.2.1])), (u.1, .inl (cI, 4000, .inl (fun _ => 0))), (u.2.2.2.2.2.1, .inr (7, [.ref u.2.2.2.2.2.2.2.2.2.1, .int 0, .int 0])), (u.2.2.2.2.2.2.2.2.2.1, .inl (cI, 64, .inl (fun _ => 0))), (u.2.2.2.2.2.2.2.2.1, .inr (11, [.ref u.2.2.2.2.2.2.2.2.2.2.1])), (u.2.2.2.2.2.2.2.2.2.2.1, .inr (1, [.ref u.2.2.2.2.2.2.2.2.2.2.2.1, .int 0, .int 0, .int 0])), (u.2.2.2.2.2.2.2.2.2.2.2.1, .inl (cB, 16, .inl (fun _ => 0))), (u.2.2.2.2.2.2.2.2.2.2.2.2.1, .inl (cI, 4000, .inl (fun _ => 0))), (u.2.2.1, .inr (10, [.ref u.2.2.2.2.2.2.2.2.2.2.2.2.2.1, .int 0, .ref u.2.2.2.2.2.2.2.2.2.2.2.2.2.2.1, .int 0, .ref u.2.2.2.2.2.2.2.2.2.2.2.2.2.2.2.1, .int 0, .ref u.2.2.2.2.2.2.2.2.2.2.2.2.2.2.2.2.1, .ref u.2.2.2.2.2.2.2.2.2.2.2.2.2.2.2.2.2.1, .ref u.2.2.2.2.2.2.2.2.2.2.2.2.2.2.2.2.2.2.1, .int 0, .ref u.2.2.2.2.2.2.2.2.2.2.2.2.2.2.2.2.2.2.2.1, .int 0, .int 0])), (u.2.2.2.2.2.2.2.2.2.2.2.2.2.1, .inl (cI, 4000, .inl (fun _ => 0))), (u.2.2.2.2.2.2.2.2.2.2.2.2.2.2.2.2.2.2.2.1, .inl (cI, N, .inl (fun _ => 0))), (u.2.2.2.2.2.2.1, .inr (9, [.ref u.2.2.2.2.2.2.2.2.2.2.2.2.2.2.2.2.2.2.2.2.1, .ref u.2.2.2.2.2.2.2.2.2.2.2.2.2.2.2.2.2.2.2.2.2.1, .int 0, .int 0, .int 0, .int 0, .ref u.2.2.2.2.2.2.2.2.2.2.2.2.2.2.2.2.2.2.2.2.2.2.1, .int 0, .ref u.2.2.2.2.2.1])), (u.2.2.2.2.2.2.2.2.2.2.2.2.2.2.2.2.2.2.2.2.2.1, .inl (cI, 32, .inl (fun _ => 0))), (u.2.2.2.2.2.2.2.2.2.2.2.2.2.2.2.2.2.2.2.2.2.2.1, .inl (cI, 200, .inl (fun _ => 0))), (u.2.2.2.2.2.2.2.2.2.2.2.2.2.2.2.2.2.2.2.2.1, .inl (cI, N, .inl (fun _ => 0))), (u.2.2.2.2.2.2.2.1, .inr (13, [.ref u.2.1, .ref u.2.2.2.2.2.1, .int (4 * (nI N)), .ref u.2.2.2.2.2.2.2.2.2.2.2.2.2.2.2.2.2.2.2.2.2.2.2.1, .ref u.2.2.2.2.2.2.2.2.2.2.2.2.2.2.2.2.2.2.2.2.2.2.2.2.1, .ref u.2.2.2.2.2.2.2.2.2.2.2.2.2.2.2.2.2.2.2.2.2.2.2.2.2.1, .int 0, .int 0, .int 0, .int 0, .int 0, .int 0, .int 0, .int 0, .int 0, .int 0, .int 0])), (u.2.2.2.2.2.2.2.2.2.2.2.2.2.2.2.2.2.2.2.2.2.2.2.2.2.2.1, .inl (cI, 1503, .inl (upd (fun _ => 0) 0 0))), (u.2.2.2.2.2.2.2.2.2.2.2.2.2.2.2.2.2.2.2.2.2.2.2.2.2.2.2.1, .inl (cI, 1503, .inl (upd (fun _ => 0) 0 0))), (u.2.2.2.2.2.2.2.2.2.2.2.2.2.2.2.2.2.2.2.2.2.2.2.2.2.2.2.2.1, .inr (6, [.ref u.2.2.2.2.2.2.2.2.2.2.2.2.2.2.2.2.2.2.2.2.2.2.2.2.2.2.2.2.2.1, .ref u.2.2.2.2.2.2.2.2.2.2.2.2.2.2.2.2.2.2.2.2.2.2.2.2.2.2.2.2.2.2.1, .ref u.2.2.2.2.2.2.2.2.2.2.2.2.2.2.2.2.2.2.2.2.2.2.2.2.2.2.2.2.2.2.2.1, .ref u.2.2.2.2.2.2.2.2.2.2.2.2.2.2.2.2.2.2.2.2.2.2.2.2.2.2.2.2.2.2.2.2.1, .int 0])), (u.2.2.2.2.2.2.2.2.2.2.2.2.2.2.2.2.2.2.2.2.2.2.2.2.2.2.2.2.2.1, .inr (12, [.ref u.2.1, .ref u.2.2.2.2.2.2.2.2.2.2.2.2.2.2.2.2.2.2.2.2.2.2.2.2.2.2.2.2.2.2.2.2.2.1, .ref u.2.2.2.2.2.2.2.2.2.2.2.2.2.2.2.2.2.2.2.2.2.2.2.2.2.2.1, .ref u.2.2.2.2.2.2.2.2.2.2.2.2.2.2.2.2.2.2.2.2.2.2.2.2.2.2.2.1, .int 1, .int 0, .int 0, .int (-1), .int 0, .int (-1)])), (u.2.2.2.2.2.2.2.2.2.2.2.2.2.2.2.2.2.2.2.2.2.2.2.2.2.2.2.2.2.2.2.2.2.1, .inl (cI, 1503, .inl (upd (fun _ => 0) 0 0))), (u.2.2.2.1, .inr (8, [.ref u.2.1, .ref u.2.2.2.2.2.2.2.2.2.2.2.2.2.2.2.2.2.2.2.2.2.2.2.2.2.2.2.2.2.1, .ref u.2.2.2.2.2.2.2.2.2.2.2.2.2.2.2.2.2.2.2.2.2.2.2.2.2.2.2.2.2.2.1, .ref u.2.2.2.2.2.2.2.2.2.2.2.2.2.2.2.2.2.2.2.2.2.2.2.2.2.2.2.2.1, .int 0, .int 0, .int 0])), (u.2.2.2.2.2.2.2.2.2.2.2.2.2.2.2.2.2.2.2.2.2.2.2.2.2.2.2.2.2.2.1, .inr (5, [.ref u.2.1, .ref u.2.2.2.2.2.2.2.2.2.2.2.2.2.2.2.2.2.2.2.2.2.2.2.2.2.2.2.2.2.2.2.2.2.2.1, .int 0, .int 0, .int 0, .int 0, .ref u.2.2.2.2.2.2.2.2.2.2.2.2.2.2.2.2.2.2.2.2.2.2.2.2.2.2.2.2.2.2.2.2.2.2.2.1, .int 0, .ref u.2.2.2.2.2.2.2.2.2.2.2.2.2.2.2.2.2.2.2.2.2.2.2.2.2.2.2.2.2.2.2.2.2.2.2.2.1, .ref u.2.2.2.2.2.2.2.2.2.2.2.2.2.2.2.2.2.2.2.2.2.2.2.2.2.2.2.2.2.2.2.2.2.2.2.2.2.1, .ref u.2.2.2.2.2.2.2.2.2.2.2.2.2.2.2.2.2.2.2.2.2.2.2.2.2.2.2.2.2.2.2.2.2.2.2.2.2.2.1, .int 0])), (u.2.2.2.2.2.2.2.2.2.2.2.2.2.2.2.2.2.2.2.2.2.2.2.2.2.2.2.2.2.2.2.2.2.2.2.2.2.2.2.1, .inl (cI, N, .inl (upd (upd (fun _ => 0) 0 2195) 1 1048691))), (u.2.2.2.2.1, .inr (4, [.ref u.2.1, .int (4 * (nI N)), .ref u.2.2.2.2.2.2.2.2.2.2.2.2.2.2.2.2.2.2.2.2.2.2.2.2.2.2.2.2.2.2.2.2.2.2.2.2.2.2.2.2.1, .int 2, .int 1, .int 0, .int 0, .int 8, .int 8])), (u.2.1, .inr (10, [.ref u.2.2.2.2.2.2.2.2.2.2.2.2.1, .int 0, .ref u.2.2.2.2.2.2.2.2.2.2.2.2.2.2.2.2.2.2.2.2.2.2.2.2.2.2.2.2.2.2.2.2.2.2.2.2.2.2.2.2.2.1, .int 0, .ref u.2.2.2.2.2.2.2.2.2.2.2.2.2.2.2.2.2.2.2.2.2.2.2.2.2.2.2.2.2.2.2.2.2.2.2.2.2.2.2.2.2.2.1, .int 0, .ref u.2.2.2.2.2.2.2.2.2.2.2.2.2.2.2.2.2.2.2.2.2.2.2.2.2.2.2.2.2.2.2.2.2.2.2.2.2.2.2.2.2.2.2.1, .ref u.2.2.2.2.2.2.2.2.2.2.2.2.2.2.2.2.2.2.2.2.2.2.2.2.2.2.2.2.2.2.2.2.2.2.2.2.2.2.2.2.2.2.2.2.1, .ref u.2.2.2.2.2.2.2.2.2.2.2.2.2.2.2.2.2.2.2.2.2.2.2.2.2.2.2.2.2.2.2.2.2.2.2.2.2.2.2.2.2.2.2.2.2, .int 0, .ref u.2.2.2.2.2.2.2.2.2.2.2.2.2.2.2.2.2.2.2.2.2.2.2.2.2.2.2.2.2.2.2.2.2.2.2.2.2.2.2.1, .int 2, .int 8]))])) 246 64284 (va_A [(h0, .inr (14, [.null, .int 0, .null, .null, .null, .null, .int 0, .int 0, .null, .null, .null, .null]))] sz) := by
  refine Met.ofW (cc := cX11_init) (maxL := 3) (ret := none) (by decide) rfl ?_
  intro p e s m args below meth c s₁ B hml hv
  obtain ⟨rfl, hsz, hP, hKK, hD0, hFx⟩ := hv
  have hK := hKK.1
  have hx := B.exec
  have hb := B.bytes
  have hr := B.returns
  have ht : ∀ w ∈ tw_W, w.before _ s = true := fun w h => atoms_spec (ws := Cond.code yX11_init cX11_init 3 none :: tw_W) B.pre w (List.mem_cons_of_mem _ h)
  have hown : s.vm.findClass RX11 = some m.cls := findClass_of_methodNamed B.named
  have hlocks := B.notSynchronized
  have hin : meth.name = "<init>" := (name_of_methodNamed B.named B.method).1
  subst hsz
  unfold qv_
  have hD := hD0.self (sz := s.heap.size)
  generalize hAe : va_A [(h0, .inr (14, [.null, .int 0, .null, .null, .null, .null, .int 0, .int 0, .null, .null, .null, .null]))] s.heap.size = A at hD hFx ⊢
  have hA : ∀ q : Nat, s.heap.size ≤ q → A q := fun q h => by rw [← hAe]; exact Or.inr h
  have hS : va_S A s.heap s.heap [] := va_S.rf
  have hP : va_P (dC, dI) vwCl [(h0, .inr (14, [.null, .int 0, .null, .null, .null, .null, .int 0, .int 0, .null, .null, .null, .null]))] s.heap := hP
  have hl := lv_entry ([.ref h0, .int w]) (n := 3) (Nat.le_of_ble_eq_true rfl)
  rw [lg_entry_eq]
  generalize (lg_sl ([.ref h0, .int w]) ++ List.replicate (3 - (lg_sl ([.ref h0, .int w])).length) Slot.unset).toArray = ls at hl ⊢
  have hl : lv_has ls 3 [(0, .ref h0), (1, .int w)] := hl
  refine lv_aload_n hx hb dX11_init_0 rfl (lv_at hl 0 rfl) ?_
  refine W.objInit hx hb hown (ht _ tw_84) (ht _ tw_1) (ht _ tw_2) rfl (by rw [hml]; exact hl.1) rfl dX11_init_1 (Nat.le_of_ble_eq_true rfl) (Nat.le_of_ble_eq_true rfl) ?_
  refine W.eq (g2 := F0 m 4 ls []) rfl ?_
  refine lv_aload_n hx hb dX11_init_4 rfl (lv_at hl 0 rfl) ?_
  refine lv_sipush (v := 4000) hx hb dX11_init_5 (by decide) ?_
  refine va_newE (atype := .int) (ty := .int) (a0 := (4000, .inl (fun _ => 0))) (cE := cI) hx hb (ht _ tw_3) rfl hK hP hD hS hA 0 rfl (fun _ => rfl) (by decide) (by decide) (by decide) (Nat.le_of_ble_eq_true rfl) (Nat.le_of_ble_eq_true rfl) dX11_init_8 (fun q1 H hP hD hS => ?_)
  have hP : va_P (dC, dI) vwCl [(h0, .inr (14, [.null, .int 0, .null, .null, .null, .null, .int 0, .int 0, .null, .null, .null, .null])), (q1, .inl (cI, 4000, .inl (fun _ => 0)))] H := hP
  have hD : va_D A [(h0, .inr (14, [.null, .int 0, .null, .null, .null, .null, .int 0, .int 0, .null, .null, .null, .null])), (q1, .inl (cI, 4000, .inl (fun _ => 0)))] := hD
  refine W.widen (k := 1) (n := 4000) (by omega) (by omega) ?_
  refine va_putF (D := (dC, dI)) (ci := 14) (v := .ref q1) (ty := .array .int) (C := RX11) (T := TX11) (N := 12) hx hb ht itX11 tyX11 tyX11_ok nmX11 hown hK hP hD hS 0 rfl rfl 0 (by decide) (ht _ tw_85) (fun _ h9 => h9) rfl hin rfl (by decide +kernel) rfl rfl (Nat.le_of_ble_eq_true rfl) dX11_init_10 (fun H locs hP hD hS => ?_)
  have hP : va_P (dC, dI) vwCl [(h0, .inr (14, [.ref q1, .int 0, .null, .null, .null, .null, .int 0, .int 0, .null, .null, .null, .null])), (q1, .inl (cI, 4000, .inl (fun _ => 0)))] H := hP
  have hD : va_D A [(h0, .inr (14, [.ref q1, .int 0, .null, .null, .null, .null, .int 0, .int 0, .null, .null, .null, .null])), (q1, .inl (cI, 4000, .inl (fun _ => 0)))] := hD
  refine lv_aload_n hx hb dX11_init_13 rfl (lv_at hl 0 rfl) ?_
  refine lv_iconst (v := -1) hx hb dX11_init_14 (by decide) ?_
  refine va_put (D := (dC, dI)) (ci := 14) (v := .int (-1)) (ty := .int) (C := RX11) (T := TX11) (N := 12) hx hb ht itX11 tyX11 tyX11_ok nmX11 hown hK hP hD hS 0 rfl rfl 7 (by decide) (ht _ tw_86) (fun _ h9 => h9) rfl (by decide +kernel) rfl rfl (Nat.le_of_ble_eq_true rfl) dX11_init_15 (fun H locs hP hD hS => ?_)
  have hP : va_P (dC, dI) vwCl [(h0, .inr (14, [.ref q1, .int 0, .null, .null, .null, .null, .int 0, .int (-1), .null, .null, .null, .null])), (q1, .inl (cI, 4000, .inl (fun _ => 0)))] H := hP
  have hD : va_D A [(h0, .inr (14, [.ref q1, .int 0, .null, .null, .null, .null, .int 0, .int (-1), .null, .null, .null, .null])), (q1, .inl (cI, 4000, .inl (fun _ => 0)))] := hD
  refine lv_aload_n hx hb dX11_init_18 rfl (lv_at hl 0 rfl) ?_
  refine va_new (ci := 7) (fs := [.null, .int 0, .int 0]) (C := RX3) (T := TX3) (N := 3) hx hb ht itX3 tyX3 tyX3_ok hown (ht _ tw_87) (ht _ tw_88) (ht _ tw_89) hK hP hD hS hA rfl (by decide +kernel) (Nat.le_of_ble_eq_true rfl) (Nat.le_of_ble_eq_true rfl) dX11_init_19 (fun q2 H hP hD hS => ?_)
  have hP : va_P (dC, dI) vwCl [(h0, .inr (14, [.ref q1, .int 0, .null, .null, .null, .null, .int 0, .int (-1), .null, .null, .null, .null])), (q1, .inl (cI, 4000, .inl (fun _ => 0))), (q2, .inr (7, [.null, .int 0, .int 0]))] H := hP
  have hD : va_D A [(h0, .inr (14, [.ref q1, .int 0, .null, .null, .null, .null, .int 0, .int (-1), .null, .null, .null, .null])), (q1, .inl (cI, 4000, .inl (fun _ => 0))), (q2, .inr (7, [.null, .int 0, .int 0]))] := hD
  refine W.widen (k := 2) (n := 4003) (by omega) (by omega) ?_
  refine lv_dup hx hb dX11_init_22 rfl ?_
  refine ca_v (wr := [(h0, .inr (14, [.ref q1, .int 0, .null, .null, .null, .null, .int 0, .int (-1), .null, .null, .null, .null])), (q1, .inl (cI, 4000, .inl (fun _ => 0)))]) (rn_IN (n := 0) (As := []) (rest := [.ref q2, .ref h0]) hx hb hml hown ht hKK hFx hP hD hS hA (c_X3_init l dC dI cI cB cZ cJ cR tb H.size q2) tw_92 tw_93 0 rfl tw_94 rfl (by decide +kernel) rfl rfl ⟨Nat.le_of_ble_eq_true rfl, Nat.le_of_ble_eq_true rfl⟩ [2] rfl (by decide) rfl hl.1 rfl (Nat.le_of_ble_eq_true rfl) dX11_init_23 ⟨Nat.le_of_ble_eq_true rfl, Nat.le_of_ble_eq_true rfl⟩) hP hD hS hA (isC := [2]) (isR := [0, 1]) rfl rfl (by decide) (by decide) (fun u H locs hw3 hP hD hS => ?_)
  obtain ⟨q4, hq9⟩ : ∃ z, z = u := ⟨_, rfl⟩
  subst hq9
  have hP : va_P (dC, dI) vwCl [(h0, .inr (14, [.ref q1, .int 0, .null, .null, .null, .null, .int 0, .int (-1), .null, .null, .null, .null])), (q1, .inl (cI, 4000, .inl (fun _ => 0))), (q2, .inr (7, [.ref q4, .int 0, .int 0])), (q4, .inl (cI, 64, .inl (fun _ => 0)))] H := hP
  have hD : va_D A [(h0, .inr (14, [.ref q1, .int 0, .null, .null, .null, .null, .int 0, .int (-1), .null, .null, .null, .null])), (q1, .inl (cI, 4000, .inl (fun _ => 0))), (q2, .inr (7, [.ref q4, .int 0, .int 0])), (q4, .inl (cI, 64, .inl (fun _ => 0)))] := hD
  refine W.widen (k := 3) (n := 4067) (by omega) (by omega) ?_
  refine va_putF (D := (dC, dI)) (ci := 14) (v := .ref q2) (ty := .object "PocketCompiler$Gifts") (C := RX11) (T := TX11) (N := 12) hx hb ht itX11 tyX11 tyX11_ok nmX11 hown hK hP hD hS 0 rfl rfl 8 (by decide) (ht _ tw_95) (fun _ h9 => h9) rfl hin rfl (by decide +kernel) rfl rfl (Nat.le_of_ble_eq_true rfl) dX11_init_26 (fun H locs hP hD hS => ?_)
  have hP : va_P (dC, dI) vwCl [(h0, .inr (14, [.ref q1, .int 0, .null, .null, .null, .null, .int 0, .int (-1), .ref q2, .null, .null, .null])), (q1, .inl (cI, 4000, .inl (fun _ => 0))), (q2, .inr (7, [.ref q4, .int 0, .int 0])), (q4, .inl (cI, 64, .inl (fun _ => 0)))] H := hP
  have hD : va_D A [(h0, .inr (14, [.ref q1, .int 0, .null, .null, .null, .null, .int 0, .int (-1), .ref q2, .null, .null, .null])), (q1, .inl (cI, 4000, .inl (fun _ => 0))), (q2, .inr (7, [.ref q4, .int 0, .int 0])), (q4, .inl (cI, 64, .inl (fun _ => 0)))] := hD
  refine lv_aload_n hx hb dX11_init_29 rfl (lv_at hl 0 rfl) ?_
  refine va_new (ci := 11) (fs := [.null]) (C := RX8) (T := TX8) (N := 1) hx hb ht itX8 tyX8 tyX8_ok hown (ht _ tw_96) (ht _ tw_97) (ht _ tw_98) hK hP hD hS hA rfl (by decide +kernel) (Nat.le_of_ble_eq_true rfl) (Nat.le_of_ble_eq_true rfl) dX11_init_30 (fun q5 H hP hD hS => ?_)
  have hP : va_P (dC, dI) vwCl [(h0, .inr (14, [.ref q1, .int 0, .null, .null, .null, .null, .int 0, .int (-1), .ref q2, .null, .null, .null])), (q1, .inl (cI, 4000, .inl (fun _ => 0))), (q2, .inr (7, [.ref q4, .int 0, .int 0])), (q4, .inl (cI, 64, .inl (fun _ => 0))), (q5, .inr (11, [.null]))] H := hP
  have hD : va_D A [(h0, .inr (14, [.ref q1, .int 0, .null, .null, .null, .null, .int 0, .int (-1), .ref q2, .null, .null, .null])), (q1, .inl (cI, 4000, .inl (fun _ => 0))), (q2, .inr (7, [.ref q4, .int 0, .int 0])), (q4, .inl (cI, 64, .inl (fun _ => 0))), (q5, .inr (11, [.null]))] := hD
  refine W.widen (k := 4) (n := 4068) (by omega) (by omega) ?_
  refine lv_dup hx hb dX11_init_33 rfl ?_
  refine ca_v (wr := [(h0, .inr (14, [.ref q1, .int 0, .null, .null, .null, .null, .int 0, .int (-1), .ref q2, .null, .null, .null])), (q1, .inl (cI, 4000, .inl (fun _ => 0))), (q2, .inr (7, [.ref q4, .int 0, .int 0])), (q4, .inl (cI, 64, .inl (fun _ => 0)))]) (rn_IN (n := 0) (As := []) (rest := [.ref q5, .ref h0]) hx hb hml hown ht hKK hFx hP hD hS hA (c_X8_init l dC dI cI cB cZ cJ cR tb H.size q5) tw_99 tw_100 1 rfl tw_101 rfl (by decide +kernel) rfl rfl ⟨Nat.le_of_ble_eq_true rfl, Nat.le_of_ble_eq_true rfl⟩ [4] rfl (by decide) rfl hl.1 rfl (Nat.le_of_ble_eq_true rfl) dX11_init_34 ⟨Nat.le_of_ble_eq_true rfl, Nat.le_of_ble_eq_true rfl⟩) hP hD hS hA (isC := [4]) (isR := [0, 1, 2, 3]) rfl rfl (by decide) (by decide) (fun u H locs hw6 hP hD hS => ?_)
  obtain ⟨q7, q8⟩ := u
  have hP : va_P (dC, dI) vwCl [(h0, .inr (14, [.ref q1, .int 0, .null, .null, .null, .null, .int 0, .int (-1), .ref q2, .null, .null, .null])), (q1, .inl (cI, 4000, .inl (fun _ => 0))), (q2, .inr (7, [.ref q4, .int 0, .int 0])), (q4, .inl (cI, 64, .inl (fun _ => 0))), (q5, .inr (11, [.ref q7])), (q7, .inr (1, [.ref q8, .int 0, .int 0, .int 0])), (q8, .inl (cB, 16, .inl (fun _ => 0)))] H := hP
  have hD : va_D A [(h0, .inr (14, [.ref q1, .int 0, .null, .null, .null, .null, .int 0, .int (-1), .ref q2, .null, .null, .null])), (q1, .inl (cI, 4000, .inl (fun _ => 0))), (q2, .inr (7, [.ref q4, .int 0, .int 0])), (q4, .inl (cI, 64, .inl (fun _ => 0))), (q5, .inr (11, [.ref q7])), (q7, .inr (1, [.ref q8, .int 0, .int 0, .int 0])), (q8, .inl (cB, 16, .inl (fun _ => 0)))] := hD
  refine W.widen (k := 6) (n := 4088) (by omega) (by omega) ?_
  refine va_putF (D := (dC, dI)) (ci := 14) (v := .ref q5) (ty := .object "PocketCompiler$Shower") (C := RX11) (T := TX11) (N := 12) hx hb ht itX11 tyX11 tyX11_ok nmX11 hown hK hP hD hS 0 rfl rfl 11 (by decide) (ht _ tw_102) (fun _ h9 => h9) rfl hin rfl (by decide +kernel) rfl rfl (Nat.le_of_ble_eq_true rfl) dX11_init_37 (fun H locs hP hD hS => ?_)
  have hP : va_P (dC, dI) vwCl [(h0, .inr (14, [.ref q1, .int 0, .null, .null, .null, .null, .int 0, .int (-1), .ref q2, .null, .null, .ref q5])), (q1, .inl (cI, 4000, .inl (fun _ => 0))), (q2, .inr (7, [.ref q4, .int 0, .int 0])), (q4, .inl (cI, 64, .inl (fun _ => 0))), (q5, .inr (11, [.ref q7])), (q7, .inr (1, [.ref q8, .int 0, .int 0, .int 0])), (q8, .inl (cB, 16, .inl (fun _ => 0)))] H := hP
  have hD : va_D A [(h0, .inr (14, [.ref q1, .int 0, .null, .null, .null, .null, .int 0, .int (-1), .ref q2, .null, .null, .ref q5])), (q1, .inl (cI, 4000, .inl (fun _ => 0))), (q2, .inr (7, [.ref q4, .int 0, .int 0])), (q4, .inl (cI, 64, .inl (fun _ => 0))), (q5, .inr (11, [.ref q7])), (q7, .inr (1, [.ref q8, .int 0, .int 0, .int 0])), (q8, .inl (cB, 16, .inl (fun _ => 0)))] := hD
  refine jn_ (P := fun ls => lv_has ls 3 [(2, .int (nI N)), (0, .ref h0), (1, .int w)]) 62 [] (fun ls hl => ?_) (fun key => ?_)
  · refine lv_aload_n hx hb dX11_init_62 rfl (lv_at hl 1 rfl) ?_
    refine va_new (ci := 10) (fs := [.null, .int 0, .null, .int 0, .null, .int 0, .null, .null, .null, .int 0, .null, .int 0, .int 0]) (C := RX7) (T := TX7) (N := 13) hx hb ht itX7 tyX7 tyX7_ok hown (ht _ tw_103) (ht _ tw_104) (ht _ tw_105) hK hP hD hS hA rfl (by decide +kernel) (Nat.le_of_ble_eq_true rfl) (Nat.le_of_ble_eq_true rfl) dX11_init_63 (fun q9 H hP hD hS => ?_)
    have hP : va_P (dC, dI) vwCl [(h0, .inr (14, [.ref q1, .int 0, .null, .null, .null, .null, .int 0, .int (-1), .ref q2, .null, .null, .ref q5])), (q1, .inl (cI, 4000, .inl (fun _ => 0))), (q2, .inr (7, [.ref q4, .int 0, .int 0])), (q4, .inl (cI, 64, .inl (fun _ => 0))), (q5, .inr (11, [.ref q7])), (q7, .inr (1, [.ref q8, .int 0, .int 0, .int 0])), (q8, .inl (cB, 16, .inl (fun _ => 0))), (q9, .inr (10, [.null, .int 0, .null, .int 0, .null, .int 0, .null, .null, .null, .int 0, .null, .int 0, .int 0]))] H := hP
    have hD : va_D A [(h0, .inr (14, [.ref q1, .int 0, .null, .null, .null, .null, .int 0, .int (-1), .ref q2, .null, .null, .ref q5])), (q1, .inl (cI, 4000, .inl (fun _ => 0))), (q2, .inr (7, [.ref q4, .int 0, .int 0])), (q4, .inl (cI, 64, .inl (fun _ => 0))), (q5, .inr (11, [.ref q7])), (q7, .inr (1, [.ref q8, .int 0, .int 0, .int 0])), (q8, .inl (cB, 16, .inl (fun _ => 0))), (q9, .inr (10, [.null, .int 0, .null, .int 0, .null, .int 0, .null, .null, .null, .int 0, .null, .int 0, .int 0]))] := hD
    refine W.widen (k := 7) (n := 4101) (by omega) (by omega) ?_
    refine lv_dup hx hb dX11_init_66 rfl ?_
    refine lv_iload_n hx hb dX11_init_67 rfl (lv_at hl 0 rfl) ?_
    refine ca_v (wr := [(h0, .inr (14, [.ref q1, .int 0, .null, .null, .null, .null, .int 0, .int (-1), .ref q2, .null, .null, .ref q5])), (q1, .inl (cI, 4000, .inl (fun _ => 0))), (q2, .inr (7, [.ref q4, .int 0, .int 0])), (q4, .inl (cI, 64, .inl (fun _ => 0))), (q5, .inr (11, [.ref q7])), (q7, .inr (1, [.ref q8, .int 0, .int 0, .int 0])), (q8, .inl (cB, 16, .inl (fun _ => 0)))]) (rn_I (n := 1) (As := [.int (nI N)]) (rest := [.ref q9, .ref h0]) hx hb hml hown ht hKK hFx hP hD hS hA (c_X7_init l dC dI cI cB cZ cJ cR tb H.size q9 N (by omega) (by omega)) tw_106 tw_107 tw_108 tw_109 rfl (by decide +kernel) rfl rfl ⟨Nat.le_of_ble_eq_true rfl, Nat.le_of_ble_eq_true rfl⟩ [7] rfl (by decide) rfl hl.1 rfl (Nat.le_of_ble_eq_true rfl) dX11_init_68 ⟨Nat.le_of_ble_eq_true rfl, Nat.le_of_ble_eq_true rfl⟩) hP hD hS hA (isC := [7]) (isR := [0, 1, 2, 3, 4, 5, 6]) rfl rfl (by decide) (by decide) (fun u H locs hw10 hP hD hS => ?_)
    obtain ⟨q11, q12, q13, q14, q15, q16, q17⟩ := u
    have hP : va_P (dC, dI) vwCl [(h0, .inr (14, [.ref q1, .int 0, .null, .null, .null, .null, .int 0, .int (-1), .ref q2, .null, .null, .ref q5])), (q1, .inl (cI, 4000, .inl (fun _ => 0))), (q2, .inr (7, [.ref q4, .int 0, .int 0])), (q4, .inl (cI, 64, .inl (fun _ => 0))), (q5, .inr (11, [.ref q7])), (q7, .inr (1, [.ref q8, .int 0, .int 0, .int 0])), (q8, .inl (cB, 16, .inl (fun _ => 0))), (q9, .inr (10, [.ref q11, .int 0, .ref q12, .int 0, .ref q13, .int 0, .ref q14, .ref q15, .ref q16, .int 0, .ref q17, .int 0, .int 0])), (q11, .inl (cI, 4000, .inl (fun _ => 0))), (q17, .inl (cI, N, .inl (fun _ => 0)))] H := hP
    have hD : va_D A [(h0, .inr (14, [.ref q1, .int 0, .null, .null, .null, .null, .int 0, .int (-1), .ref q2, .null, .null, .ref q5])), (q1, .inl (cI, 4000, .inl (fun _ => 0))), (q2, .inr (7, [.ref q4, .int 0, .int 0])), (q4, .inl (cI, 64, .inl (fun _ => 0))), (q5, .inr (11, [.ref q7])), (q7, .inr (1, [.ref q8, .int 0, .int 0, .int 0])), (q8, .inl (cB, 16, .inl (fun _ => 0))), (q9, .inr (10, [.ref q11, .int 0, .ref q12, .int 0, .ref q13, .int 0, .ref q14, .ref q15, .ref q16, .int 0, .ref q17, .int 0, .int 0])), (q11, .inl (cI, 4000, .inl (fun _ => 0))), (q17, .inl (cI, N, .inl (fun _ => 0)))] := hD
    refine W.widen (k := 114) (n := 21861) (by omega) (by omega) ?_
    refine va_put (D := (dC, dI)) (ci := 14) (v := .ref q9) (ty := .object "PocketCompiler$Program") (C := RX11) (T := TX11) (N := 12) hx hb ht itX11 tyX11 tyX11_ok nmX11 hown hK hP hD hS 0 rfl rfl 2 (by decide) (ht _ tw_110) (fun _ h9 => h9) rfl (by decide +kernel) rfl rfl (Nat.le_of_ble_eq_true rfl) dX11_init_71 (fun H locs hP hD hS => ?_)
    have hP : va_P (dC, dI) vwCl [(h0, .inr (14, [.ref q1, .int 0, .ref q9, .null, .null, .null, .int 0, .int (-1), .ref q2, .null, .null, .ref q5])), (q1, .inl (cI, 4000, .inl (fun _ => 0))), (q2, .inr (7, [.ref q4, .int 0, .int 0])), (q4, .inl (cI, 64, .inl (fun _ => 0))), (q5, .inr (11, [.ref q7])), (q7, .inr (1, [.ref q8, .int 0, .int 0, .int 0])), (q8, .inl (cB, 16, .inl (fun _ => 0))), (q9, .inr (10, [.ref q11, .int 0, .ref q12, .int 0, .ref q13, .int 0, .ref q14, .ref q15, .ref q16, .int 0, .ref q17, .int 0, .int 0])), (q11, .inl (cI, 4000, .inl (fun _ => 0))), (q17, .inl (cI, N, .inl (fun _ => 0)))] H := hP
    have hD : va_D A [(h0, .inr (14, [.ref q1, .int 0, .ref q9, .null, .null, .null, .int 0, .int (-1), .ref q2, .null, .null, .ref q5])), (q1, .inl (cI, 4000, .inl (fun _ => 0))), (q2, .inr (7, [.ref q4, .int 0, .int 0])), (q4, .inl (cI, 64, .inl (fun _ => 0))), (q5, .inr (11, [.ref q7])), (q7, .inr (1, [.ref q8, .int 0, .int 0, .int 0])), (q8, .inl (cB, 16, .inl (fun _ => 0))), (q9, .inr (10, [.ref q11, .int 0, .ref q12, .int 0, .ref q13, .int 0, .ref q14, .ref q15, .ref q16, .int 0, .ref q17, .int 0, .int 0])), (q11, .inl (cI, 4000, .inl (fun _ => 0))), (q17, .inl (cI, N, .inl (fun _ => 0)))] := hD
    refine lv_aload_n hx hb dX11_init_74 rfl (lv_at hl 1 rfl) ?_
    refine va_new (ci := 10) (fs := [.null, .int 0, .null, .int 0, .null, .int 0, .null, .null, .null, .int 0, .null, .int 0, .int 0]) (C := RX7) (T := TX7) (N := 13) hx hb ht itX7 tyX7 tyX7_ok hown (ht _ tw_103) (ht _ tw_104) (ht _ tw_105) hK hP hD hS hA rfl (by decide +kernel) (Nat.le_of_ble_eq_true rfl) (Nat.le_of_ble_eq_true rfl) dX11_init_75 (fun q18 H hP hD hS => ?_)
    have hP : va_P (dC, dI) vwCl [(h0, .inr (14, [.ref q1, .int 0, .ref q9, .null, .null, .null, .int 0, .int (-1), .ref q2, .null, .null, .ref q5])), (q1, .inl (cI, 4000, .inl (fun _ => 0))), (q2, .inr (7, [.ref q4, .int 0, .int 0])), (q4, .inl (cI, 64, .inl (fun _ => 0))), (q5, .inr (11, [.ref q7])), (q7, .inr (1, [.ref q8, .int 0, .int 0, .int 0])), (q8, .inl (cB, 16, .inl (fun _ => 0))), (q9, .inr (10, [.ref q11, .int 0, .ref q12, .int 0, .ref q13, .int 0, .ref q14, .ref q15, .ref q16, .int 0, .ref q17, .int 0, .int 0])), (q11, .inl (cI, 4000, .inl (fun _ => 0))), (q17, .inl (cI, N, .inl (fun _ => 0))), (q18, .inr (10, [.null, .int 0, .null, .int 0, .null, .int 0, .null, .null, .null, .int 0, .null, .int 0, .int 0]))] H := hP
    have hD : va_D A [(h0, .inr (14, [.ref q1, .int 0, .ref q9, .null, .null, .null, .int 0, .int (-1), .ref q2, .null, .null, .ref q5])), (q1, .inl (cI, 4000, .inl (fun _ => 0))), (q2, .inr (7, [.ref q4, .int 0, .int 0])), (q4, .inl (cI, 64, .inl (fun _ => 0))), (q5, .inr (11, [.ref q7])), (q7, .inr (1, [.ref q8, .int 0, .int 0, .int 0])), (q8, .inl (cB, 16, .inl (fun _ => 0))), (q9, .inr (10, [.ref q11, .int 0, .ref q12, .int 0, .ref q13, .int 0, .ref q14, .ref q15, .ref q16, .int 0, .ref q17, .int 0, .int 0])), (q11, .inl (cI, 4000, .inl (fun _ => 0))), (q17, .inl (cI, N, .inl (fun _ => 0))), (q18, .inr (10, [.null, .int 0, .null, .int 0, .null, .int 0, .null, .null, .null, .int 0, .null, .int 0, .int 0]))] := hD
    refine W.widen (k := 115) (n := 21874) (by omega) (by omega) ?_
    refine lv_dup hx hb dX11_init_78 rfl ?_
    refine lv_iload_n hx hb dX11_init_79 rfl (lv_at hl 0 rfl) ?_
    refine ca_v (wr := [(h0, .inr (14, [.ref q1, .int 0, .ref q9, .null, .null, .null, .int 0, .int (-1), .ref q2, .null, .null, .ref q5])), (q1, .inl (cI, 4000, .inl (fun _ => 0))), (q2, .inr (7, [.ref q4, .int 0, .int 0])), (q4, .inl (cI, 64, .inl (fun _ => 0))), (q5, .inr (11, [.ref q7])), (q7, .inr (1, [.ref q8, .int 0, .int 0, .int 0])), (q8, .inl (cB, 16, .inl (fun _ => 0))), (q9, .inr (10, [.ref q11, .int 0, .ref q12, .int 0, .ref q13, .int 0, .ref q14, .ref q15, .ref q16, .int 0, .ref q17, .int 0, .int 0])), (q11, .inl (cI, 4000, .inl (fun _ => 0))), (q17, .inl (cI, N, .inl (fun _ => 0)))]) (rn_I (n := 1) (As := [.int (nI N)]) (rest := [.ref q18, .ref h0]) hx hb hml hown ht hKK hFx hP hD hS hA (c_X7_init l dC dI cI cB cZ cJ cR tb H.size q18 N (by omega) (by omega)) tw_106 tw_107 tw_108 tw_109 rfl (by decide +kernel) rfl rfl ⟨Nat.le_of_ble_eq_true rfl, Nat.le_of_ble_eq_true rfl⟩ [10] rfl (by decide) rfl hl.1 rfl (Nat.le_of_ble_eq_true rfl) dX11_init_80 ⟨Nat.le_of_ble_eq_true rfl, Nat.le_of_ble_eq_true rfl⟩) hP hD hS hA (isC := [10]) (isR := [0, 1, 2, 3, 4, 5, 6, 7, 8, 9]) rfl rfl (by decide) (by decide) (fun u H locs hw19 hP hD hS => ?_)
    obtain ⟨q20, q21, q22, q23, q24, q25, q26⟩ := u
    have hP : va_P (dC, dI) vwCl [(h0, .inr (14, [.ref q1, .int 0, .ref q9, .null, .null, .null, .int 0, .int (-1), .ref q2, .null, .null, .ref q5])), (q1, .inl (cI, 4000, .inl (fun _ => 0))), (q2, .inr (7, [.ref q4, .int 0, .int 0])), (q4, .inl (cI, 64, .inl (fun _ => 0))), (q5, .inr (11, [.ref q7])), (q7, .inr (1, [.ref q8, .int 0, .int 0, .int 0])), (q8, .inl (cB, 16, .inl (fun _ => 0))), (q9, .inr (10, [.ref q11, .int 0, .ref q12, .int 0, .ref q13, .int 0, .ref q14, .ref q15, .ref q16, .int 0, .ref q17, .int 0, .int 0])), (q11, .inl (cI, 4000, .inl (fun _ => 0))), (q17, .inl (cI, N, .inl (fun _ => 0))), (q18, .inr (10, [.ref q20, .int 0, .ref q21, .int 0, .ref q22, .int 0, .ref q23, .ref q24, .ref q25, .int 0, .ref q26, .int 0, .int 0])), (q20, .inl (cI, 4000, .inl (fun _ => 0))), (q26, .inl (cI, N, .inl (fun _ => 0)))] H := hP
    have hD : va_D A [(h0, .inr (14, [.ref q1, .int 0, .ref q9, .null, .null, .null, .int 0, .int (-1), .ref q2, .null, .null, .ref q5])), (q1, .inl (cI, 4000, .inl (fun _ => 0))), (q2, .inr (7, [.ref q4, .int 0, .int 0])), (q4, .inl (cI, 64, .inl (fun _ => 0))), (q5, .inr (11, [.ref q7])), (q7, .inr (1, [.ref q8, .int 0, .int 0, .int 0])), (q8, .inl (cB, 16, .inl (fun _ => 0))), (q9, .inr (10, [.ref q11, .int 0, .ref q12, .int 0, .ref q13, .int 0, .ref q14, .ref q15, .ref q16, .int 0, .ref q17, .int 0, .int 0])), (q11, .inl (cI, 4000, .inl (fun _ => 0))), (q17, .inl (cI, N, .inl (fun _ => 0))), (q18, .inr (10, [.ref q20, .int 0, .ref q21, .int 0, .ref q22, .int 0, .ref q23, .ref q24, .ref q25, .int 0, .ref q26, .int 0, .int 0])), (q20, .inl (cI, 4000, .inl (fun _ => 0))), (q26, .inl (cI, N, .inl (fun _ => 0)))] := hD
    refine W.widen (k := 222) (n := 39634) (by omega) (by omega) ?_
    refine va_put (D := (dC, dI)) (ci := 14) (v := .ref q18) (ty := .object "PocketCompiler$Program") (C := RX11) (T := TX11) (N := 12) hx hb ht itX11 tyX11 tyX11_ok nmX11 hown hK hP hD hS 0 rfl rfl 3 (by decide) (ht _ tw_111) (fun _ h9 => h9) rfl (by decide +kernel) rfl rfl (Nat.le_of_ble_eq_true rfl) dX11_init_83 (fun H locs hP hD hS => ?_)
    have hP : va_P (dC, dI) vwCl [(h0, .inr (14, [.ref q1, .int 0, .ref q9, .ref q18, .null, .null, .int 0, .int (-1), .ref q2, .null, .null, .ref q5])), (q1, .inl (cI, 4000, .inl (fun _ => 0))), (q2, .inr (7, [.ref q4, .int 0, .int 0])), (q4, .inl (cI, 64, .inl (fun _ => 0))), (q5, .inr (11, [.ref q7])), (q7, .inr (1, [.ref q8, .int 0, .int 0, .int 0])), (q8, .inl (cB, 16, .inl (fun _ => 0))), (q9, .inr (10, [.ref q11, .int 0, .ref q12, .int 0, .ref q13, .int 0, .ref q14, .ref q15, .ref q16, .int 0, .ref q17, .int 0, .int 0])), (q11, .inl (cI, 4000, .inl (fun _ => 0))), (q17, .inl (cI, N, .inl (fun _ => 0))), (q18, .inr (10, [.ref q20, .int 0, .ref q21, .int 0, .ref q22, .int 0, .ref q23, .ref q24, .ref q25, .int 0, .ref q26, .int 0, .int 0])), (q20, .inl (cI, 4000, .inl (fun _ => 0))), (q26, .inl (cI, N, .inl (fun _ => 0)))] H := hP
    have hD : va_D A [(h0, .inr (14, [.ref q1, .int 0, .ref q9, .ref q18, .null, .null, .int 0, .int (-1), .ref q2, .null, .null, .ref q5])), (q1, .inl (cI, 4000, .inl (fun _ => 0))), (q2, .inr (7, [.ref q4, .int 0, .int 0])), (q4, .inl (cI, 64, .inl (fun _ => 0))), (q5, .inr (11, [.ref q7])), (q7, .inr (1, [.ref q8, .int 0, .int 0, .int 0])), (q8, .inl (cB, 16, .inl (fun _ => 0))), (q9, .inr (10, [.ref q11, .int 0, .ref q12, .int 0, .ref q13, .int 0, .ref q14, .ref q15, .ref q16, .int 0, .ref q17, .int 0, .int 0])), (q11, .inl (cI, 4000, .inl (fun _ => 0))), (q17, .inl (cI, N, .inl (fun _ => 0))), (q18, .inr (10, [.ref q20, .int 0, .ref q21, .int 0, .ref q22, .int 0, .ref q23, .ref q24, .ref q25, .int 0, .ref q26, .int 0, .int 0])), (q20, .inl (cI, 4000, .inl (fun _ => 0))), (q26, .inl (cI, N, .inl (fun _ => 0)))] := hD
    refine lv_aload_n hx hb dX11_init_86 rfl (lv_at hl 1 rfl) ?_
    refine va_new (ci := 8) (fs := [.null, .null, .null, .null, .int 0, .int 0, .int 0]) (C := RX5) (T := TX5) (N := 7) hx hb ht itX5 tyX5 tyX5_ok hown (ht _ tw_112) (ht _ tw_113) (ht _ tw_114) hK hP hD hS hA rfl (by decide +kernel) (Nat.le_of_ble_eq_true rfl) (Nat.le_of_ble_eq_true rfl) dX11_init_87 (fun q27 H hP hD hS => ?_)
    have hP : va_P (dC, dI) vwCl [(h0, .inr (14, [.ref q1, .int 0, .ref q9, .ref q18, .null, .null, .int 0, .int (-1), .ref q2, .null, .null, .ref q5])), (q1, .inl (cI, 4000, .inl (fun _ => 0))), (q2, .inr (7, [.ref q4, .int 0, .int 0])), (q4, .inl (cI, 64, .inl (fun _ => 0))), (q5, .inr (11, [.ref q7])), (q7, .inr (1, [.ref q8, .int 0, .int 0, .int 0])), (q8, .inl (cB, 16, .inl (fun _ => 0))), (q9, .inr (10, [.ref q11, .int 0, .ref q12, .int 0, .ref q13, .int 0, .ref q14, .ref q15, .ref q16, .int 0, .ref q17, .int 0, .int 0])), (q11, .inl (cI, 4000, .inl (fun _ => 0))), (q17, .inl (cI, N, .inl (fun _ => 0))), (q18, .inr (10, [.ref q20, .int 0, .ref q21, .int 0, .ref q22, .int 0, .ref q23, .ref q24, .ref q25, .int 0, .ref q26, .int 0, .int 0])), (q20, .inl (cI, 4000, .inl (fun _ => 0))), (q26, .inl (cI, N, .inl (fun _ => 0))), (q27, .inr (8, [.null, .null, .null, .null, .int 0, .int 0, .int 0]))] H := hP
    have hD : va_D A [(h0, .inr (14, [.ref q1, .int 0, .ref q9, .ref q18, .null, .null, .int 0, .int (-1), .ref q2, .null, .null, .ref q5])), (q1, .inl (cI, 4000, .inl (fun _ => 0))), (q2, .inr (7, [.ref q4, .int 0, .int 0])), (q4, .inl (cI, 64, .inl (fun _ => 0))), (q5, .inr (11, [.ref q7])), (q7, .inr (1, [.ref q8, .int 0, .int 0, .int 0])), (q8, .inl (cB, 16, .inl (fun _ => 0))), (q9, .inr (10, [.ref q11, .int 0, .ref q12, .int 0, .ref q13, .int 0, .ref q14, .ref q15, .ref q16, .int 0, .ref q17, .int 0, .int 0])), (q11, .inl (cI, 4000, .inl (fun _ => 0))), (q17, .inl (cI, N, .inl (fun _ => 0))), (q18, .inr (10, [.ref q20, .int 0, .ref q21, .int 0, .ref q22, .int 0, .ref q23, .ref q24, .ref q25, .int 0, .ref q26, .int 0, .int 0])), (q20, .inl (cI, 4000, .inl (fun _ => 0))), (q26, .inl (cI, N, .inl (fun _ => 0))), (q27, .inr (8, [.null, .null, .null, .null, .int 0, .int 0, .int 0]))] := hD
    refine W.widen (k := 223) (n := 39641) (by omega) (by omega) ?_
    refine lv_dup hx hb dX11_init_90 rfl ?_
    refine lv_aload_n hx hb dX11_init_91 rfl (lv_at hl 1 rfl) ?_
    refine va_get (D := (dC, dI)) (ci := 14) (v := .ref q9) (C := RX11) (T := TX11) (N := 12) hx hb ht itX11 hown hK hP 0 rfl rfl 2 (by decide) (ht _ tw_110) (fun _ h9 => h9) rfl dX11_init_92 ?_
    refine ca_v (wr := [(h0, .inr (14, [.ref q1, .int 0, .ref q9, .ref q18, .null, .null, .int 0, .int (-1), .ref q2, .null, .null, .ref q5])), (q1, .inl (cI, 4000, .inl (fun _ => 0))), (q2, .inr (7, [.ref q4, .int 0, .int 0])), (q4, .inl (cI, 64, .inl (fun _ => 0))), (q5, .inr (11, [.ref q7])), (q7, .inr (1, [.ref q8, .int 0, .int 0, .int 0])), (q8, .inl (cB, 16, .inl (fun _ => 0))), (q9, .inr (10, [.ref q11, .int 0, .ref q12, .int 0, .ref q13, .int 0, .ref q14, .ref q15, .ref q16, .int 0, .ref q17, .int 0, .int 0])), (q11, .inl (cI, 4000, .inl (fun _ => 0))), (q17, .inl (cI, N, .inl (fun _ => 0))), (q18, .inr (10, [.ref q20, .int 0, .ref q21, .int 0, .ref q22, .int 0, .ref q23, .ref q24, .ref q25, .int 0, .ref q26, .int 0, .int 0])), (q20, .inl (cI, 4000, .inl (fun _ => 0))), (q26, .inl (cI, N, .inl (fun _ => 0)))]) (rn_I (n := 1) (As := [.ref q9]) (rest := [.ref q27, .ref h0]) hx hb hml hown ht hKK hFx hP hD hS hA (c_X5_init l dC dI cI cB cZ cJ cR tb H.size q27 q9) tw_115 tw_116 tw_117 tw_118 rfl (by decide +kernel) rfl rfl ⟨Nat.le_of_ble_eq_true rfl, Nat.le_of_ble_eq_true rfl⟩ [13] rfl (by decide) rfl hl.1 rfl (Nat.le_of_ble_eq_true rfl) dX11_init_95 ⟨Nat.le_of_ble_eq_true rfl, Nat.le_of_ble_eq_true rfl⟩) hP hD hS hA (isC := [13]) (isR := [0, 1, 2, 3, 4, 5, 6, 7, 8, 9, 10, 11, 12]) rfl rfl (by decide) (by decide) (fun u H locs hw28 hP hD hS => ?_)
    obtain ⟨q29, q30, q31, q32, q33, q34, q35, q36, q37, q38, q39, q40, q41⟩ := u
    have hP : va_P (dC, dI) vwCl [(h0, .inr (14, [.ref q1, .int 0, .ref q9, .ref q18, .null, .null, .int 0, .int (-1), .ref q2, .null, .null, .ref q5])), (q1, .inl (cI, 4000, .inl (fun _ => 0))), (q2, .inr (7, [.ref q4, .int 0, .int 0])), (q4, .inl (cI, 64, .inl (fun _ => 0))), (q5, .inr (11, [.ref q7])), (q7, .inr (1, [.ref q8, .int 0, .int 0, .int 0])), (q8, .inl (cB, 16, .inl (fun _ => 0))), (q9, .inr (10, [.ref q11, .int 0, .ref q12, .int 0, .ref q13, .int 0, .ref q14, .ref q15, .ref q16, .int 0, .ref q17, .int 0, .int 0])), (q11, .inl (cI, 4000, .inl (fun _ => 0))), (q17, .inl (cI, N, .inl (fun _ => 0))), (q18, .inr (10, [.ref q20, .int 0, .ref q21, .int 0, .ref q22, .int 0, .ref q23, .ref q24, .ref q25, .int 0, .ref q26, .int 0, .int 0])), (q20, .inl (cI, 4000, .inl (fun _ => 0))), (q26, .inl (cI, N, .inl (fun _ => 0))), (q27, .inr (8, [.ref q9, .ref q29, .ref q30, .ref q31, .int 0, .int 0, .int 0])), (q29, .inr (12, [.ref q9, .ref q32, .ref q33, .ref q34, .int 0, .int 0, .int 0, .int 0, .int 0, .int 0])), (q32, .inl (cI, 1503, .inl (fun _ => 0))), (q33, .inl (cI, 1503, .inl (fun _ => 0))), (q34, .inl (cI, 1503, .inl (fun _ => 0))), (q30, .inr (5, [.ref q9, .ref q35, .int 0, .int 0, .int 0, .int 0, .ref q36, .int 0, .ref q37, .ref q38, .ref q39, .int 0])), (q31, .inr (6, [.ref q29, .ref q30, .ref q40, .ref q41, .int 0]))] H := hP
    have hD : va_D A [(h0, .inr (14, [.ref q1, .int 0, .ref q9, .ref q18, .null, .null, .int 0, .int (-1), .ref q2, .null, .null, .ref q5])), (q1, .inl (cI, 4000, .inl (fun _ => 0))), (q2, .inr (7, [.ref q4, .int 0, .int 0])), (q4, .inl (cI, 64, .inl (fun _ => 0))), (q5, .inr (11, [.ref q7])), (q7, .inr (1, [.ref q8, .int 0, .int 0, .int 0])), (q8, .inl (cB, 16, .inl (fun _ => 0))), (q9, .inr (10, [.ref q11, .int 0, .ref q12, .int 0, .ref q13, .int 0, .ref q14, .ref q15, .ref q16, .int 0, .ref q17, .int 0, .int 0])), (q11, .inl (cI, 4000, .inl (fun _ => 0))), (q17, .inl (cI, N, .inl (fun _ => 0))), (q18, .inr (10, [.ref q20, .int 0, .ref q21, .int 0, .ref q22, .int 0, .ref q23, .ref q24, .ref q25, .int 0, .ref q26, .int 0, .int 0])), (q20, .inl (cI, 4000, .inl (fun _ => 0))), (q26, .inl (cI, N, .inl (fun _ => 0))), (q27, .inr (8, [.ref q9, .ref q29, .ref q30, .ref q31, .int 0, .int 0, .int 0])), (q29, .inr (12, [.ref q9, .ref q32, .ref q33, .ref q34, .int 0, .int 0, .int 0, .int 0, .int 0, .int 0])), (q32, .inl (cI, 1503, .inl (fun _ => 0))), (q33, .inl (cI, 1503, .inl (fun _ => 0))), (q34, .inl (cI, 1503, .inl (fun _ => 0))), (q30, .inr (5, [.ref q9, .ref q35, .int 0, .int 0, .int 0, .int 0, .ref q36, .int 0, .ref q37, .ref q38, .ref q39, .int 0])), (q31, .inr (6, [.ref q29, .ref q30, .ref q40, .ref q41, .int 0]))] := hD
    refine W.widen (k := 236) (n := 48520) (by omega) (by omega) ?_
    refine va_putF (D := (dC, dI)) (ci := 14) (v := .ref q27) (ty := .object "PocketCompiler$Parser") (C := RX11) (T := TX11) (N := 12) hx hb ht itX11 tyX11 tyX11_ok nmX11 hown hK hP hD hS 0 rfl rfl 4 (by decide) (ht _ tw_119) (fun _ h9 => h9) rfl hin rfl (by decide +kernel) rfl rfl (Nat.le_of_ble_eq_true rfl) dX11_init_98 (fun H locs hP hD hS => ?_)
    have hP : va_P (dC, dI) vwCl [(h0, .inr (14, [.ref q1, .int 0, .ref q9, .ref q18, .ref q27, .null, .int 0, .int (-1), .ref q2, .null, .null, .ref q5])), (q1, .inl (cI, 4000, .inl (fun _ => 0))), (q2, .inr (7, [.ref q4, .int 0, .int 0])), (q4, .inl (cI, 64, .inl (fun _ => 0))), (q5, .inr (11, [.ref q7])), (q7, .inr (1, [.ref q8, .int 0, .int 0, .int 0])), (q8, .inl (cB, 16, .inl (fun _ => 0))), (q9, .inr (10, [.ref q11, .int 0, .ref q12, .int 0, .ref q13, .int 0, .ref q14, .ref q15, .ref q16, .int 0, .ref q17, .int 0, .int 0])), (q11, .inl (cI, 4000, .inl (fun _ => 0))), (q17, .inl (cI, N, .inl (fun _ => 0))), (q18, .inr (10, [.ref q20, .int 0, .ref q21, .int 0, .ref q22, .int 0, .ref q23, .ref q24, .ref q25, .int 0, .ref q26, .int 0, .int 0])), (q20, .inl (cI, 4000, .inl (fun _ => 0))), (q26, .inl (cI, N, .inl (fun _ => 0))), (q27, .inr (8, [.ref q9, .ref q29, .ref q30, .ref q31, .int 0, .int 0, .int 0])), (q29, .inr (12, [.ref q9, .ref q32, .ref q33, .ref q34, .int 0, .int 0, .int 0, .int 0, .int 0, .int 0])), (q32, .inl (cI, 1503, .inl (fun _ => 0))), (q33, .inl (cI, 1503, .inl (fun _ => 0))), (q34, .inl (cI, 1503, .inl (fun _ => 0))), (q30, .inr (5, [.ref q9, .ref q35, .int 0, .int 0, .int 0, .int 0, .ref q36, .int 0, .ref q37, .ref q38, .ref q39, .int 0])), (q31, .inr (6, [.ref q29, .ref q30, .ref q40, .ref q41, .int 0]))] H := hP
    have hD : va_D A [(h0, .inr (14, [.ref q1, .int 0, .ref q9, .ref q18, .ref q27, .null, .int 0, .int (-1), .ref q2, .null, .null, .ref q5])), (q1, .inl (cI, 4000, .inl (fun _ => 0))), (q2, .inr (7, [.ref q4, .int 0, .int 0])), (q4, .inl (cI, 64, .inl (fun _ => 0))), (q5, .inr (11, [.ref q7])), (q7, .inr (1, [.ref q8, .int 0, .int 0, .int 0])), (q8, .inl (cB, 16, .inl (fun _ => 0))), (q9, .inr (10, [.ref q11, .int 0, .ref q12, .int 0, .ref q13, .int 0, .ref q14, .ref q15, .ref q16, .int 0, .ref q17, .int 0, .int 0])), (q11, .inl (cI, 4000, .inl (fun _ => 0))), (q17, .inl (cI, N, .inl (fun _ => 0))), (q18, .inr (10, [.ref q20, .int 0, .ref q21, .int 0, .ref q22, .int 0, .ref q23, .ref q24, .ref q25, .int 0, .ref q26, .int 0, .int 0])), (q20, .inl (cI, 4000, .inl (fun _ => 0))), (q26, .inl (cI, N, .inl (fun _ => 0))), (q27, .inr (8, [.ref q9, .ref q29, .ref q30, .ref q31, .int 0, .int 0, .int 0])), (q29, .inr (12, [.ref q9, .ref q32, .ref q33, .ref q34, .int 0, .int 0, .int 0, .int 0, .int 0, .int 0])), (q32, .inl (cI, 1503, .inl (fun _ => 0))), (q33, .inl (cI, 1503, .inl (fun _ => 0))), (q34, .inl (cI, 1503, .inl (fun _ => 0))), (q30, .inr (5, [.ref q9, .ref q35, .int 0, .int 0, .int 0, .int 0, .ref q36, .int 0, .ref q37, .ref q38, .ref q39, .int 0])), (q31, .inr (6, [.ref q29, .ref q30, .ref q40, .ref q41, .int 0]))] := hD
    refine lv_aload_n hx hb dX11_init_101 rfl (lv_at hl 1 rfl) ?_
    refine va_new (ci := 4) (fs := [.null, .int 0, .null, .int 0, .int 0, .int 0, .int 0, .int 0, .int 0]) (C := RX0) (T := TX0) (N := 9) hx hb ht itX0 tyX0 tyX0_ok hown (ht _ tw_120) (ht _ tw_121) (ht _ tw_122) hK hP hD hS hA rfl (by decide +kernel) (Nat.le_of_ble_eq_true rfl) (Nat.le_of_ble_eq_true rfl) dX11_init_102 (fun q42 H hP hD hS => ?_)
    have hP : va_P (dC, dI) vwCl [(h0, .inr (14, [.ref q1, .int 0, .ref q9, .ref q18, .ref q27, .null, .int 0, .int (-1), .ref q2, .null, .null, .ref q5])), (q1, .inl (cI, 4000, .inl (fun _ => 0))), (q2, .inr (7, [.ref q4, .int 0, .int 0])), (q4, .inl (cI, 64, .inl (fun _ => 0))), (q5, .inr (11, [.ref q7])), (q7, .inr (1, [.ref q8, .int 0, .int 0, .int 0])), (q8, .inl (cB, 16, .inl (fun _ => 0))), (q9, .inr (10, [.ref q11, .int 0, .ref q12, .int 0, .ref q13, .int 0, .ref q14, .ref q15, .ref q16, .int 0, .ref q17, .int 0, .int 0])), (q11, .inl (cI, 4000, .inl (fun _ => 0))), (q17, .inl (cI, N, .inl (fun _ => 0))), (q18, .inr (10, [.ref q20, .int 0, .ref q21, .int 0, .ref q22, .int 0, .ref q23, .ref q24, .ref q25, .int 0, .ref q26, .int 0, .int 0])), (q20, .inl (cI, 4000, .inl (fun _ => 0))), (q26, .inl (cI, N, .inl (fun _ => 0))), (q27, .inr (8, [.ref q9, .ref q29, .ref q30, .ref q31, .int 0, .int 0, .int 0])), (q29, .inr (12, [.ref q9, .ref q32, .ref q33, .ref q34, .int 0, .int 0, .int 0, .int 0, .int 0, .int 0])), (q32, .inl (cI, 1503, .inl (fun _ => 0))), (q33, .inl (cI, 1503, .inl (fun _ => 0))), (q34, .inl (cI, 1503, .inl (fun _ => 0))), (q30, .inr (5, [.ref q9, .ref q35, .int 0, .int 0, .int 0, .int 0, .ref q36, .int 0, .ref q37, .ref q38, .ref q39, .int 0])), (q31, .inr (6, [.ref q29, .ref q30, .ref q40, .ref q41, .int 0])), (q42, .inr (4, [.null, .int 0, .null, .int 0, .int 0, .int 0, .int 0, .int 0, .int 0]))] H := hP
    have hD : va_D A [(h0, .inr (14, [.ref q1, .int 0, .ref q9, .ref q18, .ref q27, .null, .int 0, .int (-1), .ref q2, .null, .null, .ref q5])), (q1, .inl (cI, 4000, .inl (fun _ => 0))), (q2, .inr (7, [.ref q4, .int 0, .int 0])), (q4, .inl (cI, 64, .inl (fun _ => 0))), (q5, .inr (11, [.ref q7])), (q7, .inr (1, [.ref q8, .int 0, .int 0, .int 0])), (q8, .inl (cB, 16, .inl (fun _ => 0))), (q9, .inr (10, [.ref q11, .int 0, .ref q12, .int 0, .ref q13, .int 0, .ref q14, .ref q15, .ref q16, .int 0, .ref q17, .int 0, .int 0])), (q11, .inl (cI, 4000, .inl (fun _ => 0))), (q17, .inl (cI, N, .inl (fun _ => 0))), (q18, .inr (10, [.ref q20, .int 0, .ref q21, .int 0, .ref q22, .int 0, .ref q23, .ref q24, .ref q25, .int 0, .ref q26, .int 0, .int 0])), (q20, .inl (cI, 4000, .inl (fun _ => 0))), (q26, .inl (cI, N, .inl (fun _ => 0))), (q27, .inr (8, [.ref q9, .ref q29, .ref q30, .ref q31, .int 0, .int 0, .int 0])), (q29, .inr (12, [.ref q9, .ref q32, .ref q33, .ref q34, .int 0, .int 0, .int 0, .int 0, .int 0, .int 0])), (q32, .inl (cI, 1503, .inl (fun _ => 0))), (q33, .inl (cI, 1503, .inl (fun _ => 0))), (q34, .inl (cI, 1503, .inl (fun _ => 0))), (q30, .inr (5, [.ref q9, .ref q35, .int 0, .int 0, .int 0, .int 0, .ref q36, .int 0, .ref q37, .ref q38, .ref q39, .int 0])), (q31, .inr (6, [.ref q29, .ref q30, .ref q40, .ref q41, .int 0])), (q42, .inr (4, [.null, .int 0, .null, .int 0, .int 0, .int 0, .int 0, .int 0, .int 0]))] := hD
    refine W.widen (k := 237) (n := 48529) (by omega) (by omega) ?_
    refine lv_dup hx hb dX11_init_105 rfl ?_
    refine lv_aload_n hx hb dX11_init_106 rfl (lv_at hl 1 rfl) ?_
    refine va_get (D := (dC, dI)) (ci := 14) (v := .ref q9) (C := RX11) (T := TX11) (N := 12) hx hb ht itX11 hown hK hP 0 rfl rfl 2 (by decide) (ht _ tw_110) (fun _ h9 => h9) rfl dX11_init_107 ?_
    refine lv_iload_n hx hb dX11_init_110 rfl (lv_at hl 0 rfl) ?_
    refine ca_v (wr := [(h0, .inr (14, [.ref q1, .int 0, .ref q9, .ref q18, .ref q27, .null, .int 0, .int (-1), .ref q2, .null, .null, .ref q5])), (q1, .inl (cI, 4000, .inl (fun _ => 0))), (q2, .inr (7, [.ref q4, .int 0, .int 0])), (q4, .inl (cI, 64, .inl (fun _ => 0))), (q5, .inr (11, [.ref q7])), (q7, .inr (1, [.ref q8, .int 0, .int 0, .int 0])), (q8, .inl (cB, 16, .inl (fun _ => 0))), (q9, .inr (10, [.ref q11, .int 0, .ref q12, .int 0, .ref q13, .int 0, .ref q14, .ref q15, .ref q16, .int 0, .ref q17, .int 0, .int 0])), (q11, .inl (cI, 4000, .inl (fun _ => 0))), (q17, .inl (cI, N, .inl (fun _ => 0))), (q18, .inr (10, [.ref q20, .int 0, .ref q21, .int 0, .ref q22, .int 0, .ref q23, .ref q24, .ref q25, .int 0, .ref q26, .int 0, .int 0])), (q20, .inl (cI, 4000, .inl (fun _ => 0))), (q26, .inl (cI, N, .inl (fun _ => 0))), (q27, .inr (8, [.ref q9, .ref q29, .ref q30, .ref q31, .int 0, .int 0, .int 0])), (q29, .inr (12, [.ref q9, .ref q32, .ref q33, .ref q34, .int 0, .int 0, .int 0, .int 0, .int 0, .int 0])), (q32, .inl (cI, 1503, .inl (fun _ => 0))), (q33, .inl (cI, 1503, .inl (fun _ => 0))), (q34, .inl (cI, 1503, .inl (fun _ => 0))), (q30, .inr (5, [.ref q9, .ref q35, .int 0, .int 0, .int 0, .int 0, .ref q36, .int 0, .ref q37, .ref q38, .ref q39, .int 0])), (q31, .inr (6, [.ref q29, .ref q30, .ref q40, .ref q41, .int 0]))]) (rn_I (n := 2) (As := [.ref q9, .int (nI N)]) (rest := [.ref q42, .ref h0]) hx hb hml hown ht hKK hFx hP hD hS hA (c_X0_init l dC dI cI cB cZ cJ cR tb H.size q42 q9 N (by omega) (by omega)) tw_123 tw_124 tw_125 tw_126 rfl (by decide +kernel) rfl rfl ⟨Nat.le_of_ble_eq_true rfl, Nat.le_of_ble_eq_true rfl⟩ [20] rfl (by decide) rfl hl.1 rfl (Nat.le_of_ble_eq_true rfl) dX11_init_111 ⟨Nat.le_of_ble_eq_true rfl, Nat.le_of_ble_eq_true rfl⟩) hP hD hS hA (isC := [20]) (isR := [0, 1, 2, 3, 4, 5, 6, 7, 8, 9, 10, 11, 12, 13, 14, 15, 16, 17, 18, 19]) rfl rfl (by decide) (by decide) (fun u H locs hw43 hP hD hS => ?_)
    obtain ⟨q44, hq9⟩ : ∃ z, z = u := ⟨_, rfl⟩
    subst hq9
    have hP : va_P (dC, dI) vwCl [(h0, .inr (14, [.ref q1, .int 0, .ref q9, .ref q18, .ref q27, .null, .int 0, .int (-1), .ref q2, .null, .null, .ref q5])), (q1, .inl (cI, 4000, .inl (fun _ => 0))), (q2, .inr (7, [.ref q4, .int 0, .int 0])), (q4, .inl (cI, 64, .inl (fun _ => 0))), (q5, .inr (11, [.ref q7])), (q7, .inr (1, [.ref q8, .int 0, .int 0, .int 0])), (q8, .inl (cB, 16, .inl (fun _ => 0))), (q9, .inr (10, [.ref q11, .int 0, .ref q12, .int 0, .ref q13, .int 0, .ref q14, .ref q15, .ref q16, .int 0, .ref q17, .int 0, .int 0])), (q11, .inl (cI, 4000, .inl (fun _ => 0))), (q17, .inl (cI, N, .inl (fun _ => 0))), (q18, .inr (10, [.ref q20, .int 0, .ref q21, .int 0, .ref q22, .int 0, .ref q23, .ref q24, .ref q25, .int 0, .ref q26, .int 0, .int 0])), (q20, .inl (cI, 4000, .inl (fun _ => 0))), (q26, .inl (cI, N, .inl (fun _ => 0))), (q27, .inr (8, [.ref q9, .ref q29, .ref q30, .ref q31, .int 0, .int 0, .int 0])), (q29, .inr (12, [.ref q9, .ref q32, .ref q33, .ref q34, .int 0, .int 0, .int 0, .int 0, .int 0, .int 0])), (q32, .inl (cI, 1503, .inl (fun _ => 0))), (q33, .inl (cI, 1503, .inl (fun _ => 0))), (q34, .inl (cI, 1503, .inl (fun _ => 0))), (q30, .inr (5, [.ref q9, .ref q35, .int 0, .int 0, .int 0, .int 0, .ref q36, .int 0, .ref q37, .ref q38, .ref q39, .int 0])), (q31, .inr (6, [.ref q29, .ref q30, .ref q40, .ref q41, .int 0])), (q42, .inr (4, [.ref q9, .int (4 * (nI N)), .ref q44, .int 0, .int 0, .int 0, .int 0, .int 0, .int 0]))] H := hP
    have hD : va_D A [(h0, .inr (14, [.ref q1, .int 0, .ref q9, .ref q18, .ref q27, .null, .int 0, .int (-1), .ref q2, .null, .null, .ref q5])), (q1, .inl (cI, 4000, .inl (fun _ => 0))), (q2, .inr (7, [.ref q4, .int 0, .int 0])), (q4, .inl (cI, 64, .inl (fun _ => 0))), (q5, .inr (11, [.ref q7])), (q7, .inr (1, [.ref q8, .int 0, .int 0, .int 0])), (q8, .inl (cB, 16, .inl (fun _ => 0))), (q9, .inr (10, [.ref q11, .int 0, .ref q12, .int 0, .ref q13, .int 0, .ref q14, .ref q15, .ref q16, .int 0, .ref q17, .int 0, .int 0])), (q11, .inl (cI, 4000, .inl (fun _ => 0))), (q17, .inl (cI, N, .inl (fun _ => 0))), (q18, .inr (10, [.ref q20, .int 0, .ref q21, .int 0, .ref q22, .int 0, .ref q23, .ref q24, .ref q25, .int 0, .ref q26, .int 0, .int 0])), (q20, .inl (cI, 4000, .inl (fun _ => 0))), (q26, .inl (cI, N, .inl (fun _ => 0))), (q27, .inr (8, [.ref q9, .ref q29, .ref q30, .ref q31, .int 0, .int 0, .int 0])), (q29, .inr (12, [.ref q9, .ref q32, .ref q33, .ref q34, .int 0, .int 0, .int 0, .int 0, .int 0, .int 0])), (q32, .inl (cI, 1503, .inl (fun _ => 0))), (q33, .inl (cI, 1503, .inl (fun _ => 0))), (q34, .inl (cI, 1503, .inl (fun _ => 0))), (q30, .inr (5, [.ref q9, .ref q35, .int 0, .int 0, .int 0, .int 0, .ref q36, .int 0, .ref q37, .ref q38, .ref q39, .int 0])), (q31, .inr (6, [.ref q29, .ref q30, .ref q40, .ref q41, .int 0])), (q42, .inr (4, [.ref q9, .int (4 * (nI N)), .ref q44, .int 0, .int 0, .int 0, .int 0, .int 0, .int 0]))] := hD
    refine W.widen (k := 238) (n := 51538) (by omega) (by omega) ?_
    refine va_putF (D := (dC, dI)) (ci := 14) (v := .ref q42) (ty := .object "PocketCompiler$Assembler") (C := RX11) (T := TX11) (N := 12) hx hb ht itX11 tyX11 tyX11_ok nmX11 hown hK hP hD hS 0 rfl rfl 5 (by decide) (ht _ tw_127) (fun _ h9 => h9) rfl hin rfl (by decide +kernel) rfl rfl (Nat.le_of_ble_eq_true rfl) dX11_init_114 (fun H locs hP hD hS => ?_)
    have hP : va_P (dC, dI) vwCl [(h0, .inr (14, [.ref q1, .int 0, .ref q9, .ref q18, .ref q27, .ref q42, .int 0, .int (-1), .ref q2, .null, .null, .ref q5])), (q1, .inl (cI, 4000, .inl (fun _ => 0))), (q2, .inr (7, [.ref q4, .int 0, .int 0])), (q4, .inl (cI, 64, .inl (fun _ => 0))), (q5, .inr (11, [.ref q7])), (q7, .inr (1, [.ref q8, .int 0, .int 0, .int 0])), (q8, .inl (cB, 16, .inl (fun _ => 0))), (q9, .inr (10, [.ref q11, .int 0, .ref q12, .int 0, .ref q13, .int 0, .ref q14, .ref q15, .ref q16, .int 0, .ref q17, .int 0, .int 0])), (q11, .inl (cI, 4000, .inl (fun _ => 0))), (q17, .inl (cI, N, .inl (fun _ => 0))), (q18, .inr (10, [.ref q20, .int 0, .ref q21, .int 0, .ref q22, .int 0, .ref q23, .ref q24, .ref q25, .int 0, .ref q26, .int 0, .int 0])), (q20, .inl (cI, 4000, .inl (fun _ => 0))), (q26, .inl (cI, N, .inl (fun _ => 0))), (q27, .inr (8, [.ref q9, .ref q29, .ref q30, .ref q31, .int 0, .int 0, .int 0])), (q29, .inr (12, [.ref q9, .ref q32, .ref q33, .ref q34, .int 0, .int 0, .int 0, .int 0, .int 0, .int 0])), (q32, .inl (cI, 1503, .inl (fun _ => 0))), (q33, .inl (cI, 1503, .inl (fun _ => 0))), (q34, .inl (cI, 1503, .inl (fun _ => 0))), (q30, .inr (5, [.ref q9, .ref q35, .int 0, .int 0, .int 0, .int 0, .ref q36, .int 0, .ref q37, .ref q38, .ref q39, .int 0])), (q31, .inr (6, [.ref q29, .ref q30, .ref q40, .ref q41, .int 0])), (q42, .inr (4, [.ref q9, .int (4 * (nI N)), .ref q44, .int 0, .int 0, .int 0, .int 0, .int 0, .int 0]))] H := hP
    have hD : va_D A [(h0, .inr (14, [.ref q1, .int 0, .ref q9, .ref q18, .ref q27, .ref q42, .int 0, .int (-1), .ref q2, .null, .null, .ref q5])), (q1, .inl (cI, 4000, .inl (fun _ => 0))), (q2, .inr (7, [.ref q4, .int 0, .int 0])), (q4, .inl (cI, 64, .inl (fun _ => 0))), (q5, .inr (11, [.ref q7])), (q7, .inr (1, [.ref q8, .int 0, .int 0, .int 0])), (q8, .inl (cB, 16, .inl (fun _ => 0))), (q9, .inr (10, [.ref q11, .int 0, .ref q12, .int 0, .ref q13, .int 0, .ref q14, .ref q15, .ref q16, .int 0, .ref q17, .int 0, .int 0])), (q11, .inl (cI, 4000, .inl (fun _ => 0))), (q17, .inl (cI, N, .inl (fun _ => 0))), (q18, .inr (10, [.ref q20, .int 0, .ref q21, .int 0, .ref q22, .int 0, .ref q23, .ref q24, .ref q25, .int 0, .ref q26, .int 0, .int 0])), (q20, .inl (cI, 4000, .inl (fun _ => 0))), (q26, .inl (cI, N, .inl (fun _ => 0))), (q27, .inr (8, [.ref q9, .ref q29, .ref q30, .ref q31, .int 0, .int 0, .int 0])), (q29, .inr (12, [.ref q9, .ref q32, .ref q33, .ref q34, .int 0, .int 0, .int 0, .int 0, .int 0, .int 0])), (q32, .inl (cI, 1503, .inl (fun _ => 0))), (q33, .inl (cI, 1503, .inl (fun _ => 0))), (q34, .inl (cI, 1503, .inl (fun _ => 0))), (q30, .inr (5, [.ref q9, .ref q35, .int 0, .int 0, .int 0, .int 0, .ref q36, .int 0, .ref q37, .ref q38, .ref q39, .int 0])), (q31, .inr (6, [.ref q29, .ref q30, .ref q40, .ref q41, .int 0])), (q42, .inr (4, [.ref q9, .int (4 * (nI N)), .ref q44, .int 0, .int 0, .int 0, .int 0, .int 0, .int 0]))] := hD
    refine lv_aload_n hx hb dX11_init_117 rfl (lv_at hl 1 rfl) ?_
    refine va_new (ci := 9) (fs := [.null, .null, .int 0, .int 0, .int 0, .int 0, .null, .int 0, .null]) (C := RX6) (T := TX6) (N := 9) hx hb ht itX6 tyX6 tyX6_ok hown (ht _ tw_128) (ht _ tw_129) (ht _ tw_130) hK hP hD hS hA rfl (by decide +kernel) (Nat.le_of_ble_eq_true rfl) (Nat.le_of_ble_eq_true rfl) dX11_init_118 (fun q45 H hP hD hS => ?_)
    have hP : va_P (dC, dI) vwCl [(h0, .inr (14, [.ref q1, .int 0, .ref q9, .ref q18, .ref q27, .ref q42, .int 0, .int (-1), .ref q2, .null, .null, .ref q5])), (q1, .inl (cI, 4000, .inl (fun _ => 0))), (q2, .inr (7, [.ref q4, .int 0, .int 0])), (q4, .inl (cI, 64, .inl (fun _ => 0))), (q5, .inr (11, [.ref q7])), (q7, .inr (1, [.ref q8, .int 0, .int 0, .int 0])), (q8, .inl (cB, 16, .inl (fun _ => 0))), (q9, .inr (10, [.ref q11, .int 0, .ref q12, .int 0, .ref q13, .int 0, .ref q14, .ref q15, .ref q16, .int 0, .ref q17, .int 0, .int 0])), (q11, .inl (cI, 4000, .inl (fun _ => 0))), (q17, .inl (cI, N, .inl (fun _ => 0))), (q18, .inr (10, [.ref q20, .int 0, .ref q21, .int 0, .ref q22, .int 0, .ref q23, .ref q24, .ref q25, .int 0, .ref q26, .int 0, .int 0])), (q20, .inl (cI, 4000, .inl (fun _ => 0))), (q26, .inl (cI, N, .inl (fun _ => 0))), (q27, .inr (8, [.ref q9, .ref q29, .ref q30, .ref q31, .int 0, .int 0, .int 0])), (q29, .inr (12, [.ref q9, .ref q32, .ref q33, .ref q34, .int 0, .int 0, .int 0, .int 0, .int 0, .int 0])), (q32, .inl (cI, 1503, .inl (fun _ => 0))), (q33, .inl (cI, 1503, .inl (fun _ => 0))), (q34, .inl (cI, 1503, .inl (fun _ => 0))), (q30, .inr (5, [.ref q9, .ref q35, .int 0, .int 0, .int 0, .int 0, .ref q36, .int 0, .ref q37, .ref q38, .ref q39, .int 0])), (q31, .inr (6, [.ref q29, .ref q30, .ref q40, .ref q41, .int 0])), (q42, .inr (4, [.ref q9, .int (4 * (nI N)), .ref q44, .int 0, .int 0, .int 0, .int 0, .int 0, .int 0])), (q45, .inr (9, [.null, .null, .int 0, .int 0, .int 0, .int 0, .null, .int 0, .null]))] H := hP
    have hD : va_D A [(h0, .inr (14, [.ref q1, .int 0, .ref q9, .ref q18, .ref q27, .ref q42, .int 0, .int (-1), .ref q2, .null, .null, .ref q5])), (q1, .inl (cI, 4000, .inl (fun _ => 0))), (q2, .inr (7, [.ref q4, .int 0, .int 0])), (q4, .inl (cI, 64, .inl (fun _ => 0))), (q5, .inr (11, [.ref q7])), (q7, .inr (1, [.ref q8, .int 0, .int 0, .int 0])), (q8, .inl (cB, 16, .inl (fun _ => 0))), (q9, .inr (10, [.ref q11, .int 0, .ref q12, .int 0, .ref q13, .int 0, .ref q14, .ref q15, .ref q16, .int 0, .ref q17, .int 0, .int 0])), (q11, .inl (cI, 4000, .inl (fun _ => 0))), (q17, .inl (cI, N, .inl (fun _ => 0))), (q18, .inr (10, [.ref q20, .int 0, .ref q21, .int 0, .ref q22, .int 0, .ref q23, .ref q24, .ref q25, .int 0, .ref q26, .int 0, .int 0])), (q20, .inl (cI, 4000, .inl (fun _ => 0))), (q26, .inl (cI, N, .inl (fun _ => 0))), (q27, .inr (8, [.ref q9, .ref q29, .ref q30, .ref q31, .int 0, .int 0, .int 0])), (q29, .inr (12, [.ref q9, .ref q32, .ref q33, .ref q34, .int 0, .int 0, .int 0, .int 0, .int 0, .int 0])), (q32, .inl (cI, 1503, .inl (fun _ => 0))), (q33, .inl (cI, 1503, .inl (fun _ => 0))), (q34, .inl (cI, 1503, .inl (fun _ => 0))), (q30, .inr (5, [.ref q9, .ref q35, .int 0, .int 0, .int 0, .int 0, .ref q36, .int 0, .ref q37, .ref q38, .ref q39, .int 0])), (q31, .inr (6, [.ref q29, .ref q30, .ref q40, .ref q41, .int 0])), (q42, .inr (4, [.ref q9, .int (4 * (nI N)), .ref q44, .int 0, .int 0, .int 0, .int 0, .int 0, .int 0])), (q45, .inr (9, [.null, .null, .int 0, .int 0, .int 0, .int 0, .null, .int 0, .null]))] := hD
    refine W.widen (k := 239) (n := 51547) (by omega) (by omega) ?_
    refine lv_dup hx hb dX11_init_121 rfl ?_
    refine lv_iload_n hx hb dX11_init_122 rfl (lv_at hl 0 rfl) ?_
    refine lv_aload_n hx hb dX11_init_123 rfl (lv_at hl 1 rfl) ?_
    refine va_get (D := (dC, dI)) (ci := 14) (v := .ref q2) (C := RX11) (T := TX11) (N := 12) hx hb ht itX11 hown hK hP 0 rfl rfl 8 (by decide) (ht _ tw_95) (fun _ h9 => h9) rfl dX11_init_124 ?_
    refine ca_v (wr := [(h0, .inr (14, [.ref q1, .int 0, .ref q9, .ref q18, .ref q27, .ref q42, .int 0, .int (-1), .ref q2, .null, .null, .ref q5])), (q1, .inl (cI, 4000, .inl (fun _ => 0))), (q2, .inr (7, [.ref q4, .int 0, .int 0])), (q4, .inl (cI, 64, .inl (fun _ => 0))), (q5, .inr (11, [.ref q7])), (q7, .inr (1, [.ref q8, .int 0, .int 0, .int 0])), (q8, .inl (cB, 16, .inl (fun _ => 0))), (q9, .inr (10, [.ref q11, .int 0, .ref q12, .int 0, .ref q13, .int 0, .ref q14, .ref q15, .ref q16, .int 0, .ref q17, .int 0, .int 0])), (q11, .inl (cI, 4000, .inl (fun _ => 0))), (q17, .inl (cI, N, .inl (fun _ => 0))), (q18, .inr (10, [.ref q20, .int 0, .ref q21, .int 0, .ref q22, .int 0, .ref q23, .ref q24, .ref q25, .int 0, .ref q26, .int 0, .int 0])), (q20, .inl (cI, 4000, .inl (fun _ => 0))), (q26, .inl (cI, N, .inl (fun _ => 0))), (q27, .inr (8, [.ref q9, .ref q29, .ref q30, .ref q31, .int 0, .int 0, .int 0])), (q29, .inr (12, [.ref q9, .ref q32, .ref q33, .ref q34, .int 0, .int 0, .int 0, .int 0, .int 0, .int 0])), (q32, .inl (cI, 1503, .inl (fun _ => 0))), (q33, .inl (cI, 1503, .inl (fun _ => 0))), (q34, .inl (cI, 1503, .inl (fun _ => 0))), (q30, .inr (5, [.ref q9, .ref q35, .int 0, .int 0, .int 0, .int 0, .ref q36, .int 0, .ref q37, .ref q38, .ref q39, .int 0])), (q31, .inr (6, [.ref q29, .ref q30, .ref q40, .ref q41, .int 0])), (q42, .inr (4, [.ref q9, .int (4 * (nI N)), .ref q44, .int 0, .int 0, .int 0, .int 0, .int 0, .int 0]))]) (rn_I (n := 2) (As := [.int (nI N), .ref q2]) (rest := [.ref q45, .ref h0]) hx hb hml hown ht hKK hFx hP hD hS hA (c_X6_init l dC dI cI cB cZ cJ cR tb H.size q45 N q2 (by omega) (by omega)) tw_136 tw_137 tw_138 tw_139 rfl (by decide +kernel) rfl rfl ⟨Nat.le_of_ble_eq_true rfl, Nat.le_of_ble_eq_true rfl⟩ [21] rfl (by decide) rfl hl.1 rfl (Nat.le_of_ble_eq_true rfl) dX11_init_127 ⟨Nat.le_of_ble_eq_true rfl, Nat.le_of_ble_eq_true rfl⟩) hP hD hS hA (isC := [21]) (isR := [0, 1, 2, 3, 4, 5, 6, 7, 8, 9, 10, 11, 12, 13, 14, 15, 16, 17, 18, 19, 20]) rfl rfl (by decide) (by decide) (fun u H locs hw46 hP hD hS => ?_)
    obtain ⟨q47, q48, q49⟩ := u
    have hP : va_P (dC, dI) vwCl [(h0, .inr (14, [.ref q1, .int 0, .ref q9, .ref q18, .ref q27, .ref q42, .int 0, .int (-1), .ref q2, .null, .null, .ref q5])), (q1, .inl (cI, 4000, .inl (fun _ => 0))), (q2, .inr (7, [.ref q4, .int 0, .int 0])), (q4, .inl (cI, 64, .inl (fun _ => 0))), (q5, .inr (11, [.ref q7])), (q7, .inr (1, [.ref q8, .int 0, .int 0, .int 0])), (q8, .inl (cB, 16, .inl (fun _ => 0))), (q9, .inr (10, [.ref q11, .int 0, .ref q12, .int 0, .ref q13, .int 0, .ref q14, .ref q15, .ref q16, .int 0, .ref q17, .int 0, .int 0])), (q11, .inl (cI, 4000, .inl (fun _ => 0))), (q17, .inl (cI, N, .inl (fun _ => 0))), (q18, .inr (10, [.ref q20, .int 0, .ref q21, .int 0, .ref q22, .int 0, .ref q23, .ref q24, .ref q25, .int 0, .ref q26, .int 0, .int 0])), (q20, .inl (cI, 4000, .inl (fun _ => 0))), (q26, .inl (cI, N, .inl (fun _ => 0))), (q27, .inr (8, [.ref q9, .ref q29, .ref q30, .ref q31, .int 0, .int 0, .int 0])), (q29, .inr (12, [.ref q9, .ref q32, .ref q33, .ref q34, .int 0, .int 0, .int 0, .int 0, .int 0, .int 0])), (q32, .inl (cI, 1503, .inl (fun _ => 0))), (q33, .inl (cI, 1503, .inl (fun _ => 0))), (q34, .inl (cI, 1503, .inl (fun _ => 0))), (q30, .inr (5, [.ref q9, .ref q35, .int 0, .int 0, .int 0, .int 0, .ref q36, .int 0, .ref q37, .ref q38, .ref q39, .int 0])), (q31, .inr (6, [.ref q29, .ref q30, .ref q40, .ref q41, .int 0])), (q42, .inr (4, [.ref q9, .int (4 * (nI N)), .ref q44, .int 0, .int 0, .int 0, .int 0, .int 0, .int 0])), (q45, .inr (9, [.ref q47, .ref q48, .int 0, .int 0, .int 0, .int 0, .ref q49, .int 0, .ref q2])), (q48, .inl (cI, 32, .inl (fun _ => 0))), (q49, .inl (cI, 200, .inl (fun _ => 0))), (q47, .inl (cI, N, .inl (fun _ => 0)))] H := hP
    have hD : va_D A [(h0, .inr (14, [.ref q1, .int 0, .ref q9, .ref q18, .ref q27, .ref q42, .int 0, .int (-1), .ref q2, .null, .null, .ref q5])), (q1, .inl (cI, 4000, .inl (fun _ => 0))), (q2, .inr (7, [.ref q4, .int 0, .int 0])), (q4, .inl (cI, 64, .inl (fun _ => 0))), (q5, .inr (11, [.ref q7])), (q7, .inr (1, [.ref q8, .int 0, .int 0, .int 0])), (q8, .inl (cB, 16, .inl (fun _ => 0))), (q9, .inr (10, [.ref q11, .int 0, .ref q12, .int 0, .ref q13, .int 0, .ref q14, .ref q15, .ref q16, .int 0, .ref q17, .int 0, .int 0])), (q11, .inl (cI, 4000, .inl (fun _ => 0))), (q17, .inl (cI, N, .inl (fun _ => 0))), (q18, .inr (10, [.ref q20, .int 0, .ref q21, .int 0, .ref q22, .int 0, .ref q23, .ref q24, .ref q25, .int 0, .ref q26, .int 0, .int 0])), (q20, .inl (cI, 4000, .inl (fun _ => 0))), (q26, .inl (cI, N, .inl (fun _ => 0))), (q27, .inr (8, [.ref q9, .ref q29, .ref q30, .ref q31, .int 0, .int 0, .int 0])), (q29, .inr (12, [.ref q9, .ref q32, .ref q33, .ref q34, .int 0, .int 0, .int 0, .int 0, .int 0, .int 0])), (q32, .inl (cI, 1503, .inl (fun _ => 0))), (q33, .inl (cI, 1503, .inl (fun _ => 0))), (q34, .inl (cI, 1503, .inl (fun _ => 0))), (q30, .inr (5, [.ref q9, .ref q35, .int 0, .int 0, .int 0, .int 0, .ref q36, .int 0, .ref q37, .ref q38, .ref q39, .int 0])), (q31, .inr (6, [.ref q29, .ref q30, .ref q40, .ref q41, .int 0])), (q42, .inr (4, [.ref q9, .int (4 * (nI N)), .ref q44, .int 0, .int 0, .int 0, .int 0, .int 0, .int 0])), (q45, .inr (9, [.ref q47, .ref q48, .int 0, .int 0, .int 0, .int 0, .ref q49, .int 0, .ref q2])), (q48, .inl (cI, 32, .inl (fun _ => 0))), (q49, .inl (cI, 200, .inl (fun _ => 0))), (q47, .inl (cI, N, .inl (fun _ => 0)))] := hD
    refine W.widen (k := 242) (n := 55875) (by omega) (by omega) ?_
    refine va_putF (D := (dC, dI)) (ci := 14) (v := .ref q45) (ty := .object "PocketCompiler$Processor") (C := RX11) (T := TX11) (N := 12) hx hb ht itX11 tyX11 tyX11_ok nmX11 hown hK hP hD hS 0 rfl rfl 9 (by decide) (ht _ tw_140) (fun _ h9 => h9) rfl hin rfl (by decide +kernel) rfl rfl (Nat.le_of_ble_eq_true rfl) dX11_init_130 (fun H locs hP hD hS => ?_)
    have hP : va_P (dC, dI) vwCl [(h0, .inr (14, [.ref q1, .int 0, .ref q9, .ref q18, .ref q27, .ref q42, .int 0, .int (-1), .ref q2, .ref q45, .null, .ref q5])), (q1, .inl (cI, 4000, .inl (fun _ => 0))), (q2, .inr (7, [.ref q4, .int 0, .int 0])), (q4, .inl (cI, 64, .inl (fun _ => 0))), (q5, .inr (11, [.ref q7])), (q7, .inr (1, [.ref q8, .int 0, .int 0, .int 0])), (q8, .inl (cB, 16, .inl (fun _ => 0))), (q9, .inr (10, [.ref q11, .int 0, .ref q12, .int 0, .ref q13, .int 0, .ref q14, .ref q15, .ref q16, .int 0, .ref q17, .int 0, .int 0])), (q11, .inl (cI, 4000, .inl (fun _ => 0))), (q17, .inl (cI, N, .inl (fun _ => 0))), (q18, .inr (10, [.ref q20, .int 0, .ref q21, .int 0, .ref q22, .int 0, .ref q23, .ref q24, .ref q25, .int 0, .ref q26, .int 0, .int 0])), (q20, .inl (cI, 4000, .inl (fun _ => 0))), (q26, .inl (cI, N, .inl (fun _ => 0))), (q27, .inr (8, [.ref q9, .ref q29, .ref q30, .ref q31, .int 0, .int 0, .int 0])), (q29, .inr (12, [.ref q9, .ref q32, .ref q33, .ref q34, .int 0, .int 0, .int 0, .int 0, .int 0, .int 0])), (q32, .inl (cI, 1503, .inl (fun _ => 0))), (q33, .inl (cI, 1503, .inl (fun _ => 0))), (q34, .inl (cI, 1503, .inl (fun _ => 0))), (q30, .inr (5, [.ref q9, .ref q35, .int 0, .int 0, .int 0, .int 0, .ref q36, .int 0, .ref q37, .ref q38, .ref q39, .int 0])), (q31, .inr (6, [.ref q29, .ref q30, .ref q40, .ref q41, .int 0])), (q42, .inr (4, [.ref q9, .int (4 * (nI N)), .ref q44, .int 0, .int 0, .int 0, .int 0, .int 0, .int 0])), (q45, .inr (9, [.ref q47, .ref q48, .int 0, .int 0, .int 0, .int 0, .ref q49, .int 0, .ref q2])), (q48, .inl (cI, 32, .inl (fun _ => 0))), (q49, .inl (cI, 200, .inl (fun _ => 0))), (q47, .inl (cI, N, .inl (fun _ => 0)))] H := hP
    have hD : va_D A [(h0, .inr (14, [.ref q1, .int 0, .ref q9, .ref q18, .ref q27, .ref q42, .int 0, .int (-1), .ref q2, .ref q45, .null, .ref q5])), (q1, .inl (cI, 4000, .inl (fun _ => 0))), (q2, .inr (7, [.ref q4, .int 0, .int 0])), (q4, .inl (cI, 64, .inl (fun _ => 0))), (q5, .inr (11, [.ref q7])), (q7, .inr (1, [.ref q8, .int 0, .int 0, .int 0])), (q8, .inl (cB, 16, .inl (fun _ => 0))), (q9, .inr (10, [.ref q11, .int 0, .ref q12, .int 0, .ref q13, .int 0, .ref q14, .ref q15, .ref q16, .int 0, .ref q17, .int 0, .int 0])), (q11, .inl (cI, 4000, .inl (fun _ => 0))), (q17, .inl (cI, N, .inl (fun _ => 0))), (q18, .inr (10, [.ref q20, .int 0, .ref q21, .int 0, .ref q22, .int 0, .ref q23, .ref q24, .ref q25, .int 0, .ref q26, .int 0, .int 0])), (q20, .inl (cI, 4000, .inl (fun _ => 0))), (q26, .inl (cI, N, .inl (fun _ => 0))), (q27, .inr (8, [.ref q9, .ref q29, .ref q30, .ref q31, .int 0, .int 0, .int 0])), (q29, .inr (12, [.ref q9, .ref q32, .ref q33, .ref q34, .int 0, .int 0, .int 0, .int 0, .int 0, .int 0])), (q32, .inl (cI, 1503, .inl (fun _ => 0))), (q33, .inl (cI, 1503, .inl (fun _ => 0))), (q34, .inl (cI, 1503, .inl (fun _ => 0))), (q30, .inr (5, [.ref q9, .ref q35, .int 0, .int 0, .int 0, .int 0, .ref q36, .int 0, .ref q37, .ref q38, .ref q39, .int 0])), (q31, .inr (6, [.ref q29, .ref q30, .ref q40, .ref q41, .int 0])), (q42, .inr (4, [.ref q9, .int (4 * (nI N)), .ref q44, .int 0, .int 0, .int 0, .int 0, .int 0, .int 0])), (q45, .inr (9, [.ref q47, .ref q48, .int 0, .int 0, .int 0, .int 0, .ref q49, .int 0, .ref q2])), (q48, .inl (cI, 32, .inl (fun _ => 0))), (q49, .inl (cI, 200, .inl (fun _ => 0))), (q47, .inl (cI, N, .inl (fun _ => 0)))] := hD
    refine lv_aload_n hx hb dX11_init_133 rfl (lv_at hl 1 rfl) ?_
    refine va_new (ci := 13) (fs := [.null, .null, .int 0, .null, .null, .null, .int 0, .int 0, .int 0, .int 0, .int 0, .int 0, .int 0, .int 0, .int 0, .int 0, .int 0]) (C := RX10) (T := TX10) (N := 17) hx hb ht itX10 tyX10 tyX10_ok hown (ht _ tw_141) (ht _ tw_142) (ht _ tw_143) hK hP hD hS hA rfl (by decide +kernel) (Nat.le_of_ble_eq_true rfl) (Nat.le_of_ble_eq_true rfl) dX11_init_134 (fun q50 H hP hD hS => ?_)
    have hP : va_P (dC, dI) vwCl [(h0, .inr (14, [.ref q1, .int 0, .ref q9, .ref q18, .ref q27, .ref q42, .int 0, .int (-1), .ref q2, .ref q45, .null, .ref q5])), (q1, .inl (cI, 4000, .inl (fun _ => 0))), (q2, .inr (7, [.ref q4, .int 0, .int 0])), (q4, .inl (cI, 64, .inl (fun _ => 0))), (q5, .inr (11, [.ref q7])), (q7, .inr (1, [.ref q8, .int 0, .int 0, .int 0])), (q8, .inl (cB, 16, .inl (fun _ => 0))), (q9, .inr (10, [.ref q11, .int 0, .ref q12, .int 0, .ref q13, .int 0, .ref q14, .ref q15, .ref q16, .int 0, .ref q17, .int 0, .int 0])), (q11, .inl (cI, 4000, .inl (fun _ => 0))), (q17, .inl (cI, N, .inl (fun _ => 0))), (q18, .inr (10, [.ref q20, .int 0, .ref q21, .int 0, .ref q22, .int 0, .ref q23, .ref q24, .ref q25, .int 0, .ref q26, .int 0, .int 0])), (q20, .inl (cI, 4000, .inl (fun _ => 0))), (q26, .inl (cI, N, .inl (fun _ => 0))), (q27, .inr (8, [.ref q9, .ref q29, .ref q30, .ref q31, .int 0, .int 0, .int 0])), (q29, .inr (12, [.ref q9, .ref q32, .ref q33, .ref q34, .int 0, .int 0, .int 0, .int 0, .int 0, .int 0])), (q32, .inl (cI, 1503, .inl (fun _ => 0))), (q33, .inl (cI, 1503, .inl (fun _ => 0))), (q34, .inl (cI, 1503, .inl (fun _ => 0))), (q30, .inr (5, [.ref q9, .ref q35, .int 0, .int 0, .int 0, .int 0, .ref q36, .int 0, .ref q37, .ref q38, .ref q39, .int 0])), (q31, .inr (6, [.ref q29, .ref q30, .ref q40, .ref q41, .int 0])), (q42, .inr (4, [.ref q9, .int (4 * (nI N)), .ref q44, .int 0, .int 0, .int 0, .int 0, .int 0, .int 0])), (q45, .inr (9, [.ref q47, .ref q48, .int 0, .int 0, .int 0, .int 0, .ref q49, .int 0, .ref q2])), (q48, .inl (cI, 32, .inl (fun _ => 0))), (q49, .inl (cI, 200, .inl (fun _ => 0))), (q47, .inl (cI, N, .inl (fun _ => 0))), (q50, .inr (13, [.null, .null, .int 0, .null, .null, .null, .int 0, .int 0, .int 0, .int 0, .int 0, .int 0, .int 0, .int 0, .int 0, .int 0, .int 0]))] H := hP
    have hD : va_D A [(h0, .inr (14, [.ref q1, .int 0, .ref q9, .ref q18, .ref q27, .ref q42, .int 0, .int (-1), .ref q2, .ref q45, .null, .ref q5])), (q1, .inl (cI, 4000, .inl (fun _ => 0))), (q2, .inr (7, [.ref q4, .int 0, .int 0])), (q4, .inl (cI, 64, .inl (fun _ => 0))), (q5, .inr (11, [.ref q7])), (q7, .inr (1, [.ref q8, .int 0, .int 0, .int 0])), (q8, .inl (cB, 16, .inl (fun _ => 0))), (q9, .inr (10, [.ref q11, .int 0, .ref q12, .int 0, .ref q13, .int 0, .ref q14, .ref q15, .ref q16, .int 0, .ref q17, .int 0, .int 0])), (q11, .inl (cI, 4000, .inl (fun _ => 0))), (q17, .inl (cI, N, .inl (fun _ => 0))), (q18, .inr (10, [.ref q20, .int 0, .ref q21, .int 0, .ref q22, .int 0, .ref q23, .ref q24, .ref q25, .int 0, .ref q26, .int 0, .int 0])), (q20, .inl (cI, 4000, .inl (fun _ => 0))), (q26, .inl (cI, N, .inl (fun _ => 0))), (q27, .inr (8, [.ref q9, .ref q29, .ref q30, .ref q31, .int 0, .int 0, .int 0])), (q29, .inr (12, [.ref q9, .ref q32, .ref q33, .ref q34, .int 0, .int 0, .int 0, .int 0, .int 0, .int 0])), (q32, .inl (cI, 1503, .inl (fun _ => 0))), (q33, .inl (cI, 1503, .inl (fun _ => 0))), (q34, .inl (cI, 1503, .inl (fun _ => 0))), (q30, .inr (5, [.ref q9, .ref q35, .int 0, .int 0, .int 0, .int 0, .ref q36, .int 0, .ref q37, .ref q38, .ref q39, .int 0])), (q31, .inr (6, [.ref q29, .ref q30, .ref q40, .ref q41, .int 0])), (q42, .inr (4, [.ref q9, .int (4 * (nI N)), .ref q44, .int 0, .int 0, .int 0, .int 0, .int 0, .int 0])), (q45, .inr (9, [.ref q47, .ref q48, .int 0, .int 0, .int 0, .int 0, .ref q49, .int 0, .ref q2])), (q48, .inl (cI, 32, .inl (fun _ => 0))), (q49, .inl (cI, 200, .inl (fun _ => 0))), (q47, .inl (cI, N, .inl (fun _ => 0))), (q50, .inr (13, [.null, .null, .int 0, .null, .null, .null, .int 0, .int 0, .int 0, .int 0, .int 0, .int 0, .int 0, .int 0, .int 0, .int 0, .int 0]))] := hD
    refine W.widen (k := 243) (n := 55892) (by omega) (by omega) ?_
    refine lv_dup hx hb dX11_init_137 rfl ?_
    refine lv_aload_n hx hb dX11_init_138 rfl (lv_at hl 1 rfl) ?_
    refine va_get (D := (dC, dI)) (ci := 14) (v := .ref q9) (C := RX11) (T := TX11) (N := 12) hx hb ht itX11 hown hK hP 0 rfl rfl 2 (by decide) (ht _ tw_110) (fun _ h9 => h9) rfl dX11_init_139 ?_
    refine lv_iload_n hx hb dX11_init_142 rfl (lv_at hl 0 rfl) ?_
    refine lv_aload_n hx hb dX11_init_143 rfl (lv_at hl 1 rfl) ?_
    refine va_get (D := (dC, dI)) (ci := 14) (v := .ref q2) (C := RX11) (T := TX11) (N := 12) hx hb ht itX11 hown hK hP 0 rfl rfl 8 (by decide) (ht _ tw_95) (fun _ h9 => h9) rfl dX11_init_144 ?_
    refine ca_v (wr := [(h0, .inr (14, [.ref q1, .int 0, .ref q9, .ref q18, .ref q27, .ref q42, .int 0, .int (-1), .ref q2, .ref q45, .null, .ref q5])), (q1, .inl (cI, 4000, .inl (fun _ => 0))), (q2, .inr (7, [.ref q4, .int 0, .int 0])), (q4, .inl (cI, 64, .inl (fun _ => 0))), (q5, .inr (11, [.ref q7])), (q7, .inr (1, [.ref q8, .int 0, .int 0, .int 0])), (q8, .inl (cB, 16, .inl (fun _ => 0))), (q9, .inr (10, [.ref q11, .int 0, .ref q12, .int 0, .ref q13, .int 0, .ref q14, .ref q15, .ref q16, .int 0, .ref q17, .int 0, .int 0])), (q11, .inl (cI, 4000, .inl (fun _ => 0))), (q17, .inl (cI, N, .inl (fun _ => 0))), (q18, .inr (10, [.ref q20, .int 0, .ref q21, .int 0, .ref q22, .int 0, .ref q23, .ref q24, .ref q25, .int 0, .ref q26, .int 0, .int 0])), (q20, .inl (cI, 4000, .inl (fun _ => 0))), (q26, .inl (cI, N, .inl (fun _ => 0))), (q27, .inr (8, [.ref q9, .ref q29, .ref q30, .ref q31, .int 0, .int 0, .int 0])), (q29, .inr (12, [.ref q9, .ref q32, .ref q33, .ref q34, .int 0, .int 0, .int 0, .int 0, .int 0, .int 0])), (q32, .inl (cI, 1503, .inl (fun _ => 0))), (q33, .inl (cI, 1503, .inl (fun _ => 0))), (q34, .inl (cI, 1503, .inl (fun _ => 0))), (q30, .inr (5, [.ref q9, .ref q35, .int 0, .int 0, .int 0, .int 0, .ref q36, .int 0, .ref q37, .ref q38, .ref q39, .int 0])), (q31, .inr (6, [.ref q29, .ref q30, .ref q40, .ref q41, .int 0])), (q42, .inr (4, [.ref q9, .int (4 * (nI N)), .ref q44, .int 0, .int 0, .int 0, .int 0, .int 0, .int 0])), (q45, .inr (9, [.ref q47, .ref q48, .int 0, .int 0, .int 0, .int 0, .ref q49, .int 0, .ref q2])), (q48, .inl (cI, 32, .inl (fun _ => 0))), (q49, .inl (cI, 200, .inl (fun _ => 0))), (q47, .inl (cI, N, .inl (fun _ => 0)))]) (rn_I (n := 3) (As := [.ref q9, .int (nI N), .ref q2]) (rest := [.ref q50, .ref h0]) hx hb hml hown ht hKK hFx hP hD hS hA (c_X10_init l dC dI cI cB cZ cJ cR tb H.size q50 q9 N q2 (by omega) (by omega)) tw_144 tw_145 tw_146 tw_147 rfl (by decide +kernel) rfl rfl ⟨Nat.le_of_ble_eq_true rfl, Nat.le_of_ble_eq_true rfl⟩ [25] rfl (by decide) rfl hl.1 rfl (Nat.le_of_ble_eq_true rfl) dX11_init_147 ⟨Nat.le_of_ble_eq_true rfl, Nat.le_of_ble_eq_true rfl⟩) hP hD hS hA (isC := [25]) (isR := [0, 1, 2, 3, 4, 5, 6, 7, 8, 9, 10, 11, 12, 13, 14, 15, 16, 17, 18, 19, 20, 21, 22, 23, 24]) rfl rfl (by decide) (by decide) (fun u H locs hw51 hP hD hS => ?_)
    obtain ⟨q52, q53, q54⟩ := u
    have hP : va_P (dC, dI) vwCl [(h0, .inr (14, [.ref q1, .int 0, .ref q9, .ref q18, .ref q27, .ref q42, .int 0, .int (-1), .ref q2, .ref q45, .null, .ref q5])), (q1, .inl (cI, 4000, .inl (fun _ => 0))), (q2, .inr (7, [.ref q4, .int 0, .int 0])), (q4, .inl (cI, 64, .inl (fun _ => 0))), (q5, .inr (11, [.ref q7])), (q7, .inr (1, [.ref q8, .int 0, .int 0, .int 0])), (q8, .inl (cB, 16, .inl (fun _ => 0))), (q9, .inr (10, [.ref q11, .int 0, .ref q12, .int 0, .ref q13, .int 0, .ref q14, .ref q15, .ref q16, .int 0, .ref q17, .int 0, .int 0])), (q11, .inl (cI, 4000, .inl (fun _ => 0))), (q17, .inl (cI, N, .inl (fun _ => 0))), (q18, .inr (10, [.ref q20, .int 0, .ref q21, .int 0, .ref q22, .int 0, .ref q23, .ref q24, .ref q25, .int 0, .ref q26, .int 0, .int 0])), (q20, .inl (cI, 4000, .inl (fun _ => 0))), (q26, .inl (cI, N, .inl (fun _ => 0))), (q27, .inr (8, [.ref q9, .ref q29, .ref q30, .ref q31, .int 0, .int 0, .int 0])), (q29, .inr (12, [.ref q9, .ref q32, .ref q33, .ref q34, .int 0, .int 0, .int 0, .int 0, .int 0, .int 0])), (q32, .inl (cI, 1503, .inl (fun _ => 0))), (q33, .inl (cI, 1503, .inl (fun _ => 0))), (q34, .inl (cI, 1503, .inl (fun _ => 0))), (q30, .inr (5, [.ref q9, .ref q35, .int 0, .int 0, .int 0, .int 0, .ref q36, .int 0, .ref q37, .ref q38, .ref q39, .int 0])), (q31, .inr (6, [.ref q29, .ref q30, .ref q40, .ref q41, .int 0])), (q42, .inr (4, [.ref q9, .int (4 * (nI N)), .ref q44, .int 0, .int 0, .int 0, .int 0, .int 0, .int 0])), (q45, .inr (9, [.ref q47, .ref q48, .int 0, .int 0, .int 0, .int 0, .ref q49, .int 0, .ref q2])), (q48, .inl (cI, 32, .inl (fun _ => 0))), (q49, .inl (cI, 200, .inl (fun _ => 0))), (q47, .inl (cI, N, .inl (fun _ => 0))), (q50, .inr (13, [.ref q9, .ref q2, .int (4 * (nI N)), .ref q52, .ref q53, .ref q54, .int 0, .int 0, .int 0, .int 0, .int 0, .int 0, .int 0, .int 0, .int 0, .int 0, .int 0]))] H := hP
    have hD : va_D A [(h0, .inr (14, [.ref q1, .int 0, .ref q9, .ref q18, .ref q27, .ref q42, .int 0, .int (-1), .ref q2, .ref q45, .null, .ref q5])), (q1, .inl (cI, 4000, .inl (fun _ => 0))), (q2, .inr (7, [.ref q4, .int 0, .int 0])), (q4, .inl (cI, 64, .inl (fun _ => 0))), (q5, .inr (11, [.ref q7])), (q7, .inr (1, [.ref q8, .int 0, .int 0, .int 0])), (q8, .inl (cB, 16, .inl (fun _ => 0))), (q9, .inr (10, [.ref q11, .int 0, .ref q12, .int 0, .ref q13, .int 0, .ref q14, .ref q15, .ref q16, .int 0, .ref q17, .int 0, .int 0])), (q11, .inl (cI, 4000, .inl (fun _ => 0))), (q17, .inl (cI, N, .inl (fun _ => 0))), (q18, .inr (10, [.ref q20, .int 0, .ref q21, .int 0, .ref q22, .int 0, .ref q23, .ref q24, .ref q25, .int 0, .ref q26, .int 0, .int 0])), (q20, .inl (cI, 4000, .inl (fun _ => 0))), (q26, .inl (cI, N, .inl (fun _ => 0))), (q27, .inr (8, [.ref q9, .ref q29, .ref q30, .ref q31, .int 0, .int 0, .int 0])), (q29, .inr (12, [.ref q9, .ref q32, .ref q33, .ref q34, .int 0, .int 0, .int 0, .int 0, .int 0, .int 0])), (q32, .inl (cI, 1503, .inl (fun _ => 0))), (q33, .inl (cI, 1503, .inl (fun _ => 0))), (q34, .inl (cI, 1503, .inl (fun _ => 0))), (q30, .inr (5, [.ref q9, .ref q35, .int 0, .int 0, .int 0, .int 0, .ref q36, .int 0, .ref q37, .ref q38, .ref q39, .int 0])), (q31, .inr (6, [.ref q29, .ref q30, .ref q40, .ref q41, .int 0])), (q42, .inr (4, [.ref q9, .int (4 * (nI N)), .ref q44, .int 0, .int 0, .int 0, .int 0, .int 0, .int 0])), (q45, .inr (9, [.ref q47, .ref q48, .int 0, .int 0, .int 0, .int 0, .ref q49, .int 0, .ref q2])), (q48, .inl (cI, 32, .inl (fun _ => 0))), (q49, .inl (cI, 200, .inl (fun _ => 0))), (q47, .inl (cI, N, .inl (fun _ => 0))), (q50, .inr (13, [.ref q9, .ref q2, .int (4 * (nI N)), .ref q52, .ref q53, .ref q54, .int 0, .int 0, .int 0, .int 0, .int 0, .int 0, .int 0, .int 0, .int 0, .int 0, .int 0]))] := hD
    refine W.widen (k := 246) (n := 64284) (by omega) (by omega) ?_
    refine va_putF (D := (dC, dI)) (ci := 14) (v := .ref q50) (ty := .object "PocketCompiler$Worker") (C := RX11) (T := TX11) (N := 12) hx hb ht itX11 tyX11 tyX11_ok nmX11 hown hK hP hD hS 0 rfl rfl 10 (by decide) (ht _ tw_148) (fun _ h9 => h9) rfl hin rfl (by decide +kernel) rfl rfl (Nat.le_of_ble_eq_true rfl) dX11_init_150 (fun H locs hP hD hS => ?_)
    have hP : va_P (dC, dI) vwCl [(h0, .inr (14, [.ref q1, .int 0, .ref q9, .ref q18, .ref q27, .ref q42, .int 0, .int (-1), .ref q2, .ref q45, .ref q50, .ref q5])), (q1, .inl (cI, 4000, .inl (fun _ => 0))), (q2, .inr (7, [.ref q4, .int 0, .int 0])), (q4, .inl (cI, 64, .inl (fun _ => 0))), (q5, .inr (11, [.ref q7])), (q7, .inr (1, [.ref q8, .int 0, .int 0, .int 0])), (q8, .inl (cB, 16, .inl (fun _ => 0))), (q9, .inr (10, [.ref q11, .int 0, .ref q12, .int 0, .ref q13, .int 0, .ref q14, .ref q15, .ref q16, .int 0, .ref q17, .int 0, .int 0])), (q11, .inl (cI, 4000, .inl (fun _ => 0))), (q17, .inl (cI, N, .inl (fun _ => 0))), (q18, .inr (10, [.ref q20, .int 0, .ref q21, .int 0, .ref q22, .int 0, .ref q23, .ref q24, .ref q25, .int 0, .ref q26, .int 0, .int 0])), (q20, .inl (cI, 4000, .inl (fun _ => 0))), (q26, .inl (cI, N, .inl (fun _ => 0))), (q27, .inr (8, [.ref q9, .ref q29, .ref q30, .ref q31, .int 0, .int 0, .int 0])), (q29, .inr (12, [.ref q9, .ref q32, .ref q33, .ref q34, .int 0, .int 0, .int 0, .int 0, .int 0, .int 0])), (q32, .inl (cI, 1503, .inl (fun _ => 0))), (q33, .inl (cI, 1503, .inl (fun _ => 0))), (q34, .inl (cI, 1503, .inl (fun _ => 0))), (q30, .inr (5, [.ref q9, .ref q35, .int 0, .int 0, .int 0, .int 0, .ref q36, .int 0, .ref q37, .ref q38, .ref q39, .int 0])), (q31, .inr (6, [.ref q29, .ref q30, .ref q40, .ref q41, .int 0])), (q42, .inr (4, [.ref q9, .int (4 * (nI N)), .ref q44, .int 0, .int 0, .int 0, .int 0, .int 0, .int 0])), (q45, .inr (9, [.ref q47, .ref q48, .int 0, .int 0, .int 0, .int 0, .ref q49, .int 0, .ref q2])), (q48, .inl (cI, 32, .inl (fun _ => 0))), (q49, .inl (cI, 200, .inl (fun _ => 0))), (q47, .inl (cI, N, .inl (fun _ => 0))), (q50, .inr (13, [.ref q9, .ref q2, .int (4 * (nI N)), .ref q52, .ref q53, .ref q54, .int 0, .int 0, .int 0, .int 0, .int 0, .int 0, .int 0, .int 0, .int 0, .int 0, .int 0]))] H := hP
    have hD : va_D A [(h0, .inr (14, [.ref q1, .int 0, .ref q9, .ref q18, .ref q27, .ref q42, .int 0, .int (-1), .ref q2, .ref q45, .ref q50, .ref q5])), (q1, .inl (cI, 4000, .inl (fun _ => 0))), (q2, .inr (7, [.ref q4, .int 0, .int 0])), (q4, .inl (cI, 64, .inl (fun _ => 0))), (q5, .inr (11, [.ref q7])), (q7, .inr (1, [.ref q8, .int 0, .int 0, .int 0])), (q8, .inl (cB, 16, .inl (fun _ => 0))), (q9, .inr (10, [.ref q11, .int 0, .ref q12, .int 0, .ref q13, .int 0, .ref q14, .ref q15, .ref q16, .int 0, .ref q17, .int 0, .int 0])), (q11, .inl (cI, 4000, .inl (fun _ => 0))), (q17, .inl (cI, N, .inl (fun _ => 0))), (q18, .inr (10, [.ref q20, .int 0, .ref q21, .int 0, .ref q22, .int 0, .ref q23, .ref q24, .ref q25, .int 0, .ref q26, .int 0, .int 0])), (q20, .inl (cI, 4000, .inl (fun _ => 0))), (q26, .inl (cI, N, .inl (fun _ => 0))), (q27, .inr (8, [.ref q9, .ref q29, .ref q30, .ref q31, .int 0, .int 0, .int 0])), (q29, .inr (12, [.ref q9, .ref q32, .ref q33, .ref q34, .int 0, .int 0, .int 0, .int 0, .int 0, .int 0])), (q32, .inl (cI, 1503, .inl (fun _ => 0))), (q33, .inl (cI, 1503, .inl (fun _ => 0))), (q34, .inl (cI, 1503, .inl (fun _ => 0))), (q30, .inr (5, [.ref q9, .ref q35, .int 0, .int 0, .int 0, .int 0, .ref q36, .int 0, .ref q37, .ref q38, .ref q39, .int 0])), (q31, .inr (6, [.ref q29, .ref q30, .ref q40, .ref q41, .int 0])), (q42, .inr (4, [.ref q9, .int (4 * (nI N)), .ref q44, .int 0, .int 0, .int 0, .int 0, .int 0, .int 0])), (q45, .inr (9, [.ref q47, .ref q48, .int 0, .int 0, .int 0, .int 0, .ref q49, .int 0, .ref q2])), (q48, .inl (cI, 32, .inl (fun _ => 0))), (q49, .inl (cI, 200, .inl (fun _ => 0))), (q47, .inl (cI, N, .inl (fun _ => 0))), (q50, .inr (13, [.ref q9, .ref q2, .int (4 * (nI N)), .ref q52, .ref q53, .ref q54, .int 0, .int 0, .int 0, .int 0, .int 0, .int 0, .int 0, .int 0, .int 0, .int 0, .int 0]))] := hD
    refine lv_aload_n hx hb dX11_init_153 rfl (lv_at hl 1 rfl) ?_
    refine va_get (D := (dC, dI)) (ci := 14) (v := .ref q27) (C := RX11) (T := TX11) (N := 12) hx hb ht itX11 hown hK hP 0 rfl rfl 4 (by decide) (ht _ tw_119) (fun _ h9 => h9) rfl dX11_init_154 ?_
    refine lv_aload_n hx hb dX11_init_157 rfl (lv_at hl 1 rfl) ?_
    refine va_get (D := (dC, dI)) (ci := 14) (v := .ref q9) (C := RX11) (T := TX11) (N := 12) hx hb ht itX11 hown hK hP 0 rfl rfl 2 (by decide) (ht _ tw_110) (fun _ h9 => h9) rfl dX11_init_158 ?_
    refine ca_v (wr := [(h0, .inr (14, [.ref q1, .int 0, .ref q9, .ref q18, .ref q27, .ref q42, .int 0, .int (-1), .ref q2, .ref q45, .ref q50, .ref q5])), (q1, .inl (cI, 4000, .inl (fun _ => 0))), (q2, .inr (7, [.ref q4, .int 0, .int 0])), (q4, .inl (cI, 64, .inl (fun _ => 0))), (q5, .inr (11, [.ref q7])), (q7, .inr (1, [.ref q8, .int 0, .int 0, .int 0])), (q8, .inl (cB, 16, .inl (fun _ => 0))), (q11, .inl (cI, 4000, .inl (fun _ => 0))), (q17, .inl (cI, N, .inl (fun _ => 0))), (q18, .inr (10, [.ref q20, .int 0, .ref q21, .int 0, .ref q22, .int 0, .ref q23, .ref q24, .ref q25, .int 0, .ref q26, .int 0, .int 0])), (q20, .inl (cI, 4000, .inl (fun _ => 0))), (q26, .inl (cI, N, .inl (fun _ => 0))), (q42, .inr (4, [.ref q9, .int (4 * (nI N)), .ref q44, .int 0, .int 0, .int 0, .int 0, .int 0, .int 0])), (q45, .inr (9, [.ref q47, .ref q48, .int 0, .int 0, .int 0, .int 0, .ref q49, .int 0, .ref q2])), (q48, .inl (cI, 32, .inl (fun _ => 0))), (q49, .inl (cI, 200, .inl (fun _ => 0))), (q47, .inl (cI, N, .inl (fun _ => 0))), (q50, .inr (13, [.ref q9, .ref q2, .int (4 * (nI N)), .ref q52, .ref q53, .ref q54, .int 0, .int 0, .int 0, .int 0, .int 0, .int 0, .int 0, .int 0, .int 0, .int 0, .int 0]))]) (rn_V (n := 1) (As := [.ref q9]) (rest := []) hx hb hml hown ht hKK hFx hP hD hS hA (c_X5_readText l dC dI cI cB cZ cJ cR tb H.size q27 q9 q29 q30 q31 q11 q12 q13 q14 q15 q16 q17 q32 q33 q34 q35 q36 q37 q38 q39 q40 q41) tw_188 tw_189 (by decide +kernel) rfl rfl ⟨Nat.le_of_ble_eq_true rfl, Nat.le_of_ble_eq_true rfl⟩ [13, 7, 14, 15, 16, 17, 18, 19] rfl (by decide) rfl rfl rfl rfl hl.1 rfl (Nat.le_of_ble_eq_true rfl) dX11_init_161 ⟨Nat.le_of_ble_eq_true rfl, Nat.le_of_ble_eq_true rfl⟩) hP hD hS hA (isC := [13, 7, 14, 15, 16, 17, 18, 19]) (isR := [0, 1, 2, 3, 4, 5, 6, 8, 9, 10, 11, 12, 20, 21, 22, 23, 24, 25]) rfl rfl (by decide) (by decide) (fun u H locs hw55 hP hD hS => ?_)
    have hP : va_P (dC, dI) vwCl [(h0, .inr (14, [.ref q1, .int 0, .ref q9, .ref q18, .ref q27, .ref q42, .int 0, .int (-1), .ref q2, .ref q45, .ref q50, .ref q5])), (q1, .inl (cI, 4000, .inl (fun _ => 0))), (q2, .inr (7, [.ref q4, .int 0, .int 0])), (q4, .inl (cI, 64, .inl (fun _ => 0))), (q5, .inr (11, [.ref q7])), (q7, .inr (1, [.ref q8, .int 0, .int 0, .int 0])), (q8, .inl (cB, 16, .inl (fun _ => 0))), (q11, .inl (cI, 4000, .inl (fun _ => 0))), (q17, .inl (cI, N, .inl (fun _ => 0))), (q18, .inr (10, [.ref q20, .int 0, .ref q21, .int 0, .ref q22, .int 0, .ref q23, .ref q24, .ref q25, .int 0, .ref q26, .int 0, .int 0])), (q20, .inl (cI, 4000, .inl (fun _ => 0))), (q26, .inl (cI, N, .inl (fun _ => 0))), (q42, .inr (4, [.ref q9, .int (4 * (nI N)), .ref q44, .int 0, .int 0, .int 0, .int 0, .int 0, .int 0])), (q45, .inr (9, [.ref q47, .ref q48, .int 0, .int 0, .int 0, .int 0, .ref q49, .int 0, .ref q2])), (q48, .inl (cI, 32, .inl (fun _ => 0))), (q49, .inl (cI, 200, .inl (fun _ => 0))), (q47, .inl (cI, N, .inl (fun _ => 0))), (q50, .inr (13, [.ref q9, .ref q2, .int (4 * (nI N)), .ref q52, .ref q53, .ref q54, .int 0, .int 0, .int 0, .int 0, .int 0, .int 0, .int 0, .int 0, .int 0, .int 0, .int 0])), (q33, .inl (cI, 1503, .inl (upd (fun _ => 0) 0 0))), (q34, .inl (cI, 1503, .inl (upd (fun _ => 0) 0 0))), (q31, .inr (6, [.ref q29, .ref q30, .ref q40, .ref q41, .int 0])), (q29, .inr (12, [.ref q9, .ref q32, .ref q33, .ref q34, .int 1, .int 0, .int 0, .int (-1), .int 0, .int (-1)])), (q32, .inl (cI, 1503, .inl (upd (fun _ => 0) 0 0))), (q27, .inr (8, [.ref q9, .ref q29, .ref q30, .ref q31, .int 0, .int 0, .int 0])), (q30, .inr (5, [.ref q9, .ref q35, .int 0, .int 0, .int 0, .int 0, .ref q36, .int 0, .ref q37, .ref q38, .ref q39, .int 0])), (q9, .inr (10, [.ref q11, .int 0, .ref q12, .int 0, .ref q13, .int 0, .ref q14, .ref q15, .ref q16, .int 0, .ref q17, .int 0, .int 0]))] H := hP
    have hD : va_D A [(h0, .inr (14, [.ref q1, .int 0, .ref q9, .ref q18, .ref q27, .ref q42, .int 0, .int (-1), .ref q2, .ref q45, .ref q50, .ref q5])), (q1, .inl (cI, 4000, .inl (fun _ => 0))), (q2, .inr (7, [.ref q4, .int 0, .int 0])), (q4, .inl (cI, 64, .inl (fun _ => 0))), (q5, .inr (11, [.ref q7])), (q7, .inr (1, [.ref q8, .int 0, .int 0, .int 0])), (q8, .inl (cB, 16, .inl (fun _ => 0))), (q11, .inl (cI, 4000, .inl (fun _ => 0))), (q17, .inl (cI, N, .inl (fun _ => 0))), (q18, .inr (10, [.ref q20, .int 0, .ref q21, .int 0, .ref q22, .int 0, .ref q23, .ref q24, .ref q25, .int 0, .ref q26, .int 0, .int 0])), (q20, .inl (cI, 4000, .inl (fun _ => 0))), (q26, .inl (cI, N, .inl (fun _ => 0))), (q42, .inr (4, [.ref q9, .int (4 * (nI N)), .ref q44, .int 0, .int 0, .int 0, .int 0, .int 0, .int 0])), (q45, .inr (9, [.ref q47, .ref q48, .int 0, .int 0, .int 0, .int 0, .ref q49, .int 0, .ref q2])), (q48, .inl (cI, 32, .inl (fun _ => 0))), (q49, .inl (cI, 200, .inl (fun _ => 0))), (q47, .inl (cI, N, .inl (fun _ => 0))), (q50, .inr (13, [.ref q9, .ref q2, .int (4 * (nI N)), .ref q52, .ref q53, .ref q54, .int 0, .int 0, .int 0, .int 0, .int 0, .int 0, .int 0, .int 0, .int 0, .int 0, .int 0])), (q33, .inl (cI, 1503, .inl (upd (fun _ => 0) 0 0))), (q34, .inl (cI, 1503, .inl (upd (fun _ => 0) 0 0))), (q31, .inr (6, [.ref q29, .ref q30, .ref q40, .ref q41, .int 0])), (q29, .inr (12, [.ref q9, .ref q32, .ref q33, .ref q34, .int 1, .int 0, .int 0, .int (-1), .int 0, .int (-1)])), (q32, .inl (cI, 1503, .inl (upd (fun _ => 0) 0 0))), (q27, .inr (8, [.ref q9, .ref q29, .ref q30, .ref q31, .int 0, .int 0, .int 0])), (q30, .inr (5, [.ref q9, .ref q35, .int 0, .int 0, .int 0, .int 0, .ref q36, .int 0, .ref q37, .ref q38, .ref q39, .int 0])), (q9, .inr (10, [.ref q11, .int 0, .ref q12, .int 0, .ref q13, .int 0, .ref q14, .ref q15, .ref q16, .int 0, .ref q17, .int 0, .int 0]))] := hD
    refine W.widen (k := 246) (n := 64284) (by omega) (by omega) ?_
    refine lv_aload_n hx hb dX11_init_164 rfl (lv_at hl 1 rfl) ?_
    refine va_get (D := (dC, dI)) (ci := 14) (v := .ref q42) (C := RX11) (T := TX11) (N := 12) hx hb ht itX11 hown hK hP 0 rfl rfl 5 (by decide) (ht _ tw_127) (fun _ h9 => h9) rfl dX11_init_165 ?_
    refine lv_aload_n hx hb dX11_init_168 rfl (lv_at hl 1 rfl) ?_
    refine va_get (D := (dC, dI)) (ci := 14) (v := .ref q9) (C := RX11) (T := TX11) (N := 12) hx hb ht itX11 hown hK hP 0 rfl rfl 2 (by decide) (ht _ tw_110) (fun _ h9 => h9) rfl dX11_init_169 ?_
    refine ca_i (wr := [(h0, .inr (14, [.ref q1, .int 0, .ref q9, .ref q18, .ref q27, .ref q42, .int 0, .int (-1), .ref q2, .ref q45, .ref q50, .ref q5])), (q1, .inl (cI, 4000, .inl (fun _ => 0))), (q2, .inr (7, [.ref q4, .int 0, .int 0])), (q4, .inl (cI, 64, .inl (fun _ => 0))), (q5, .inr (11, [.ref q7])), (q7, .inr (1, [.ref q8, .int 0, .int 0, .int 0])), (q8, .inl (cB, 16, .inl (fun _ => 0))), (q11, .inl (cI, 4000, .inl (fun _ => 0))), (q18, .inr (10, [.ref q20, .int 0, .ref q21, .int 0, .ref q22, .int 0, .ref q23, .ref q24, .ref q25, .int 0, .ref q26, .int 0, .int 0])), (q20, .inl (cI, 4000, .inl (fun _ => 0))), (q26, .inl (cI, N, .inl (fun _ => 0))), (q45, .inr (9, [.ref q47, .ref q48, .int 0, .int 0, .int 0, .int 0, .ref q49, .int 0, .ref q2])), (q48, .inl (cI, 32, .inl (fun _ => 0))), (q49, .inl (cI, 200, .inl (fun _ => 0))), (q47, .inl (cI, N, .inl (fun _ => 0))), (q50, .inr (13, [.ref q9, .ref q2, .int (4 * (nI N)), .ref q52, .ref q53, .ref q54, .int 0, .int 0, .int 0, .int 0, .int 0, .int 0, .int 0, .int 0, .int 0, .int 0, .int 0])), (q33, .inl (cI, 1503, .inl (upd (fun _ => 0) 0 0))), (q34, .inl (cI, 1503, .inl (upd (fun _ => 0) 0 0))), (q31, .inr (6, [.ref q29, .ref q30, .ref q40, .ref q41, .int 0])), (q29, .inr (12, [.ref q9, .ref q32, .ref q33, .ref q34, .int 1, .int 0, .int 0, .int (-1), .int 0, .int (-1)])), (q32, .inl (cI, 1503, .inl (upd (fun _ => 0) 0 0))), (q27, .inr (8, [.ref q9, .ref q29, .ref q30, .ref q31, .int 0, .int 0, .int 0])), (q30, .inr (5, [.ref q9, .ref q35, .int 0, .int 0, .int 0, .int 0, .ref q36, .int 0, .ref q37, .ref q38, .ref q39, .int 0]))]) (rn_V (n := 1) (As := [.ref q9]) (rest := []) hx hb hml hown ht hKK hFx hP hD hS hA (c_X0_assemble l dC dI cI cB cZ cJ cR tb H.size q42 q9 N q44 q17 q11 q12 q13 q14 q15 q16 (by omega) (by omega)) tw_210 tw_211 (by decide +kernel) rfl rfl ⟨Nat.le_of_ble_eq_true rfl, Nat.le_of_ble_eq_true rfl⟩ [12, 8, 25] rfl (by decide) rfl rfl rfl rfl hl.1 rfl (Nat.le_of_ble_eq_true rfl) dX11_init_172 ⟨Nat.le_of_ble_eq_true rfl, Nat.le_of_ble_eq_true rfl⟩) hP hD hS hA (isC := [12, 8, 25]) (isR := [0, 1, 2, 3, 4, 5, 6, 7, 9, 10, 11, 13, 14, 15, 16, 17, 18, 19, 20, 21, 22, 23, 24]) rfl rfl (by decide) (by decide) (fun r57 u H locs hw56 hP hD hS => ?_)
    subst hw56
    have hP : va_P (dC, dI) vwCl [(h0, .inr (14, [.ref q1, .int 0, .ref q9, .ref q18, .ref q27, .ref q42, .int 0, .int (-1), .ref q2, .ref q45, .ref q50, .ref q5])), (q1, .inl (cI, 4000, .inl (fun _ => 0))), (q2, .inr (7, [.ref q4, .int 0, .int 0])), (q4, .inl (cI, 64, .inl (fun _ => 0))), (q5, .inr (11, [.ref q7])), (q7, .inr (1, [.ref q8, .int 0, .int 0, .int 0])), (q8, .inl (cB, 16, .inl (fun _ => 0))), (q11, .inl (cI, 4000, .inl (fun _ => 0))), (q18, .inr (10, [.ref q20, .int 0, .ref q21, .int 0, .ref q22, .int 0, .ref q23, .ref q24, .ref q25, .int 0, .ref q26, .int 0, .int 0])), (q20, .inl (cI, 4000, .inl (fun _ => 0))), (q26, .inl (cI, N, .inl (fun _ => 0))), (q45, .inr (9, [.ref q47, .ref q48, .int 0, .int 0, .int 0, .int 0, .ref q49, .int 0, .ref q2])), (q48, .inl (cI, 32, .inl (fun _ => 0))), (q49, .inl (cI, 200, .inl (fun _ => 0))), (q47, .inl (cI, N, .inl (fun _ => 0))), (q50, .inr (13, [.ref q9, .ref q2, .int (4 * (nI N)), .ref q52, .ref q53, .ref q54, .int 0, .int 0, .int 0, .int 0, .int 0, .int 0, .int 0, .int 0, .int 0, .int 0, .int 0])), (q33, .inl (cI, 1503, .inl (upd (fun _ => 0) 0 0))), (q34, .inl (cI, 1503, .inl (upd (fun _ => 0) 0 0))), (q31, .inr (6, [.ref q29, .ref q30, .ref q40, .ref q41, .int 0])), (q29, .inr (12, [.ref q9, .ref q32, .ref q33, .ref q34, .int 1, .int 0, .int 0, .int (-1), .int 0, .int (-1)])), (q32, .inl (cI, 1503, .inl (upd (fun _ => 0) 0 0))), (q27, .inr (8, [.ref q9, .ref q29, .ref q30, .ref q31, .int 0, .int 0, .int 0])), (q30, .inr (5, [.ref q9, .ref q35, .int 0, .int 0, .int 0, .int 0, .ref q36, .int 0, .ref q37, .ref q38, .ref q39, .int 0])), (q17, .inl (cI, N, .inl (upd (upd (fun _ => 0) 0 2195) 1 1048691))), (q42, .inr (4, [.ref q9, .int (4 * (nI N)), .ref q44, .int 2, .int 1, .int 0, .int 0, .int 8, .int 8])), (q9, .inr (10, [.ref q11, .int 0, .ref q12, .int 0, .ref q13, .int 0, .ref q14, .ref q15, .ref q16, .int 0, .ref q17, .int 2, .int 8]))] H := hP
    have hD : va_D A [(h0, .inr (14, [.ref q1, .int 0, .ref q9, .ref q18, .ref q27, .ref q42, .int 0, .int (-1), .ref q2, .ref q45, .ref q50, .ref q5])), (q1, .inl (cI, 4000, .inl (fun _ => 0))), (q2, .inr (7, [.ref q4, .int 0, .int 0])), (q4, .inl (cI, 64, .inl (fun _ => 0))), (q5, .inr (11, [.ref q7])), (q7, .inr (1, [.ref q8, .int 0, .int 0, .int 0])), (q8, .inl (cB, 16, .inl (fun _ => 0))), (q11, .inl (cI, 4000, .inl (fun _ => 0))), (q18, .inr (10, [.ref q20, .int 0, .ref q21, .int 0, .ref q22, .int 0, .ref q23, .ref q24, .ref q25, .int 0, .ref q26, .int 0, .int 0])), (q20, .inl (cI, 4000, .inl (fun _ => 0))), (q26, .inl (cI, N, .inl (fun _ => 0))), (q45, .inr (9, [.ref q47, .ref q48, .int 0, .int 0, .int 0, .int 0, .ref q49, .int 0, .ref q2])), (q48, .inl (cI, 32, .inl (fun _ => 0))), (q49, .inl (cI, 200, .inl (fun _ => 0))), (q47, .inl (cI, N, .inl (fun _ => 0))), (q50, .inr (13, [.ref q9, .ref q2, .int (4 * (nI N)), .ref q52, .ref q53, .ref q54, .int 0, .int 0, .int 0, .int 0, .int 0, .int 0, .int 0, .int 0, .int 0, .int 0, .int 0])), (q33, .inl (cI, 1503, .inl (upd (fun _ => 0) 0 0))), (q34, .inl (cI, 1503, .inl (upd (fun _ => 0) 0 0))), (q31, .inr (6, [.ref q29, .ref q30, .ref q40, .ref q41, .int 0])), (q29, .inr (12, [.ref q9, .ref q32, .ref q33, .ref q34, .int 1, .int 0, .int 0, .int (-1), .int 0, .int (-1)])), (q32, .inl (cI, 1503, .inl (upd (fun _ => 0) 0 0))), (q27, .inr (8, [.ref q9, .ref q29, .ref q30, .ref q31, .int 0, .int 0, .int 0])), (q30, .inr (5, [.ref q9, .ref q35, .int 0, .int 0, .int 0, .int 0, .ref q36, .int 0, .ref q37, .ref q38, .ref q39, .int 0])), (q17, .inl (cI, N, .inl (upd (upd (fun _ => 0) 0 2195) 1 1048691))), (q42, .inr (4, [.ref q9, .int (4 * (nI N)), .ref q44, .int 2, .int 1, .int 0, .int 0, .int 8, .int 8])), (q9, .inr (10, [.ref q11, .int 0, .ref q12, .int 0, .ref q13, .int 0, .ref q14, .ref q15, .ref q16, .int 0, .ref q17, .int 2, .int 8]))] := hD
    refine W.widen (k := 246) (n := 64284) (by omega) (by omega) ?_
    refine lv_pop hx hb dX11_init_175 rfl ?_
    have hP9 := hP.sub (ws' := [(h0, .inr (14, [.ref q1, .int 0, .ref q9, .ref q18, .ref q27, .ref q42, .int 0, .int (-1), .ref q2, .ref q45, .ref q50, .ref q5])), (q1, .inl (cI, 4000, .inl (fun _ => 0))), (q2, .inr (7, [.ref q4, .int 0, .int 0])), (q4, .inl (cI, 64, .inl (fun _ => 0))), (q5, .inr (11, [.ref q7])), (q7, .inr (1, [.ref q8, .int 0, .int 0, .int 0])), (q8, .inl (cB, 16, .inl (fun _ => 0))), (q11, .inl (cI, 4000, .inl (fun _ => 0))), (q18, .inr (10, [.ref q20, .int 0, .ref q21, .int 0, .ref q22, .int 0, .ref q23, .ref q24, .ref q25, .int 0, .ref q26, .int 0, .int 0])), (q20, .inl (cI, 4000, .inl (fun _ => 0))), (q26, .inl (cI, N, .inl (fun _ => 0))), (q45, .inr (9, [.ref q47, .ref q48, .int 0, .int 0, .int 0, .int 0, .ref q49, .int 0, .ref q2])), (q48, .inl (cI, 32, .inl (fun _ => 0))), (q49, .inl (cI, 200, .inl (fun _ => 0))), (q47, .inl (cI, N, .inl (fun _ => 0))), (q50, .inr (13, [.ref q9, .ref q2, .int (4 * (nI N)), .ref q52, .ref q53, .ref q54, .int 0, .int 0, .int 0, .int 0, .int 0, .int 0, .int 0, .int 0, .int 0, .int 0, .int 0])), (q33, .inl (cI, 1503, .inl (upd (fun _ => 0) 0 0))), (q34, .inl (cI, 1503, .inl (upd (fun _ => 0) 0 0))), (q31, .inr (6, [.ref q29, .ref q30, .ref q40, .ref q41, .int 0])), (q29, .inr (12, [.ref q9, .ref q32, .ref q33, .ref q34, .int 1, .int 0, .int 0, .int (-1), .int 0, .int (-1)])), (q32, .inl (cI, 1503, .inl (upd (fun _ => 0) 0 0))), (q27, .inr (8, [.ref q9, .ref q29, .ref q30, .ref q31, .int 0, .int 0, .int 0])), (q30, .inr (5, [.ref q9, .ref q35, .int 0, .int 0, .int 0, .int 0, .ref q36, .int 0, .ref q37, .ref q38, .ref q39, .int 0])), (q17, .inl (cI, N, .inl (upd (upd (fun _ => 0) 0 2195) 1 1048691))), (q42, .inr (4, [.ref q9, .int (4 * (nI N)), .ref q44, .int 2, .int 1, .int 0, .int 0, .int 8, .int 8])), (q9, .inr (10, [.ref q11, .int 0, .ref q12, .int 0, .ref q13, .int 0, .ref q14, .ref q15, .ref q16, .int 0, .ref q17, .int 2, .int 8]))]) [0, 1, 2, 3, 4, 5, 6, 7, 8, 9, 10, 11, 12, 13, 14, 15, 16, 17, 18, 19, 20, 21, 22, 23, 24, 25] rfl
    have hD9 := hD.sub (ws' := [(h0, .inr (14, [.ref q1, .int 0, .ref q9, .ref q18, .ref q27, .ref q42, .int 0, .int (-1), .ref q2, .ref q45, .ref q50, .ref q5])), (q1, .inl (cI, 4000, .inl (fun _ => 0))), (q2, .inr (7, [.ref q4, .int 0, .int 0])), (q4, .inl (cI, 64, .inl (fun _ => 0))), (q5, .inr (11, [.ref q7])), (q7, .inr (1, [.ref q8, .int 0, .int 0, .int 0])), (q8, .inl (cB, 16, .inl (fun _ => 0))), (q11, .inl (cI, 4000, .inl (fun _ => 0))), (q18, .inr (10, [.ref q20, .int 0, .ref q21, .int 0, .ref q22, .int 0, .ref q23, .ref q24, .ref q25, .int 0, .ref q26, .int 0, .int 0])), (q20, .inl (cI, 4000, .inl (fun _ => 0))), (q26, .inl (cI, N, .inl (fun _ => 0))), (q45, .inr (9, [.ref q47, .ref q48, .int 0, .int 0, .int 0, .int 0, .ref q49, .int 0, .ref q2])), (q48, .inl (cI, 32, .inl (fun _ => 0))), (q49, .inl (cI, 200, .inl (fun _ => 0))), (q47, .inl (cI, N, .inl (fun _ => 0))), (q50, .inr (13, [.ref q9, .ref q2, .int (4 * (nI N)), .ref q52, .ref q53, .ref q54, .int 0, .int 0, .int 0, .int 0, .int 0, .int 0, .int 0, .int 0, .int 0, .int 0, .int 0])), (q33, .inl (cI, 1503, .inl (upd (fun _ => 0) 0 0))), (q34, .inl (cI, 1503, .inl (upd (fun _ => 0) 0 0))), (q31, .inr (6, [.ref q29, .ref q30, .ref q40, .ref q41, .int 0])), (q29, .inr (12, [.ref q9, .ref q32, .ref q33, .ref q34, .int 1, .int 0, .int 0, .int (-1), .int 0, .int (-1)])), (q32, .inl (cI, 1503, .inl (upd (fun _ => 0) 0 0))), (q27, .inr (8, [.ref q9, .ref q29, .ref q30, .ref q31, .int 0, .int 0, .int 0])), (q30, .inr (5, [.ref q9, .ref q35, .int 0, .int 0, .int 0, .int 0, .ref q36, .int 0, .ref q37, .ref q38, .ref q39, .int 0])), (q17, .inl (cI, N, .inl (upd (upd (fun _ => 0) 0 2195) 1 1048691))), (q42, .inr (4, [.ref q9, .int (4 * (nI N)), .ref q44, .int 2, .int 1, .int 0, .int 0, .int 8, .int 8])), (q9, .inr (10, [.ref q11, .int 0, .ref q12, .int 0, .ref q13, .int 0, .ref q14, .ref q15, .ref q16, .int 0, .ref q17, .int 2, .int 8]))]) [0, 1, 2, 3, 4, 5, 6, 7, 8, 9, 10, 11, 12, 13, 14, 15, 16, 17, 18, 19, 20, 21, 22, 23, 24, 25] (by decide) rfl
    refine W.widen (k := 246) (n := 64284) (by omega) (by omega) ?_
    exact W.vret hx hb hr (fun t ht9 hW => ⟨⟨(q1, q9, q18, q27, q42, q2, q45, q50, q5, q4, q7, q8, q11, q20, q21, q22, q23, q24, q25, q26, q47, q48, q49, q52, q53, q54, q33, q34, q31, q29, q30, q40, q41, q32, q35, q36, q37, q38, q39, q17, q44, q12, q13, q14, q15, q16), rfl, trivial, by rw [ht9]; exact hP9, hD9⟩, hS.F ht9⟩) hS.2.2 dX11_init_176
  · refine lv_iload_n hx hb dX11_init_40 rfl (lv_at hl 1 rfl) ?_
    refine lv_sipush (v := 256) hx hb dX11_init_41 (by decide) ?_
    refine lv_icmp_lt (tgt := 58) hx hb dX11_init_44 (by decide) (fun h58 => ?_) (fun h58 => ?_)
    · refine lv_sipush (v := 1024) hx hb dX11_init_58 (by decide) ?_
      refine lv_istore_n (lv' := [(2, .int 1024), (0, .ref h0), (1, .int w)]) hx hb dX11_init_61 rfl hl (by decide) rfl (fun ls hl => ?_)
      exact key ls (by rw [hNw, szB h58]; exact hl)
    · refine lv_iload_n hx hb dX11_init_47 rfl (lv_at hl 1 rfl) ?_
      refine lv_sipush (v := 4096) hx hb dX11_init_48 (by decide) ?_
      refine lv_icmp_gt (tgt := 58) hx hb dX11_init_51 (by decide) (fun h59 => ?_) (fun h59 => ?_)
      · refine lv_sipush (v := 1024) hx hb dX11_init_58 (by decide) ?_
        refine lv_istore_n (lv' := [(2, .int 1024), (0, .ref h0), (1, .int w)]) hx hb dX11_init_61 rfl hl (by decide) rfl (fun ls hl => ?_)
        exact key ls (by rw [hNw, szC h58 h59]; exact hl)
      · refine lv_iload_n hx hb dX11_init_54 rfl (lv_at hl 1 rfl) ?_
        refine lv_goto (tgt := 61) hx hb dX11_init_55 (by decide) ?_
        refine lv_istore_n (lv' := [(2, .int w), (0, .ref h0), (1, .int w)]) hx hb dX11_init_61 rfl hl (by decide) rfl (fun ls hl => ?_)
        exact key ls (by rw [hNw, szA h58 h59]; exact hl)
end
