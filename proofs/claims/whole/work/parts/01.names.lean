-- ===== PART A: goes FIRST, ahead of the names: the tables' words, and 'selects' of the private methods out of them =====
/-- a private method of a class that the tables say can be made, by its rows of tables_1 -/
def lw_okq (q : MethodName × Nat) : Prop := (q.1.cls ≠ "java/lang/invoke/MethodHandle" ∧ q.1.cls ≠ "java/lang/invoke/VarHandle") ∧ Cond.instantiable q.1.cls q.2 ∈ tables_1 ∧ Cond.privateMethod q.1 ∈ tables_1 ∧ Cond.instanceMethod q.1 ∈ tables_1
theorem lw_p0 : lw_okq (⟨"SmokedLetters$Text", "nextToken", "()V"⟩, 10) := ⟨⟨by decide +kernel, by decide +kernel⟩, List.mem_of_getElem? (i := 20) (by decide +kernel), List.mem_of_getElem? (i := 269) (by decide +kernel), List.mem_of_getElem? (i := 270) (by decide +kernel)⟩
theorem lw_p1 : lw_okq (⟨"SmokedLetters$Text", "readNumber", "()V"⟩, 10) := ⟨⟨by decide +kernel, by decide +kernel⟩, List.mem_of_getElem? (i := 20) (by decide +kernel), List.mem_of_getElem? (i := 276) (by decide +kernel), List.mem_of_getElem? (i := 277) (by decide +kernel)⟩
theorem lw_p2 : lw_okq (⟨"SmokedLetters$Text", "readItem", "(LSmokedLetters$Island;)Z"⟩, 10) := ⟨⟨by decide +kernel, by decide +kernel⟩, List.mem_of_getElem? (i := 20) (by decide +kernel), List.mem_of_getElem? (i := 286) (by decide +kernel), List.mem_of_getElem? (i := 287) (by decide +kernel)⟩
theorem lw_p3 : lw_okq (⟨"SmokedLetters$Text", "mayBegin", "(ILSmokedLetters$Island;)Z"⟩, 10) := ⟨⟨by decide +kernel, by decide +kernel⟩, List.mem_of_getElem? (i := 20) (by decide +kernel), List.mem_of_getElem? (i := 290) (by decide +kernel), List.mem_of_getElem? (i := 291) (by decide +kernel)⟩
theorem lw_p4 : lw_okq (⟨"SmokedLetters$Text", "fits", "(II)Z"⟩, 10) := ⟨⟨by decide +kernel, by decide +kernel⟩, List.mem_of_getElem? (i := 20) (by decide +kernel), List.mem_of_getElem? (i := 294) (by decide +kernel), List.mem_of_getElem? (i := 295) (by decide +kernel)⟩
theorem lw_p5 : lw_okq (⟨"SmokedLetters$Text", "goesWithM", "()Z"⟩, 10) := ⟨⟨by decide +kernel, by decide +kernel⟩, List.mem_of_getElem? (i := 20) (by decide +kernel), List.mem_of_getElem? (i := 298) (by decide +kernel), List.mem_of_getElem? (i := 299) (by decide +kernel)⟩
theorem lw_p6 : lw_okq (⟨"SmokedLetters$Text", "tell", "(ILSmokedLetters$Island;)V"⟩, 10) := ⟨⟨by decide +kernel, by decide +kernel⟩, List.mem_of_getElem? (i := 20) (by decide +kernel), List.mem_of_getElem? (i := 302) (by decide +kernel), List.mem_of_getElem? (i := 303) (by decide +kernel)⟩
theorem lw_p7 : lw_okq (⟨"SmokedLetters", "isNoneOrTraveller", "(I)Z"⟩, 14) := ⟨⟨by decide +kernel, by decide +kernel⟩, List.mem_of_getElem? (i := 12) (by decide +kernel), List.mem_of_getElem? (i := 414) (by decide +kernel), List.mem_of_getElem? (i := 415) (by decide +kernel)⟩
theorem lw_p8 : lw_okq (⟨"SmokedLetters$Plans", "letSail", "(II)V"⟩, 5) := ⟨⟨by decide +kernel, by decide +kernel⟩, List.mem_of_getElem? (i := 181) (by decide +kernel), List.mem_of_getElem? (i := 432) (by decide +kernel), List.mem_of_getElem? (i := 433) (by decide +kernel)⟩
theorem lw_p9 : lw_okq (⟨"SmokedLetters$Plans", "spread", "(LSmokedLetters$Island;I)V"⟩, 5) := ⟨⟨by decide +kernel, by decide +kernel⟩, List.mem_of_getElem? (i := 181) (by decide +kernel), List.mem_of_getElem? (i := 444) (by decide +kernel), List.mem_of_getElem? (i := 445) (by decide +kernel)⟩
theorem lw_p10 : lw_okq (⟨"SmokedLetters$Plans", "costOfRows", "()I"⟩, 5) := ⟨⟨by decide +kernel, by decide +kernel⟩, List.mem_of_getElem? (i := 181) (by decide +kernel), List.mem_of_getElem? (i := 449) (by decide +kernel), List.mem_of_getElem? (i := 450) (by decide +kernel)⟩
theorem lw_p11 : lw_okq (⟨"SmokedLetters", "countSickWays", "(I)V"⟩, 14) := ⟨⟨by decide +kernel, by decide +kernel⟩, List.mem_of_getElem? (i := 12) (by decide +kernel), List.mem_of_getElem? (i := 493) (by decide +kernel), List.mem_of_getElem? (i := 494) (by decide +kernel)⟩
theorem lw_p12 : lw_okq (⟨"SmokedLetters", "brownLength", "()I"⟩, 14) := ⟨⟨by decide +kernel, by decide +kernel⟩, List.mem_of_getElem? (i := 12) (by decide +kernel), List.mem_of_getElem? (i := 536) (by decide +kernel), List.mem_of_getElem? (i := 537) (by decide +kernel)⟩
theorem lw_p13 : lw_okq (⟨"SmokedLetters", "mayHaveStood", "(I)I"⟩, 14) := ⟨⟨by decide +kernel, by decide +kernel⟩, List.mem_of_getElem? (i := 12) (by decide +kernel), List.mem_of_getElem? (i := 548) (by decide +kernel), List.mem_of_getElem? (i := 549) (by decide +kernel)⟩
theorem lw_p14 : lw_okq (⟨"SmokedLetters", "possibleLetters", "()I"⟩, 14) := ⟨⟨by decide +kernel, by decide +kernel⟩, List.mem_of_getElem? (i := 12) (by decide +kernel), List.mem_of_getElem? (i := 560) (by decide +kernel), List.mem_of_getElem? (i := 561) (by decide +kernel)⟩
theorem lw_p15 : lw_okq (⟨"SmokedLetters", "fewestClerks", "(I)I"⟩, 14) := ⟨⟨by decide +kernel, by decide +kernel⟩, List.mem_of_getElem? (i := 12) (by decide +kernel), List.mem_of_getElem? (i := 580) (by decide +kernel), List.mem_of_getElem? (i := 581) (by decide +kernel)⟩
def lw_privs_1 : List (MethodName × Nat) := [(⟨"SmokedLetters$Text", "nextToken", "()V"⟩, 10), (⟨"SmokedLetters$Text", "readNumber", "()V"⟩, 10), (⟨"SmokedLetters$Text", "readItem", "(LSmokedLetters$Island;)Z"⟩, 10), (⟨"SmokedLetters$Text", "mayBegin", "(ILSmokedLetters$Island;)Z"⟩, 10), (⟨"SmokedLetters$Text", "fits", "(II)Z"⟩, 10), (⟨"SmokedLetters$Text", "goesWithM", "()Z"⟩, 10), (⟨"SmokedLetters$Text", "tell", "(ILSmokedLetters$Island;)V"⟩, 10), (⟨"SmokedLetters", "isNoneOrTraveller", "(I)Z"⟩, 14), (⟨"SmokedLetters$Plans", "letSail", "(II)V"⟩, 5), (⟨"SmokedLetters$Plans", "spread", "(LSmokedLetters$Island;I)V"⟩, 5), (⟨"SmokedLetters$Plans", "costOfRows", "()I"⟩, 5), (⟨"SmokedLetters", "countSickWays", "(I)V"⟩, 14), (⟨"SmokedLetters", "brownLength", "()I"⟩, 14), (⟨"SmokedLetters", "mayHaveStood", "(I)I"⟩, 14), (⟨"SmokedLetters", "possibleLetters", "()I"⟩, 14), (⟨"SmokedLetters", "fewestClerks", "(I)I"⟩, 14)]
theorem lw_r1 : ∀ q ∈ lw_privs_1, lw_okq q := List.forall_mem_cons.mpr ⟨lw_p0, List.forall_mem_cons.mpr ⟨lw_p1, List.forall_mem_cons.mpr ⟨lw_p2, List.forall_mem_cons.mpr ⟨lw_p3, List.forall_mem_cons.mpr ⟨lw_p4, List.forall_mem_cons.mpr ⟨lw_p5, List.forall_mem_cons.mpr ⟨lw_p6, List.forall_mem_cons.mpr ⟨lw_p7, List.forall_mem_cons.mpr ⟨lw_p8, List.forall_mem_cons.mpr ⟨lw_p9, List.forall_mem_cons.mpr ⟨lw_p10, List.forall_mem_cons.mpr ⟨lw_p11, List.forall_mem_cons.mpr ⟨lw_p12, List.forall_mem_cons.mpr ⟨lw_p13, List.forall_mem_cons.mpr ⟨lw_p14, List.forall_mem_cons.mpr ⟨lw_p15, fun _ h => absurd h List.not_mem_nil⟩⟩⟩⟩⟩⟩⟩⟩⟩⟩⟩⟩⟩⟩⟩⟩
theorem lw_p16 : lw_okq (⟨"SmokedLetters", "asClerk", "(I)I"⟩, 14) := ⟨⟨by decide +kernel, by decide +kernel⟩, List.mem_of_getElem? (i := 12) (by decide +kernel), List.mem_of_getElem? (i := 595) (by decide +kernel), List.mem_of_getElem? (i := 596) (by decide +kernel)⟩
theorem lw_p17 : lw_okq (⟨"SmokedLetters", "asNun", "(I)I"⟩, 14) := ⟨⟨by decide +kernel, by decide +kernel⟩, List.mem_of_getElem? (i := 12) (by decide +kernel), List.mem_of_getElem? (i := 599) (by decide +kernel), List.mem_of_getElem? (i := 600) (by decide +kernel)⟩
theorem lw_p18 : lw_okq (⟨"SmokedLetters", "asNephew", "(I)I"⟩, 14) := ⟨⟨by decide +kernel, by decide +kernel⟩, List.mem_of_getElem? (i := 12) (by decide +kernel), List.mem_of_getElem? (i := 604) (by decide +kernel), List.mem_of_getElem? (i := 605) (by decide +kernel)⟩
theorem lw_p19 : lw_okq (⟨"SmokedLetters", "asAbbess", "(I)I"⟩, 14) := ⟨⟨by decide +kernel, by decide +kernel⟩, List.mem_of_getElem? (i := 12) (by decide +kernel), List.mem_of_getElem? (i := 609) (by decide +kernel), List.mem_of_getElem? (i := 610) (by decide +kernel)⟩
theorem lw_p20 : lw_okq (⟨"SmokedLetters", "asForger", "(I)I"⟩, 14) := ⟨⟨by decide +kernel, by decide +kernel⟩, List.mem_of_getElem? (i := 12) (by decide +kernel), List.mem_of_getElem? (i := 614) (by decide +kernel), List.mem_of_getElem? (i := 615) (by decide +kernel)⟩
theorem lw_p21 : lw_okq (⟨"SmokedLetters", "asGull", "(I)I"⟩, 14) := ⟨⟨by decide +kernel, by decide +kernel⟩, List.mem_of_getElem? (i := 12) (by decide +kernel), List.mem_of_getElem? (i := 619) (by decide +kernel), List.mem_of_getElem? (i := 620) (by decide +kernel)⟩
theorem lw_p22 : lw_okq (⟨"SmokedLettersModel", "next", "()V"⟩, 39) := ⟨⟨by decide +kernel, by decide +kernel⟩, List.mem_of_getElem? (i := 641) (by decide +kernel), List.mem_of_getElem? (i := 782) (by decide +kernel), List.mem_of_getElem? (i := 783) (by decide +kernel)⟩
theorem lw_p23 : lw_okq (⟨"SmokedLettersModel", "letterAt", "(I)I"⟩, 39) := ⟨⟨by decide +kernel, by decide +kernel⟩, List.mem_of_getElem? (i := 641) (by decide +kernel), List.mem_of_getElem? (i := 786) (by decide +kernel), List.mem_of_getElem? (i := 787) (by decide +kernel)⟩
theorem lw_p24 : lw_okq (⟨"SmokedLettersModel", "readItem", "()V"⟩, 39) := ⟨⟨by decide +kernel, by decide +kernel⟩, List.mem_of_getElem? (i := 641) (by decide +kernel), List.mem_of_getElem? (i := 790) (by decide +kernel), List.mem_of_getElem? (i := 791) (by decide +kernel)⟩
theorem lw_p25 : lw_okq (⟨"SmokedLettersModel", "readOne", "(II)V"⟩, 39) := ⟨⟨by decide +kernel, by decide +kernel⟩, List.mem_of_getElem? (i := 641) (by decide +kernel), List.mem_of_getElem? (i := 794) (by decide +kernel), List.mem_of_getElem? (i := 795) (by decide +kernel)⟩
theorem lw_p26 : lw_okq (⟨"SmokedLettersModel", "must", "(Z)V"⟩, 39) := ⟨⟨by decide +kernel, by decide +kernel⟩, List.mem_of_getElem? (i := 641) (by decide +kernel), List.mem_of_getElem? (i := 801) (by decide +kernel), List.mem_of_getElem? (i := 802) (by decide +kernel)⟩
theorem lw_p27 : lw_okq (⟨"SmokedLettersModel", "readInto", "([IIII)I"⟩, 39) := ⟨⟨by decide +kernel, by decide +kernel⟩, List.mem_of_getElem? (i := 641) (by decide +kernel), List.mem_of_getElem? (i := 805) (by decide +kernel), List.mem_of_getElem? (i := 806) (by decide +kernel)⟩
theorem lw_p28 : lw_okq (⟨"SmokedLettersModel", "readTraveller", "()V"⟩, 39) := ⟨⟨by decide +kernel, by decide +kernel⟩, List.mem_of_getElem? (i := 641) (by decide +kernel), List.mem_of_getElem? (i := 809) (by decide +kernel), List.mem_of_getElem? (i := 810) (by decide +kernel)⟩
theorem lw_p29 : lw_okq (⟨"SmokedLettersModel", "readClerk", "()V"⟩, 39) := ⟨⟨by decide +kernel, by decide +kernel⟩, List.mem_of_getElem? (i := 641) (by decide +kernel), List.mem_of_getElem? (i := 813) (by decide +kernel), List.mem_of_getElem? (i := 814) (by decide +kernel)⟩
theorem lw_p30 : lw_okq (⟨"SmokedLettersModel", "isTraveller", "(I)Z"⟩, 39) := ⟨⟨by decide +kernel, by decide +kernel⟩, List.mem_of_getElem? (i := 641) (by decide +kernel), List.mem_of_getElem? (i := 821) (by decide +kernel), List.mem_of_getElem? (i := 822) (by decide +kernel)⟩
theorem lw_p31 : lw_okq (⟨"SmokedLettersModel", "isClerk", "(I)Z"⟩, 39) := ⟨⟨by decide +kernel, by decide +kernel⟩, List.mem_of_getElem? (i := 641) (by decide +kernel), List.mem_of_getElem? (i := 829) (by decide +kernel), List.mem_of_getElem? (i := 830) (by decide +kernel)⟩
def lw_privs_2 : List (MethodName × Nat) := [(⟨"SmokedLetters", "asClerk", "(I)I"⟩, 14), (⟨"SmokedLetters", "asNun", "(I)I"⟩, 14), (⟨"SmokedLetters", "asNephew", "(I)I"⟩, 14), (⟨"SmokedLetters", "asAbbess", "(I)I"⟩, 14), (⟨"SmokedLetters", "asForger", "(I)I"⟩, 14), (⟨"SmokedLetters", "asGull", "(I)I"⟩, 14), (⟨"SmokedLettersModel", "next", "()V"⟩, 39), (⟨"SmokedLettersModel", "letterAt", "(I)I"⟩, 39), (⟨"SmokedLettersModel", "readItem", "()V"⟩, 39), (⟨"SmokedLettersModel", "readOne", "(II)V"⟩, 39), (⟨"SmokedLettersModel", "must", "(Z)V"⟩, 39), (⟨"SmokedLettersModel", "readInto", "([IIII)I"⟩, 39), (⟨"SmokedLettersModel", "readTraveller", "()V"⟩, 39), (⟨"SmokedLettersModel", "readClerk", "()V"⟩, 39), (⟨"SmokedLettersModel", "isTraveller", "(I)Z"⟩, 39), (⟨"SmokedLettersModel", "isClerk", "(I)Z"⟩, 39)]
theorem lw_r2 : ∀ q ∈ lw_privs_2, lw_okq q := List.forall_mem_cons.mpr ⟨lw_p16, List.forall_mem_cons.mpr ⟨lw_p17, List.forall_mem_cons.mpr ⟨lw_p18, List.forall_mem_cons.mpr ⟨lw_p19, List.forall_mem_cons.mpr ⟨lw_p20, List.forall_mem_cons.mpr ⟨lw_p21, List.forall_mem_cons.mpr ⟨lw_p22, List.forall_mem_cons.mpr ⟨lw_p23, List.forall_mem_cons.mpr ⟨lw_p24, List.forall_mem_cons.mpr ⟨lw_p25, List.forall_mem_cons.mpr ⟨lw_p26, List.forall_mem_cons.mpr ⟨lw_p27, List.forall_mem_cons.mpr ⟨lw_p28, List.forall_mem_cons.mpr ⟨lw_p29, List.forall_mem_cons.mpr ⟨lw_p30, List.forall_mem_cons.mpr ⟨lw_p31, fun _ h => absurd h List.not_mem_nil⟩⟩⟩⟩⟩⟩⟩⟩⟩⟩⟩⟩⟩⟩⟩⟩
theorem lw_p32 : lw_okq (⟨"SmokedLettersModel", "leavers", "()I"⟩, 39) := ⟨⟨by decide +kernel, by decide +kernel⟩, List.mem_of_getElem? (i := 641) (by decide +kernel), List.mem_of_getElem? (i := 837) (by decide +kernel), List.mem_of_getElem? (i := 838) (by decide +kernel)⟩
theorem lw_p33 : lw_okq (⟨"SmokedLettersModel", "mayLeave", "(I)Z"⟩, 39) := ⟨⟨by decide +kernel, by decide +kernel⟩, List.mem_of_getElem? (i := 641) (by decide +kernel), List.mem_of_getElem? (i := 841) (by decide +kernel), List.mem_of_getElem? (i := 842) (by decide +kernel)⟩
theorem lw_p34 : lw_okq (⟨"SmokedLettersModel", "goneSet", "()I"⟩, 39) := ⟨⟨by decide +kernel, by decide +kernel⟩, List.mem_of_getElem? (i := 641) (by decide +kernel), List.mem_of_getElem? (i := 845) (by decide +kernel), List.mem_of_getElem? (i := 846) (by decide +kernel)⟩
theorem lw_p35 : lw_okq (⟨"SmokedLettersModel", "sailsOn", "(I)Z"⟩, 39) := ⟨⟨by decide +kernel, by decide +kernel⟩, List.mem_of_getElem? (i := 641) (by decide +kernel), List.mem_of_getElem? (i := 849) (by decide +kernel), List.mem_of_getElem? (i := 850) (by decide +kernel)⟩
theorem lw_p36 : lw_okq (⟨"SmokedLettersModel", "isRow", "(I)Z"⟩, 39) := ⟨⟨by decide +kernel, by decide +kernel⟩, List.mem_of_getElem? (i := 641) (by decide +kernel), List.mem_of_getElem? (i := 857) (by decide +kernel), List.mem_of_getElem? (i := 858) (by decide +kernel)⟩
theorem lw_p37 : lw_okq (⟨"SmokedLettersModel", "remembers", "()V"⟩, 39) := ⟨⟨by decide +kernel, by decide +kernel⟩, List.mem_of_getElem? (i := 641) (by decide +kernel), List.mem_of_getElem? (i := 861) (by decide +kernel), List.mem_of_getElem? (i := 862) (by decide +kernel)⟩
theorem lw_p38 : lw_okq (⟨"SmokedLettersModel", "vinegar", "([II)I"⟩, 39) := ⟨⟨by decide +kernel, by decide +kernel⟩, List.mem_of_getElem? (i := 641) (by decide +kernel), List.mem_of_getElem? (i := 869) (by decide +kernel), List.mem_of_getElem? (i := 870) (by decide +kernel)⟩
theorem lw_p39 : lw_okq (⟨"SmokedLettersModel", "power", "(II)I"⟩, 39) := ⟨⟨by decide +kernel, by decide +kernel⟩, List.mem_of_getElem? (i := 641) (by decide +kernel), List.mem_of_getElem? (i := 888) (by decide +kernel), List.mem_of_getElem? (i := 889) (by decide +kernel)⟩
theorem lw_p40 : lw_okq (⟨"SmokedLettersModel", "lays", "(I)V"⟩, 39) := ⟨⟨by decide +kernel, by decide +kernel⟩, List.mem_of_getElem? (i := 641) (by decide +kernel), List.mem_of_getElem? (i := 892) (by decide +kernel), List.mem_of_getElem? (i := 893) (by decide +kernel)⟩
theorem lw_p41 : lw_okq (⟨"SmokedLettersModel", "goes", "()I"⟩, 39) := ⟨⟨by decide +kernel, by decide +kernel⟩, List.mem_of_getElem? (i := 641) (by decide +kernel), List.mem_of_getElem? (i := 896) (by decide +kernel), List.mem_of_getElem? (i := 897) (by decide +kernel)⟩
theorem lw_p42 : lw_okq (⟨"SmokedLettersModel", "comes", "(I)V"⟩, 39) := ⟨⟨by decide +kernel, by decide +kernel⟩, List.mem_of_getElem? (i := 641) (by decide +kernel), List.mem_of_getElem? (i := 900) (by decide +kernel), List.mem_of_getElem? (i := 901) (by decide +kernel)⟩
theorem lw_p43 : lw_okq (⟨"SmokedLettersModel", "sailedBy", "(I)I"⟩, 39) := ⟨⟨by decide +kernel, by decide +kernel⟩, List.mem_of_getElem? (i := 641) (by decide +kernel), List.mem_of_getElem? (i := 904) (by decide +kernel), List.mem_of_getElem? (i := 905) (by decide +kernel)⟩
theorem lw_p44 : lw_okq (⟨"SmokedLettersModel", "late", "()I"⟩, 39) := ⟨⟨by decide +kernel, by decide +kernel⟩, List.mem_of_getElem? (i := 641) (by decide +kernel), List.mem_of_getElem? (i := 913) (by decide +kernel), List.mem_of_getElem? (i := 914) (by decide +kernel)⟩
theorem lw_p45 : lw_okq (⟨"SmokedLettersModel", "findSick", "(I)V"⟩, 39) := ⟨⟨by decide +kernel, by decide +kernel⟩, List.mem_of_getElem? (i := 641) (by decide +kernel), List.mem_of_getElem? (i := 942) (by decide +kernel), List.mem_of_getElem? (i := 943) (by decide +kernel)⟩
theorem lw_p46 : lw_okq (⟨"SmokedLettersModel", "madeOf", "(II)I"⟩, 39) := ⟨⟨by decide +kernel, by decide +kernel⟩, List.mem_of_getElem? (i := 641) (by decide +kernel), List.mem_of_getElem? (i := 959) (by decide +kernel), List.mem_of_getElem? (i := 960) (by decide +kernel)⟩
theorem lw_p47 : lw_okq (⟨"SmokedLettersModel", "isCopied", "(I)Z"⟩, 39) := ⟨⟨by decide +kernel, by decide +kernel⟩, List.mem_of_getElem? (i := 641) (by decide +kernel), List.mem_of_getElem? (i := 979) (by decide +kernel), List.mem_of_getElem? (i := 980) (by decide +kernel)⟩
def lw_privs_3 : List (MethodName × Nat) := [(⟨"SmokedLettersModel", "leavers", "()I"⟩, 39), (⟨"SmokedLettersModel", "mayLeave", "(I)Z"⟩, 39), (⟨"SmokedLettersModel", "goneSet", "()I"⟩, 39), (⟨"SmokedLettersModel", "sailsOn", "(I)Z"⟩, 39), (⟨"SmokedLettersModel", "isRow", "(I)Z"⟩, 39), (⟨"SmokedLettersModel", "remembers", "()V"⟩, 39), (⟨"SmokedLettersModel", "vinegar", "([II)I"⟩, 39), (⟨"SmokedLettersModel", "power", "(II)I"⟩, 39), (⟨"SmokedLettersModel", "lays", "(I)V"⟩, 39), (⟨"SmokedLettersModel", "goes", "()I"⟩, 39), (⟨"SmokedLettersModel", "comes", "(I)V"⟩, 39), (⟨"SmokedLettersModel", "sailedBy", "(I)I"⟩, 39), (⟨"SmokedLettersModel", "late", "()I"⟩, 39), (⟨"SmokedLettersModel", "findSick", "(I)V"⟩, 39), (⟨"SmokedLettersModel", "madeOf", "(II)I"⟩, 39), (⟨"SmokedLettersModel", "isCopied", "(I)Z"⟩, 39)]
theorem lw_r3 : ∀ q ∈ lw_privs_3, lw_okq q := List.forall_mem_cons.mpr ⟨lw_p32, List.forall_mem_cons.mpr ⟨lw_p33, List.forall_mem_cons.mpr ⟨lw_p34, List.forall_mem_cons.mpr ⟨lw_p35, List.forall_mem_cons.mpr ⟨lw_p36, List.forall_mem_cons.mpr ⟨lw_p37, List.forall_mem_cons.mpr ⟨lw_p38, List.forall_mem_cons.mpr ⟨lw_p39, List.forall_mem_cons.mpr ⟨lw_p40, List.forall_mem_cons.mpr ⟨lw_p41, List.forall_mem_cons.mpr ⟨lw_p42, List.forall_mem_cons.mpr ⟨lw_p43, List.forall_mem_cons.mpr ⟨lw_p44, List.forall_mem_cons.mpr ⟨lw_p45, List.forall_mem_cons.mpr ⟨lw_p46, List.forall_mem_cons.mpr ⟨lw_p47, fun _ h => absurd h List.not_mem_nil⟩⟩⟩⟩⟩⟩⟩⟩⟩⟩⟩⟩⟩⟩⟩⟩
theorem lw_p48 : lw_okq (⟨"SmokedLettersModel", "stoodAt", "(I)I"⟩, 39) := ⟨⟨by decide +kernel, by decide +kernel⟩, List.mem_of_getElem? (i := 641) (by decide +kernel), List.mem_of_getElem? (i := 983) (by decide +kernel), List.mem_of_getElem? (i := 984) (by decide +kernel)⟩
theorem lw_p49 : lw_okq (⟨"SmokedLettersModel", "ways", "()I"⟩, 39) := ⟨⟨by decide +kernel, by decide +kernel⟩, List.mem_of_getElem? (i := 641) (by decide +kernel), List.mem_of_getElem? (i := 991) (by decide +kernel), List.mem_of_getElem? (i := 992) (by decide +kernel)⟩
theorem lw_p50 : lw_okq (⟨"SmokedLettersModel", "sureOf", "(I)I"⟩, 39) := ⟨⟨by decide +kernel, by decide +kernel⟩, List.mem_of_getElem? (i := 641) (by decide +kernel), List.mem_of_getElem? (i := 995) (by decide +kernel), List.mem_of_getElem? (i := 996) (by decide +kernel)⟩
theorem lw_p51 : lw_okq (⟨"SmokedLettersModel", "reads", "(I)Z"⟩, 39) := ⟨⟨by decide +kernel, by decide +kernel⟩, List.mem_of_getElem? (i := 641) (by decide +kernel), List.mem_of_getElem? (i := 1003) (by decide +kernel), List.mem_of_getElem? (i := 1004) (by decide +kernel)⟩
theorem lw_p52 : lw_okq (⟨"SmokedLettersModel", "begins", "()V"⟩, 39) := ⟨⟨by decide +kernel, by decide +kernel⟩, List.mem_of_getElem? (i := 641) (by decide +kernel), List.mem_of_getElem? (i := 1008) (by decide +kernel), List.mem_of_getElem? (i := 1009) (by decide +kernel)⟩
theorem lw_p53 : lw_okq (⟨"SmokedLettersModel", "smokesOn", "(I)V"⟩, 39) := ⟨⟨by decide +kernel, by decide +kernel⟩, List.mem_of_getElem? (i := 641) (by decide +kernel), List.mem_of_getElem? (i := 1012) (by decide +kernel), List.mem_of_getElem? (i := 1013) (by decide +kernel)⟩
theorem lw_p54 : lw_okq (⟨"SmokedLettersModel", "isLetter", "([I)Z"⟩, 39) := ⟨⟨by decide +kernel, by decide +kernel⟩, List.mem_of_getElem? (i := 641) (by decide +kernel), List.mem_of_getElem? (i := 1016) (by decide +kernel), List.mem_of_getElem? (i := 1017) (by decide +kernel)⟩
theorem lw_p55 : lw_okq (⟨"SmokedLettersModel", "makes", "(II)Z"⟩, 39) := ⟨⟨by decide +kernel, by decide +kernel⟩, List.mem_of_getElem? (i := 641) (by decide +kernel), List.mem_of_getElem? (i := 1024) (by decide +kernel), List.mem_of_getElem? (i := 1025) (by decide +kernel)⟩
theorem lw_p56 : lw_okq (⟨"SmokedLettersModel", "clerkRate", "(I)I"⟩, 39) := ⟨⟨by decide +kernel, by decide +kernel⟩, List.mem_of_getElem? (i := 641) (by decide +kernel), List.mem_of_getElem? (i := 1033) (by decide +kernel), List.mem_of_getElem? (i := 1034) (by decide +kernel)⟩
theorem lw_p57 : lw_okq (⟨"SmokedLettersModel", "nunRate", "(I)I"⟩, 39) := ⟨⟨by decide +kernel, by decide +kernel⟩, List.mem_of_getElem? (i := 641) (by decide +kernel), List.mem_of_getElem? (i := 1037) (by decide +kernel), List.mem_of_getElem? (i := 1038) (by decide +kernel)⟩
theorem lw_p58 : lw_okq (⟨"SmokedLettersModel", "nephewRate", "(I)I"⟩, 39) := ⟨⟨by decide +kernel, by decide +kernel⟩, List.mem_of_getElem? (i := 641) (by decide +kernel), List.mem_of_getElem? (i := 1041) (by decide +kernel), List.mem_of_getElem? (i := 1042) (by decide +kernel)⟩
def lw_privs_4 : List (MethodName × Nat) := [(⟨"SmokedLettersModel", "stoodAt", "(I)I"⟩, 39), (⟨"SmokedLettersModel", "ways", "()I"⟩, 39), (⟨"SmokedLettersModel", "sureOf", "(I)I"⟩, 39), (⟨"SmokedLettersModel", "reads", "(I)Z"⟩, 39), (⟨"SmokedLettersModel", "begins", "()V"⟩, 39), (⟨"SmokedLettersModel", "smokesOn", "(I)V"⟩, 39), (⟨"SmokedLettersModel", "isLetter", "([I)Z"⟩, 39), (⟨"SmokedLettersModel", "makes", "(II)Z"⟩, 39), (⟨"SmokedLettersModel", "clerkRate", "(I)I"⟩, 39), (⟨"SmokedLettersModel", "nunRate", "(I)I"⟩, 39), (⟨"SmokedLettersModel", "nephewRate", "(I)I"⟩, 39)]
theorem lw_r4 : ∀ q ∈ lw_privs_4, lw_okq q := List.forall_mem_cons.mpr ⟨lw_p48, List.forall_mem_cons.mpr ⟨lw_p49, List.forall_mem_cons.mpr ⟨lw_p50, List.forall_mem_cons.mpr ⟨lw_p51, List.forall_mem_cons.mpr ⟨lw_p52, List.forall_mem_cons.mpr ⟨lw_p53, List.forall_mem_cons.mpr ⟨lw_p54, List.forall_mem_cons.mpr ⟨lw_p55, List.forall_mem_cons.mpr ⟨lw_p56, List.forall_mem_cons.mpr ⟨lw_p57, List.forall_mem_cons.mpr ⟨lw_p58, fun _ h => absurd h List.not_mem_nil⟩⟩⟩⟩⟩⟩⟩⟩⟩⟩⟩
def lw_privs : List (MethodName × Nat) := lw_privs_1 ++ (lw_privs_2 ++ (lw_privs_3 ++ (lw_privs_4)))
def lw_tbl : List Cond := k2_sels lw_privs ++ tables_1
theorem lw_privs_ok : ∀ q ∈ lw_privs, lw_okq q := by
  show ∀ q ∈ lw_privs_1 ++ (lw_privs_2 ++ (lw_privs_3 ++ (lw_privs_4))), lw_okq q
  exact List.forall_mem_append.mpr ⟨lw_r1, List.forall_mem_append.mpr ⟨lw_r2, List.forall_mem_append.mpr ⟨lw_r3, lw_r4⟩⟩⟩
def RX0 : String := "SmokedLetters$History"
def TX0 : u_T := fun k => match k with
  | 0 => ("SmokedLetters$History", "known", "I", false)
  | 1 => ("SmokedLetters$History", "next", "I", false)
  | _ => ("SmokedLetters$History", "past", "[LSmokedLetters$Now;", true)
def tyX0 : Nat → FieldType := fun k => match k with
  | 0 => .int
  | 1 => .int
  | _ => .array (.object "SmokedLetters$Now")
abbrev wsX00 : List Cond := u_ws RX0 TX0 3
theorem nmX0 : ∀ a, a < 3 → ∀ b, b < 3 → a ≠ b → (TX0 a).2.1 ≠ (TX0 b).2.1 := by decide +kernel
theorem tyX0_ok : ∀ k, k < 3 → parseFieldDescriptor (TX0 k).2.2.1 = some (tyX0 k) := by decide +kernel
abbrev cX0_init : ByteArray := prog_2_method_1_code
def yX0_init : MethodName := ⟨RX0, "<init>", "()V"⟩
abbrev cX0_remember : ByteArray := prog_2_method_2_code
def yX0_remember : MethodName := ⟨RX0, "remember", "(LSmokedLetters$Now;)V"⟩
abbrev cX0_takeBack : ByteArray := prog_2_method_3_code
def yX0_takeBack : MethodName := ⟨RX0, "takeBack", "(LSmokedLetters$Now;)V"⟩
def RX1 : String := "SmokedLetters$Island"
def TX1 : u_T := fun k => match k with
  | 0 => ("SmokedLetters$Island", "hold", "I", false)
  | 1 => ("SmokedLetters$Island", "rows", "I", false)
  | 2 => ("SmokedLetters$Island", "boats", "I", false)
  | 3 => ("SmokedLetters$Island", "travellers", "I", false)
  | 4 => ("SmokedLetters$Island", "clerks", "I", false)
  | 5 => ("SmokedLetters$Island", "comes", "[I", true)
  | 6 => ("SmokedLetters$Island", "chances", "[I", true)
  | 7 => ("SmokedLetters$Island", "order", "[I", true)
  | 8 => ("SmokedLetters$Island", "burns", "[I", true)
  | 9 => ("SmokedLetters$Island", "mercyFrom", "[I", true)
  | _ => ("SmokedLetters$Island", "mercyTo", "[I", true)
def tyX1 : Nat → FieldType := fun k => match k with
  | 0 => .int
  | 1 => .int
  | 2 => .int
  | 3 => .int
  | 4 => .int
  | 5 => .array .int
  | 6 => .array .int
  | 7 => .array .int
  | 8 => .array .int
  | 9 => .array .int
  | _ => .array .int
abbrev wsX10 : List Cond := u_ws RX1 TX1 11
theorem nmX1 : ∀ a, a < 11 → ∀ b, b < 11 → a ≠ b → (TX1 a).2.1 ≠ (TX1 b).2.1 := by decide +kernel
theorem tyX1_ok : ∀ k, k < 11 → parseFieldDescriptor (TX1 k).2.2.1 = some (tyX1 k) := by decide +kernel
abbrev cX1_init : ByteArray := prog_3_method_1_code
def yX1_init : MethodName := ⟨RX1, "<init>", "()V"⟩
abbrev cX1_forget : ByteArray := prog_3_method_2_code
def yX1_forget : MethodName := ⟨RX1, "forget", "()V"⟩
abbrev cX1_addTraveller : ByteArray := prog_3_method_3_code
def yX1_addTraveller : MethodName := ⟨RX1, "addTraveller", "(II)V"⟩
abbrev cX1_addClerk : ByteArray := prog_3_method_4_code
def yX1_addClerk : MethodName := ⟨RX1, "addClerk", "(III)V"⟩
abbrev cX1_hasTraveller : ByteArray := prog_3_method_5_code
def yX1_hasTraveller : MethodName := ⟨RX1, "hasTraveller", "(I)Z"⟩
abbrev cX1_hasClerk : ByteArray := prog_3_method_6_code
def yX1_hasClerk : MethodName := ⟨RX1, "hasClerk", "(I)Z"⟩
abbrev cX1_hasRow : ByteArray := prog_3_method_7_code
def yX1_hasRow : MethodName := ⟨RX1, "hasRow", "(I)Z"⟩
abbrev cX1_boatSailsOn : ByteArray := prog_3_method_8_code
def yX1_boatSailsOn : MethodName := ⟨RX1, "boatSailsOn", "(I)Z"⟩
abbrev cX1_boatFrom : ByteArray := prog_3_method_9_code
def yX1_boatFrom : MethodName := ⟨RX1, "boatFrom", "(I)I"⟩
abbrev cX1_copied : ByteArray := prog_3_method_10_code
def yX1_copied : MethodName := ⟨RX1, "copied", "(II)I"⟩
abbrev cX1_copiedFrom : ByteArray := prog_3_method_11_code
def yX1_copiedFrom : MethodName := ⟨RX1, "copiedFrom", "(II)I"⟩
abbrev cX1_smoked : ByteArray := prog_3_method_12_code
def yX1_smoked : MethodName := ⟨RX1, "smoked", "(II)I"⟩
def RX2 : String := "SmokedLetters$Now"
def TX2 : u_T := fun k => match k with
  | 0 => ("SmokedLetters$Now", "today", "I", false)
  | 1 => ("SmokedLetters$Now", "vinegar", "I", false)
  | 2 => ("SmokedLetters$Now", "gone", "I", false)
  | 3 => ("SmokedLetters$Now", "letter", "I", false)
  | 4 => ("SmokedLetters$Now", "inRow", "[I", true)
  | _ => ("SmokedLetters$Now", "rowDays", "[I", true)
def tyX2 : Nat → FieldType := fun k => match k with
  | 0 => .int
  | 1 => .int
  | 2 => .int
  | 3 => .int
  | 4 => .array .int
  | _ => .array .int
abbrev wsX20 : List Cond := u_ws RX2 TX2 6
theorem nmX2 : ∀ a, a < 6 → ∀ b, b < 6 → a ≠ b → (TX2 a).2.1 ≠ (TX2 b).2.1 := by decide +kernel
theorem tyX2_ok : ∀ k, k < 6 → parseFieldDescriptor (TX2 k).2.2.1 = some (tyX2 k) := by decide +kernel
abbrev cX2_init : ByteArray := prog_4_method_1_code
def yX2_init : MethodName := ⟨RX2, "<init>", "()V"⟩
abbrev cX2_beginAnew : ByteArray := prog_4_method_2_code
def yX2_beginAnew : MethodName := ⟨RX2, "beginAnew", "()V"⟩
abbrev cX2_becomeAs : ByteArray := prog_4_method_3_code
def yX2_becomeAs : MethodName := ⟨RX2, "becomeAs", "(LSmokedLetters$Now;)V"⟩
abbrev cX2_rowOf : ByteArray := prog_4_method_4_code
def yX2_rowOf : MethodName := ⟨RX2, "rowOf", "(I)I"⟩
abbrev cX2_daysInRow : ByteArray := prog_4_method_5_code
def yX2_daysInRow : MethodName := ⟨RX2, "daysInRow", "(I)I"⟩
abbrev cX2_isGone : ByteArray := prog_4_method_6_code
def yX2_isGone : MethodName := ⟨RX2, "isGone", "(I)Z"⟩
abbrev cX2_mayLeave : ByteArray := prog_4_method_7_code
def yX2_mayLeave : MethodName := ⟨RX2, "mayLeave", "(II)I"⟩
abbrev cX2_passDay : ByteArray := prog_4_method_8_code
def yX2_passDay : MethodName := ⟨RX2, "passDay", "()V"⟩
abbrev cX2_letGo : ByteArray := prog_4_method_9_code
def yX2_letGo : MethodName := ⟨RX2, "letGo", "(I)V"⟩
abbrev cX2_vinegarFor : ByteArray := prog_4_method_10_code
def yX2_vinegarFor : MethodName := ⟨RX2, "vinegarFor", "(I)I"⟩
def RX3 : String := "SmokedLetters$Plans"
def TX3 : u_T := fun k => match k with
  | 0 => ("SmokedLetters$Plans", "sailDays", "[I", true)
  | 1 => ("SmokedLetters$Plans", "inRow", "[I", true)
  | 2 => ("SmokedLetters$Plans", "lastOf", "[I", true)
  | 3 => ("SmokedLetters$Plans", "sumOf", "[I", true)
  | _ => ("SmokedLetters$Plans", "best", "I", false)
def tyX3 : Nat → FieldType := fun k => match k with
  | 0 => .array .int
  | 1 => .array .int
  | 2 => .array .int
  | 3 => .array .int
  | _ => .int
abbrev wsX30 : List Cond := u_ws RX3 TX3 5
theorem nmX3 : ∀ a, a < 5 → ∀ b, b < 5 → a ≠ b → (TX3 a).2.1 ≠ (TX3 b).2.1 := by decide +kernel
theorem tyX3_ok : ∀ k, k < 5 → parseFieldDescriptor (TX3 k).2.2.1 = some (tyX3 k) := by decide +kernel
abbrev cX3_init : ByteArray := prog_5_method_1_code
def yX3_init : MethodName := ⟨RX3, "<init>", "()V"⟩
abbrev cX3_runRow : ByteArray := prog_5_method_2_code
def yX3_runRow : MethodName := ⟨RX3, "runRow", "(LSmokedLetters$Island;I)I"⟩
abbrev cX3_letSail : ByteArray := prog_5_method_3_code
def yX3_letSail : MethodName := ⟨RX3, "letSail", "(II)V"⟩
abbrev cX3_weigh : ByteArray := prog_5_method_4_code
def yX3_weigh : MethodName := ⟨RX3, "weigh", "(LSmokedLetters$Island;I)V"⟩
abbrev cX3_findBest : ByteArray := prog_5_method_5_code
def yX3_findBest : MethodName := ⟨RX3, "findBest", "(LSmokedLetters$Island;)I"⟩
abbrev cX3_bestRowOf : ByteArray := prog_5_method_6_code
def yX3_bestRowOf : MethodName := ⟨RX3, "bestRowOf", "(LSmokedLetters$Island;I)I"⟩
abbrev cX3_spread : ByteArray := prog_5_method_7_code
def yX3_spread : MethodName := ⟨RX3, "spread", "(LSmokedLetters$Island;I)V"⟩
abbrev cX3_costOfRows : ByteArray := prog_5_method_8_code
def yX3_costOfRows : MethodName := ⟨RX3, "costOfRows", "()I"⟩
abbrev cX3_readFigures : ByteArray := prog_5_method_9_code
def yX3_readFigures : MethodName := ⟨RX3, "readFigures", "(LSmokedLetters$Island;I)Z"⟩
def RX4 : String := "SmokedLetters$Text"
def TX4 : u_T := fun k => match k with
  | 0 => ("SmokedLetters$Text", "length", "I", false)
  | 1 => ("SmokedLetters$Text", "letters", "[I", true)
  | 2 => ("SmokedLetters$Text", "token", "I", false)
  | 3 => ("SmokedLetters$Text", "place", "I", false)
  | 4 => ("SmokedLetters$Text", "behind", "I", false)
  | 5 => ("SmokedLetters$Text", "value", "I", false)
  | 6 => ("SmokedLetters$Text", "numbers", "[I", true)
  | 7 => ("SmokedLetters$Text", "holdTold", "Z", false)
  | 8 => ("SmokedLetters$Text", "rowsTold", "Z", false)
  | _ => ("SmokedLetters$Text", "boatsTold", "Z", false)
def tyX4 : Nat → FieldType := fun k => match k with
  | 0 => .int
  | 1 => .array .int
  | 2 => .int
  | 3 => .int
  | 4 => .int
  | 5 => .int
  | 6 => .array .int
  | 7 => .boolean
  | 8 => .boolean
  | _ => .boolean
abbrev wsX40 : List Cond := u_ws RX4 TX4 10
theorem nmX4 : ∀ a, a < 10 → ∀ b, b < 10 → a ≠ b → (TX4 a).2.1 ≠ (TX4 b).2.1 := by decide +kernel
theorem tyX4_ok : ∀ k, k < 10 → parseFieldDescriptor (TX4 k).2.2.1 = some (tyX4 k) := by decide +kernel
abbrev cX4_init : ByteArray := prog_6_method_1_code
def yX4_init : MethodName := ⟨RX4, "<init>", "()V"⟩
abbrev cX4_append : ByteArray := prog_6_method_2_code
def yX4_append : MethodName := ⟨RX4, "append", "(I)Z"⟩
abbrev cX4_readInto : ByteArray := prog_6_method_3_code
def yX4_readInto : MethodName := ⟨RX4, "readInto", "(LSmokedLetters$Island;)I"⟩
abbrev cX4_readItem : ByteArray := prog_6_method_4_code
def yX4_readItem : MethodName := ⟨RX4, "readItem", "(LSmokedLetters$Island;)Z"⟩
abbrev cX4_mayBegin : ByteArray := prog_6_method_5_code
def yX4_mayBegin : MethodName := ⟨RX4, "mayBegin", "(ILSmokedLetters$Island;)Z"⟩
abbrev cX4_fits : ByteArray := prog_6_method_6_code
def yX4_fits : MethodName := ⟨RX4, "fits", "(II)Z"⟩
abbrev cX4_goesWithM : ByteArray := prog_6_method_7_code
def yX4_goesWithM : MethodName := ⟨RX4, "goesWithM", "()Z"⟩
abbrev cX4_tell : ByteArray := prog_6_method_8_code
def yX4_tell : MethodName := ⟨RX4, "tell", "(ILSmokedLetters$Island;)V"⟩
abbrev cX4_nextToken : ByteArray := prog_6_method_9_code
def yX4_nextToken : MethodName := ⟨RX4, "nextToken", "()V"⟩
abbrev cX4_readNumber : ByteArray := prog_6_method_10_code
def yX4_readNumber : MethodName := ⟨RX4, "readNumber", "()V"⟩
abbrev cX4_isFigure : ByteArray := prog_6_method_11_code
def yX4_isFigure : MethodName := ⟨RX4, "isFigure", "(I)Z"⟩
abbrev cX4_isTokenLetter : ByteArray := prog_6_method_12_code
def yX4_isTokenLetter : MethodName := ⟨RX4, "isTokenLetter", "(I)Z"⟩
def RX5 : String := "SmokedLetters"
def TX5 : u_T := fun k => match k with
  | 0 => ("SmokedLetters", "text", "LSmokedLetters$Text;", true)
  | 1 => ("SmokedLetters", "told", "LSmokedLetters$Island;", false)
  | 2 => ("SmokedLetters", "draft", "LSmokedLetters$Island;", false)
  | 3 => ("SmokedLetters", "present", "LSmokedLetters$Now;", true)
  | 4 => ("SmokedLetters", "history", "LSmokedLetters$History;", true)
  | 5 => ("SmokedLetters", "images", "[LSmokedLetters$Now;", true)
  | 6 => ("SmokedLetters", "imagesKept", "I", false)
  | 7 => ("SmokedLetters", "plans", "LSmokedLetters$Plans;", true)
  | 8 => ("SmokedLetters", "brownLetters", "[I", true)
  | 9 => ("SmokedLetters", "brownClerks", "[I", true)
  | 10 => ("SmokedLetters", "browns", "I", false)
  | 11 => ("SmokedLetters", "clerkRow", "[I", true)
  | 12 => ("SmokedLetters", "sickWays", "[I", true)
  | _ => ("SmokedLetters", "traced", "J", false)
def tyX5 : Nat → FieldType := fun k => match k with
  | 0 => .object "SmokedLetters$Text"
  | 1 => .object "SmokedLetters$Island"
  | 2 => .object "SmokedLetters$Island"
  | 3 => .object "SmokedLetters$Now"
  | 4 => .object "SmokedLetters$History"
  | 5 => .array (.object "SmokedLetters$Now")
  | 6 => .int
  | 7 => .object "SmokedLetters$Plans"
  | 8 => .array .int
  | 9 => .array .int
  | 10 => .int
  | 11 => .array .int
  | 12 => .array .int
  | _ => .long
abbrev wsX50 : List Cond := u_ws RX5 TX5 14
theorem nmX5 : ∀ a, a < 14 → ∀ b, b < 14 → a ≠ b → (TX5 a).2.1 ≠ (TX5 b).2.1 := by decide +kernel
theorem tyX5_ok : ∀ k, k < 14 → parseFieldDescriptor (TX5 k).2.2.1 = some (tyX5 k) := by decide +kernel
abbrev cX5_init : ByteArray := prog_1_method_1_code
def yX5_init : MethodName := ⟨RX5, "<init>", "()V"⟩
abbrev cX5_type : ByteArray := prog_1_method_2_code
def yX5_type : MethodName := ⟨RX5, "type", "(I)I"⟩
abbrev cX5_clear : ByteArray := prog_1_method_3_code
def yX5_clear : MethodName := ⟨RX5, "clear", "()I"⟩
abbrev cX5_island : ByteArray := prog_1_method_4_code
def yX5_island : MethodName := ⟨RX5, "island", "()I"⟩
abbrev cX5_traveller : ByteArray := prog_1_method_5_code
def yX5_traveller : MethodName := ⟨RX5, "traveller", "(II)I"⟩
abbrev cX5_clerk : ByteArray := prog_1_method_6_code
def yX5_clerk : MethodName := ⟨RX5, "clerk", "(II)I"⟩
abbrev cX5_now : ByteArray := prog_1_method_7_code
def yX5_now : MethodName := ⟨RX5, "now", "(I)I"⟩
abbrev cX5_puts : ByteArray := prog_1_method_8_code
def yX5_puts : MethodName := ⟨RX5, "puts", "(II)I"⟩
abbrev cX5_day : ByteArray := prog_1_method_9_code
def yX5_day : MethodName := ⟨RX5, "day", "()I"⟩
abbrev cX5_sails : ByteArray := prog_1_method_10_code
def yX5_sails : MethodName := ⟨RX5, "sails", "(I)I"⟩
abbrev cX5_undo : ByteArray := prog_1_method_11_code
def yX5_undo : MethodName := ⟨RX5, "undo", "()I"⟩
abbrev cX5_most : ByteArray := prog_1_method_12_code
def yX5_most : MethodName := ⟨RX5, "most", "(II)I"⟩
abbrev cX5_soonest : ByteArray := prog_1_method_13_code
def yX5_soonest : MethodName := ⟨RX5, "soonest", "(I)I"⟩
abbrev cX5_plan : ByteArray := prog_1_method_14_code
def yX5_plan : MethodName := ⟨RX5, "plan", "(II)I"⟩
abbrev cX5_waits : ByteArray := prog_1_method_15_code
def yX5_waits : MethodName := ⟨RX5, "waits", "(I)I"⟩
abbrev cX5_boat : ByteArray := prog_1_method_16_code
def yX5_boat : MethodName := ⟨RX5, "boat", "(II)I"⟩
abbrev cX5_clean : ByteArray := prog_1_method_17_code
def yX5_clean : MethodName := ⟨RX5, "clean", "(II)J"⟩
abbrev cX5_well : ByteArray := prog_1_method_18_code
def yX5_well : MethodName := ⟨RX5, "well", "(III)J"⟩
abbrev cX5_writes : ByteArray := prog_1_method_19_code
def yX5_writes : MethodName := ⟨RX5, "writes", "(I)I"⟩
abbrev cX5_tears : ByteArray := prog_1_method_20_code
def yX5_tears : MethodName := ⟨RX5, "tears", "()I"⟩
abbrev cX5_smokes : ByteArray := prog_1_method_21_code
def yX5_smokes : MethodName := ⟨RX5, "smokes", "(I)I"⟩
abbrev cX5_word : ByteArray := prog_1_method_22_code
def yX5_word : MethodName := ⟨RX5, "word", "(I)I"⟩
abbrev cX5_brown : ByteArray := prog_1_method_23_code
def yX5_brown : MethodName := ⟨RX5, "brown", "(I)I"⟩
abbrev cX5_burn : ByteArray := prog_1_method_24_code
def yX5_burn : MethodName := ⟨RX5, "burn", "()I"⟩
abbrev cX5_stood : ByteArray := prog_1_method_25_code
def yX5_stood : MethodName := ⟨RX5, "stood", "(I)I"⟩
abbrev cX5_letters : ByteArray := prog_1_method_26_code
def yX5_letters : MethodName := ⟨RX5, "letters", "(I)I"⟩
abbrev cX5_whose : ByteArray := prog_1_method_27_code
def yX5_whose : MethodName := ⟨RX5, "whose", "(I)I"⟩
abbrev cX5_chain : ByteArray := prog_1_method_28_code
def yX5_chain : MethodName := ⟨RX5, "chain", "(II)I"⟩
abbrev cX5_rate : ByteArray := prog_1_method_29_code
def yX5_rate : MethodName := ⟨RX5, "rate", "(II)I"⟩
abbrev cX5_keep : ByteArray := prog_1_method_30_code
def yX5_keep : MethodName := ⟨RX5, "keep", "(I)I"⟩
abbrev cX5_back : ByteArray := prog_1_method_31_code
def yX5_back : MethodName := ⟨RX5, "back", "(I)I"⟩
abbrev cX5_count : ByteArray := prog_1_method_32_code
def yX5_count : MethodName := ⟨RX5, "count", "(I)I"⟩
abbrev cX5_trace : ByteArray := prog_1_method_33_code
def yX5_trace : MethodName := ⟨RX5, "trace", "()J"⟩
abbrev cX5_isNoneOrTraveller : ByteArray := prog_1_method_34_code
def yX5_isNoneOrTraveller : MethodName := ⟨RX5, "isNoneOrTraveller", "(I)Z"⟩
abbrev cX5_rowWith : ByteArray := prog_1_method_35_code
def yX5_rowWith : MethodName := ⟨RX5, "rowWith", "([II)I"⟩
abbrev cX5_countSickWays : ByteArray := prog_1_method_36_code
def yX5_countSickWays : MethodName := ⟨RX5, "countSickWays", "(I)V"⟩
abbrev cX5_inLeastTerms : ByteArray := prog_1_method_37_code
def yX5_inLeastTerms : MethodName := ⟨RX5, "inLeastTerms", "(III)I"⟩
abbrev cX5_brownLength : ByteArray := prog_1_method_38_code
def yX5_brownLength : MethodName := ⟨RX5, "brownLength", "()I"⟩
abbrev cX5_mayHaveStood : ByteArray := prog_1_method_39_code
def yX5_mayHaveStood : MethodName := ⟨RX5, "mayHaveStood", "(I)I"⟩
abbrev cX5_possibleLetters : ByteArray := prog_1_method_40_code
def yX5_possibleLetters : MethodName := ⟨RX5, "possibleLetters", "()I"⟩
abbrev cX5_fewestClerks : ByteArray := prog_1_method_41_code
def yX5_fewestClerks : MethodName := ⟨RX5, "fewestClerks", "(I)I"⟩
abbrev cX5_canMake : ByteArray := prog_1_method_42_code
def yX5_canMake : MethodName := ⟨RX5, "canMake", "(LSmokedLetters$Island;[IIIII)Z"⟩
abbrev cX5_standsAhead : ByteArray := prog_1_method_43_code
def yX5_standsAhead : MethodName := ⟨RX5, "standsAhead", "([III)Z"⟩
abbrev cX5_asClerk : ByteArray := prog_1_method_44_code
def yX5_asClerk : MethodName := ⟨RX5, "asClerk", "(I)I"⟩
abbrev cX5_asNun : ByteArray := prog_1_method_45_code
def yX5_asNun : MethodName := ⟨RX5, "asNun", "(I)I"⟩
abbrev cX5_asNephew : ByteArray := prog_1_method_46_code
def yX5_asNephew : MethodName := ⟨RX5, "asNephew", "(I)I"⟩
abbrev cX5_asAbbess : ByteArray := prog_1_method_47_code
def yX5_asAbbess : MethodName := ⟨RX5, "asAbbess", "(I)I"⟩
abbrev cX5_asForger : ByteArray := prog_1_method_48_code
def yX5_asForger : MethodName := ⟨RX5, "asForger", "(I)I"⟩
abbrev cX5_asGull : ByteArray := prog_1_method_49_code
def yX5_asGull : MethodName := ⟨RX5, "asGull", "(I)I"⟩
abbrev cX5_lengthOf : ByteArray := prog_1_method_50_code
def yX5_lengthOf : MethodName := ⟨RX5, "lengthOf", "(I)I"⟩
abbrev cX5_wordAt : ByteArray := prog_1_method_51_code
def yX5_wordAt : MethodName := ⟨RX5, "wordAt", "(II)I"⟩
abbrev cX5_lostIn : ByteArray := prog_1_method_52_code
def yX5_lostIn : MethodName := ⟨RX5, "lostIn", "(I)I"⟩
abbrev cX5_isWholeLetter : ByteArray := prog_1_method_53_code
def yX5_isWholeLetter : MethodName := ⟨RX5, "isWholeLetter", "(I)Z"⟩
def RX6 : String := "SmokedLettersModel"
def TX6 : u_T := fun k => match k with
  | 0 => ("SmokedLettersModel", "hold", "I", false)
  | 1 => ("SmokedLettersModel", "rows", "I", false)
  | 2 => ("SmokedLettersModel", "boats", "I", false)
  | 3 => ("SmokedLettersModel", "travellers", "I", false)
  | 4 => ("SmokedLettersModel", "traveller", "[I", true)
  | 5 => ("SmokedLettersModel", "clerks", "I", false)
  | 6 => ("SmokedLettersModel", "clerk", "[I", true)
  | 7 => ("SmokedLettersModel", "st", "[I", true)
  | 8 => ("SmokedLettersModel", "was", "[I", true)
  | 9 => ("SmokedLettersModel", "known", "I", false)
  | 10 => ("SmokedLettersModel", "images", "[I", true)
  | 11 => ("SmokedLettersModel", "isKept", "[Z", true)
  | 12 => ("SmokedLettersModel", "copies", "I", false)
  | 13 => ("SmokedLettersModel", "copyLong", "I", false)
  | 14 => ("SmokedLettersModel", "copier", "[I", true)
  | 15 => ("SmokedLettersModel", "copy", "[I", true)
  | 16 => ("SmokedLettersModel", "trace", "J", false)
  | 17 => ("SmokedLettersModel", "text", "[I", true)
  | 18 => ("SmokedLettersModel", "texted", "I", false)
  | 19 => ("SmokedLettersModel", "cursor", "I", false)
  | 20 => ("SmokedLettersModel", "start", "I", false)
  | 21 => ("SmokedLettersModel", "token", "I", false)
  | 22 => ("SmokedLettersModel", "number", "I", false)
  | 23 => ("SmokedLettersModel", "isWrong", "Z", false)
  | 24 => ("SmokedLettersModel", "saidTravellers", "I", false)
  | 25 => ("SmokedLettersModel", "saidTraveller", "[I", true)
  | 26 => ("SmokedLettersModel", "saidClerks", "I", false)
  | 27 => ("SmokedLettersModel", "saidClerk", "[I", true)
  | 28 => ("SmokedLettersModel", "said", "[I", true)
  | 29 => ("SmokedLettersModel", "saidSet", "I", false)
  | 30 => ("SmokedLettersModel", "put", "[I", true)
  | 31 => ("SmokedLettersModel", "lies", "[I", true)
  | 32 => ("SmokedLettersModel", "days", "[I", true)
  | 33 => ("SmokedLettersModel", "sailed", "[I", true)
  | 34 => ("SmokedLettersModel", "sick", "[J", true)
  | 35 => ("SmokedLettersModel", "letter", "[I", true)
  | 36 => ("SmokedLettersModel", "smoked", "[I", true)
  | 37 => ("SmokedLettersModel", "letterLong", "I", false)
  | _ => ("SmokedLettersModel", "row", "[I", true)
def tyX6 : Nat → FieldType := fun k => match k with
  | 0 => .int
  | 1 => .int
  | 2 => .int
  | 3 => .int
  | 4 => .array .int
  | 5 => .int
  | 6 => .array .int
  | 7 => .array .int
  | 8 => .array .int
  | 9 => .int
  | 10 => .array .int
  | 11 => .array .boolean
  | 12 => .int
  | 13 => .int
  | 14 => .array .int
  | 15 => .array .int
  | 16 => .long
  | 17 => .array .int
  | 18 => .int
  | 19 => .int
  | 20 => .int
  | 21 => .int
  | 22 => .int
  | 23 => .boolean
  | 24 => .int
  | 25 => .array .int
  | 26 => .int
  | 27 => .array .int
  | 28 => .array .int
  | 29 => .int
  | 30 => .array .int
  | 31 => .array .int
  | 32 => .array .int
  | 33 => .array .int
  | 34 => .array .long
  | 35 => .array .int
  | 36 => .array .int
  | 37 => .int
  | _ => .array .int
abbrev wsX60 : List Cond := u_ws RX6 TX6 39
theorem nmX6 : ∀ a, a < 39 → ∀ b, b < 39 → a ≠ b → (TX6 a).2.1 ≠ (TX6 b).2.1 := by decide +kernel
theorem tyX6_ok : ∀ k, k < 39 → parseFieldDescriptor (TX6 k).2.2.1 = some (tyX6 k) := by decide +kernel
abbrev cX6_init : ByteArray := prog_8_method_1_code
def yX6_init : MethodName := ⟨RX6, "<init>", "()V"⟩
abbrev cX6_in : ByteArray := prog_8_method_3_code
def yX6_in : MethodName := ⟨RX6, "in", "(III)Z"⟩
abbrev cX6_has : ByteArray := prog_8_method_4_code
def yX6_has : MethodName := ⟨RX6, "has", "(II)Z"⟩
abbrev cX6_bits : ByteArray := prog_8_method_5_code
def yX6_bits : MethodName := ⟨RX6, "bits", "(I)I"⟩
abbrev cX6_isTraveller : ByteArray := prog_8_method_6_code
def yX6_isTraveller : MethodName := ⟨RX6, "isTraveller", "(I)Z"⟩
abbrev cX6_isRow : ByteArray := prog_8_method_7_code
def yX6_isRow : MethodName := ⟨RX6, "isRow", "(I)Z"⟩
abbrev cX6_isClerk : ByteArray := prog_8_method_8_code
def yX6_isClerk : MethodName := ⟨RX6, "isClerk", "(I)Z"⟩
abbrev cX6_type : ByteArray := prog_8_method_9_code
def yX6_type : MethodName := ⟨RX6, "type", "(I)I"⟩
abbrev cX6_clear : ByteArray := prog_8_method_10_code
def yX6_clear : MethodName := ⟨RX6, "clear", "()I"⟩
abbrev cX6_letterAt : ByteArray := prog_8_method_11_code
def yX6_letterAt : MethodName := ⟨RX6, "letterAt", "(I)I"⟩
abbrev cX6_next : ByteArray := prog_8_method_12_code
def yX6_next : MethodName := ⟨RX6, "next", "()V"⟩
abbrev cX6_must : ByteArray := prog_8_method_13_code
def yX6_must : MethodName := ⟨RX6, "must", "(Z)V"⟩
abbrev cX6_readInto : ByteArray := prog_8_method_14_code
def yX6_readInto : MethodName := ⟨RX6, "readInto", "([IIII)I"⟩
abbrev cX6_readOne : ByteArray := prog_8_method_15_code
def yX6_readOne : MethodName := ⟨RX6, "readOne", "(II)V"⟩
abbrev cX6_readTraveller : ByteArray := prog_8_method_16_code
def yX6_readTraveller : MethodName := ⟨RX6, "readTraveller", "()V"⟩
abbrev cX6_readClerk : ByteArray := prog_8_method_17_code
def yX6_readClerk : MethodName := ⟨RX6, "readClerk", "()V"⟩
abbrev cX6_readItem : ByteArray := prog_8_method_18_code
def yX6_readItem : MethodName := ⟨RX6, "readItem", "()V"⟩
abbrev cX6_island : ByteArray := prog_8_method_19_code
def yX6_island : MethodName := ⟨RX6, "island", "()I"⟩
abbrev cX6_mayLeave : ByteArray := prog_8_method_20_code
def yX6_mayLeave : MethodName := ⟨RX6, "mayLeave", "(I)Z"⟩
abbrev cX6_sailsOn : ByteArray := prog_8_method_21_code
def yX6_sailsOn : MethodName := ⟨RX6, "sailsOn", "(I)Z"⟩
abbrev cX6_traveller : ByteArray := prog_8_method_22_code
def yX6_traveller : MethodName := ⟨RX6, "traveller", "(II)I"⟩
abbrev cX6_clerk : ByteArray := prog_8_method_23_code
def yX6_clerk : MethodName := ⟨RX6, "clerk", "(II)I"⟩
abbrev cX6_leavers : ByteArray := prog_8_method_24_code
def yX6_leavers : MethodName := ⟨RX6, "leavers", "()I"⟩
abbrev cX6_goneSet : ByteArray := prog_8_method_25_code
def yX6_goneSet : MethodName := ⟨RX6, "goneSet", "()I"⟩
abbrev cX6_now : ByteArray := prog_8_method_26_code
def yX6_now : MethodName := ⟨RX6, "now", "(I)I"⟩
abbrev cX6_remembers : ByteArray := prog_8_method_27_code
def yX6_remembers : MethodName := ⟨RX6, "remembers", "()V"⟩
abbrev cX6_puts : ByteArray := prog_8_method_28_code
def yX6_puts : MethodName := ⟨RX6, "puts", "(II)I"⟩
abbrev cX6_vinegar : ByteArray := prog_8_method_29_code
def yX6_vinegar : MethodName := ⟨RX6, "vinegar", "([II)I"⟩
abbrev cX6_day : ByteArray := prog_8_method_30_code
def yX6_day : MethodName := ⟨RX6, "day", "()I"⟩
abbrev cX6_sails : ByteArray := prog_8_method_31_code
def yX6_sails : MethodName := ⟨RX6, "sails", "(I)I"⟩
abbrev cX6_undo : ByteArray := prog_8_method_32_code
def yX6_undo : MethodName := ⟨RX6, "undo", "()I"⟩
abbrev cX6_comes : ByteArray := prog_8_method_33_code
def yX6_comes : MethodName := ⟨RX6, "comes", "(I)V"⟩
abbrev cX6_goes : ByteArray := prog_8_method_34_code
def yX6_goes : MethodName := ⟨RX6, "goes", "()I"⟩
abbrev cX6_power : ByteArray := prog_8_method_35_code
def yX6_power : MethodName := ⟨RX6, "power", "(II)I"⟩
abbrev cX6_lays : ByteArray := prog_8_method_36_code
def yX6_lays : MethodName := ⟨RX6, "lays", "(I)V"⟩
abbrev cX6_sailedBy : ByteArray := prog_8_method_37_code
def yX6_sailedBy : MethodName := ⟨RX6, "sailedBy", "(I)I"⟩
abbrev cX6_most : ByteArray := prog_8_method_38_code
def yX6_most : MethodName := ⟨RX6, "most", "(II)I"⟩
abbrev cX6_late : ByteArray := prog_8_method_39_code
def yX6_late : MethodName := ⟨RX6, "late", "()I"⟩
abbrev cX6_soonest : ByteArray := prog_8_method_40_code
def yX6_soonest : MethodName := ⟨RX6, "soonest", "(I)I"⟩
abbrev cX6_plan : ByteArray := prog_8_method_41_code
def yX6_plan : MethodName := ⟨RX6, "plan", "(II)I"⟩
abbrev cX6_waits : ByteArray := prog_8_method_42_code
def yX6_waits : MethodName := ⟨RX6, "waits", "(I)I"⟩
abbrev cX6_boat : ByteArray := prog_8_method_43_code
def yX6_boat : MethodName := ⟨RX6, "boat", "(II)I"⟩
abbrev cX6_share : ByteArray := prog_8_method_44_code
def yX6_share : MethodName := ⟨RX6, "share", "(JJI)J"⟩
abbrev cX6_clean : ByteArray := prog_8_method_45_code
def yX6_clean : MethodName := ⟨RX6, "clean", "(II)J"⟩
abbrev cX6_findSick : ByteArray := prog_8_method_46_code
def yX6_findSick : MethodName := ⟨RX6, "findSick", "(I)V"⟩
abbrev cX6_well : ByteArray := prog_8_method_47_code
def yX6_well : MethodName := ⟨RX6, "well", "(III)J"⟩
abbrev cX6_writes : ByteArray := prog_8_method_48_code
def yX6_writes : MethodName := ⟨RX6, "writes", "(I)I"⟩
abbrev cX6_tears : ByteArray := prog_8_method_49_code
def yX6_tears : MethodName := ⟨RX6, "tears", "()I"⟩
abbrev cX6_madeOf : ByteArray := prog_8_method_50_code
def yX6_madeOf : MethodName := ⟨RX6, "madeOf", "(II)I"⟩
abbrev cX6_smokes : ByteArray := prog_8_method_51_code
def yX6_smokes : MethodName := ⟨RX6, "smokes", "(I)I"⟩
abbrev cX6_word : ByteArray := prog_8_method_52_code
def yX6_word : MethodName := ⟨RX6, "word", "(I)I"⟩
abbrev cX6_brown : ByteArray := prog_8_method_53_code
def yX6_brown : MethodName := ⟨RX6, "brown", "(I)I"⟩
abbrev cX6_burn : ByteArray := prog_8_method_54_code
def yX6_burn : MethodName := ⟨RX6, "burn", "()I"⟩
abbrev cX6_isCopied : ByteArray := prog_8_method_55_code
def yX6_isCopied : MethodName := ⟨RX6, "isCopied", "(I)Z"⟩
abbrev cX6_stoodAt : ByteArray := prog_8_method_56_code
def yX6_stoodAt : MethodName := ⟨RX6, "stoodAt", "(I)I"⟩
abbrev cX6_stood : ByteArray := prog_8_method_57_code
def yX6_stood : MethodName := ⟨RX6, "stood", "(I)I"⟩
abbrev cX6_sureOf : ByteArray := prog_8_method_58_code
def yX6_sureOf : MethodName := ⟨RX6, "sureOf", "(I)I"⟩
abbrev cX6_ways : ByteArray := prog_8_method_59_code
def yX6_ways : MethodName := ⟨RX6, "ways", "()I"⟩
abbrev cX6_letters : ByteArray := prog_8_method_60_code
def yX6_letters : MethodName := ⟨RX6, "letters", "(I)I"⟩
abbrev cX6_reads : ByteArray := prog_8_method_61_code
def yX6_reads : MethodName := ⟨RX6, "reads", "(I)Z"⟩
abbrev cX6_isLetter : ByteArray := prog_8_method_62_code
def yX6_isLetter : MethodName := ⟨RX6, "isLetter", "([I)Z"⟩
abbrev cX6_begins : ByteArray := prog_8_method_63_code
def yX6_begins : MethodName := ⟨RX6, "begins", "()V"⟩
abbrev cX6_smokesOn : ByteArray := prog_8_method_64_code
def yX6_smokesOn : MethodName := ⟨RX6, "smokesOn", "(I)V"⟩
abbrev cX6_whose : ByteArray := prog_8_method_65_code
def yX6_whose : MethodName := ⟨RX6, "whose", "(I)I"⟩
abbrev cX6_makes : ByteArray := prog_8_method_66_code
def yX6_makes : MethodName := ⟨RX6, "makes", "(II)Z"⟩
abbrev cX6_chain : ByteArray := prog_8_method_67_code
def yX6_chain : MethodName := ⟨RX6, "chain", "(II)I"⟩
abbrev cX6_clerkRate : ByteArray := prog_8_method_68_code
def yX6_clerkRate : MethodName := ⟨RX6, "clerkRate", "(I)I"⟩
abbrev cX6_nunRate : ByteArray := prog_8_method_69_code
def yX6_nunRate : MethodName := ⟨RX6, "nunRate", "(I)I"⟩
abbrev cX6_nephewRate : ByteArray := prog_8_method_70_code
def yX6_nephewRate : MethodName := ⟨RX6, "nephewRate", "(I)I"⟩
abbrev cX6_rate : ByteArray := prog_8_method_71_code
def yX6_rate : MethodName := ⟨RX6, "rate", "(II)I"⟩
abbrev cX6_keep : ByteArray := prog_8_method_72_code
def yX6_keep : MethodName := ⟨RX6, "keep", "(I)I"⟩
abbrev cX6_back : ByteArray := prog_8_method_73_code
def yX6_back : MethodName := ⟨RX6, "back", "(I)I"⟩
abbrev cX6_count : ByteArray := prog_8_method_74_code
def yX6_count : MethodName := ⟨RX6, "count", "(I)I"⟩
abbrev cX6_trace : ByteArray := prog_8_method_75_code
def yX6_trace : MethodName := ⟨RX6, "trace", "()J"⟩
def RJ6 : String := "java/lang/Integer"
abbrev cJ6_numberOfTrailingZeros_0f7a4 : ByteArray := prog_9_method_48_code
def yJ6_numberOfTrailingZeros_0f7a4 : MethodName := ⟨RJ6, "numberOfTrailingZeros", "(I)I"⟩
abbrev cJ6_bitCount_0f7a4 : ByteArray := prog_9_method_49_code
def yJ6_bitCount_0f7a4 : MethodName := ⟨RJ6, "bitCount", "(I)I"⟩
def RJ9 : String := "java/lang/Math"
abbrev cJ9_max_7cf53 : ByteArray := prog_10_method_65_code
def yJ9_max_7cf53 : MethodName := ⟨RJ9, "max", "(II)I"⟩
abbrev cJ9_min_7cf53 : ByteArray := prog_10_method_69_code
def yJ9_min_7cf53 : MethodName := ⟨RJ9, "min", "(II)I"⟩
def RJ7 : String := "java/util/Arrays"
abbrev cJ7_fill_53178 : ByteArray := prog_11_method_103_code
def yJ7_fill_53178 : MethodName := ⟨RJ7, "fill", "([II)V"⟩
def RL : String := "SmokedLettersLaw"
abbrev cL_law : ByteArray := code
def yL_law : MethodName := ⟨RL, "law", "([I)Z"⟩
abbrev vwCl : List vw_C := [(RX0, TX0, 3), (RX1, TX1, 11), (RX2, TX2, 6), (RX3, TX3, 5), (RX4, TX4, 10), (RX5, TX5, 14), (RX6, TX6, 39)]
