section
-- ===== PART A: goes FIRST, ahead of the names: the tables' words, and 'selects' of the private methods out of them =====
/-- a private method of a class that the tables say can be made, by its rows of tables_1 -/
def lw_okq (q : MethodName × Nat) : Prop := (q.1.cls ≠ "java/lang/invoke/MethodHandle" ∧ q.1.cls ≠ "java/lang/invoke/VarHandle") ∧ Cond.instantiable q.1.cls q.2 ∈ tables_1 ∧ Cond.privateMethod q.1 ∈ tables_1 ∧ Cond.instanceMethod q.1 ∈ tables_1
theorem lw_p0 : lw_okq (⟨"AnswerLines$Kinds", "layLine", "(II)V"⟩, 8) := ⟨⟨by decide +kernel, by decide +kernel⟩, List.mem_of_getElem? (i := 22) (by decide +kernel), List.mem_of_getElem? (i := 218) (by decide +kernel), List.mem_of_getElem? (i := 219) (by decide +kernel)⟩
theorem lw_p1 : lw_okq (⟨"AnswerLines$Kinds", "layRows", "(I)V"⟩, 8) := ⟨⟨by decide +kernel, by decide +kernel⟩, List.mem_of_getElem? (i := 22) (by decide +kernel), List.mem_of_getElem? (i := 222) (by decide +kernel), List.mem_of_getElem? (i := 223) (by decide +kernel)⟩
theorem lw_p2 : lw_okq (⟨"AnswerLines$Rows", "tail", "(I)I"⟩, 4) := ⟨⟨by decide +kernel, by decide +kernel⟩, List.mem_of_getElem? (i := 28) (by decide +kernel), List.mem_of_getElem? (i := 246) (by decide +kernel), List.mem_of_getElem? (i := 247) (by decide +kernel)⟩
theorem lw_p3 : lw_okq (⟨"AnswerLines$Rows", "head", "(I)I"⟩, 4) := ⟨⟨by decide +kernel, by decide +kernel⟩, List.mem_of_getElem? (i := 28) (by decide +kernel), List.mem_of_getElem? (i := 250) (by decide +kernel), List.mem_of_getElem? (i := 251) (by decide +kernel)⟩
theorem lw_p4 : lw_okq (⟨"AnswerLines$Runner", "work", "(LAnswerLines$Kinds;LAnswerLines$Bodies;III)I"⟩, 4) := ⟨⟨by decide +kernel, by decide +kernel⟩, List.mem_of_getElem? (i := 103) (by decide +kernel), List.mem_of_getElem? (i := 406) (by decide +kernel), List.mem_of_getElem? (i := 407) (by decide +kernel)⟩
theorem lw_p5 : lw_okq (⟨"AnswerLines$Runner", "sayDigit", "(I)I"⟩, 4) := ⟨⟨by decide +kernel, by decide +kernel⟩, List.mem_of_getElem? (i := 103) (by decide +kernel), List.mem_of_getElem? (i := 422) (by decide +kernel), List.mem_of_getElem? (i := 423) (by decide +kernel)⟩
theorem lw_p6 : lw_okq (⟨"AnswerLines$Table", "findTogether", "()V"⟩, 5) := ⟨⟨by decide +kernel, by decide +kernel⟩, List.mem_of_getElem? (i := 122) (by decide +kernel), List.mem_of_getElem? (i := 502) (by decide +kernel), List.mem_of_getElem? (i := 503) (by decide +kernel)⟩
theorem lw_p7 : lw_okq (⟨"AnswerLines$Table", "fitInto", "(III)Z"⟩, 5) := ⟨⟨by decide +kernel, by decide +kernel⟩, List.mem_of_getElem? (i := 122) (by decide +kernel), List.mem_of_getElem? (i := 507) (by decide +kernel), List.mem_of_getElem? (i := 508) (by decide +kernel)⟩
theorem lw_p8 : lw_okq (⟨"AnswerLines$Table", "isFree", "(II)Z"⟩, 5) := ⟨⟨by decide +kernel, by decide +kernel⟩, List.mem_of_getElem? (i := 122) (by decide +kernel), List.mem_of_getElem? (i := 511) (by decide +kernel), List.mem_of_getElem? (i := 512) (by decide +kernel)⟩
theorem lw_p9 : lw_okq (⟨"AnswerLines$Table", "pushRow", "(I)I"⟩, 5) := ⟨⟨by decide +kernel, by decide +kernel⟩, List.mem_of_getElem? (i := 122) (by decide +kernel), List.mem_of_getElem? (i := 529) (by decide +kernel), List.mem_of_getElem? (i := 530) (by decide +kernel)⟩
theorem lw_p10 : lw_okq (⟨"AnswerLines$Table", "leastPlace", "(I)I"⟩, 5) := ⟨⟨by decide +kernel, by decide +kernel⟩, List.mem_of_getElem? (i := 122) (by decide +kernel), List.mem_of_getElem? (i := 533) (by decide +kernel), List.mem_of_getElem? (i := 534) (by decide +kernel)⟩
theorem lw_p11 : lw_okq (⟨"AnswerLines$Table", "isOpen", "(II)Z"⟩, 5) := ⟨⟨by decide +kernel, by decide +kernel⟩, List.mem_of_getElem? (i := 122) (by decide +kernel), List.mem_of_getElem? (i := 537) (by decide +kernel), List.mem_of_getElem? (i := 538) (by decide +kernel)⟩
theorem lw_p12 : lw_okq (⟨"AnswerLines$Places", "whereRecent", "(I)I"⟩, 6) := ⟨⟨by decide +kernel, by decide +kernel⟩, List.mem_of_getElem? (i := 144) (by decide +kernel), List.mem_of_getElem? (i := 612) (by decide +kernel), List.mem_of_getElem? (i := 613) (by decide +kernel)⟩
theorem lw_p13 : lw_okq (⟨"AnswerLines$Places", "putFirst", "(II)V"⟩, 6) := ⟨⟨by decide +kernel, by decide +kernel⟩, List.mem_of_getElem? (i := 144) (by decide +kernel), List.mem_of_getElem? (i := 616) (by decide +kernel), List.mem_of_getElem? (i := 617) (by decide +kernel)⟩
theorem lw_p14 : lw_okq (⟨"AnswerLines$Places", "longestUnused", "(III)I"⟩, 6) := ⟨⟨by decide +kernel, by decide +kernel⟩, List.mem_of_getElem? (i := 144) (by decide +kernel), List.mem_of_getElem? (i := 626) (by decide +kernel), List.mem_of_getElem? (i := 627) (by decide +kernel)⟩
theorem lw_p15 : lw_okq (⟨"AnswerLinesModel", "isKind", "(I)Z"⟩, 35) := ⟨⟨by decide +kernel, by decide +kernel⟩, List.mem_of_getElem? (i := 657) (by decide +kernel), List.mem_of_getElem? (i := 774) (by decide +kernel), List.mem_of_getElem? (i := 775) (by decide +kernel)⟩
def lw_privs_1 : List (MethodName × Nat) := [(⟨"AnswerLines$Kinds", "layLine", "(II)V"⟩, 8), (⟨"AnswerLines$Kinds", "layRows", "(I)V"⟩, 8), (⟨"AnswerLines$Rows", "tail", "(I)I"⟩, 4), (⟨"AnswerLines$Rows", "head", "(I)I"⟩, 4), (⟨"AnswerLines$Runner", "work", "(LAnswerLines$Kinds;LAnswerLines$Bodies;III)I"⟩, 4), (⟨"AnswerLines$Runner", "sayDigit", "(I)I"⟩, 4), (⟨"AnswerLines$Table", "findTogether", "()V"⟩, 5), (⟨"AnswerLines$Table", "fitInto", "(III)Z"⟩, 5), (⟨"AnswerLines$Table", "isFree", "(II)Z"⟩, 5), (⟨"AnswerLines$Table", "pushRow", "(I)I"⟩, 5), (⟨"AnswerLines$Table", "leastPlace", "(I)I"⟩, 5), (⟨"AnswerLines$Table", "isOpen", "(II)Z"⟩, 5), (⟨"AnswerLines$Places", "whereRecent", "(I)I"⟩, 6), (⟨"AnswerLines$Places", "putFirst", "(II)V"⟩, 6), (⟨"AnswerLines$Places", "longestUnused", "(III)I"⟩, 6), (⟨"AnswerLinesModel", "isKind", "(I)Z"⟩, 35)]
theorem lw_r1 : ∀ q ∈ lw_privs_1, lw_okq q := List.forall_mem_cons.mpr ⟨lw_p0, List.forall_mem_cons.mpr ⟨lw_p1, List.forall_mem_cons.mpr ⟨lw_p2, List.forall_mem_cons.mpr ⟨lw_p3, List.forall_mem_cons.mpr ⟨lw_p4, List.forall_mem_cons.mpr ⟨lw_p5, List.forall_mem_cons.mpr ⟨lw_p6, List.forall_mem_cons.mpr ⟨lw_p7, List.forall_mem_cons.mpr ⟨lw_p8, List.forall_mem_cons.mpr ⟨lw_p9, List.forall_mem_cons.mpr ⟨lw_p10, List.forall_mem_cons.mpr ⟨lw_p11, List.forall_mem_cons.mpr ⟨lw_p12, List.forall_mem_cons.mpr ⟨lw_p13, List.forall_mem_cons.mpr ⟨lw_p14, List.forall_mem_cons.mpr ⟨lw_p15, fun _ h => absurd h List.not_mem_nil⟩⟩⟩⟩⟩⟩⟩⟩⟩⟩⟩⟩⟩⟩⟩⟩
theorem lw_p16 : lw_okq (⟨"AnswerLinesModel", "layLine", "(I)V"⟩, 35) := ⟨⟨by decide +kernel, by decide +kernel⟩, List.mem_of_getElem? (i := 657) (by decide +kernel), List.mem_of_getElem? (i := 782) (by decide +kernel), List.mem_of_getElem? (i := 783) (by decide +kernel)⟩
theorem lw_p17 : lw_okq (⟨"AnswerLinesModel", "nextHead", "()I"⟩, 35) := ⟨⟨by decide +kernel, by decide +kernel⟩, List.mem_of_getElem? (i := 657) (by decide +kernel), List.mem_of_getElem? (i := 786) (by decide +kernel), List.mem_of_getElem? (i := 787) (by decide +kernel)⟩
theorem lw_p18 : lw_okq (⟨"AnswerLinesModel", "isWithin", "(I)Z"⟩, 35) := ⟨⟨by decide +kernel, by decide +kernel⟩, List.mem_of_getElem? (i := 657) (by decide +kernel), List.mem_of_getElem? (i := 790) (by decide +kernel), List.mem_of_getElem? (i := 791) (by decide +kernel)⟩
theorem lw_p19 : lw_okq (⟨"AnswerLinesModel", "belowOf", "(I)I"⟩, 35) := ⟨⟨by decide +kernel, by decide +kernel⟩, List.mem_of_getElem? (i := 657) (by decide +kernel), List.mem_of_getElem? (i := 802) (by decide +kernel), List.mem_of_getElem? (i := 803) (by decide +kernel)⟩
theorem lw_p20 : lw_okq (⟨"AnswerLinesModel", "hasName", "(II)Z"⟩, 35) := ⟨⟨by decide +kernel, by decide +kernel⟩, List.mem_of_getElem? (i := 657) (by decide +kernel), List.mem_of_getElem? (i := 844) (by decide +kernel), List.mem_of_getElem? (i := 845) (by decide +kernel)⟩
theorem lw_p21 : lw_okq (⟨"AnswerLinesModel", "answerOf", "(III)I"⟩, 35) := ⟨⟨by decide +kernel, by decide +kernel⟩, List.mem_of_getElem? (i := 657) (by decide +kernel), List.mem_of_getElem? (i := 856) (by decide +kernel), List.mem_of_getElem? (i := 857) (by decide +kernel)⟩
theorem lw_p22 : lw_okq (⟨"AnswerLinesModel", "placeOf", "(III)I"⟩, 35) := ⟨⟨by decide +kernel, by decide +kernel⟩, List.mem_of_getElem? (i := 657) (by decide +kernel), List.mem_of_getElem? (i := 860) (by decide +kernel), List.mem_of_getElem? (i := 861) (by decide +kernel)⟩
theorem lw_p23 : lw_okq (⟨"AnswerLinesModel", "runAll", "(II)V"⟩, 35) := ⟨⟨by decide +kernel, by decide +kernel⟩, List.mem_of_getElem? (i := 657) (by decide +kernel), List.mem_of_getElem? (i := 872) (by decide +kernel), List.mem_of_getElem? (i := 873) (by decide +kernel)⟩
theorem lw_p24 : lw_okq (⟨"AnswerLinesModel", "begin", "(III)V"⟩, 35) := ⟨⟨by decide +kernel, by decide +kernel⟩, List.mem_of_getElem? (i := 657) (by decide +kernel), List.mem_of_getElem? (i := 876) (by decide +kernel), List.mem_of_getElem? (i := 877) (by decide +kernel)⟩
theorem lw_p25 : lw_okq (⟨"AnswerLinesModel", "work", "(III)V"⟩, 35) := ⟨⟨by decide +kernel, by decide +kernel⟩, List.mem_of_getElem? (i := 657) (by decide +kernel), List.mem_of_getElem? (i := 880) (by decide +kernel), List.mem_of_getElem? (i := 881) (by decide +kernel)⟩
theorem lw_p26 : lw_okq (⟨"AnswerLinesModel", "havingOf", "(I)I"⟩, 35) := ⟨⟨by decide +kernel, by decide +kernel⟩, List.mem_of_getElem? (i := 657) (by decide +kernel), List.mem_of_getElem? (i := 888) (by decide +kernel), List.mem_of_getElem? (i := 889) (by decide +kernel)⟩
theorem lw_p27 : lw_okq (⟨"AnswerLinesModel", "nearestOf", "(II)I"⟩, 35) := ⟨⟨by decide +kernel, by decide +kernel⟩, List.mem_of_getElem? (i := 657) (by decide +kernel), List.mem_of_getElem? (i := 892) (by decide +kernel), List.mem_of_getElem? (i := 893) (by decide +kernel)⟩
theorem lw_p28 : lw_okq (⟨"AnswerLinesModel", "doubtBy", "(I)I"⟩, 35) := ⟨⟨by decide +kernel, by decide +kernel⟩, List.mem_of_getElem? (i := 657) (by decide +kernel), List.mem_of_getElem? (i := 900) (by decide +kernel), List.mem_of_getElem? (i := 901) (by decide +kernel)⟩
theorem lw_p29 : lw_okq (⟨"AnswerLinesModel", "findColumns", "()V"⟩, 35) := ⟨⟨by decide +kernel, by decide +kernel⟩, List.mem_of_getElem? (i := 657) (by decide +kernel), List.mem_of_getElem? (i := 919) (by decide +kernel), List.mem_of_getElem? (i := 920) (by decide +kernel)⟩
theorem lw_p30 : lw_okq (⟨"AnswerLinesModel", "answeredBy", "(I)I"⟩, 35) := ⟨⟨by decide +kernel, by decide +kernel⟩, List.mem_of_getElem? (i := 657) (by decide +kernel), List.mem_of_getElem? (i := 923) (by decide +kernel), List.mem_of_getElem? (i := 924) (by decide +kernel)⟩
theorem lw_p31 : lw_okq (⟨"AnswerLinesModel", "isRow", "(I)Z"⟩, 35) := ⟨⟨by decide +kernel, by decide +kernel⟩, List.mem_of_getElem? (i := 657) (by decide +kernel), List.mem_of_getElem? (i := 927) (by decide +kernel), List.mem_of_getElem? (i := 928) (by decide +kernel)⟩
def lw_privs_2 : List (MethodName × Nat) := [(⟨"AnswerLinesModel", "layLine", "(I)V"⟩, 35), (⟨"AnswerLinesModel", "nextHead", "()I"⟩, 35), (⟨"AnswerLinesModel", "isWithin", "(I)Z"⟩, 35), (⟨"AnswerLinesModel", "belowOf", "(I)I"⟩, 35), (⟨"AnswerLinesModel", "hasName", "(II)Z"⟩, 35), (⟨"AnswerLinesModel", "answerOf", "(III)I"⟩, 35), (⟨"AnswerLinesModel", "placeOf", "(III)I"⟩, 35), (⟨"AnswerLinesModel", "runAll", "(II)V"⟩, 35), (⟨"AnswerLinesModel", "begin", "(III)V"⟩, 35), (⟨"AnswerLinesModel", "work", "(III)V"⟩, 35), (⟨"AnswerLinesModel", "havingOf", "(I)I"⟩, 35), (⟨"AnswerLinesModel", "nearestOf", "(II)I"⟩, 35), (⟨"AnswerLinesModel", "doubtBy", "(I)I"⟩, 35), (⟨"AnswerLinesModel", "findColumns", "()V"⟩, 35), (⟨"AnswerLinesModel", "answeredBy", "(I)I"⟩, 35), (⟨"AnswerLinesModel", "isRow", "(I)Z"⟩, 35)]
theorem lw_r2 : ∀ q ∈ lw_privs_2, lw_okq q := List.forall_mem_cons.mpr ⟨lw_p16, List.forall_mem_cons.mpr ⟨lw_p17, List.forall_mem_cons.mpr ⟨lw_p18, List.forall_mem_cons.mpr ⟨lw_p19, List.forall_mem_cons.mpr ⟨lw_p20, List.forall_mem_cons.mpr ⟨lw_p21, List.forall_mem_cons.mpr ⟨lw_p22, List.forall_mem_cons.mpr ⟨lw_p23, List.forall_mem_cons.mpr ⟨lw_p24, List.forall_mem_cons.mpr ⟨lw_p25, List.forall_mem_cons.mpr ⟨lw_p26, List.forall_mem_cons.mpr ⟨lw_p27, List.forall_mem_cons.mpr ⟨lw_p28, List.forall_mem_cons.mpr ⟨lw_p29, List.forall_mem_cons.mpr ⟨lw_p30, List.forall_mem_cons.mpr ⟨lw_p31, fun _ h => absurd h List.not_mem_nil⟩⟩⟩⟩⟩⟩⟩⟩⟩⟩⟩⟩⟩⟩⟩⟩
theorem lw_p32 : lw_okq (⟨"AnswerLinesModel", "fill", "(II)Z"⟩, 35) := ⟨⟨by decide +kernel, by decide +kernel⟩, List.mem_of_getElem? (i := 657) (by decide +kernel), List.mem_of_getElem? (i := 931) (by decide +kernel), List.mem_of_getElem? (i := 932) (by decide +kernel)⟩
theorem lw_p33 : lw_okq (⟨"AnswerLinesModel", "greatestAhead", "(I)I"⟩, 35) := ⟨⟨by decide +kernel, by decide +kernel⟩, List.mem_of_getElem? (i := 657) (by decide +kernel), List.mem_of_getElem? (i := 935) (by decide +kernel), List.mem_of_getElem? (i := 936) (by decide +kernel)⟩
theorem lw_p34 : lw_okq (⟨"AnswerLinesModel", "isFree", "(I)Z"⟩, 35) := ⟨⟨by decide +kernel, by decide +kernel⟩, List.mem_of_getElem? (i := 657) (by decide +kernel), List.mem_of_getElem? (i := 939) (by decide +kernel), List.mem_of_getElem? (i := 940) (by decide +kernel)⟩
theorem lw_p35 : lw_okq (⟨"AnswerLinesModel", "pack", "()V"⟩, 35) := ⟨⟨by decide +kernel, by decide +kernel⟩, List.mem_of_getElem? (i := 657) (by decide +kernel), List.mem_of_getElem? (i := 947) (by decide +kernel), List.mem_of_getElem? (i := 948) (by decide +kernel)⟩
theorem lw_p36 : lw_okq (⟨"AnswerLinesModel", "isOpenAt", "(II)Z"⟩, 35) := ⟨⟨by decide +kernel, by decide +kernel⟩, List.mem_of_getElem? (i := 657) (by decide +kernel), List.mem_of_getElem? (i := 951) (by decide +kernel), List.mem_of_getElem? (i := 952) (by decide +kernel)⟩
theorem lw_p37 : lw_okq (⟨"AnswerLinesModel", "hitsBy", "(IIZ)I"⟩, 35) := ⟨⟨by decide +kernel, by decide +kernel⟩, List.mem_of_getElem? (i := 657) (by decide +kernel), List.mem_of_getElem? (i := 984) (by decide +kernel), List.mem_of_getElem? (i := 985) (by decide +kernel)⟩
theorem lw_p38 : lw_okq (⟨"AnswerLinesModel", "whereIs", "(I)I"⟩, 35) := ⟨⟨by decide +kernel, by decide +kernel⟩, List.mem_of_getElem? (i := 657) (by decide +kernel), List.mem_of_getElem? (i := 988) (by decide +kernel), List.mem_of_getElem? (i := 989) (by decide +kernel)⟩
theorem lw_p39 : lw_okq (⟨"AnswerLinesModel", "takeOut", "(I)V"⟩, 35) := ⟨⟨by decide +kernel, by decide +kernel⟩, List.mem_of_getElem? (i := 657) (by decide +kernel), List.mem_of_getElem? (i := 992) (by decide +kernel), List.mem_of_getElem? (i := 993) (by decide +kernel)⟩
theorem lw_p40 : lw_okq (⟨"AnswerLinesModel", "farthest", "(II)I"⟩, 35) := ⟨⟨by decide +kernel, by decide +kernel⟩, List.mem_of_getElem? (i := 657) (by decide +kernel), List.mem_of_getElem? (i := 996) (by decide +kernel), List.mem_of_getElem? (i := 997) (by decide +kernel)⟩
theorem lw_p41 : lw_okq (⟨"AnswerLinesModel", "nextCall", "(III)I"⟩, 35) := ⟨⟨by decide +kernel, by decide +kernel⟩, List.mem_of_getElem? (i := 657) (by decide +kernel), List.mem_of_getElem? (i := 1000) (by decide +kernel), List.mem_of_getElem? (i := 1001) (by decide +kernel)⟩
theorem lw_p42 : lw_okq (⟨"AnswerLinesModel", "putFirst", "(I)V"⟩, 35) := ⟨⟨by decide +kernel, by decide +kernel⟩, List.mem_of_getElem? (i := 657) (by decide +kernel), List.mem_of_getElem? (i := 1004) (by decide +kernel), List.mem_of_getElem? (i := 1005) (by decide +kernel)⟩
def lw_privs_3 : List (MethodName × Nat) := [(⟨"AnswerLinesModel", "fill", "(II)Z"⟩, 35), (⟨"AnswerLinesModel", "greatestAhead", "(I)I"⟩, 35), (⟨"AnswerLinesModel", "isFree", "(I)Z"⟩, 35), (⟨"AnswerLinesModel", "pack", "()V"⟩, 35), (⟨"AnswerLinesModel", "isOpenAt", "(II)Z"⟩, 35), (⟨"AnswerLinesModel", "hitsBy", "(IIZ)I"⟩, 35), (⟨"AnswerLinesModel", "whereIs", "(I)I"⟩, 35), (⟨"AnswerLinesModel", "takeOut", "(I)V"⟩, 35), (⟨"AnswerLinesModel", "farthest", "(II)I"⟩, 35), (⟨"AnswerLinesModel", "nextCall", "(III)I"⟩, 35), (⟨"AnswerLinesModel", "putFirst", "(I)V"⟩, 35)]
theorem lw_r3 : ∀ q ∈ lw_privs_3, lw_okq q := List.forall_mem_cons.mpr ⟨lw_p32, List.forall_mem_cons.mpr ⟨lw_p33, List.forall_mem_cons.mpr ⟨lw_p34, List.forall_mem_cons.mpr ⟨lw_p35, List.forall_mem_cons.mpr ⟨lw_p36, List.forall_mem_cons.mpr ⟨lw_p37, List.forall_mem_cons.mpr ⟨lw_p38, List.forall_mem_cons.mpr ⟨lw_p39, List.forall_mem_cons.mpr ⟨lw_p40, List.forall_mem_cons.mpr ⟨lw_p41, List.forall_mem_cons.mpr ⟨lw_p42, fun _ h => absurd h List.not_mem_nil⟩⟩⟩⟩⟩⟩⟩⟩⟩⟩⟩
def lw_privs : List (MethodName × Nat) := lw_privs_1 ++ (lw_privs_2 ++ (lw_privs_3))
def lw_tbl : List Cond := k2_sels lw_privs ++ tables_1
theorem lw_privs_ok : ∀ q ∈ lw_privs, lw_okq q := by
  show ∀ q ∈ lw_privs_1 ++ (lw_privs_2 ++ (lw_privs_3)), lw_okq q
  exact List.forall_mem_append.mpr ⟨lw_r1, List.forall_mem_append.mpr ⟨lw_r2, lw_r3⟩⟩
end
section
/-! ===== BEGIN words of one list among another's, by their places ===== -/
theorem goodIn_r {big : List Cond} (ws : List Cond) (ps : List Nat) (hp : ws = ps.filterMap (fun i => big[i]?)) (h : ws.all goodWord = true) : GoodIn big ws := by
  intro w hw
  have h1 := List.all_eq_true.mp h w hw
  rw [hp] at hw
  obtain ⟨i, -, hi⟩ := List.mem_filterMap.mp hw
  have hm : w ∈ big := by first | exact List.mem_of_getElem? hi | exact List.getElem?_mem hi
  exact ⟨hm, good_of_word h1⟩
theorem goodIn_app {big a b : List Cond} (ha : GoodIn big a) (hb : GoodIn big b) : GoodIn big (a ++ b) := fun w h => (List.mem_append.mp h).elim (ha w) (hb w)
theorem goodIn_ca {big a b : List Cond} {c : Cond} (ha : GoodIn big (c :: a)) (hb : GoodIn big b) : GoodIn big (c :: (a ++ b)) := fun w h => (List.mem_cons.mp h).elim (fun e => ha w (List.mem_cons.mpr (Or.inl e))) (fun h => (List.mem_append.mp h).elim (fun h => ha w (List.mem_cons.mpr (Or.inr h))) (hb w))
theorem goodIn_sub {big ws : List Cond} (hm : ∀ w ∈ ws, w ∈ big) (h : ws.all goodWord = true) : GoodIn big ws := fun w hw => ⟨hm w hw, good_of_word (List.all_eq_true.mp h w hw)⟩
/-! ===== END ===== -/

/-! ===== BEGIN printed: names, fields, word lists, decode rows ===== -/
def RX0 : String := "AnswerLines$Bodies"
def TX0 : u_T := fun k => match k with
  | 0 => ("AnswerLines$Bodies", "owners", "[I", true)
  | 1 => ("AnswerLines$Bodies", "lengths", "[I", true)
  | _ => ("AnswerLines$Bodies", "signs", "[C", true)
def tyX0 : Nat → FieldType := fun k => match k with
  | 0 => .array .int
  | 1 => .array .int
  | _ => .array .char
abbrev wsX00 : List Cond := u_ws RX0 TX0 3
theorem nmX0 : ∀ a, a < 3 → ∀ b, b < 3 → a ≠ b → (TX0 a).2.1 ≠ (TX0 b).2.1 := by decide +kernel
theorem tyX0_ok : ∀ k, k < 3 → parseFieldDescriptor (TX0 k).2.2.1 = some (tyX0 k) := by decide +kernel
abbrev cX0_init : ByteArray := prog_2_method_1_code
def yX0_init : MethodName := ⟨RX0, "<init>", "()V"⟩
abbrev cX0_ownersOf : ByteArray := prog_2_method_2_code
def yX0_ownersOf : MethodName := ⟨RX0, "ownersOf", "(I)I"⟩
abbrev cX0_isOwner : ByteArray := prog_2_method_3_code
def yX0_isOwner : MethodName := ⟨RX0, "isOwner", "(II)Z"⟩
abbrev cX0_namesOf : ByteArray := prog_2_method_4_code
def yX0_namesOf : MethodName := ⟨RX0, "namesOf", "(I)I"⟩
abbrev cX0_give : ByteArray := prog_2_method_5_code
def yX0_give : MethodName := ⟨RX0, "give", "(IILAnswerLines$Pad;)V"⟩
abbrev cX0_takeAway : ByteArray := prog_2_method_6_code
def yX0_takeAway : MethodName := ⟨RX0, "takeAway", "(II)I"⟩
abbrev cX0_lengthOf : ByteArray := prog_2_method_7_code
def yX0_lengthOf : MethodName := ⟨RX0, "lengthOf", "(II)I"⟩
abbrev cX0_sign : ByteArray := prog_2_method_8_code
def yX0_sign : MethodName := ⟨RX0, "sign", "(III)C"⟩
abbrev cX0_isBody : ByteArray := prog_2_method_9_code
def yX0_isBody : MethodName := ⟨RX0, "isBody", "(II)Z"⟩
def RX1 : String := "AnswerLines$Kinds"
def TX1 : u_T := fun k => match k with
  | 0 => ("AnswerLines$Kinds", "above", "[I", true)
  | 1 => ("AnswerLines$Kinds", "lengths", "[I", true)
  | 2 => ("AnswerLines$Kinds", "quarrels", "[I", true)
  | 3 => ("AnswerLines$Kinds", "lines", "[I", true)
  | 4 => ("AnswerLines$Kinds", "parents", "[I", true)
  | 5 => ("AnswerLines$Kinds", "rows", "LAnswerLines$Rows;", true)
  | 6 => ("AnswerLines$Kinds", "count", "I", false)
  | _ => ("AnswerLines$Kinds", "bareBits", "I", false)
def tyX1 : Nat → FieldType := fun k => match k with
  | 0 => .array .int
  | 1 => .array .int
  | 2 => .array .int
  | 3 => .array .int
  | 4 => .array .int
  | 5 => .object "AnswerLines$Rows"
  | 6 => .int
  | _ => .int
abbrev wsX10 : List Cond := u_ws RX1 TX1 8
theorem nmX1 : ∀ a, a < 8 → ∀ b, b < 8 → a ≠ b → (TX1 a).2.1 ≠ (TX1 b).2.1 := by decide +kernel
theorem tyX1_ok : ∀ k, k < 8 → parseFieldDescriptor (TX1 k).2.2.1 = some (tyX1 k) := by decide +kernel
abbrev cX1_init : ByteArray := prog_3_method_1_code
def yX1_init : MethodName := ⟨RX1, "<init>", "()V"⟩
abbrev cX1_knows : ByteArray := prog_3_method_2_code
def yX1_knows : MethodName := ⟨RX1, "knows", "(I)Z"⟩
abbrev cX1_isFull : ByteArray := prog_3_method_3_code
def yX1_isFull : MethodName := ⟨RX1, "isFull", "()Z"⟩
abbrev cX1_howMany : ByteArray := prog_3_method_4_code
def yX1_howMany : MethodName := ⟨RX1, "howMany", "()I"⟩
abbrev cX1_isBare : ByteArray := prog_3_method_5_code
def yX1_isBare : MethodName := ⟨RX1, "isBare", "(I)Z"⟩
abbrev cX1_setBare : ByteArray := prog_3_method_6_code
def yX1_setBare : MethodName := ⟨RX1, "setBare", "(IZ)V"⟩
abbrev cX1_aboveOf : ByteArray := prog_3_method_7_code
def yX1_aboveOf : MethodName := ⟨RX1, "aboveOf", "(I)I"⟩
abbrev cX1_belowOf : ByteArray := prog_3_method_8_code
def yX1_belowOf : MethodName := ⟨RX1, "belowOf", "(I)I"⟩
abbrev cX1_quarrelOf : ByteArray := prog_3_method_9_code
def yX1_quarrelOf : MethodName := ⟨RX1, "quarrelOf", "(I)I"⟩
abbrev cX1_isLaid : ByteArray := prog_3_method_10_code
def yX1_isLaid : MethodName := ⟨RX1, "isLaid", "(I)Z"⟩
abbrev cX1_hasRow : ByteArray := prog_3_method_11_code
def yX1_hasRow : MethodName := ⟨RX1, "hasRow", "(I)Z"⟩
abbrev cX1_lengthOf : ByteArray := prog_3_method_12_code
def yX1_lengthOf : MethodName := ⟨RX1, "lengthOf", "(I)I"⟩
abbrev cX1_inLine : ByteArray := prog_3_method_13_code
def yX1_inLine : MethodName := ⟨RX1, "inLine", "(II)I"⟩
abbrev cX1_whereFirst : ByteArray := prog_3_method_14_code
def yX1_whereFirst : MethodName := ⟨RX1, "whereFirst", "(III)I"⟩
abbrev cX1_firstOf : ByteArray := prog_3_method_15_code
def yX1_firstOf : MethodName := ⟨RX1, "firstOf", "(III)I"⟩
abbrev cX1_add : ByteArray := prog_3_method_16_code
def yX1_add : MethodName := ⟨RX1, "add", "(IIII)I"⟩
abbrev cX1_layLine : ByteArray := prog_3_method_17_code
def yX1_layLine : MethodName := ⟨RX1, "layLine", "(II)V"⟩
abbrev cX1_layRows : ByteArray := prog_3_method_18_code
def yX1_layRows : MethodName := ⟨RX1, "layRows", "(I)V"⟩
def RX2 : String := "AnswerLines$Pad"
def TX2 : u_T := fun k => match k with
  | 0 => ("AnswerLines$Pad", "signs", "[C", true)
  | _ => ("AnswerLines$Pad", "count", "I", false)
def tyX2 : Nat → FieldType := fun k => match k with
  | 0 => .array .char
  | _ => .int
abbrev wsX20 : List Cond := u_ws RX2 TX2 2
theorem nmX2 : ∀ a, a < 2 → ∀ b, b < 2 → a ≠ b → (TX2 a).2.1 ≠ (TX2 b).2.1 := by decide +kernel
theorem tyX2_ok : ∀ k, k < 2 → parseFieldDescriptor (TX2 k).2.2.1 = some (tyX2 k) := by decide +kernel
abbrev cX2_init : ByteArray := prog_4_method_1_code
def yX2_init : MethodName := ⟨RX2, "<init>", "()V"⟩
abbrev cX2_isFull : ByteArray := prog_4_method_2_code
def yX2_isFull : MethodName := ⟨RX2, "isFull", "()Z"⟩
abbrev cX2_length : ByteArray := prog_4_method_3_code
def yX2_length : MethodName := ⟨RX2, "length", "()I"⟩
abbrev cX2_put : ByteArray := prog_4_method_4_code
def yX2_put : MethodName := ⟨RX2, "put", "(I)I"⟩
abbrev cX2_empty : ByteArray := prog_4_method_5_code
def yX2_empty : MethodName := ⟨RX2, "empty", "()I"⟩
abbrev cX2_sign : ByteArray := prog_4_method_6_code
def yX2_sign : MethodName := ⟨RX2, "sign", "(I)C"⟩
abbrev cX2_firstFault : ByteArray := prog_4_method_7_code
def yX2_firstFault : MethodName := ⟨RX2, "firstFault", "()I"⟩
abbrev cX2_canStand : ByteArray := prog_4_method_8_code
def yX2_canStand : MethodName := ⟨RX2, "canStand", "(C)Z"⟩
def RX3 : String := "AnswerLines$Places"
def TX3 : u_T := fun k => match k with
  | 0 => ("AnswerLines$Places", "sizes", "[I", true)
  | 1 => ("AnswerLines$Places", "calledPlaces", "[I", true)
  | 2 => ("AnswerLines$Places", "calledKinds", "[I", true)
  | 3 => ("AnswerLines$Places", "recent", "[I", true)
  | 4 => ("AnswerLines$Places", "count", "I", false)
  | _ => ("AnswerLines$Places", "remembered", "I", false)
def tyX3 : Nat → FieldType := fun k => match k with
  | 0 => .array .int
  | 1 => .array .int
  | 2 => .array .int
  | 3 => .array .int
  | 4 => .int
  | _ => .int
abbrev wsX30 : List Cond := u_ws RX3 TX3 6
theorem nmX3 : ∀ a, a < 6 → ∀ b, b < 6 → a ≠ b → (TX3 a).2.1 ≠ (TX3 b).2.1 := by decide +kernel
theorem tyX3_ok : ∀ k, k < 6 → parseFieldDescriptor (TX3 k).2.2.1 = some (tyX3 k) := by decide +kernel
abbrev cX3_init : ByteArray := prog_5_method_1_code
def yX3_init : MethodName := ⟨RX3, "<init>", "()V"⟩
abbrev cX3_isFull : ByteArray := prog_5_method_2_code
def yX3_isFull : MethodName := ⟨RX3, "isFull", "()Z"⟩
abbrev cX3_howMany : ByteArray := prog_5_method_3_code
def yX3_howMany : MethodName := ⟨RX3, "howMany", "()I"⟩
abbrev cX3_record : ByteArray := prog_5_method_4_code
def yX3_record : MethodName := ⟨RX3, "record", "(II)I"⟩
abbrev cX3_clear : ByteArray := prog_5_method_5_code
def yX3_clear : MethodName := ⟨RX3, "clear", "()I"⟩
abbrev cX3_sizeOf : ByteArray := prog_5_method_6_code
def yX3_sizeOf : MethodName := ⟨RX3, "sizeOf", "(I)I"⟩
abbrev cX3_resize : ByteArray := prog_5_method_7_code
def yX3_resize : MethodName := ⟨RX3, "resize", "(II)I"⟩
abbrev cX3_callsAt : ByteArray := prog_5_method_8_code
def yX3_callsAt : MethodName := ⟨RX3, "callsAt", "(I)I"⟩
abbrev cX3_hitsBySize : ByteArray := prog_5_method_9_code
def yX3_hitsBySize : MethodName := ⟨RX3, "hitsBySize", "(II)I"⟩
abbrev cX3_latest : ByteArray := prog_5_method_10_code
def yX3_latest : MethodName := ⟨RX3, "latest", "(I)I"⟩
abbrev cX3_bestHits : ByteArray := prog_5_method_11_code
def yX3_bestHits : MethodName := ⟨RX3, "bestHits", "(I)I"⟩
abbrev cX3_whereRecent : ByteArray := prog_5_method_12_code
def yX3_whereRecent : MethodName := ⟨RX3, "whereRecent", "(I)I"⟩
abbrev cX3_putFirst : ByteArray := prog_5_method_13_code
def yX3_putFirst : MethodName := ⟨RX3, "putFirst", "(II)V"⟩
abbrev cX3_longestUnused : ByteArray := prog_5_method_14_code
def yX3_longestUnused : MethodName := ⟨RX3, "longestUnused", "(III)I"⟩
def RX4 : String := "AnswerLines$Rows"
def TX4 : u_T := fun k => match k with
  | 0 => ("AnswerLines$Rows", "cells", "[I", true)
  | 1 => ("AnswerLines$Rows", "heads", "[I", true)
  | 2 => ("AnswerLines$Rows", "lengths", "[I", true)
  | _ => ("AnswerLines$Rows", "count", "I", false)
def tyX4 : Nat → FieldType := fun k => match k with
  | 0 => .array .int
  | 1 => .array .int
  | 2 => .array .int
  | _ => .int
abbrev wsX40 : List Cond := u_ws RX4 TX4 4
theorem nmX4 : ∀ a, a < 4 → ∀ b, b < 4 → a ≠ b → (TX4 a).2.1 ≠ (TX4 b).2.1 := by decide +kernel
theorem tyX4_ok : ∀ k, k < 4 → parseFieldDescriptor (TX4 k).2.2.1 = some (tyX4 k) := by decide +kernel
abbrev cX4_init : ByteArray := prog_6_method_1_code
def yX4_init : MethodName := ⟨RX4, "<init>", "()V"⟩
abbrev cX4_clear : ByteArray := prog_6_method_2_code
def yX4_clear : MethodName := ⟨RX4, "clear", "()V"⟩
abbrev cX4_begin : ByteArray := prog_6_method_3_code
def yX4_begin : MethodName := ⟨RX4, "begin", "()V"⟩
abbrev cX4_put : ByteArray := prog_6_method_4_code
def yX4_put : MethodName := ⟨RX4, "put", "(I)V"⟩
abbrev cX4_beginnings : ByteArray := prog_6_method_5_code
def yX4_beginnings : MethodName := ⟨RX4, "beginnings", "()I"⟩
abbrev cX4_firstFree : ByteArray := prog_6_method_6_code
def yX4_firstFree : MethodName := ⟨RX4, "firstFree", "()I"⟩
abbrev cX4_take : ByteArray := prog_6_method_7_code
def yX4_take : MethodName := ⟨RX4, "take", "(I)V"⟩
abbrev cX4_head : ByteArray := prog_6_method_8_code
def yX4_head : MethodName := ⟨RX4, "head", "(I)I"⟩
abbrev cX4_tail : ByteArray := prog_6_method_9_code
def yX4_tail : MethodName := ⟨RX4, "tail", "(I)I"⟩
def RX5 : String := "AnswerLines$Runner"
def TX5 : u_T := fun k => match k with
  | 0 => ("AnswerLines$Runner", "digits", "[I", true)
  | 1 => ("AnswerLines$Runner", "said", "I", false)
  | 2 => ("AnswerLines$Runner", "made", "I", false)
  | _ => ("AnswerLines$Runner", "lined", "I", false)
def tyX5 : Nat → FieldType := fun k => match k with
  | 0 => .array .int
  | 1 => .int
  | 2 => .int
  | _ => .int
abbrev wsX50 : List Cond := u_ws RX5 TX5 4
theorem nmX5 : ∀ a, a < 4 → ∀ b, b < 4 → a ≠ b → (TX5 a).2.1 ≠ (TX5 b).2.1 := by decide +kernel
theorem tyX5_ok : ∀ k, k < 4 → parseFieldDescriptor (TX5 k).2.2.1 = some (tyX5 k) := by decide +kernel
abbrev cX5_init : ByteArray := prog_7_method_1_code
def yX5_init : MethodName := ⟨RX5, "<init>", "()V"⟩
abbrev cX5_start : ByteArray := prog_7_method_2_code
def yX5_start : MethodName := ⟨RX5, "start", "(LAnswerLines$Kinds;LAnswerLines$Bodies;II)I"⟩
abbrev cX5_howManySaid : ByteArray := prog_7_method_3_code
def yX5_howManySaid : MethodName := ⟨RX5, "howManySaid", "()I"⟩
abbrev cX5_digit : ByteArray := prog_7_method_4_code
def yX5_digit : MethodName := ⟨RX5, "digit", "(I)I"⟩
abbrev cX5_work : ByteArray := prog_7_method_5_code
def yX5_work : MethodName := ⟨RX5, "work", "(LAnswerLines$Kinds;LAnswerLines$Bodies;III)I"⟩
abbrev cX5_sayDigit : ByteArray := prog_7_method_6_code
def yX5_sayDigit : MethodName := ⟨RX5, "sayDigit", "(I)I"⟩
def RX6 : String := "AnswerLines$Sides"
def TX6 : u_T := fun k => match k with
  | _ => ("", "", "", false)
def tyX6 : Nat → FieldType := fun k => match k with
  | _ => .int
abbrev wsX60 : List Cond := u_ws RX6 TX6 0
theorem nmX6 : ∀ a, a < 0 → ∀ b, b < 0 → a ≠ b → (TX6 a).2.1 ≠ (TX6 b).2.1 := by decide +kernel
theorem tyX6_ok : ∀ k, k < 0 → parseFieldDescriptor (TX6 k).2.2.1 = some (tyX6 k) := by decide +kernel
abbrev cX6_nearestOf : ByteArray := prog_8_method_2_code
def yX6_nearestOf : MethodName := ⟨RX6, "nearestOf", "(LAnswerLines$Kinds;II)I"⟩
abbrev cX6_doubtful : ByteArray := prog_8_method_3_code
def yX6_doubtful : MethodName := ⟨RX6, "doubtful", "(LAnswerLines$Kinds;I)I"⟩
abbrev cX6_settlers : ByteArray := prog_8_method_4_code
def yX6_settlers : MethodName := ⟨RX6, "settlers", "(LAnswerLines$Kinds;I)I"⟩
abbrev cX6_shifted : ByteArray := prog_8_method_5_code
def yX6_shifted : MethodName := ⟨RX6, "shifted", "(LAnswerLines$Kinds;II)I"⟩
abbrev cX6_unlikeAnswers : ByteArray := prog_8_method_6_code
def yX6_unlikeAnswers : MethodName := ⟨RX6, "unlikeAnswers", "(LAnswerLines$Kinds;II)I"⟩
abbrev cX6_isInDoubt : ByteArray := prog_8_method_7_code
def yX6_isInDoubt : MethodName := ⟨RX6, "isInDoubt", "(LAnswerLines$Kinds;II)Z"⟩
def RX7 : String := "AnswerLines$Table"
def TX7 : u_T := fun k => match k with
  | 0 => ("AnswerLines$Table", "rows", "[I", true)
  | 1 => ("AnswerLines$Table", "together", "[I", true)
  | 2 => ("AnswerLines$Table", "columns", "[I", true)
  | 3 => ("AnswerLines$Table", "pushedTo", "[I", true)
  | _ => ("AnswerLines$Table", "slots", "[I", true)
def tyX7 : Nat → FieldType := fun k => match k with
  | 0 => .array .int
  | 1 => .array .int
  | 2 => .array .int
  | 3 => .array .int
  | _ => .array .int
abbrev wsX70 : List Cond := u_ws RX7 TX7 5
theorem nmX7 : ∀ a, a < 5 → ∀ b, b < 5 → a ≠ b → (TX7 a).2.1 ≠ (TX7 b).2.1 := by decide +kernel
theorem tyX7_ok : ∀ k, k < 5 → parseFieldDescriptor (TX7 k).2.2.1 = some (tyX7 k) := by decide +kernel
abbrev cX7_init : ByteArray := prog_9_method_1_code
def yX7_init : MethodName := ⟨RX7, "<init>", "()V"⟩
abbrev cX7_fill : ByteArray := prog_9_method_2_code
def yX7_fill : MethodName := ⟨RX7, "fill", "(LAnswerLines$Kinds;LAnswerLines$Bodies;)V"⟩
abbrev cX7_spread : ByteArray := prog_9_method_3_code
def yX7_spread : MethodName := ⟨RX7, "spread", "()I"⟩
abbrev cX7_columnOf : ByteArray := prog_9_method_4_code
def yX7_columnOf : MethodName := ⟨RX7, "columnOf", "(I)I"⟩
abbrev cX7_push : ByteArray := prog_9_method_5_code
def yX7_push : MethodName := ⟨RX7, "push", "()I"⟩
abbrev cX7_placeOfRow : ByteArray := prog_9_method_6_code
def yX7_placeOfRow : MethodName := ⟨RX7, "placeOfRow", "(I)I"⟩
abbrev cX7_standsAt : ByteArray := prog_9_method_7_code
def yX7_standsAt : MethodName := ⟨RX7, "standsAt", "(I)I"⟩
abbrev cX7_findTogether : ByteArray := prog_9_method_8_code
def yX7_findTogether : MethodName := ⟨RX7, "findTogether", "()V"⟩
abbrev cX7_fitInto : ByteArray := prog_9_method_9_code
def yX7_fitInto : MethodName := ⟨RX7, "fitInto", "(III)Z"⟩
abbrev cX7_isFree : ByteArray := prog_9_method_10_code
def yX7_isFree : MethodName := ⟨RX7, "isFree", "(II)Z"⟩
abbrev cX7_pushRow : ByteArray := prog_9_method_11_code
def yX7_pushRow : MethodName := ⟨RX7, "pushRow", "(I)I"⟩
abbrev cX7_leastPlace : ByteArray := prog_9_method_12_code
def yX7_leastPlace : MethodName := ⟨RX7, "leastPlace", "(I)I"⟩
abbrev cX7_isOpen : ByteArray := prog_9_method_13_code
def yX7_isOpen : MethodName := ⟨RX7, "isOpen", "(II)Z"⟩
def RX8 : String := "AnswerLines"
def TX8 : u_T := fun k => match k with
  | 0 => ("AnswerLines", "kinds", "LAnswerLines$Kinds;", true)
  | 1 => ("AnswerLines", "pad", "LAnswerLines$Pad;", true)
  | 2 => ("AnswerLines", "bodies", "LAnswerLines$Bodies;", true)
  | 3 => ("AnswerLines", "runner", "LAnswerLines$Runner;", true)
  | 4 => ("AnswerLines", "table", "LAnswerLines$Table;", true)
  | _ => ("AnswerLines", "places", "LAnswerLines$Places;", true)
def tyX8 : Nat → FieldType := fun k => match k with
  | 0 => .object "AnswerLines$Kinds"
  | 1 => .object "AnswerLines$Pad"
  | 2 => .object "AnswerLines$Bodies"
  | 3 => .object "AnswerLines$Runner"
  | 4 => .object "AnswerLines$Table"
  | _ => .object "AnswerLines$Places"
abbrev wsX80 : List Cond := u_ws RX8 TX8 6
theorem nmX8 : ∀ a, a < 6 → ∀ b, b < 6 → a ≠ b → (TX8 a).2.1 ≠ (TX8 b).2.1 := by decide +kernel
theorem tyX8_ok : ∀ k, k < 6 → parseFieldDescriptor (TX8 k).2.2.1 = some (tyX8 k) := by decide +kernel
abbrev cX8_init : ByteArray := prog_1_method_1_code
def yX8_init : MethodName := ⟨RX8, "<init>", "()V"⟩
abbrev cX8_kind : ByteArray := prog_1_method_2_code
def yX8_kind : MethodName := ⟨RX8, "kind", "(IIII)I"⟩
abbrev cX8_bare : ByteArray := prog_1_method_3_code
def yX8_bare : MethodName := ⟨RX8, "bare", "(IZ)I"⟩
abbrev cX8_of : ByteArray := prog_1_method_4_code
def yX8_of : MethodName := ⟨RX8, "of", "(II)I"⟩
abbrev cX8_line : ByteArray := prog_1_method_5_code
def yX8_line : MethodName := ⟨RX8, "line", "(II)I"⟩
abbrev cX8_quarrel : ByteArray := prog_1_method_6_code
def yX8_quarrel : MethodName := ⟨RX8, "quarrel", "(I)I"⟩
abbrev cX8_say : ByteArray := prog_1_method_7_code
def yX8_say : MethodName := ⟨RX8, "say", "(I)I"⟩
abbrev cX8_wipe : ByteArray := prog_1_method_8_code
def yX8_wipe : MethodName := ⟨RX8, "wipe", "()I"⟩
abbrev cX8_fault : ByteArray := prog_1_method_9_code
def yX8_fault : MethodName := ⟨RX8, "fault", "()I"⟩
abbrev cX8_has : ByteArray := prog_1_method_10_code
def yX8_has : MethodName := ⟨RX8, "has", "(II)I"⟩
abbrev cX8_drop : ByteArray := prog_1_method_11_code
def yX8_drop : MethodName := ⟨RX8, "drop", "(II)I"⟩
abbrev cX8_answer : ByteArray := prog_1_method_12_code
def yX8_answer : MethodName := ⟨RX8, "answer", "(II)I"⟩
abbrev cX8_next : ByteArray := prog_1_method_13_code
def yX8_next : MethodName := ⟨RX8, "next", "(III)I"⟩
abbrev cX8_run : ByteArray := prog_1_method_14_code
def yX8_run : MethodName := ⟨RX8, "run", "(III)I"⟩
abbrev cX8_nearest : ByteArray := prog_1_method_15_code
def yX8_nearest : MethodName := ⟨RX8, "nearest", "(II)I"⟩
abbrev cX8_doubt : ByteArray := prog_1_method_16_code
def yX8_doubt : MethodName := ⟨RX8, "doubt", "(I)I"⟩
abbrev cX8_settle : ByteArray := prog_1_method_17_code
def yX8_settle : MethodName := ⟨RX8, "settle", "(II)I"⟩
abbrev cX8_shift : ByteArray := prog_1_method_18_code
def yX8_shift : MethodName := ⟨RX8, "shift", "(II)I"⟩
abbrev cX8_column : ByteArray := prog_1_method_19_code
def yX8_column : MethodName := ⟨RX8, "column", "(I)I"⟩
abbrev cX8_packed : ByteArray := prog_1_method_20_code
def yX8_packed : MethodName := ⟨RX8, "packed", "(I)I"⟩
abbrev cX8_slot : ByteArray := prog_1_method_21_code
def yX8_slot : MethodName := ⟨RX8, "slot", "(I)I"⟩
abbrev cX8_one : ByteArray := prog_1_method_22_code
def yX8_one : MethodName := ⟨RX8, "one", "(III)I"⟩
abbrev cX8_call : ByteArray := prog_1_method_23_code
def yX8_call : MethodName := ⟨RX8, "call", "(II)I"⟩
abbrev cX8_forget : ByteArray := prog_1_method_24_code
def yX8_forget : MethodName := ⟨RX8, "forget", "()I"⟩
abbrev cX8_size : ByteArray := prog_1_method_25_code
def yX8_size : MethodName := ⟨RX8, "size", "(II)I"⟩
abbrev cX8_hits : ByteArray := prog_1_method_26_code
def yX8_hits : MethodName := ⟨RX8, "hits", "(II)I"⟩
abbrev cX8_need : ByteArray := prog_1_method_27_code
def yX8_need : MethodName := ⟨RX8, "need", "(II)I"⟩
abbrev cX8_told : ByteArray := prog_1_method_28_code
def yX8_told : MethodName := ⟨RX8, "told", "(I)I"⟩
abbrev cX8_isName : ByteArray := prog_1_method_29_code
def yX8_isName : MethodName := ⟨RX8, "isName", "(I)Z"⟩
abbrev cX8_isPlace : ByteArray := prog_1_method_30_code
def yX8_isPlace : MethodName := ⟨RX8, "isPlace", "(I)Z"⟩
abbrev cX8_bitsOrCount : ByteArray := prog_1_method_31_code
def yX8_bitsOrCount : MethodName := ⟨RX8, "bitsOrCount", "(II)I"⟩
abbrev cX8_isIn : ByteArray := prog_1_method_32_code
def yX8_isIn : MethodName := ⟨RX8, "isIn", "(II)Z"⟩
def RX9 : String := "AnswerLinesModel"
def TX9 : u_T := fun k => match k with
  | 0 => ("AnswerLinesModel", "parents", "[I", true)
  | 1 => ("AnswerLinesModel", "parentMany", "[I", true)
  | 2 => ("AnswerLinesModel", "above", "[I", true)
  | 3 => ("AnswerLinesModel", "isBare", "[Z", true)
  | 4 => ("AnswerLinesModel", "kinds", "I", false)
  | 5 => ("AnswerLinesModel", "lines", "[I", true)
  | 6 => ("AnswerLinesModel", "lineLong", "[I", true)
  | 7 => ("AnswerLinesModel", "quarrels", "[I", true)
  | 8 => ("AnswerLinesModel", "rows", "[I", true)
  | 9 => ("AnswerLinesModel", "rowAt", "[I", true)
  | 10 => ("AnswerLinesModel", "rowEnd", "[I", true)
  | 11 => ("AnswerLinesModel", "rowMany", "I", false)
  | 12 => ("AnswerLinesModel", "signs", "[I", true)
  | 13 => ("AnswerLinesModel", "signMany", "[I", true)
  | 14 => ("AnswerLinesModel", "names", "[I", true)
  | 15 => ("AnswerLinesModel", "openPlace", "[I", true)
  | 16 => ("AnswerLinesModel", "openName", "[I", true)
  | 17 => ("AnswerLinesModel", "openSign", "[I", true)
  | 18 => ("AnswerLinesModel", "open", "I", false)
  | 19 => ("AnswerLinesModel", "worked", "I", false)
  | 20 => ("AnswerLinesModel", "said", "[I", true)
  | 21 => ("AnswerLinesModel", "saidMany", "I", false)
  | 22 => ("AnswerLinesModel", "endIs", "I", false)
  | 23 => ("AnswerLinesModel", "against", "[I", true)
  | 24 => ("AnswerLinesModel", "columns", "[I", true)
  | 25 => ("AnswerLinesModel", "columnMany", "I", false)
  | 26 => ("AnswerLinesModel", "slots", "[I", true)
  | 27 => ("AnswerLinesModel", "pushed", "[I", true)
  | 28 => ("AnswerLinesModel", "packedLong", "I", false)
  | 29 => ("AnswerLinesModel", "callPlace", "[I", true)
  | 30 => ("AnswerLinesModel", "callKind", "[I", true)
  | 31 => ("AnswerLinesModel", "calls", "I", false)
  | 32 => ("AnswerLinesModel", "sizes", "[I", true)
  | 33 => ("AnswerLinesModel", "remembered", "[I", true)
  | _ => ("AnswerLinesModel", "rememberedMany", "I", false)
def tyX9 : Nat → FieldType := fun k => match k with
  | 0 => .array .int
  | 1 => .array .int
  | 2 => .array .int
  | 3 => .array .boolean
  | 4 => .int
  | 5 => .array .int
  | 6 => .array .int
  | 7 => .array .int
  | 8 => .array .int
  | 9 => .array .int
  | 10 => .array .int
  | 11 => .int
  | 12 => .array .int
  | 13 => .array .int
  | 14 => .array .int
  | 15 => .array .int
  | 16 => .array .int
  | 17 => .array .int
  | 18 => .int
  | 19 => .int
  | 20 => .array .int
  | 21 => .int
  | 22 => .int
  | 23 => .array .int
  | 24 => .array .int
  | 25 => .int
  | 26 => .array .int
  | 27 => .array .int
  | 28 => .int
  | 29 => .array .int
  | 30 => .array .int
  | 31 => .int
  | 32 => .array .int
  | 33 => .array .int
  | _ => .int
abbrev wsX90 : List Cond := u_ws RX9 TX9 35
theorem nmX9 : ∀ a, a < 35 → ∀ b, b < 35 → a ≠ b → (TX9 a).2.1 ≠ (TX9 b).2.1 := by decide +kernel
theorem tyX9_ok : ∀ k, k < 35 → parseFieldDescriptor (TX9 k).2.2.1 = some (tyX9 k) := by decide +kernel
abbrev cX9_init : ByteArray := prog_11_method_1_code
def yX9_init : MethodName := ⟨RX9, "<init>", "()V"⟩
abbrev cX9_in : ByteArray := prog_11_method_3_code
def yX9_in : MethodName := ⟨RX9, "in", "(JJJ)Z"⟩
abbrev cX9_ones : ByteArray := prog_11_method_4_code
def yX9_ones : MethodName := ⟨RX9, "ones", "(I)I"⟩
abbrev cX9_isKind : ByteArray := prog_11_method_5_code
def yX9_isKind : MethodName := ⟨RX9, "isKind", "(I)Z"⟩
abbrev cX9_isName : ByteArray := prog_11_method_6_code
def yX9_isName : MethodName := ⟨RX9, "isName", "(I)Z"⟩
abbrev cX9_kind : ByteArray := prog_11_method_7_code
def yX9_kind : MethodName := ⟨RX9, "kind", "(IIII)I"⟩
abbrev cX9_bare : ByteArray := prog_11_method_8_code
def yX9_bare : MethodName := ⟨RX9, "bare", "(IZ)I"⟩
abbrev cX9_belowOf : ByteArray := prog_11_method_9_code
def yX9_belowOf : MethodName := ⟨RX9, "belowOf", "(I)I"⟩
abbrev cX9_of : ByteArray := prog_11_method_10_code
def yX9_of : MethodName := ⟨RX9, "of", "(II)I"⟩
abbrev cX9_isWithin : ByteArray := prog_11_method_11_code
def yX9_isWithin : MethodName := ⟨RX9, "isWithin", "(I)Z"⟩
abbrev cX9_nextHead : ByteArray := prog_11_method_12_code
def yX9_nextHead : MethodName := ⟨RX9, "nextHead", "()I"⟩
abbrev cX9_layLine : ByteArray := prog_11_method_13_code
def yX9_layLine : MethodName := ⟨RX9, "layLine", "(I)V"⟩
abbrev cX9_line : ByteArray := prog_11_method_14_code
def yX9_line : MethodName := ⟨RX9, "line", "(II)I"⟩
abbrev cX9_quarrel : ByteArray := prog_11_method_15_code
def yX9_quarrel : MethodName := ⟨RX9, "quarrel", "(I)I"⟩
abbrev cX9_bodyOf : ByteArray := prog_11_method_16_code
def yX9_bodyOf : MethodName := ⟨RX9, "bodyOf", "(II)I"⟩
abbrev cX9_say : ByteArray := prog_11_method_17_code
def yX9_say : MethodName := ⟨RX9, "say", "(I)I"⟩
abbrev cX9_wipe : ByteArray := prog_11_method_18_code
def yX9_wipe : MethodName := ⟨RX9, "wipe", "()I"⟩
abbrev cX9_fault : ByteArray := prog_11_method_19_code
def yX9_fault : MethodName := ⟨RX9, "fault", "()I"⟩
abbrev cX9_hasName : ByteArray := prog_11_method_20_code
def yX9_hasName : MethodName := ⟨RX9, "hasName", "(II)Z"⟩
abbrev cX9_has : ByteArray := prog_11_method_21_code
def yX9_has : MethodName := ⟨RX9, "has", "(II)I"⟩
abbrev cX9_drop : ByteArray := prog_11_method_22_code
def yX9_drop : MethodName := ⟨RX9, "drop", "(II)I"⟩
abbrev cX9_placeOf : ByteArray := prog_11_method_23_code
def yX9_placeOf : MethodName := ⟨RX9, "placeOf", "(III)I"⟩
abbrev cX9_answerOf : ByteArray := prog_11_method_24_code
def yX9_answerOf : MethodName := ⟨RX9, "answerOf", "(III)I"⟩
abbrev cX9_answer : ByteArray := prog_11_method_25_code
def yX9_answer : MethodName := ⟨RX9, "answer", "(II)I"⟩
abbrev cX9_next : ByteArray := prog_11_method_26_code
def yX9_next : MethodName := ⟨RX9, "next", "(III)I"⟩
abbrev cX9_begin : ByteArray := prog_11_method_27_code
def yX9_begin : MethodName := ⟨RX9, "begin", "(III)V"⟩
abbrev cX9_runAll : ByteArray := prog_11_method_28_code
def yX9_runAll : MethodName := ⟨RX9, "runAll", "(II)V"⟩
abbrev cX9_work : ByteArray := prog_11_method_29_code
def yX9_work : MethodName := ⟨RX9, "work", "(III)V"⟩
abbrev cX9_run : ByteArray := prog_11_method_30_code
def yX9_run : MethodName := ⟨RX9, "run", "(III)I"⟩
abbrev cX9_nearestOf : ByteArray := prog_11_method_31_code
def yX9_nearestOf : MethodName := ⟨RX9, "nearestOf", "(II)I"⟩
abbrev cX9_havingOf : ByteArray := prog_11_method_32_code
def yX9_havingOf : MethodName := ⟨RX9, "havingOf", "(I)I"⟩
abbrev cX9_nearest : ByteArray := prog_11_method_33_code
def yX9_nearest : MethodName := ⟨RX9, "nearest", "(II)I"⟩
abbrev cX9_doubtBy : ByteArray := prog_11_method_34_code
def yX9_doubtBy : MethodName := ⟨RX9, "doubtBy", "(I)I"⟩
abbrev cX9_doubt : ByteArray := prog_11_method_35_code
def yX9_doubt : MethodName := ⟨RX9, "doubt", "(I)I"⟩
abbrev cX9_settle : ByteArray := prog_11_method_36_code
def yX9_settle : MethodName := ⟨RX9, "settle", "(II)I"⟩
abbrev cX9_shift : ByteArray := prog_11_method_37_code
def yX9_shift : MethodName := ⟨RX9, "shift", "(II)I"⟩
abbrev cX9_isRow : ByteArray := prog_11_method_38_code
def yX9_isRow : MethodName := ⟨RX9, "isRow", "(I)Z"⟩
abbrev cX9_answeredBy : ByteArray := prog_11_method_39_code
def yX9_answeredBy : MethodName := ⟨RX9, "answeredBy", "(I)I"⟩
abbrev cX9_findColumns : ByteArray := prog_11_method_40_code
def yX9_findColumns : MethodName := ⟨RX9, "findColumns", "()V"⟩
abbrev cX9_greatestAhead : ByteArray := prog_11_method_41_code
def yX9_greatestAhead : MethodName := ⟨RX9, "greatestAhead", "(I)I"⟩
abbrev cX9_isFree : ByteArray := prog_11_method_42_code
def yX9_isFree : MethodName := ⟨RX9, "isFree", "(I)Z"⟩
abbrev cX9_fill : ByteArray := prog_11_method_43_code
def yX9_fill : MethodName := ⟨RX9, "fill", "(II)Z"⟩
abbrev cX9_column : ByteArray := prog_11_method_44_code
def yX9_column : MethodName := ⟨RX9, "column", "(I)I"⟩
abbrev cX9_isOpenAt : ByteArray := prog_11_method_45_code
def yX9_isOpenAt : MethodName := ⟨RX9, "isOpenAt", "(II)Z"⟩
abbrev cX9_pack : ByteArray := prog_11_method_46_code
def yX9_pack : MethodName := ⟨RX9, "pack", "()V"⟩
abbrev cX9_packed : ByteArray := prog_11_method_47_code
def yX9_packed : MethodName := ⟨RX9, "packed", "(I)I"⟩
abbrev cX9_slot : ByteArray := prog_11_method_48_code
def yX9_slot : MethodName := ⟨RX9, "slot", "(I)I"⟩
abbrev cX9_one : ByteArray := prog_11_method_49_code
def yX9_one : MethodName := ⟨RX9, "one", "(III)I"⟩
abbrev cX9_isPlace : ByteArray := prog_11_method_50_code
def yX9_isPlace : MethodName := ⟨RX9, "isPlace", "(I)Z"⟩
abbrev cX9_call : ByteArray := prog_11_method_51_code
def yX9_call : MethodName := ⟨RX9, "call", "(II)I"⟩
abbrev cX9_forget : ByteArray := prog_11_method_52_code
def yX9_forget : MethodName := ⟨RX9, "forget", "()I"⟩
abbrev cX9_size : ByteArray := prog_11_method_53_code
def yX9_size : MethodName := ⟨RX9, "size", "(II)I"⟩
abbrev cX9_whereIs : ByteArray := prog_11_method_54_code
def yX9_whereIs : MethodName := ⟨RX9, "whereIs", "(I)I"⟩
abbrev cX9_takeOut : ByteArray := prog_11_method_55_code
def yX9_takeOut : MethodName := ⟨RX9, "takeOut", "(I)V"⟩
abbrev cX9_putFirst : ByteArray := prog_11_method_56_code
def yX9_putFirst : MethodName := ⟨RX9, "putFirst", "(I)V"⟩
abbrev cX9_nextCall : ByteArray := prog_11_method_57_code
def yX9_nextCall : MethodName := ⟨RX9, "nextCall", "(III)I"⟩
abbrev cX9_farthest : ByteArray := prog_11_method_58_code
def yX9_farthest : MethodName := ⟨RX9, "farthest", "(II)I"⟩
abbrev cX9_hitsBy : ByteArray := prog_11_method_59_code
def yX9_hitsBy : MethodName := ⟨RX9, "hitsBy", "(IIZ)I"⟩
abbrev cX9_hits : ByteArray := prog_11_method_60_code
def yX9_hits : MethodName := ⟨RX9, "hits", "(II)I"⟩
abbrev cX9_need : ByteArray := prog_11_method_61_code
def yX9_need : MethodName := ⟨RX9, "need", "(II)I"⟩
abbrev cX9_told : ByteArray := prog_11_method_62_code
def yX9_told : MethodName := ⟨RX9, "told", "(I)I"⟩
def RJ6 : String := "java/lang/Integer"
def TJ6 : u_T := fun k => match k with
  | _ => ("", "", "", false)
def tyJ6 : Nat → FieldType := fun k => match k with
  | _ => .int
abbrev wsJ60 : List Cond := u_ws RJ6 TJ6 0
theorem nmJ6 : ∀ a, a < 0 → ∀ b, b < 0 → a ≠ b → (TJ6 a).2.1 ≠ (TJ6 b).2.1 := by decide +kernel
theorem tyJ6_ok : ∀ k, k < 0 → parseFieldDescriptor (TJ6 k).2.2.1 = some (tyJ6 k) := by decide +kernel
abbrev cJ6_numberOfTrailingZeros_0f7a4 : ByteArray := prog_12_method_48_code
def yJ6_numberOfTrailingZeros_0f7a4 : MethodName := ⟨RJ6, "numberOfTrailingZeros", "(I)I"⟩
abbrev cJ6_bitCount_0f7a4 : ByteArray := prog_12_method_49_code
def yJ6_bitCount_0f7a4 : MethodName := ⟨RJ6, "bitCount", "(I)I"⟩
def RJ9 : String := "java/lang/Math"
def TJ9 : u_T := fun k => match k with
  | _ => ("", "", "", false)
def tyJ9 : Nat → FieldType := fun k => match k with
  | _ => .int
abbrev wsJ90 : List Cond := u_ws RJ9 TJ9 0
theorem nmJ9 : ∀ a, a < 0 → ∀ b, b < 0 → a ≠ b → (TJ9 a).2.1 ≠ (TJ9 b).2.1 := by decide +kernel
theorem tyJ9_ok : ∀ k, k < 0 → parseFieldDescriptor (TJ9 k).2.2.1 = some (tyJ9 k) := by decide +kernel
abbrev cJ9_max_7cf53 : ByteArray := prog_13_method_65_code
def yJ9_max_7cf53 : MethodName := ⟨RJ9, "max", "(II)I"⟩
abbrev cJ9_min_7cf53 : ByteArray := prog_13_method_69_code
def yJ9_min_7cf53 : MethodName := ⟨RJ9, "min", "(II)I"⟩
def RL : String := "AnswerLinesLaw"
abbrev cL_law : ByteArray := code
def yL_law : MethodName := ⟨RL, "law", "([I)Z"⟩
theorem inJ6 : ∀ w ∈ wsJ60, w ∈ lw_tbl := by decide +kernel
theorem inJ9 : ∀ w ∈ wsJ90, w ∈ lw_tbl := by decide +kernel
abbrev vwCl : List vw_C := [(RX0, TX0, 3), (RX1, TX1, 8), (RX2, TX2, 2), (RX3, TX3, 6), (RX4, TX4, 4), (RX5, TX5, 4), (RX7, TX7, 5), (RX8, TX8, 6), (RX9, TX9, 35)]
end
section
/-! small rows of our own: tops of the stack, Int facts, worlds of contracts -/
section HLP
variable {p : Program} {l : Launch} {e : Env} {R : Room} {s : State} {m : MethodId} {args : Array Value} {below : List Frame} {meth : Method} {c : Code} {H : Heap} {locs : List Loc} {cells slots : Nat} {Q : State → Prop} {pc : Nat} {ls : Array Slot} {rest : List Value}
theorem hx_top {x y : Int32} (h : x = y) (k : W p l e R s m args below meth c H locs cells slots Q (F0 m pc ls (.int y :: rest))) : W p l e R s m args below meth c H locs cells slots Q (F0 m pc ls (.int x :: rest)) := by
  rw [h]; exact k
end HLP
theorem fx_lt {x c : Int32} {C : Int} (hc : c.toInt = C) (h : x < c) : x.toInt < C := hc ▸ Int32.lt_iff_toInt_lt.mp h
theorem fx_le {x c : Int32} {C : Int} (hc : c.toInt = C) (h : x ≤ c) : x.toInt ≤ C := hc ▸ Int32.le_iff_toInt_le.mp h
theorem fx_gt {x c : Int32} {C : Int} (hc : c.toInt = C) (h : c < x) : C < x.toInt := hc ▸ Int32.lt_iff_toInt_lt.mp h
theorem fx_ge {x c : Int32} {C : Int} (hc : c.toInt = C) (h : c ≤ x) : C ≤ x.toInt := hc ▸ Int32.le_iff_toInt_le.mp h
theorem fx_eq {x c : Int32} {C : Int} (hc : c.toInt = C) (h : x = c) : x.toInt = C := by rw [h]; exact hc
theorem fx_ne {x c : Int32} {C : Int} (hc : c.toInt = C) (h : ¬ x = c) : x.toInt ≠ C := fun e => h (Int32.toInt_inj.mp (e.trans hc.symm))
theorem fn_lt {x c : Int32} {C : Int} (hc : c.toInt = C) (h : ¬ x < c) : C ≤ x.toInt := by have h1 := mt Int32.lt_iff_toInt_lt.mpr h; rw [hc] at h1; omega
theorem fn_le {x c : Int32} {C : Int} (hc : c.toInt = C) (h : ¬ x ≤ c) : C < x.toInt := by have h1 := mt Int32.le_iff_toInt_le.mpr h; rw [hc] at h1; omega
theorem fn_gt {x c : Int32} {C : Int} (hc : c.toInt = C) (h : ¬ c < x) : x.toInt ≤ C := by have h1 := mt Int32.lt_iff_toInt_lt.mpr h; rw [hc] at h1; omega
theorem fn_ge {x c : Int32} {C : Int} (hc : c.toInt = C) (h : ¬ c ≤ x) : x.toInt < C := by have h1 := mt Int32.le_iff_toInt_le.mpr h; rw [hc] at h1; omega
theorem fn_eq {x c : Int32} {C : Int} (hc : c.toInt = C) (h : ¬ x = c) : x.toInt ≠ C := fx_ne hc h
theorem fn_ne {x c : Int32} {C : Int} (hc : c.toInt = C) (h : x = c) : x.toInt = C := fx_eq hc h
theorem fx_rng (x : Int32) : -2147483648 ≤ x.toInt ∧ x.toInt < 2147483648 := by
  have h1 := Int32.le_toInt x
  have h2 := Int32.toInt_lt x
  omega
theorem fx_in {x : Int32} {n : Nat} (h0 : 0 ≤ x.toInt) (h : x.toInt < n) : vp_in x n := vp_in_iff.mpr ⟨h0, h⟩
theorem fx_cl {x : Int32} {n : Nat} (h0 : 0 ≤ x.toInt) (h : x.toInt < n) : x.toNatClampNeg < n := by
  have h1 : x.toNatClampNeg = x.toInt.toNat := rfl
  omega
theorem fx_sub {x c : Int32} {C : Int} (hc : c.toInt = C) (h1 : -2147483648 ≤ x.toInt - C) (h2 : x.toInt - C < 2147483648) : (x - c).toInt = x.toInt - C := by
  rw [Int32.toInt_sub, hc, Int.bmod_eq_of_le (by omega) (by omega)]
theorem fx_bool {P : Prop} [Decidable P] {r : Int32} (h : r = if P then 1 else 0) : (r = 1 ∧ P) ∨ (r = 0 ∧ ¬ P) := by
  by_cases hp : P
  · rw [if_pos hp] at h; exact Or.inl ⟨h, hp⟩
  · rw [if_neg hp] at h; exact Or.inr ⟨h, hp⟩
theorem nz_lt {a b : Nat} (ha : a < 2 ^ 31) (hb : b < 2 ^ 31) (h : nI a < nI b) : a < b := (nI_ltI ha hb).mp h
theorem nz_ltn {a b : Nat} (ha : a < 2 ^ 31) (hb : b < 2 ^ 31) (h : ¬ nI a < nI b) : ¬ (a < b) := fun q => h ((nI_ltI ha hb).mpr q)
theorem nz_le {a b : Nat} (ha : a < 2 ^ 31) (hb : b < 2 ^ 31) (h : nI a ≤ nI b) : a ≤ b := (nI_leI ha hb).mp h
theorem nz_len {a b : Nat} (ha : a < 2 ^ 31) (hb : b < 2 ^ 31) (h : ¬ nI a ≤ nI b) : ¬ (a ≤ b) := fun q => h ((nI_leI ha hb).mpr q)
theorem nz_ge {a b : Nat} (ha : a < 2 ^ 31) (hb : b < 2 ^ 31) (h : nI b ≤ nI a) : a ≥ b := (nI_leI hb ha).mp h
theorem nz_gen {a b : Nat} (ha : a < 2 ^ 31) (hb : b < 2 ^ 31) (h : ¬ nI b ≤ nI a) : ¬ (a ≥ b) := fun q => h ((nI_leI hb ha).mpr q)
theorem nz_gt {a b : Nat} (ha : a < 2 ^ 31) (hb : b < 2 ^ 31) (h : nI b < nI a) : a > b := (nI_ltI hb ha).mp h
theorem nz_gtn {a b : Nat} (ha : a < 2 ^ 31) (hb : b < 2 ^ 31) (h : ¬ nI b < nI a) : ¬ (a > b) := fun q => h ((nI_ltI hb ha).mpr q)
theorem nz_eq {a b : Nat} (ha : a < 2 ^ 31) (hb : b < 2 ^ 31) (h : nI a = nI b) : a = b := (nI_eq ha hb).mp h
theorem nz_eqn {a b : Nat} (ha : a < 2 ^ 31) (hb : b < 2 ^ 31) (h : ¬ nI a = nI b) : ¬ (a = b) := fun q => h ((nI_eq ha hb).mpr q)
theorem z_and (x : Int32) : (0 : Int32) &&& x = 0 := by apply Int32.toBitVec_inj.mp; simp
theorem z_shr (x : Int32) : (0 : Int32) >>> (x &&& 31) = 0 := by apply Int32.toBitVec_inj.mp; simp
def slF (a b : Int32) (k : Nat) : Nat → Int32 := fun j => if j < k then a else b
theorem slF_0 (a b : Int32) : slF a b 0 = fun _ => b := by funext j; simp [slF]
theorem slF_in {a b : Int32} {k j : Nat} (h : j < k) : slF a b k j = a := if_pos h
theorem slF_u (a b : Int32) (k : Nat) : upd (slF a b k) k a = slF a b (k + 1) := by
  funext j
  unfold upd slF
  by_cases h : j = k
  · rw [if_pos h, if_pos (by omega)]
  · rw [if_neg h]
    by_cases h2 : j < k
    · rw [if_pos h2, if_pos (by omega)]
    · rw [if_neg h2, if_neg (by omega)]
theorem slF_u0 (a b : Int32) : upd (fun _ => b) 0 a = slF a b 1 := by
  rw [← slF_0 a b]; exact slF_u a b 0
theorem slF_n {a b : Int32} {k : Nat} (h : k < 2 ^ 31) : upd (slF a b k) (Int32.toNatClampNeg (nI k)) a = slF a b (k + 1) := by
  rw [nI_clamp h]; exact slF_u a b k
theorem upd_const (v : Int32) (k : Nat) : upd (fun _ => v) k v = fun _ => v := by funext j; unfold upd; split <;> rfl
/-- the nest mates' links -/
def nw_list : List (String × Nat × MethodName × String) := [(RX8, 9, yX1_init, RX8), (RX1, 29, yX4_init, RX8), (RX8, 18, yX2_init, RX8), (RX8, 25, yX0_init, RX8), (RX8, 32, yX5_init, RX8), (RX8, 39, yX7_init, RX8), (RX4, 32, yX8_isIn, RX8), (RX1, 45, yX8_isIn, RX8), (RX0, 22, yX8_isName, RX8), (RX0, 30, yX8_isIn, RX8), (RX6, 15, yX8_isIn, RX8), (RX7, 62, yX8_isIn, RX8), (RX7, 50, yX8_isName, RX8), (RX3, 32, yX8_isPlace, RX8), (RX3, 50, yX8_isIn, RX8)]
def nw_ok (U : State) : Prop := ∀ q ∈ nw_list, va_Nw (.methodLinkNest q.1 q.2.1 q.2.2.1 q.2.2.2) U
theorem nw_ok.warm {s U : State} (hW : s.WarmedH U.vm) (h : nw_ok s) : nw_ok U := fun q hq => va_Nw.warmM hW (h q hq)
theorem nw_ok.calling {U : State} {g : JFrame} {mk : MethodId} {a : Array Value} (h : nw_ok U) : nw_ok (U.calling g mk a) := fun q hq => va_Nw.same rfl rfl (h q hq)
def pcW (dC : Nat → ClassId) (dI : Nat → Nat → Nat) (tys : List (ClassId × FieldType)) (ws : va_W) (sz : Nat) (U : State) : Prop := U.heap.size = sz ∧ nw_ok U ∧ va_P (dC, dI) vwCl ws U.heap ∧ va_K (dC, dI) vwCl tys U ∧ va_D (fun _ => True) ws
theorem pcW_blind {av : List Value} {dC : Nat → ClassId} {dI : Nat → Nat → Nat} {tys : List (ClassId × FieldType)} {ws : va_W} {sz : Nat} : FrameBlind (va_Pc av (pcW dC dI tys ws sz)) := by
  intro a U g mk q
  obtain ⟨q0, q1, q2, q3, q4, q5⟩ := q
  exact ⟨q0, q1, q2.calling, q3, va_K.moved (u := U) (U := U.calling g mk a) (Vm.Alike.refl U.vm) q4, q5⟩
theorem pcW_at {av : List Value} {dC : Nat → ClassId} {dI : Nat → Nat → Nat} {tys : List (ClassId × FieldType)} {ws : va_W} {H : Heap} {s : State} {A : Nat → Prop} (hP : va_P (dC, dI) vwCl ws H) (hK : va_K (dC, dI) vwCl tys s) (hD : va_D A ws) (hN : nw_ok s) : ∀ U : State, U.heap = H → s.WarmedH U.vm → va_Pc av (pcW dC dI tys ws H.size) av.toArray U :=
  fun U hU hW => ⟨rfl, by rw [hU], hN.warm hW, by rw [hU]; exact hP, va_K.moved hW.alike hK, hD.weaken (fun _ _ _ _ => trivial)⟩
theorem keepP {D : va_G} {cl : List vw_C} {ws : va_W} {H H1 : Heap} (hP : va_P D cl ws H) (hk : ∀ q : Nat, q < H.size → ¬ (H.size ≤ q) → H1[q]? = H[q]?) : va_P D cl ws H1 :=
  hP.kept (fun k q h => hk q.1 (hP k q h).lt (Nat.not_le.mpr (hP k q h).lt))
theorem nilP {D : va_G} {cl : List vw_C} {H : Heap} : va_P D cl [] H := fun k q h => by simp at h
theorem nilD {A : Nat → Prop} : va_D A [] := ⟨fun i j p q h => by simp at h, fun k q h => by simp at h⟩
/-- the tables' good words: every contract stands on all of them -/
def BG : List Cond := lw_tbl.filter goodWord
def wq (y : MethodName) (b : ByteArray) (n : Nat) (r : Option FieldType) : List Cond := .code y b n r :: BG
theorem mB {w : Cond} (h : w ∈ lw_tbl) (g : goodWord w = true) : w ∈ BG := List.mem_filter.mpr ⟨h, g⟩
theorem BG_lw {w : Cond} (h : w ∈ BG) : w ∈ lw_tbl := (List.mem_filter.mp h).1
theorem t0 {w : Cond} {i : Nat} (h : (k2_sels lw_privs)[i]? = some w) : w ∈ lw_tbl := List.mem_append_left _ (List.mem_of_getElem? h)
theorem t1 {w : Cond} {i : Nat} (h : tables_1_1[i]? = some w) : w ∈ lw_tbl := List.mem_append_right _ (List.mem_append_left _ (List.mem_of_getElem? h))
theorem t2 {w : Cond} {i : Nat} (h : tables_1_2[i]? = some w) : w ∈ lw_tbl := List.mem_append_right _ (List.mem_append_right _ (List.mem_append_left _ (List.mem_of_getElem? h)))
theorem t3 {w : Cond} {i : Nat} (h : tables_1_3[i]? = some w) : w ∈ lw_tbl := List.mem_append_right _ (List.mem_append_right _ (List.mem_append_right _ (List.mem_append_left _ (List.mem_of_getElem? h))))
theorem t4 {w : Cond} {i : Nat} (h : tables_1_4[i]? = some w) : w ∈ lw_tbl := List.mem_append_right _ (List.mem_append_right _ (List.mem_append_right _ (List.mem_append_right _ (List.mem_append_left _ (List.mem_of_getElem? h)))))
theorem t5 {w : Cond} {i : Nat} (h : tables_1_5[i]? = some w) : w ∈ lw_tbl := List.mem_append_right _ (List.mem_append_right _ (List.mem_append_right _ (List.mem_append_right _ (List.mem_append_right _ (List.mem_of_getElem? h)))))
theorem BG_good {w : Cond} (h : w ∈ BG) : (w.onTables && w.keeps) = true ∨ ∃ ty, w = .arrayClass ty := good_of_word (List.mem_filter.mp h).2
theorem gN {y : MethodName} {b : ByteArray} {n : Nat} {r : Option FieldType} (h : Cond.code y b n r ∈ BG) : GoodIn BG (wq y b n r) := by
  intro w hw
  have h1 : w ∈ BG := (List.mem_cons.mp hw).elim (fun e => e ▸ h) id
  exact ⟨h1, BG_good h1⟩
theorem gApp {a b : List Cond} (ha : ∀ w ∈ a, w ∈ BG) (hb : GoodIn BG b) : GoodIn BG (a ++ b) := fun w h => (List.mem_append.mp h).elim (fun q => ⟨ha w q, BG_good (ha w q)⟩) (hb w)
theorem gV {own C : String} {idx : Nat} {y : MethodName} {b : ByteArray} {n : Nat} {r : Option FieldType} (h1 : Cond.methodLink own idx y ∈ BG) (h2 : Cond.instanceMethod y ∈ BG) (h3 : Cond.selects C y y ∈ BG) (h4 : Cond.initialized C ∈ BG) (h5 : Cond.code y b n r ∈ BG) : GoodIn BG (wsV own idx C y (wq y b n r)) :=
  gApp (List.forall_mem_cons.mpr ⟨h1, List.forall_mem_cons.mpr ⟨h2, List.forall_mem_cons.mpr ⟨h3, List.forall_mem_cons.mpr ⟨h4, fun _ h => absurd h List.not_mem_nil⟩⟩⟩⟩) (gN h5)
theorem gS {own : String} {idx : Nat} {y : MethodName} {b : ByteArray} {n : Nat} {r : Option FieldType} (h1 : Cond.methodLink own idx y ∈ BG) (h2 : Cond.static y ∈ BG) (h4 : Cond.initialized y.cls ∈ BG) (h5 : Cond.code y b n r ∈ BG) : GoodIn BG (va_wsS own idx y (wq y b n r)) :=
  gApp (List.forall_mem_cons.mpr ⟨h1, List.forall_mem_cons.mpr ⟨h2, List.forall_mem_cons.mpr ⟨h4, fun _ h => absurd h List.not_mem_nil⟩⟩⟩) (gN h5)
end
section
theorem dX8_isName_0 : decode cX8_isName 0 = .ok (.iload_n 0, 1) := by decide +kernel
theorem dX8_isName_1 : decode cX8_isName 1 = .ok (.ifCond .lt 13, 3) := by decide +kernel
theorem dX8_isName_14 : decode cX8_isName 14 = .ok (.iconst 0, 1) := by decide +kernel
theorem dX8_isName_15 : decode cX8_isName 15 = .ok (.ireturn, 1) := by decide +kernel
theorem dX8_isName_4 : decode cX8_isName 4 = .ok (.iload_n 0, 1) := by decide +kernel
theorem dX8_isName_5 : decode cX8_isName 5 = .ok (.bipush 8, 2) := by decide +kernel
theorem dX8_isName_7 : decode cX8_isName 7 = .ok (.if_icmp .ge 7, 3) := by decide +kernel
theorem dX8_isName_10 : decode cX8_isName 10 = .ok (.iconst 1, 1) := by decide +kernel
theorem dX8_isName_11 : decode cX8_isName 11 = .ok (.goto 4, 3) := by decide +kernel
theorem dX8_isPlace_0 : decode cX8_isPlace 0 = .ok (.iload_n 0, 1) := by decide +kernel
theorem dX8_isPlace_1 : decode cX8_isPlace 1 = .ok (.ifCond .lt 12, 3) := by decide +kernel
theorem dX8_isPlace_13 : decode cX8_isPlace 13 = .ok (.iconst 0, 1) := by decide +kernel
theorem dX8_isPlace_14 : decode cX8_isPlace 14 = .ok (.ireturn, 1) := by decide +kernel
theorem dX8_isPlace_4 : decode cX8_isPlace 4 = .ok (.iload_n 0, 1) := by decide +kernel
theorem dX8_isPlace_5 : decode cX8_isPlace 5 = .ok (.iconst 4, 1) := by decide +kernel
theorem dX8_isPlace_6 : decode cX8_isPlace 6 = .ok (.if_icmp .ge 7, 3) := by decide +kernel
theorem dX8_isPlace_9 : decode cX8_isPlace 9 = .ok (.iconst 1, 1) := by decide +kernel
theorem dX8_isPlace_10 : decode cX8_isPlace 10 = .ok (.goto 4, 3) := by decide +kernel
theorem dX8_isIn_0 : decode cX8_isIn 0 = .ok (.iload_n 1, 1) := by decide +kernel
theorem dX8_isIn_1 : decode cX8_isIn 1 = .ok (.iload_n 0, 1) := by decide +kernel
theorem dX8_isIn_2 : decode cX8_isIn 2 = .ok (.ishr, 1) := by decide +kernel
theorem dX8_isIn_3 : decode cX8_isIn 3 = .ok (.iconst 1, 1) := by decide +kernel
theorem dX8_isIn_4 : decode cX8_isIn 4 = .ok (.iand, 1) := by decide +kernel
theorem dX8_isIn_5 : decode cX8_isIn 5 = .ok (.ifCond .eq 7, 3) := by decide +kernel
theorem dX8_isIn_12 : decode cX8_isIn 12 = .ok (.iconst 0, 1) := by decide +kernel
theorem dX8_isIn_13 : decode cX8_isIn 13 = .ok (.ireturn, 1) := by decide +kernel
set_option maxHeartbeats 4000000 in
set_option maxRecDepth 100000 in
theorem c_isName (l : Launch) (dC : Nat → ClassId) (dI : Nat → Nat → Nat) (sz : Nat) (n : Int32)  : Met l yX8_isName (wq yX8_isName cX8_isName 1 (some .boolean)) ({ frames := 0, cells := 0, slots := 0, locals := 0 }) (va_Pc [.int n] (pcW dC dI [] [] sz)) (va_Qi (fun (r : Int32) (_ : Unit) => r = (if 0 ≤ Int32.toInt n ∧ Int32.toInt n ≤ 7 then 1 else 0)) (fun _ _ => True) (fun q : Nat => sz ≤ q)) 0 0 (fun q : Nat => sz ≤ q) := by
  refine Met.ofW (cc := cX8_isName) (maxL := 1) (ret := (some .boolean)) (by decide) rfl ?_
  intro p e s m args below meth c s₁ B hml hv
  obtain ⟨rfl, hsz, hN, hP, hK, hD0⟩ := hv
  have hx := B.exec
  have hb := B.bytes
  have hr := B.returns
  have hts0 := atoms_spec (ws := (wq yX8_isName cX8_isName 1 (some .boolean))) B.pre
  have hts : ∀ w ∈ BG, w.before _ s = true := fun w h => hts0 w (List.mem_cons_of_mem _ h)
  have hown : s.vm.findClass RX8 = some m.cls := findClass_of_methodNamed B.named
  have hlocks := B.notSynchronized
  subst hsz
  have hA : ∀ q : Nat, s.heap.size ≤ q → (fun q : Nat => s.heap.size ≤ q) q := fun _ h => h
  have hD := hD0
  have hS : va_S (fun q : Nat => s.heap.size ≤ q) s.heap s.heap [] := va_S.rf
  have hP : va_P (dC, dI) vwCl [] s.heap := hP
  have hl := lv_entry ([.int n]) (n := 1) (Nat.le_of_ble_eq_true rfl)
  rw [lg_entry_eq]
  generalize (lg_sl ([.int n]) ++ List.replicate (1 - (lg_sl ([.int n])).length) Slot.unset).toArray = ls at hl ⊢
  have hl : lv_has ls 1 [(0, .int n)] := hl
  skip
  refine lv_iload_n hx hb dX8_isName_0 rfl (lv_at hl 0 rfl) ?_
  refine lv_if_lt (tgt := 14) hx hb dX8_isName_1 (by decide) (fun c_1 => ?_) (fun c_1 => ?_)
  · have b_2 := fx_lt (x := n) (C := 0) (by decide) c_1
    refine lv_iconst (v := 0) hx hb dX8_isName_14 (by decide) ?_
    exact W.zret (v := 0) hx hb hr (by decide) (fun t ht hW => ⟨⟨0, (), rfl, (by first | exact (if_pos (by omega)).symm | exact (if_neg (by omega)).symm), trivial⟩, hS.F ht⟩) hS.2.2 dX8_isName_15
  · have b_2 := fn_lt (x := n) (C := 0) (by decide) c_1
    refine lv_iload_n hx hb dX8_isName_4 rfl (lv_at hl 0 rfl) ?_
    refine lv_bipush (v := 8) hx hb dX8_isName_5 (by decide) ?_
    refine lv_icmp_ge (tgt := 14) hx hb dX8_isName_7 (by decide) (fun c_3 => ?_) (fun c_3 => ?_)
    · have b_4 := fx_ge (x := n) (C := 8) (by decide) c_3
      refine lv_iconst (v := 0) hx hb dX8_isName_14 (by decide) ?_
      exact W.zret (v := 0) hx hb hr (by decide) (fun t ht hW => ⟨⟨0, (), rfl, (by first | exact (if_pos (by omega)).symm | exact (if_neg (by omega)).symm), trivial⟩, hS.F ht⟩) hS.2.2 dX8_isName_15
    · have b_4 := fn_ge (x := n) (C := 8) (by decide) c_3
      refine lv_iconst (v := 1) hx hb dX8_isName_10 (by decide) ?_
      refine lv_goto (tgt := 15) hx hb dX8_isName_11 (by decide) ?_
      exact W.zret (v := 1) hx hb hr (by decide) (fun t ht hW => ⟨⟨1, (), rfl, (by first | exact (if_pos (by omega)).symm | exact (if_neg (by omega)).symm), trivial⟩, hS.F ht⟩) hS.2.2 dX8_isName_15
set_option maxHeartbeats 4000000 in
set_option maxRecDepth 100000 in
theorem c_isPlace (l : Launch) (dC : Nat → ClassId) (dI : Nat → Nat → Nat) (sz : Nat) (n : Int32)  : Met l yX8_isPlace (wq yX8_isPlace cX8_isPlace 1 (some .boolean)) ({ frames := 0, cells := 0, slots := 0, locals := 0 }) (va_Pc [.int n] (pcW dC dI [] [] sz)) (va_Qi (fun (r : Int32) (_ : Unit) => r = (if 0 ≤ Int32.toInt n ∧ Int32.toInt n ≤ 3 then 1 else 0)) (fun _ _ => True) (fun q : Nat => sz ≤ q)) 0 0 (fun q : Nat => sz ≤ q) := by
  refine Met.ofW (cc := cX8_isPlace) (maxL := 1) (ret := (some .boolean)) (by decide) rfl ?_
  intro p e s m args below meth c s₁ B hml hv
  obtain ⟨rfl, hsz, hN, hP, hK, hD0⟩ := hv
  have hx := B.exec
  have hb := B.bytes
  have hr := B.returns
  have hts0 := atoms_spec (ws := (wq yX8_isPlace cX8_isPlace 1 (some .boolean))) B.pre
  have hts : ∀ w ∈ BG, w.before _ s = true := fun w h => hts0 w (List.mem_cons_of_mem _ h)
  have hown : s.vm.findClass RX8 = some m.cls := findClass_of_methodNamed B.named
  have hlocks := B.notSynchronized
  subst hsz
  have hA : ∀ q : Nat, s.heap.size ≤ q → (fun q : Nat => s.heap.size ≤ q) q := fun _ h => h
  have hD := hD0
  have hS : va_S (fun q : Nat => s.heap.size ≤ q) s.heap s.heap [] := va_S.rf
  have hP : va_P (dC, dI) vwCl [] s.heap := hP
  have hl := lv_entry ([.int n]) (n := 1) (Nat.le_of_ble_eq_true rfl)
  rw [lg_entry_eq]
  generalize (lg_sl ([.int n]) ++ List.replicate (1 - (lg_sl ([.int n])).length) Slot.unset).toArray = ls at hl ⊢
  have hl : lv_has ls 1 [(0, .int n)] := hl
  skip
  refine lv_iload_n hx hb dX8_isPlace_0 rfl (lv_at hl 0 rfl) ?_
  refine lv_if_lt (tgt := 13) hx hb dX8_isPlace_1 (by decide) (fun c_1 => ?_) (fun c_1 => ?_)
  · have b_2 := fx_lt (x := n) (C := 0) (by decide) c_1
    refine lv_iconst (v := 0) hx hb dX8_isPlace_13 (by decide) ?_
    exact W.zret (v := 0) hx hb hr (by decide) (fun t ht hW => ⟨⟨0, (), rfl, (by first | exact (if_pos (by omega)).symm | exact (if_neg (by omega)).symm), trivial⟩, hS.F ht⟩) hS.2.2 dX8_isPlace_14
  · have b_2 := fn_lt (x := n) (C := 0) (by decide) c_1
    refine lv_iload_n hx hb dX8_isPlace_4 rfl (lv_at hl 0 rfl) ?_
    refine lv_iconst (v := 4) hx hb dX8_isPlace_5 (by decide) ?_
    refine lv_icmp_ge (tgt := 13) hx hb dX8_isPlace_6 (by decide) (fun c_3 => ?_) (fun c_3 => ?_)
    · have b_4 := fx_ge (x := n) (C := 4) (by decide) c_3
      refine lv_iconst (v := 0) hx hb dX8_isPlace_13 (by decide) ?_
      exact W.zret (v := 0) hx hb hr (by decide) (fun t ht hW => ⟨⟨0, (), rfl, (by first | exact (if_pos (by omega)).symm | exact (if_neg (by omega)).symm), trivial⟩, hS.F ht⟩) hS.2.2 dX8_isPlace_14
    · have b_4 := fn_ge (x := n) (C := 4) (by decide) c_3
      refine lv_iconst (v := 1) hx hb dX8_isPlace_9 (by decide) ?_
      refine lv_goto (tgt := 14) hx hb dX8_isPlace_10 (by decide) ?_
      exact W.zret (v := 1) hx hb hr (by decide) (fun t ht hW => ⟨⟨1, (), rfl, (by first | exact (if_pos (by omega)).symm | exact (if_neg (by omega)).symm), trivial⟩, hS.F ht⟩) hS.2.2 dX8_isPlace_14
set_option maxHeartbeats 4000000 in
set_option maxRecDepth 100000 in
theorem c_isIn0 (l : Launch) (dC : Nat → ClassId) (dI : Nat → Nat → Nat) (sz : Nat) (n : Int32)  : Met l yX8_isIn (wq yX8_isIn cX8_isIn 2 (some .boolean)) ({ frames := 0, cells := 0, slots := 0, locals := 0 }) (va_Pc [.int n, .int 0] (pcW dC dI [] [] sz)) (va_Qi (fun (r : Int32) (_ : Unit) => r = 0) (fun _ _ => True) (fun q : Nat => sz ≤ q)) 0 0 (fun q : Nat => sz ≤ q) := by
  refine Met.ofW (cc := cX8_isIn) (maxL := 2) (ret := (some .boolean)) (by decide) rfl ?_
  intro p e s m args below meth c s₁ B hml hv
  obtain ⟨rfl, hsz, hN, hP, hK, hD0⟩ := hv
  have hx := B.exec
  have hb := B.bytes
  have hr := B.returns
  have hts0 := atoms_spec (ws := (wq yX8_isIn cX8_isIn 2 (some .boolean))) B.pre
  have hts : ∀ w ∈ BG, w.before _ s = true := fun w h => hts0 w (List.mem_cons_of_mem _ h)
  have hown : s.vm.findClass RX8 = some m.cls := findClass_of_methodNamed B.named
  have hlocks := B.notSynchronized
  subst hsz
  have hA : ∀ q : Nat, s.heap.size ≤ q → (fun q : Nat => s.heap.size ≤ q) q := fun _ h => h
  have hD := hD0
  have hS : va_S (fun q : Nat => s.heap.size ≤ q) s.heap s.heap [] := va_S.rf
  have hP : va_P (dC, dI) vwCl [] s.heap := hP
  have hl := lv_entry ([.int n, .int 0]) (n := 2) (Nat.le_of_ble_eq_true rfl)
  rw [lg_entry_eq]
  generalize (lg_sl ([.int n, .int 0]) ++ List.replicate (2 - (lg_sl ([.int n, .int 0])).length) Slot.unset).toArray = ls at hl ⊢
  have hl : lv_has ls 2 [(0, .int n), (1, .int 0)] := hl
  skip
  refine lv_iload_n hx hb dX8_isIn_0 rfl (lv_at hl 1 rfl) ?_
  refine lv_iload_n hx hb dX8_isIn_1 rfl (lv_at hl 0 rfl) ?_
  refine lv_ishr hx hb dX8_isIn_2 ?_
  refine hx_top (y := 0) (z_shr _) ?_
  refine lv_iconst (v := 1) hx hb dX8_isIn_3 (by decide) ?_
  refine lv_iand hx hb dX8_isIn_4 ?_
  refine hx_top (y := 0) (by decide) ?_
  refine lv_if_eq (tgt := 12) hx hb dX8_isIn_5 (by decide) (fun _ => ?_) (fun h => absurd (by decide) h)
  refine lv_iconst (v := 0) hx hb dX8_isIn_12 (by decide) ?_
  exact W.zret (v := 0) hx hb hr (by decide) (fun t ht hW => ⟨⟨0, (), rfl, rfl, trivial⟩, hS.F ht⟩) hS.2.2 dX8_isIn_13
end
section
theorem mw_1_55 : Cond.laysFinal RX1 "AnswerLines$Kinds" "above" "[I" ∈ BG := mB (t1 (i := 55) (by decide +kernel)) (by decide +kernel)
theorem mw_1_57 : Cond.laysFinal RX1 "AnswerLines$Kinds" "lengths" "[I" ∈ BG := mB (t1 (i := 57) (by decide +kernel)) (by decide +kernel)
theorem mw_1_59 : Cond.laysFinal RX1 "AnswerLines$Kinds" "quarrels" "[I" ∈ BG := mB (t1 (i := 59) (by decide +kernel)) (by decide +kernel)
theorem mw_1_61 : Cond.laysFinal RX1 "AnswerLines$Kinds" "lines" "[I" ∈ BG := mB (t1 (i := 61) (by decide +kernel)) (by decide +kernel)
theorem mw_1_63 : Cond.laysFinal RX1 "AnswerLines$Kinds" "parents" "[I" ∈ BG := mB (t1 (i := 63) (by decide +kernel)) (by decide +kernel)
theorem mw_1_65 : Cond.laysFinal RX1 "AnswerLines$Kinds" "rows" "LAnswerLines$Rows;" ∈ BG := mB (t1 (i := 65) (by decide +kernel)) (by decide +kernel)
theorem mw_1_67 : Cond.lays RX1 "AnswerLines$Kinds" "count" "I" ∈ BG := mB (t1 (i := 67) (by decide +kernel)) (by decide +kernel)
theorem mw_1_69 : Cond.lays RX1 "AnswerLines$Kinds" "bareBits" "I" ∈ BG := mB (t1 (i := 69) (by decide +kernel)) (by decide +kernel)
theorem inB_1 : ∀ w ∈ u_ws RX1 TX1 8, w ∈ BG := fun w hw => by
  obtain ⟨k, hk, rfl⟩ := List.mem_map.mp hw
  have hk := List.mem_range.mp hk
  rcases (by omega : k = 0 ∨ k = 1 ∨ k = 2 ∨ k = 3 ∨ k = 4 ∨ k = 5 ∨ k = 6 ∨ k = 7) with rfl | rfl | rfl | rfl | rfl | rfl | rfl | rfl
  · exact mw_1_55
  · exact mw_1_57
  · exact mw_1_59
  · exact mw_1_61
  · exact mw_1_63
  · exact mw_1_65
  · exact mw_1_67
  · exact mw_1_69
theorem mw_1_53 : Cond.fieldLink RX1 34 "AnswerLines$Kinds" "count" "I" ∈ BG := mB (t1 (i := 53) (by decide +kernel)) (by decide +kernel)
theorem dX1_knows_0 : decode cX1_knows 0 = .ok (.iload_n 1, 1) := by decide +kernel
theorem dX1_knows_1 : decode cX1_knows 1 = .ok (.ifCond .lt 15, 3) := by decide +kernel
theorem dX1_knows_16 : decode cX1_knows 16 = .ok (.iconst 0, 1) := by decide +kernel
theorem dX1_knows_17 : decode cX1_knows 17 = .ok (.ireturn, 1) := by decide +kernel
theorem dX1_knows_4 : decode cX1_knows 4 = .ok (.iload_n 1, 1) := by decide +kernel
theorem dX1_knows_5 : decode cX1_knows 5 = .ok (.aload_n 0, 1) := by decide +kernel
theorem dX1_knows_6 : decode cX1_knows 6 = .ok (.getfield 34, 3) := by decide +kernel
theorem dX1_knows_9 : decode cX1_knows 9 = .ok (.if_icmp .ge 7, 3) := by decide +kernel
theorem dX1_isFull_0 : decode cX1_isFull 0 = .ok (.aload_n 0, 1) := by decide +kernel
theorem dX1_isFull_1 : decode cX1_isFull 1 = .ok (.getfield 34, 3) := by decide +kernel
theorem dX1_isFull_4 : decode cX1_isFull 4 = .ok (.bipush 10, 2) := by decide +kernel
theorem dX1_isFull_6 : decode cX1_isFull 6 = .ok (.if_icmp .lt 7, 3) := by decide +kernel
theorem dX1_isFull_13 : decode cX1_isFull 13 = .ok (.iconst 0, 1) := by decide +kernel
theorem dX1_isFull_14 : decode cX1_isFull 14 = .ok (.ireturn, 1) := by decide +kernel
theorem dX1_howMany_0 : decode cX1_howMany 0 = .ok (.aload_n 0, 1) := by decide +kernel
theorem dX1_howMany_1 : decode cX1_howMany 1 = .ok (.getfield 34, 3) := by decide +kernel
theorem dX1_howMany_4 : decode cX1_howMany 4 = .ok (.ireturn, 1) := by decide +kernel
set_option maxHeartbeats 4000000 in
set_option maxRecDepth 100000 in
theorem c_knows0 (l : Launch) (dC : Nat → ClassId) (dI : Nat → Nat → Nat) (sz : Nat) (h0 : Nat) (w0 : Value) (w1 : Value) (w2 : Value) (w3 : Value) (w4 : Value) (w5 : Value) (w7 : Value) (n : Int32)  : Met l yX1_knows (wq yX1_knows cX1_knows 2 (some .boolean)) ({ frames := 0, cells := 0, slots := 0, locals := 0 }) (va_Pc [.ref h0, .int n] (pcW dC dI [] [(h0, .inr (1, [w0, w1, w2, w3, w4, w5, .int 0, w7]))] sz)) (va_Qi (fun (r : Int32) (_ : Unit) => r = 0) (fun _ _ => True) (fun q : Nat => sz ≤ q)) 0 0 (fun q : Nat => sz ≤ q) := by
  refine Met.ofW (cc := cX1_knows) (maxL := 2) (ret := (some .boolean)) (by decide) rfl ?_
  intro p e s m args below meth c s₁ B hml hv
  obtain ⟨rfl, hsz, hN, hP, hK, hD0⟩ := hv
  have hx := B.exec
  have hb := B.bytes
  have hr := B.returns
  have hts0 := atoms_spec (ws := (wq yX1_knows cX1_knows 2 (some .boolean))) B.pre
  have hts : ∀ w ∈ BG, w.before _ s = true := fun w h => hts0 w (List.mem_cons_of_mem _ h)
  have hown : s.vm.findClass RX1 = some m.cls := findClass_of_methodNamed B.named
  have hlocks := B.notSynchronized
  subst hsz
  have hA : ∀ q : Nat, s.heap.size ≤ q → (fun q : Nat => s.heap.size ≤ q) q := fun _ h => h
  have hD := hD0
  have hS : va_S (fun q : Nat => s.heap.size ≤ q) s.heap s.heap [] := va_S.rf
  have hP : va_P (dC, dI) vwCl [(h0, .inr (1, [w0, w1, w2, w3, w4, w5, .int 0, w7]))] s.heap := hP
  have hl := lv_entry ([.ref h0, .int n]) (n := 2) (Nat.le_of_ble_eq_true rfl)
  rw [lg_entry_eq]
  generalize (lg_sl ([.ref h0, .int n]) ++ List.replicate (2 - (lg_sl ([.ref h0, .int n])).length) Slot.unset).toArray = ls at hl ⊢
  have hl : lv_has ls 2 [(0, .ref h0), (1, .int n)] := hl
  skip
  refine lv_iload_n hx hb dX1_knows_0 rfl (lv_at hl 1 rfl) ?_
  refine lv_if_lt (tgt := 16) hx hb dX1_knows_1 (by decide) (fun c_1 => ?_) (fun c_1 => ?_)
  · have b_2 := fx_lt (x := n) (C := 0) (by decide) c_1
    refine lv_iconst (v := 0) hx hb dX1_knows_16 (by decide) ?_
    exact W.zret (v := 0) hx hb hr (by decide) (fun t ht hW => ⟨⟨0, (), rfl, rfl, trivial⟩, hS.F ht⟩) hS.2.2 dX1_knows_17
  · have b_2 := fn_lt (x := n) (C := 0) (by decide) c_1
    refine lv_iload_n hx hb dX1_knows_4 rfl (lv_at hl 1 rfl) ?_
    refine lv_aload_n hx hb dX1_knows_5 rfl (lv_at hl 0 rfl) ?_
    refine va_get (D := (dC, dI)) (ci := 1) (v := .int 0) (C := RX1) (T := TX1) (N := 8) hx hb hts inB_1 hown hK hP 0 rfl rfl 6 (by decide) (hts _ mw_1_53) (fun _ h9 => h9) rfl dX1_knows_6 ?_
    refine lv_icmp_ge (tgt := 16) hx hb dX1_knows_9 (by decide) (fun _ => ?_) (fun h => absurd (fn_ge (x := n) (C := 0) (by decide) h) (by omega))
    refine lv_iconst (v := 0) hx hb dX1_knows_16 (by decide) ?_
    exact W.zret (v := 0) hx hb hr (by decide) (fun t ht hW => ⟨⟨0, (), rfl, rfl, trivial⟩, hS.F ht⟩) hS.2.2 dX1_knows_17
set_option maxHeartbeats 4000000 in
set_option maxRecDepth 100000 in
theorem c_isFull (l : Launch) (dC : Nat → ClassId) (dI : Nat → Nat → Nat) (sz : Nat) (h0 : Nat) (w0 : Value) (w1 : Value) (w2 : Value) (w3 : Value) (w4 : Value) (w5 : Value) (w7 : Value)  : Met l yX1_isFull (wq yX1_isFull cX1_isFull 1 (some .boolean)) ({ frames := 0, cells := 0, slots := 0, locals := 0 }) (va_Pc [.ref h0] (pcW dC dI [] [(h0, .inr (1, [w0, w1, w2, w3, w4, w5, .int 0, w7]))] sz)) (va_Qi (fun (r : Int32) (_ : Unit) => r = 0) (fun _ _ => True) (fun q : Nat => sz ≤ q)) 0 0 (fun q : Nat => sz ≤ q) := by
  refine Met.ofW (cc := cX1_isFull) (maxL := 1) (ret := (some .boolean)) (by decide) rfl ?_
  intro p e s m args below meth c s₁ B hml hv
  obtain ⟨rfl, hsz, hN, hP, hK, hD0⟩ := hv
  have hx := B.exec
  have hb := B.bytes
  have hr := B.returns
  have hts0 := atoms_spec (ws := (wq yX1_isFull cX1_isFull 1 (some .boolean))) B.pre
  have hts : ∀ w ∈ BG, w.before _ s = true := fun w h => hts0 w (List.mem_cons_of_mem _ h)
  have hown : s.vm.findClass RX1 = some m.cls := findClass_of_methodNamed B.named
  have hlocks := B.notSynchronized
  subst hsz
  have hA : ∀ q : Nat, s.heap.size ≤ q → (fun q : Nat => s.heap.size ≤ q) q := fun _ h => h
  have hD := hD0
  have hS : va_S (fun q : Nat => s.heap.size ≤ q) s.heap s.heap [] := va_S.rf
  have hP : va_P (dC, dI) vwCl [(h0, .inr (1, [w0, w1, w2, w3, w4, w5, .int 0, w7]))] s.heap := hP
  have hl := lv_entry ([.ref h0]) (n := 1) (Nat.le_of_ble_eq_true rfl)
  rw [lg_entry_eq]
  generalize (lg_sl ([.ref h0]) ++ List.replicate (1 - (lg_sl ([.ref h0])).length) Slot.unset).toArray = ls at hl ⊢
  have hl : lv_has ls 1 [(0, .ref h0)] := hl
  skip
  refine lv_aload_n hx hb dX1_isFull_0 rfl (lv_at hl 0 rfl) ?_
  refine va_get (D := (dC, dI)) (ci := 1) (v := .int 0) (C := RX1) (T := TX1) (N := 8) hx hb hts inB_1 hown hK hP 0 rfl rfl 6 (by decide) (hts _ mw_1_53) (fun _ h9 => h9) rfl dX1_isFull_1 ?_
  refine lv_bipush (v := 10) hx hb dX1_isFull_4 (by decide) ?_
  refine lv_icmp_lt (tgt := 13) hx hb dX1_isFull_6 (by decide) (fun _ => ?_) (fun h => absurd (by decide) h)
  refine lv_iconst (v := 0) hx hb dX1_isFull_13 (by decide) ?_
  exact W.zret (v := 0) hx hb hr (by decide) (fun t ht hW => ⟨⟨0, (), rfl, rfl, trivial⟩, hS.F ht⟩) hS.2.2 dX1_isFull_14
set_option maxHeartbeats 4000000 in
set_option maxRecDepth 100000 in
theorem c_howMany (l : Launch) (dC : Nat → ClassId) (dI : Nat → Nat → Nat) (sz : Nat) (h0 : Nat) (w0 : Value) (w1 : Value) (w2 : Value) (w3 : Value) (w4 : Value) (w5 : Value) (w7 : Value)  : Met l yX1_howMany (wq yX1_howMany cX1_howMany 1 (some .int)) ({ frames := 0, cells := 0, slots := 0, locals := 0 }) (va_Pc [.ref h0] (pcW dC dI [] [(h0, .inr (1, [w0, w1, w2, w3, w4, w5, .int 0, w7]))] sz)) (va_Qi (fun (r : Int32) (_ : Unit) => r = 0) (fun _ _ => True) (fun q : Nat => sz ≤ q)) 0 0 (fun q : Nat => sz ≤ q) := by
  refine Met.ofW (cc := cX1_howMany) (maxL := 1) (ret := (some .int)) (by decide) rfl ?_
  intro p e s m args below meth c s₁ B hml hv
  obtain ⟨rfl, hsz, hN, hP, hK, hD0⟩ := hv
  have hx := B.exec
  have hb := B.bytes
  have hr := B.returns
  have hts0 := atoms_spec (ws := (wq yX1_howMany cX1_howMany 1 (some .int))) B.pre
  have hts : ∀ w ∈ BG, w.before _ s = true := fun w h => hts0 w (List.mem_cons_of_mem _ h)
  have hown : s.vm.findClass RX1 = some m.cls := findClass_of_methodNamed B.named
  have hlocks := B.notSynchronized
  subst hsz
  have hA : ∀ q : Nat, s.heap.size ≤ q → (fun q : Nat => s.heap.size ≤ q) q := fun _ h => h
  have hD := hD0
  have hS : va_S (fun q : Nat => s.heap.size ≤ q) s.heap s.heap [] := va_S.rf
  have hP : va_P (dC, dI) vwCl [(h0, .inr (1, [w0, w1, w2, w3, w4, w5, .int 0, w7]))] s.heap := hP
  have hl := lv_entry ([.ref h0]) (n := 1) (Nat.le_of_ble_eq_true rfl)
  rw [lg_entry_eq]
  generalize (lg_sl ([.ref h0]) ++ List.replicate (1 - (lg_sl ([.ref h0])).length) Slot.unset).toArray = ls at hl ⊢
  have hl : lv_has ls 1 [(0, .ref h0)] := hl
  skip
  refine lv_aload_n hx hb dX1_howMany_0 rfl (lv_at hl 0 rfl) ?_
  refine va_get (D := (dC, dI)) (ci := 1) (v := .int 0) (C := RX1) (T := TX1) (N := 8) hx hb hts inB_1 hown hK hP 0 rfl rfl 6 (by decide) (hts _ mw_1_53) (fun _ h9 => h9) rfl dX1_howMany_1 ?_
  exact W.iret (v := 0) hx hb hr (fun t ht hW => ⟨⟨0, (), rfl, rfl, trivial⟩, hS.F ht⟩) hS.2.2 dX1_howMany_4
end
