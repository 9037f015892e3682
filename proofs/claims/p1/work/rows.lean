section
-- ===== PART A: goes FIRST, ahead of the names: the tables' words, and 'selects' of the private methods out of them =====
/-- a private method of a class that the tables say can be made, by its rows of tables_1 -/
def lw_okq (q : MethodName × Nat) : Prop := (q.1.cls ≠ "java/lang/invoke/MethodHandle" ∧ q.1.cls ≠ "java/lang/invoke/VarHandle") ∧ Cond.instantiable q.1.cls q.2 ∈ tables_1 ∧ Cond.privateMethod q.1 ∈ tables_1 ∧ Cond.instanceMethod q.1 ∈ tables_1
theorem lw_p0 : lw_okq (⟨"AnswerLines$Kinds", "layLine", "(II)V"⟩, 8) := ⟨⟨by decide +kernel, by decide +kernel⟩, List.mem_of_getElem? (i := 22) (by decide +kernel), List.mem_of_getElem? (i := 218) (by decide +kernel), List.mem_of_getElem? (i := 219) (by decide +kernel)⟩
theorem lw_p1 : lw_okq (⟨"AnswerLines$Kinds", "layRows", "(I)V"⟩, 8) := ⟨⟨by decide +kernel, by decide +kernel⟩, List.mem_of_getElem? (i := 22) (by decide +kernel), List.mem_of_getElem? (i := 222) (by decide +kernel), List.mem_of_getElem? (i := 223) (by decide +kernel)⟩
theorem lw_p2 : lw_okq (⟨"AnswerLines$Rows", "tail", "(I)I"⟩, 4) := ⟨⟨by decide +kernel, by decide +kernel⟩, List.mem_of_getElem? (i := 28) (by decide +kernel), List.mem_of_getElem? (i := 246) (by decide +kernel), List.mem_of_getElem? (i := 247) (by decide +kernel)⟩
theorem lw_p3 : lw_okq (⟨"AnswerLines$Rows", "head", "(I)I"⟩, 4) := ⟨⟨by decide +kernel, by decide +kernel⟩, List.mem_of_getElem? (i := 28) (by decide +kernel), List.mem_of_getElem? (i := 250) (by decide +kernel), List.mem_of_getElem? (i := 251) (by decide +kernel)⟩
theorem lw_p4 : lw_okq (⟨"AnswerLines$Runner", "work", "(LAnswerLines$Kinds;LAnswerLines$Bodies;III)I"⟩, 4) := ⟨⟨by decide +kernel, by decide +kernel⟩, List.mem_of_getElem? (i := 103) (by decide +kernel), List.mem_of_getElem? (i := 406) (by decide +kernel), List.mem_of_getElem? (i := 407) (by decide +kernel)⟩
theorem lw_p5 : lw_okq (⟨"AnswerLines$Runner", "sayDigit", "(I)I"⟩, 4) := ⟨⟨by decide +kernel, by decide +kernel⟩, List.mem_of_getElem? (i := 103) (by decide +kernel), List.mem_of_getElem? (i := 422) (by decide +kernel), List.mem_of_getElem? (i := 423) (by decide +kernel)⟩
theorem lw_p6 : lw_okq (⟨"AnswerLines$Table", "findTogether", "()V"⟩, 5) := ⟨⟨by decide +kernel, by decide +kernel⟩, List.mem_of_getElem? (i := 122) (by decide +kernel), List.mem_of_getElem? (i := 502) (by decide +kernel), List.mem_of_getElem? (i := 503) (by decide +kernel)⟩
theorem lw_p7 : lw_okq (⟨"AnswerLines$Table", "fitInto", "(III)Z"⟩, 5) := ⟨⟨by decide +kernel, by decide +kernel⟩, List.mem_of_getElem? (i := 122) (by decide +kernel), List.mem_of_getElem? (i := 507) (by decide +kernel), List.mem_of_getElem? (i := 508) (by decide +kernel)⟩
theorem lw_p8 : lw_okq (⟨"AnswerLines$Table", "isFree", "(II)Z"⟩, 5) := ⟨⟨by decide +kernel, by decide +kernel⟩, List.mem_of_getElem? (i := 122) (by decide +kernel), List.mem_of_getElem? (i := 511) (by decide +kernel), List.mem_of_getElem? (i := 512) (by decide +kernel)⟩
theorem lw_p9 : lw_okq (⟨"AnswerLines$Table", "pushRow", "(I)I"⟩, 5) := ⟨⟨by decide +kernel, by decide +kernel⟩, List.mem_of_getElem? (i := 122) (by decide +kernel), List.mem_of_getElem? (i := 529) (by decide +kernel), List.mem_of_getElem? (i := 530) (by decide +kernel)⟩
theorem lw_p10 : lw_okq (⟨"AnswerLines$Table", "leastPlace", "(I)I"⟩, 5) := ⟨⟨by decide +kernel, by decide +kernel⟩, List.mem_of_getElem? (i := 122) (by decide +kernel), List.mem_of_getElem? (i := 533) (by decide +kernel), List.mem_of_getElem? (i := 534) (by decide +kernel)⟩
theorem lw_p11 : lw_okq (⟨"AnswerLines$Table", "isOpen", "(II)Z"⟩, 5) := ⟨⟨by decide +kernel, by decide +kernel⟩, List.mem_of_getElem? (i := 122) (by decide +kernel), List.mem_of_getElem? (i := 537) (by decide +kernel), List.mem_of_getElem? (i := 538) (by decide +kernel)⟩
theorem lw_p12 : lw_okq (⟨"AnswerLines$Places", "whereRecent", "(I)I"⟩, 6) := ⟨⟨by decide +kernel, by decide +kernel⟩, List.mem_of_getElem? (i := 144) (by decide +kernel), List.mem_of_getElem? (i := 612) (by decide +kernel), List.mem_of_getElem? (i := 613) (by decide +kernel)⟩
theorem lw_p13 : lw_okq (⟨"AnswerLines$Places", "putFirst", "(II)V"⟩, 6) := ⟨⟨by decide +kernel, by decide +kernel⟩, List.mem_of_getElem? (i := 144) (by decide +kernel), List.mem_of_getElem? (i := 616) (by decide +kernel), List.mem_of_getElem? (i := 617) (by decide +kernel)⟩
theorem lw_p14 : lw_okq (⟨"AnswerLines$Places", "longestUnused", "(III)I"⟩, 6) := ⟨⟨by decide +kernel, by decide +kernel⟩, List.mem_of_getElem? (i := 144) (by decide +kernel), List.mem_of_getElem? (i := 626) (by decide +kernel), List.mem_of_getElem? (i := 627) (by decide +kernel)⟩
theorem lw_p15 : lw_okq (⟨"AnswerLinesModel", "isKind", "(I)Z"⟩, 35) := ⟨⟨by decide +kernel, by decide +kernel⟩, List.mem_of_getElem? (i := 657) (by decide +kernel), List.mem_of_getElem? (i := 774) (by decide +kernel), List.mem_of_getElem? (i := 775) (by decide +kernel)⟩
def lw_privs_1 : List (MethodName × Nat) := [(⟨"AnswerLines$Kinds", "layLine", "(II)V"⟩, 8), (⟨"AnswerLines$Kinds", "layRows", "(I)V"⟩, 8), (⟨"AnswerLines$Rows", "tail", "(I)I"⟩, 4), (⟨"AnswerLines$Rows", "head", "(I)I"⟩, 4), (⟨"AnswerLines$Runner", "work", "(LAnswerLines$Kinds;LAnswerLines$Bodies;III)I"⟩, 4), (⟨"AnswerLines$Runner", "sayDigit", "(I)I"⟩, 4), (⟨"AnswerLines$Table", "findTogether", "()V"⟩, 5), (⟨"AnswerLines$Table", "fitInto", "(III)Z"⟩, 5), (⟨"AnswerLines$Table", "isFree", "(II)Z"⟩, 5), (⟨"AnswerLines$Table", "pushRow", "(I)I"⟩, 5), (⟨"AnswerLines$Table", "leastPlace", "(I)I"⟩, 5), (⟨"AnswerLines$Table", "isOpen", "(II)Z"⟩, 5), (⟨"AnswerLines$Places", "whereRecent", "(I)I"⟩, 6), (⟨"AnswerLines$Places", "putFirst", "(II)V"⟩, 6), (⟨"AnswerLines$Places", "longestUnused", "(III)I"⟩, 6), (⟨"AnswerLinesModel", "isKind", "(I)Z"⟩, 35)]
theorem lw_r1 : ∀ q ∈ lw_privs_1, lw_okq q := List.forall_mem_cons.mpr ⟨lw_p0, List.forall_mem_cons.mpr ⟨lw_p1, List.forall_mem_cons.mpr ⟨lw_p2, List.forall_mem_cons.mpr ⟨lw_p3, List.forall_mem_cons.mpr ⟨lw_p4, List.forall_mem_cons.mpr ⟨lw_p5, List.forall_mem_cons.mpr ⟨lw_p6, List.forall_mem_cons.mpr ⟨lw_p7, List.forall_mem_cons.mpr ⟨lw_p8, List.forall_mem_cons.mpr ⟨lw_p9, List.forall_mem_cons.mpr ⟨lw_p10, List.forall_mem_cons.mpr ⟨lw_p11, List.forall_mem_cons.mpr ⟨lw_p12, List.forall_mem_cons.mpr ⟨lw_p13, List.forall_mem_cons.mpr ⟨lw_p14, List.forall_mem_cons.mpr ⟨lw_p15, fun _ h => absurd h List.not_mem_nil⟩⟩⟩⟩⟩⟩⟩⟩⟩⟩⟩⟩⟩⟩⟩⟩
theorem lw_p16 : lw_okq (⟨"AnswerLinesModel", "layLine", "(I)V"⟩, 35) := ⟨⟨by decide +kernel, by decide +kernel⟩, List.mem_of_getElem? (i := 657) (by decide +kernel), List.mem_of_getElem? (i := 782) (by decide +kernel), List.mem_of_getElem? (i := 783) (by decide +kernel)⟩
theorem lw_p17 : lw_okq (⟨"AnswerLinesModel", "nextHead", "()I"⟩, 35) := ⟨⟨by decide +kernel, by decide +kernel⟩, List.mem_of_getElem? (i := 657) (by decide +kernel), List.mem_of_getElem? (i := 786) (by decide +kernel), List.mem_of_getElem? (i := 787) (by decide +kernel)⟩
theorem lw_p18 : lw_okq (⟨"AnswerLinesModel", "isWithin", "(I)Z"⟩, 35) := ⟨⟨by decide +kernel, by decide +kernel⟩, List.mem_of_getElem? (i := 657) (by decide +kernel), List.mem_of_getElem? (i := 790) (by decide +kernel), List.mem_of_getElem? (i := 791) (by decide +kernel)⟩
theorem lw_p19 : lw_okq (⟨"AnswerLinesModel", "belowOf", "(I)I"⟩, 35) := ⟨⟨by decide +kernel, by decide +kernel⟩, List.mem_of_getElem? (i := 657) (by decide +kernel), List.mem_of_getElem? (i := 802) (by decide +kernel), List.mem_of_getElem? (i := 803) (by decide +kernel)⟩
theorem lw_p20 : lw_okq (⟨"AnswerLinesModel", "hasName", "(II)Z"⟩, 35) := ⟨⟨by decide +kernel, by decide +kernel⟩, List.mem_of_getElem? (i := 657) (by decide +kernel), List.mem_of_getElem? (i := 844) (by decide +kernel), List.mem_of_getElem? (i := 845) (by decide +kernel)⟩
theorem lw_p21 : lw_okq (⟨"AnswerLinesModel", "answerOf", "(III)I"⟩, 35) := ⟨⟨by decide +kernel, by decide +kernel⟩, List.mem_of_getElem? (i := 657) (by decide +kernel), List.mem_of_getElem? (i := 856) (by decide +kernel), List.mem_of_getElem? (i := 857) (by decide +kernel)⟩
theorem lw_p22 : lw_okq (⟨"AnswerLinesModel", "placeOf", "(III)I"⟩, 35) := ⟨⟨by decide +kernel, by decide +kernel⟩, List.mem_of_getElem? (i := 657) (by decide +kernel), List.mem_of_getElem? (i := 860) (by decide +kernel), List.mem_of_getElem? (i := 861) (by decide +kernel)⟩
theorem lw_p23 : lw_okq (⟨"AnswerLinesModel", "runAll", "(II)V"⟩, 35) := ⟨⟨by decide +kernel, by decide +kernel⟩, List.mem_of_getElem? (i := 657) (by decide +kernel), List.mem_of_getElem? (i := 872) (by decide +kernel), List.mem_of_getElem? (i := 873) (by decide +kernel)⟩
theorem lw_p24 : lw_okq (⟨"AnswerLinesModel", "begin", "(III)V"⟩, 35) := ⟨⟨by decide +kernel, by decide +kernel⟩, List.mem_of_getElem? (i := 657) (by decide +kernel), List.mem_of_getElem? (i := 876) (by decide +kernel), List.mem_of_getElem? (i := 877) (by decide +kernel)⟩
theorem lw_p25 : lw_okq (⟨"AnswerLinesModel", "work", "(III)V"⟩, 35) := ⟨⟨by decide +kernel, by decide +kernel⟩, List.mem_of_getElem? (i := 657) (by decide +kernel), List.mem_of_getElem? (i := 880) (by decide +kernel), List.mem_of_getElem? (i := 881) (by decide +kernel)⟩
theorem lw_p26 : lw_okq (⟨"AnswerLinesModel", "havingOf", "(I)I"⟩, 35) := ⟨⟨by decide +kernel, by decide +kernel⟩, List.mem_of_getElem? (i := 657) (by decide +kernel), List.mem_of_getElem? (i := 888) (by decide +kernel), List.mem_of_getElem? (i := 889) (by decide +kernel)⟩
theorem lw_p27 : lw_okq (⟨"AnswerLinesModel", "nearestOf", "(II)I"⟩, 35) := ⟨⟨by decide +kernel, by decide +kernel⟩, List.mem_of_getElem? (i := 657) (by decide +kernel), List.mem_of_getElem? (i := 892) (by decide +kernel), List.mem_of_getElem? (i := 893) (by decide +kernel)⟩
theorem lw_p28 : lw_okq (⟨"AnswerLinesModel", "doubtBy", "(I)I"⟩, 35) := ⟨⟨by decide +kernel, by decide +kernel⟩, List.mem_of_getElem? (i := 657) (by decide +kernel), List.mem_of_getElem? (i := 900) (by decide +kernel), List.mem_of_getElem? (i := 901) (by decide +kernel)⟩
theorem lw_p29 : lw_okq (⟨"AnswerLinesModel", "findColumns", "()V"⟩, 35) := ⟨⟨by decide +kernel, by decide +kernel⟩, List.mem_of_getElem? (i := 657) (by decide +kernel), List.mem_of_getElem? (i := 919) (by decide +kernel), List.mem_of_getElem? (i := 920) (by decide +kernel)⟩
theorem lw_p30 : lw_okq (⟨"AnswerLinesModel", "answeredBy", "(I)I"⟩, 35) := ⟨⟨by decide +kernel, by decide +kernel⟩, List.mem_of_getElem? (i := 657) (by decide +kernel), List.mem_of_getElem? (i := 923) (by decide +kernel), List.mem_of_getElem? (i := 924) (by decide +kernel)⟩
theorem lw_p31 : lw_okq (⟨"AnswerLinesModel", "isRow", "(I)Z"⟩, 35) := ⟨⟨by decide +kernel, by decide +kernel⟩, List.mem_of_getElem? (i := 657) (by decide +kernel), List.mem_of_getElem? (i := 927) (by decide +kernel), List.mem_of_getElem? (i := 928) (by decide +kernel)⟩
def lw_privs_2 : List (MethodName × Nat) := [(⟨"AnswerLinesModel", "layLine", "(I)V"⟩, 35), (⟨"AnswerLinesModel", "nextHead", "()I"⟩, 35), (⟨"AnswerLinesModel", "isWithin", "(I)Z"⟩, 35), (⟨"AnswerLinesModel", "belowOf", "(I)I"⟩, 35), (⟨"AnswerLinesModel", "hasName", "(II)Z"⟩, 35), (⟨"AnswerLinesModel", "answerOf", "(III)I"⟩, 35), (⟨"AnswerLinesModel", "placeOf", "(III)I"⟩, 35), (⟨"AnswerLinesModel", "runAll", "(II)V"⟩, 35), (⟨"AnswerLinesModel", "begin", "(III)V"⟩, 35), (⟨"AnswerLinesModel", "work", "(III)V"⟩, 35), (⟨"AnswerLinesModel", "havingOf", "(I)I"⟩, 35), (⟨"AnswerLinesModel", "nearestOf", "(II)I"⟩, 35), (⟨"AnswerLinesModel", "doubtBy", "(I)I"⟩, 35), (⟨"AnswerLinesModel", "findColumns", "()V"⟩, 35), (⟨"AnswerLinesModel", "answeredBy", "(I)I"⟩, 35), (⟨"AnswerLinesModel", "isRow", "(I)Z"⟩, 35)]
theorem lw_r2 : ∀ q ∈ lw_privs_2, lw_okq q := List.forall_mem_cons.mpr ⟨lw_p16, List.forall_mem_cons.mpr ⟨lw_p17, List.forall_mem_cons.mpr ⟨lw_p18, List.forall_mem_cons.mpr ⟨lw_p19, List.forall_mem_cons.mpr ⟨lw_p20, List.forall_mem_cons.mpr ⟨lw_p21, List.forall_mem_cons.mpr ⟨lw_p22, List.forall_mem_cons.mpr ⟨lw_p23, List.forall_mem_cons.mpr ⟨lw_p24, List.forall_mem_cons.mpr ⟨lw_p25, List.forall_mem_cons.mpr ⟨lw_p26, List.forall_mem_cons.mpr ⟨lw_p27, List.forall_mem_cons.mpr ⟨lw_p28, List.forall_mem_cons.mpr ⟨lw_p29, List.forall_mem_cons.mpr ⟨lw_p30, List.forall_mem_cons.mpr ⟨lw_p31, fun _ h => absurd h List.not_mem_nil⟩⟩⟩⟩⟩⟩⟩⟩⟩⟩⟩⟩⟩⟩⟩⟩
theorem lw_p32 : lw_okq (⟨"AnswerLinesModel", "fill", "(II)Z"⟩, 35) := ⟨⟨by decide +kernel, by decide +kernel⟩, List.mem_of_getElem? (i := 657) (by decide +kernel), List.mem_of_getElem? (i := 931) (by decide +kernel), List.mem_of_getElem? (i := 932) (by decide +kernel)⟩
theorem lw_p33 : lw_okq (⟨"AnswerLinesModel", "greatestAhead", "(I)I"⟩, 35) := ⟨⟨by decide +kernel, by decide +kernel⟩, List.mem_of_getElem? (i := 657) (by decide +kernel), List.mem_of_getElem? (i := 935) (by decide +kernel), List.mem_of_getElem? (i := 936) (by decide +kernel)⟩
theorem lw_p34 : lw_okq (⟨"AnswerLinesModel", "isFree", "(I)Z"⟩, 35) := ⟨⟨by decide +kernel, by decide +kernel⟩, List.mem_of_getElem? (i := 657) (by decide +kernel), List.mem_of_getElem? (i := 939) (by decide +kernel), List.mem_of_getElem? (i := 940) (by decide +kernel)⟩
theorem lw_p35 : lw_okq (⟨"AnswerLinesModel", "pack", "()V"⟩, 35) := ⟨⟨by decide +kernel, by decide +kernel⟩, List.mem_of_getElem? (i := 657) (by decide +kernel), List.mem_of_getElem? (i := 947) (by decide +kernel), List.mem_of_getElem? (i := 948) (by decide +kernel)⟩
theorem lw_p36 : lw_okq (⟨"AnswerLinesModel", "isOpenAt", "(II)Z"⟩, 35) := ⟨⟨by decide +kernel, by decide +kernel⟩, List.mem_of_getElem? (i := 657) (by decide +kernel), List.mem_of_getElem? (i := 951) (by decide +kernel), List.mem_of_getElem? (i := 952) (by decide +kernel)⟩
theorem lw_p37 : lw_okq (⟨"AnswerLinesModel", "hitsBy", "(IIZ)I"⟩, 35) := ⟨⟨by decide +kernel, by decide +kernel⟩, List.mem_of_getElem? (i := 657) (by decide +kernel), List.mem_of_getElem? (i := 984) (by decide +kernel), List.mem_of_getElem? (i := 985) (by decide +kernel)⟩
theorem lw_p38 : lw_okq (⟨"AnswerLinesModel", "whereIs", "(I)I"⟩, 35) := ⟨⟨by decide +kernel, by decide +kernel⟩, List.mem_of_getElem? (i := 657) (by decide +kernel), List.mem_of_getElem? (i := 988) (by decide +kernel), List.mem_of_getElem? (i := 989) (by decide +kernel)⟩
theorem lw_p39 : lw_okq (⟨"AnswerLinesModel", "takeOut", "(I)V"⟩, 35) := ⟨⟨by decide +kernel, by decide +kernel⟩, List.mem_of_getElem? (i := 657) (by decide +kernel), List.mem_of_getElem? (i := 992) (by decide +kernel), List.mem_of_getElem? (i := 993) (by decide +kernel)⟩
theorem lw_p40 : lw_okq (⟨"AnswerLinesModel", "farthest", "(II)I"⟩, 35) := ⟨⟨by decide +kernel, by decide +kernel⟩, List.mem_of_getElem? (i := 657) (by decide +kernel), List.mem_of_getElem? (i := 996) (by decide +kernel), List.mem_of_getElem? (i := 997) (by decide +kernel)⟩
theorem lw_p41 : lw_okq (⟨"AnswerLinesModel", "nextCall", "(III)I"⟩, 35) := ⟨⟨by decide +kernel, by decide +kernel⟩, List.mem_of_getElem? (i := 657) (by decide +kernel), List.mem_of_getElem? (i := 1000) (by decide +kernel), List.mem_of_getElem? (i := 1001) (by decide +kernel)⟩
theorem lw_p42 : lw_okq (⟨"AnswerLinesModel", "putFirst", "(I)V"⟩, 35) := ⟨⟨by decide +kernel, by decide +kernel⟩, List.mem_of_getElem? (i := 657) (by decide +kernel), List.mem_of_getElem? (i := 1004) (by decide +kernel), List.mem_of_getElem? (i := 1005) (by decide +kernel)⟩
def lw_privs_3 : List (MethodName × Nat) := [(⟨"AnswerLinesModel", "fill", "(II)Z"⟩, 35), (⟨"AnswerLinesModel", "greatestAhead", "(I)I"⟩, 35), (⟨"AnswerLinesModel", "isFree", "(I)Z"⟩, 35), (⟨"AnswerLinesModel", "pack", "()V"⟩, 35), (⟨"AnswerLinesModel", "isOpenAt", "(II)Z"⟩, 35), (⟨"AnswerLinesModel", "hitsBy", "(IIZ)I"⟩, 35), (⟨"AnswerLinesModel", "whereIs", "(I)I"⟩, 35), (⟨"AnswerLinesModel", "takeOut", "(I)V"⟩, 35), (⟨"AnswerLinesModel", "farthest", "(II)I"⟩, 35), (⟨"AnswerLinesModel", "nextCall", "(III)I"⟩, 35), (⟨"AnswerLinesModel", "putFirst", "(I)V"⟩, 35)]
theorem lw_r3 : ∀ q ∈ lw_privs_3, lw_okq q := List.forall_mem_cons.mpr ⟨lw_p32, List.forall_mem_cons.mpr ⟨lw_p33, List.forall_mem_cons.mpr ⟨lw_p34, List.forall_mem_cons.mpr ⟨lw_p35, List.forall_mem_cons.mpr ⟨lw_p36, List.forall_mem_cons.mpr ⟨lw_p37, List.forall_mem_cons.mpr ⟨lw_p38, List.forall_mem_cons.mpr ⟨lw_p39, List.forall_mem_cons.mpr ⟨lw_p40, List.forall_mem_cons.mpr ⟨lw_p41, List.forall_mem_cons.mpr ⟨lw_p42, fun _ h => absurd h List.not_mem_nil⟩⟩⟩⟩⟩⟩⟩⟩⟩⟩⟩
def lw_privs : List (MethodName × Nat) := lw_privs_1 ++ (lw_privs_2 ++ (lw_privs_3))
def lw_tbl : List Cond := k2_sels lw_privs ++ tables_1
theorem lw_privs_ok : ∀ q ∈ lw_privs, lw_okq q := by
  show ∀ q ∈ lw_privs_1 ++ (lw_privs_2 ++ (lw_privs_3)), lw_okq q
  exact List.forall_mem_append.mpr ⟨lw_r1, List.forall_mem_append.mpr ⟨lw_r2, lw_r3⟩⟩
end
section
/-! ===== BEGIN words of one list among another's, by their places ===== -/
theorem goodIn_r {big : List Cond} (ws : List Cond) (ps : List Nat) (hp : ws = ps.filterMap (fun i => big[i]?)) (h : ws.all goodWord = true) : GoodIn big ws := by
  intro w hw
  have h1 := List.all_eq_true.mp h w hw
  rw [hp] at hw
  obtain ⟨i, -, hi⟩ := List.mem_filterMap.mp hw
  have hm : w ∈ big := by first | exact List.mem_of_getElem? hi | exact List.getElem?_mem hi
  exact ⟨hm, good_of_word h1⟩
theorem goodIn_app {big a b : List Cond} (ha : GoodIn big a) (hb : GoodIn big b) : GoodIn big (a ++ b) := fun w h => (List.mem_append.mp h).elim (ha w) (hb w)
theorem goodIn_ca {big a b : List Cond} {c : Cond} (ha : GoodIn big (c :: a)) (hb : GoodIn big b) : GoodIn big (c :: (a ++ b)) := fun w h => (List.mem_cons.mp h).elim (fun e => ha w (List.mem_cons.mpr (Or.inl e))) (fun h => (List.mem_append.mp h).elim (fun h => ha w (List.mem_cons.mpr (Or.inr h))) (hb w))
theorem goodIn_sub {big ws : List Cond} (hm : ∀ w ∈ ws, w ∈ big) (h : ws.all goodWord = true) : GoodIn big ws := fun w hw => ⟨hm w hw, good_of_word (List.all_eq_true.mp h w hw)⟩
/-! ===== END ===== -/

/-! ===== BEGIN printed: names, fields, word lists, decode rows ===== -/
def RX0 : String := "AnswerLines$Bodies"
def TX0 : u_T := fun k => match k with
  | 0 => ("AnswerLines$Bodies", "owners", "[I", true)
  | 1 => ("AnswerLines$Bodies", "lengths", "[I", true)
  | _ => ("AnswerLines$Bodies", "signs", "[C", true)
def tyX0 : Nat → FieldType := fun k => match k with
  | 0 => .array .int
  | 1 => .array .int
  | _ => .array .char
abbrev wsX00 : List Cond := u_ws RX0 TX0 3
theorem nmX0 : ∀ a, a < 3 → ∀ b, b < 3 → a ≠ b → (TX0 a).2.1 ≠ (TX0 b).2.1 := by decide +kernel
theorem tyX0_ok : ∀ k, k < 3 → parseFieldDescriptor (TX0 k).2.2.1 = some (tyX0 k) := by decide +kernel
abbrev cX0_init : ByteArray := prog_2_method_1_code
def yX0_init : MethodName := ⟨RX0, "<init>", "()V"⟩
abbrev cX0_ownersOf : ByteArray := prog_2_method_2_code
def yX0_ownersOf : MethodName := ⟨RX0, "ownersOf", "(I)I"⟩
abbrev cX0_isOwner : ByteArray := prog_2_method_3_code
def yX0_isOwner : MethodName := ⟨RX0, "isOwner", "(II)Z"⟩
abbrev cX0_namesOf : ByteArray := prog_2_method_4_code
def yX0_namesOf : MethodName := ⟨RX0, "namesOf", "(I)I"⟩
abbrev cX0_give : ByteArray := prog_2_method_5_code
def yX0_give : MethodName := ⟨RX0, "give", "(IILAnswerLines$Pad;)V"⟩
abbrev cX0_takeAway : ByteArray := prog_2_method_6_code
def yX0_takeAway : MethodName := ⟨RX0, "takeAway", "(II)I"⟩
abbrev cX0_lengthOf : ByteArray := prog_2_method_7_code
def yX0_lengthOf : MethodName := ⟨RX0, "lengthOf", "(II)I"⟩
abbrev cX0_sign : ByteArray := prog_2_method_8_code
def yX0_sign : MethodName := ⟨RX0, "sign", "(III)C"⟩
abbrev cX0_isBody : ByteArray := prog_2_method_9_code
def yX0_isBody : MethodName := ⟨RX0, "isBody", "(II)Z"⟩
def RX1 : String := "AnswerLines$Kinds"
def TX1 : u_T := fun k => match k with
  | 0 => ("AnswerLines$Kinds", "above", "[I", true)
  | 1 => ("AnswerLines$Kinds", "lengths", "[I", true)
  | 2 => ("AnswerLines$Kinds", "quarrels", "[I", true)
  | 3 => ("AnswerLines$Kinds", "lines", "[I", true)
  | 4 => ("AnswerLines$Kinds", "parents", "[I", true)
  | 5 => ("AnswerLines$Kinds", "rows", "LAnswerLines$Rows;", true)
  | 6 => ("AnswerLines$Kinds", "count", "I", false)
  | _ => ("AnswerLines$Kinds", "bareBits", "I", false)
def tyX1 : Nat → FieldType := fun k => match k with
  | 0 => .array .int
  | 1 => .array .int
  | 2 => .array .int
  | 3 => .array .int
  | 4 => .array .int
  | 5 => .object "AnswerLines$Rows"
  | 6 => .int
  | _ => .int
abbrev wsX10 : List Cond := u_ws RX1 TX1 8
theorem nmX1 : ∀ a, a < 8 → ∀ b, b < 8 → a ≠ b → (TX1 a).2.1 ≠ (TX1 b).2.1 := by decide +kernel
theorem tyX1_ok : ∀ k, k < 8 → parseFieldDescriptor (TX1 k).2.2.1 = some (tyX1 k) := by decide +kernel
abbrev cX1_init : ByteArray := prog_3_method_1_code
def yX1_init : MethodName := ⟨RX1, "<init>", "()V"⟩
abbrev cX1_knows : ByteArray := prog_3_method_2_code
def yX1_knows : MethodName := ⟨RX1, "knows", "(I)Z"⟩
abbrev cX1_isFull : ByteArray := prog_3_method_3_code
def yX1_isFull : MethodName := ⟨RX1, "isFull", "()Z"⟩
abbrev cX1_howMany : ByteArray := prog_3_method_4_code
def yX1_howMany : MethodName := ⟨RX1, "howMany", "()I"⟩
abbrev cX1_isBare : ByteArray := prog_3_method_5_code
def yX1_isBare : MethodName := ⟨RX1, "isBare", "(I)Z"⟩
abbrev cX1_setBare : ByteArray := prog_3_method_6_code
def yX1_setBare : MethodName := ⟨RX1, "setBare", "(IZ)V"⟩
abbrev cX1_aboveOf : ByteArray := prog_3_method_7_code
def yX1_aboveOf : MethodName := ⟨RX1, "aboveOf", "(I)I"⟩
abbrev cX1_belowOf : ByteArray := prog_3_method_8_code
def yX1_belowOf : MethodName := ⟨RX1, "belowOf", "(I)I"⟩
abbrev cX1_quarrelOf : ByteArray := prog_3_method_9_code
def yX1_quarrelOf : MethodName := ⟨RX1, "quarrelOf", "(I)I"⟩
abbrev cX1_isLaid : ByteArray := prog_3_method_10_code
def yX1_isLaid : MethodName := ⟨RX1, "isLaid", "(I)Z"⟩
abbrev cX1_hasRow : ByteArray := prog_3_method_11_code
def yX1_hasRow : MethodName := ⟨RX1, "hasRow", "(I)Z"⟩
abbrev cX1_lengthOf : ByteArray := prog_3_method_12_code
def yX1_lengthOf : MethodName := ⟨RX1, "lengthOf", "(I)I"⟩
abbrev cX1_inLine : ByteArray := prog_3_method_13_code
def yX1_inLine : MethodName := ⟨RX1, "inLine", "(II)I"⟩
abbrev cX1_whereFirst : ByteArray := prog_3_method_14_code
def yX1_whereFirst : MethodName := ⟨RX1, "whereFirst", "(III)I"⟩
abbrev cX1_firstOf : ByteArray := prog_3_method_15_code
def yX1_firstOf : MethodName := ⟨RX1, "firstOf", "(III)I"⟩
abbrev cX1_add : ByteArray := prog_3_method_16_code
def yX1_add : MethodName := ⟨RX1, "add", "(IIII)I"⟩
abbrev cX1_layLine : ByteArray := prog_3_method_17_code
def yX1_layLine : MethodName := ⟨RX1, "layLine", "(II)V"⟩
abbrev cX1_layRows : ByteArray := prog_3_method_18_code
def yX1_layRows : MethodName := ⟨RX1, "layRows", "(I)V"⟩
def RX2 : String := "AnswerLines$Pad"
def TX2 : u_T := fun k => match k with
  | 0 => ("AnswerLines$Pad", "signs", "[C", true)
  | _ => ("AnswerLines$Pad", "count", "I", false)
def tyX2 : Nat → FieldType := fun k => match k with
  | 0 => .array .char
  | _ => .int
abbrev wsX20 : List Cond := u_ws RX2 TX2 2
theorem nmX2 : ∀ a, a < 2 → ∀ b, b < 2 → a ≠ b → (TX2 a).2.1 ≠ (TX2 b).2.1 := by decide +kernel
theorem tyX2_ok : ∀ k, k < 2 → parseFieldDescriptor (TX2 k).2.2.1 = some (tyX2 k) := by decide +kernel
abbrev cX2_init : ByteArray := prog_4_method_1_code
def yX2_init : MethodName := ⟨RX2, "<init>", "()V"⟩
abbrev cX2_isFull : ByteArray := prog_4_method_2_code
def yX2_isFull : MethodName := ⟨RX2, "isFull", "()Z"⟩
abbrev cX2_length : ByteArray := prog_4_method_3_code
def yX2_length : MethodName := ⟨RX2, "length", "()I"⟩
abbrev cX2_put : ByteArray := prog_4_method_4_code
def yX2_put : MethodName := ⟨RX2, "put", "(I)I"⟩
abbrev cX2_empty : ByteArray := prog_4_method_5_code
def yX2_empty : MethodName := ⟨RX2, "empty", "()I"⟩
abbrev cX2_sign : ByteArray := prog_4_method_6_code
def yX2_sign : MethodName := ⟨RX2, "sign", "(I)C"⟩
abbrev cX2_firstFault : ByteArray := prog_4_method_7_code
def yX2_firstFault : MethodName := ⟨RX2, "firstFault", "()I"⟩
abbrev cX2_canStand : ByteArray := prog_4_method_8_code
def yX2_canStand : MethodName := ⟨RX2, "canStand", "(C)Z"⟩
def RX3 : String := "AnswerLines$Places"
def TX3 : u_T := fun k => match k with
  | 0 => ("AnswerLines$Places", "sizes", "[I", true)
  | 1 => ("AnswerLines$Places", "calledPlaces", "[I", true)
  | 2 => ("AnswerLines$Places", "calledKinds", "[I", true)
  | 3 => ("AnswerLines$Places", "recent", "[I", true)
  | 4 => ("AnswerLines$Places", "count", "I", false)
  | _ => ("AnswerLines$Places", "remembered", "I", false)
def tyX3 : Nat → FieldType := fun k => match k with
  | 0 => .array .int
  | 1 => .array .int
  | 2 => .array .int
  | 3 => .array .int
  | 4 => .int
  | _ => .int
abbrev wsX30 : List Cond := u_ws RX3 TX3 6
theorem nmX3 : ∀ a, a < 6 → ∀ b, b < 6 → a ≠ b → (TX3 a).2.1 ≠ (TX3 b).2.1 := by decide +kernel
theorem tyX3_ok : ∀ k, k < 6 → parseFieldDescriptor (TX3 k).2.2.1 = some (tyX3 k) := by decide +kernel
abbrev cX3_init : ByteArray := prog_5_method_1_code
def yX3_init : MethodName := ⟨RX3, "<init>", "()V"⟩
abbrev cX3_isFull : ByteArray := prog_5_method_2_code
def yX3_isFull : MethodName := ⟨RX3, "isFull", "()Z"⟩
abbrev cX3_howMany : ByteArray := prog_5_method_3_code
def yX3_howMany : MethodName := ⟨RX3, "howMany", "()I"⟩
abbrev cX3_record : ByteArray := prog_5_method_4_code
def yX3_record : MethodName := ⟨RX3, "record", "(II)I"⟩
abbrev cX3_clear : ByteArray := prog_5_method_5_code
def yX3_clear : MethodName := ⟨RX3, "clear", "()I"⟩
abbrev cX3_sizeOf : ByteArray := prog_5_method_6_code
def yX3_sizeOf : MethodName := ⟨RX3, "sizeOf", "(I)I"⟩
abbrev cX3_resize : ByteArray := prog_5_method_7_code
def yX3_resize : MethodName := ⟨RX3, "resize", "(II)I"⟩
abbrev cX3_callsAt : ByteArray := prog_5_method_8_code
def yX3_callsAt : MethodName := ⟨RX3, "callsAt", "(I)I"⟩
abbrev cX3_hitsBySize : ByteArray := prog_5_method_9_code
def yX3_hitsBySize : MethodName := ⟨RX3, "hitsBySize", "(II)I"⟩
abbrev cX3_latest : ByteArray := prog_5_method_10_code
def yX3_latest : MethodName := ⟨RX3, "latest", "(I)I"⟩
abbrev cX3_bestHits : ByteArray := prog_5_method_11_code
def yX3_bestHits : MethodName := ⟨RX3, "bestHits", "(I)I"⟩
abbrev cX3_whereRecent : ByteArray := prog_5_method_12_code
def yX3_whereRecent : MethodName := ⟨RX3, "whereRecent", "(I)I"⟩
abbrev cX3_putFirst : ByteArray := prog_5_method_13_code
def yX3_putFirst : MethodName := ⟨RX3, "putFirst", "(II)V"⟩
abbrev cX3_longestUnused : ByteArray := prog_5_method_14_code
def yX3_longestUnused : MethodName := ⟨RX3, "longestUnused", "(III)I"⟩
def RX4 : String := "AnswerLines$Rows"
def TX4 : u_T := fun k => match k with
  | 0 => ("AnswerLines$Rows", "cells", "[I", true)
  | 1 => ("AnswerLines$Rows", "heads", "[I", true)
  | 2 => ("AnswerLines$Rows", "lengths", "[I", true)
  | _ => ("AnswerLines$Rows", "count", "I", false)
def tyX4 : Nat → FieldType := fun k => match k with
  | 0 => .array .int
  | 1 => .array .int
  | 2 => .array .int
  | _ => .int
abbrev wsX40 : List Cond := u_ws RX4 TX4 4
theorem nmX4 : ∀ a, a < 4 → ∀ b, b < 4 → a ≠ b → (TX4 a).2.1 ≠ (TX4 b).2.1 := by decide +kernel
theorem tyX4_ok : ∀ k, k < 4 → parseFieldDescriptor (TX4 k).2.2.1 = some (tyX4 k) := by decide +kernel
abbrev cX4_init : ByteArray := prog_6_method_1_code
def yX4_init : MethodName := ⟨RX4, "<init>", "()V"⟩
abbrev cX4_clear : ByteArray := prog_6_method_2_code
def yX4_clear : MethodName := ⟨RX4, "clear", "()V"⟩
abbrev cX4_begin : ByteArray := prog_6_method_3_code
def yX4_begin : MethodName := ⟨RX4, "begin", "()V"⟩
abbrev cX4_put : ByteArray := prog_6_method_4_code
def yX4_put : MethodName := ⟨RX4, "put", "(I)V"⟩
abbrev cX4_beginnings : ByteArray := prog_6_method_5_code
def yX4_beginnings : MethodName := ⟨RX4, "beginnings", "()I"⟩
abbrev cX4_firstFree : ByteArray := prog_6_method_6_code
def yX4_firstFree : MethodName := ⟨RX4, "firstFree", "()I"⟩
abbrev cX4_take : ByteArray := prog_6_method_7_code
def yX4_take : MethodName := ⟨RX4, "take", "(I)V"⟩
abbrev cX4_head : ByteArray := prog_6_method_8_code
def yX4_head : MethodName := ⟨RX4, "head", "(I)I"⟩
abbrev cX4_tail : ByteArray := prog_6_method_9_code
def yX4_tail : MethodName := ⟨RX4, "tail", "(I)I"⟩
def RX5 : String := "AnswerLines$Runner"
def TX5 : u_T := fun k => match k with
  | 0 => ("AnswerLines$Runner", "digits", "[I", true)
  | 1 => ("AnswerLines$Runner", "said", "I", false)
  | 2 => ("AnswerLines$Runner", "made", "I", false)
  | _ => ("AnswerLines$Runner", "lined", "I", false)
def tyX5 : Nat → FieldType := fun k => match k with
  | 0 => .array .int
  | 1 => .int
  | 2 => .int
  | _ => .int
abbrev wsX50 : List Cond := u_ws RX5 TX5 4
theorem nmX5 : ∀ a, a < 4 → ∀ b, b < 4 → a ≠ b → (TX5 a).2.1 ≠ (TX5 b).2.1 := by decide +kernel
theorem tyX5_ok : ∀ k, k < 4 → parseFieldDescriptor (TX5 k).2.2.1 = some (tyX5 k) := by decide +kernel
abbrev cX5_init : ByteArray := prog_7_method_1_code
def yX5_init : MethodName := ⟨RX5, "<init>", "()V"⟩
abbrev cX5_start : ByteArray := prog_7_method_2_code
def yX5_start : MethodName := ⟨RX5, "start", "(LAnswerLines$Kinds;LAnswerLines$Bodies;II)I"⟩
abbrev cX5_howManySaid : ByteArray := prog_7_method_3_code
def yX5_howManySaid : MethodName := ⟨RX5, "howManySaid", "()I"⟩
abbrev cX5_digit : ByteArray := prog_7_method_4_code
def yX5_digit : MethodName := ⟨RX5, "digit", "(I)I"⟩
abbrev cX5_work : ByteArray := prog_7_method_5_code
def yX5_work : MethodName := ⟨RX5, "work", "(LAnswerLines$Kinds;LAnswerLines$Bodies;III)I"⟩
abbrev cX5_sayDigit : ByteArray := prog_7_method_6_code
def yX5_sayDigit : MethodName := ⟨RX5, "sayDigit", "(I)I"⟩
def RX6 : String := "AnswerLines$Sides"
def TX6 : u_T := fun k => match k with
  | _ => ("", "", "", false)
def tyX6 : Nat → FieldType := fun k => match k with
  | _ => .int
abbrev wsX60 : List Cond := u_ws RX6 TX6 0
theorem nmX6 : ∀ a, a < 0 → ∀ b, b < 0 → a ≠ b → (TX6 a).2.1 ≠ (TX6 b).2.1 := by decide +kernel
theorem tyX6_ok : ∀ k, k < 0 → parseFieldDescriptor (TX6 k).2.2.1 = some (tyX6 k) := by decide +kernel
abbrev cX6_nearestOf : ByteArray := prog_8_method_2_code
def yX6_nearestOf : MethodName := ⟨RX6, "nearestOf", "(LAnswerLines$Kinds;II)I"⟩
abbrev cX6_doubtful : ByteArray := prog_8_method_3_code
def yX6_doubtful : MethodName := ⟨RX6, "doubtful", "(LAnswerLines$Kinds;I)I"⟩
abbrev cX6_settlers : ByteArray := prog_8_method_4_code
def yX6_settlers : MethodName := ⟨RX6, "settlers", "(LAnswerLines$Kinds;I)I"⟩
abbrev cX6_shifted : ByteArray := prog_8_method_5_code
def yX6_shifted : MethodName := ⟨RX6, "shifted", "(LAnswerLines$Kinds;II)I"⟩
abbrev cX6_unlikeAnswers : ByteArray := prog_8_method_6_code
def yX6_unlikeAnswers : MethodName := ⟨RX6, "unlikeAnswers", "(LAnswerLines$Kinds;II)I"⟩
abbrev cX6_isInDoubt : ByteArray := prog_8_method_7_code
def yX6_isInDoubt : MethodName := ⟨RX6, "isInDoubt", "(LAnswerLines$Kinds;II)Z"⟩
def RX7 : String := "AnswerLines$Table"
def TX7 : u_T := fun k => match k with
  | 0 => ("AnswerLines$Table", "rows", "[I", true)
  | 1 => ("AnswerLines$Table", "together", "[I", true)
  | 2 => ("AnswerLines$Table", "columns", "[I", true)
  | 3 => ("AnswerLines$Table", "pushedTo", "[I", true)
  | _ => ("AnswerLines$Table", "slots", "[I", true)
def tyX7 : Nat → FieldType := fun k => match k with
  | 0 => .array .int
  | 1 => .array .int
  | 2 => .array .int
  | 3 => .array .int
  | _ => .array .int
abbrev wsX70 : List Cond := u_ws RX7 TX7 5
theorem nmX7 : ∀ a, a < 5 → ∀ b, b < 5 → a ≠ b → (TX7 a).2.1 ≠ (TX7 b).2.1 := by decide +kernel
theorem tyX7_ok : ∀ k, k < 5 → parseFieldDescriptor (TX7 k).2.2.1 = some (tyX7 k) := by decide +kernel
abbrev cX7_init : ByteArray := prog_9_method_1_code
def yX7_init : MethodName := ⟨RX7, "<init>", "()V"⟩
abbrev cX7_fill : ByteArray := prog_9_method_2_code
def yX7_fill : MethodName := ⟨RX7, "fill", "(LAnswerLines$Kinds;LAnswerLines$Bodies;)V"⟩
abbrev cX7_spread : ByteArray := prog_9_method_3_code
def yX7_spread : MethodName := ⟨RX7, "spread", "()I"⟩
abbrev cX7_columnOf : ByteArray := prog_9_method_4_code
def yX7_columnOf : MethodName := ⟨RX7, "columnOf", "(I)I"⟩
abbrev cX7_push : ByteArray := prog_9_method_5_code
def yX7_push : MethodName := ⟨RX7, "push", "()I"⟩
abbrev cX7_placeOfRow : ByteArray := prog_9_method_6_code
def yX7_placeOfRow : MethodName := ⟨RX7, "placeOfRow", "(I)I"⟩
abbrev cX7_standsAt : ByteArray := prog_9_method_7_code
def yX7_standsAt : MethodName := ⟨RX7, "standsAt", "(I)I"⟩
abbrev cX7_findTogether : ByteArray := prog_9_method_8_code
def yX7_findTogether : MethodName := ⟨RX7, "findTogether", "()V"⟩
abbrev cX7_fitInto : ByteArray := prog_9_method_9_code
def yX7_fitInto : MethodName := ⟨RX7, "fitInto", "(III)Z"⟩
abbrev cX7_isFree : ByteArray := prog_9_method_10_code
def yX7_isFree : MethodName := ⟨RX7, "isFree", "(II)Z"⟩
abbrev cX7_pushRow : ByteArray := prog_9_method_11_code
def yX7_pushRow : MethodName := ⟨RX7, "pushRow", "(I)I"⟩
abbrev cX7_leastPlace : ByteArray := prog_9_method_12_code
def yX7_leastPlace : MethodName := ⟨RX7, "leastPlace", "(I)I"⟩
abbrev cX7_isOpen : ByteArray := prog_9_method_13_code
def yX7_isOpen : MethodName := ⟨RX7, "isOpen", "(II)Z"⟩
def RX8 : String := "AnswerLines"
def TX8 : u_T := fun k => match k with
  | 0 => ("AnswerLines", "kinds", "LAnswerLines$Kinds;", true)
  | 1 => ("AnswerLines", "pad", "LAnswerLines$Pad;", true)
  | 2 => ("AnswerLines", "bodies", "LAnswerLines$Bodies;", true)
  | 3 => ("AnswerLines", "runner", "LAnswerLines$Runner;", true)
  | 4 => ("AnswerLines", "table", "LAnswerLines$Table;", true)
  | _ => ("AnswerLines", "places", "LAnswerLines$Places;", true)
def tyX8 : Nat → FieldType := fun k => match k with
  | 0 => .object "AnswerLines$Kinds"
  | 1 => .object "AnswerLines$Pad"
  | 2 => .object "AnswerLines$Bodies"
  | 3 => .object "AnswerLines$Runner"
  | 4 => .object "AnswerLines$Table"
  | _ => .object "AnswerLines$Places"
abbrev wsX80 : List Cond := u_ws RX8 TX8 6
theorem nmX8 : ∀ a, a < 6 → ∀ b, b < 6 → a ≠ b → (TX8 a).2.1 ≠ (TX8 b).2.1 := by decide +kernel
theorem tyX8_ok : ∀ k, k < 6 → parseFieldDescriptor (TX8 k).2.2.1 = some (tyX8 k) := by decide +kernel
abbrev cX8_init : ByteArray := prog_1_method_1_code
def yX8_init : MethodName := ⟨RX8, "<init>", "()V"⟩
abbrev cX8_kind : ByteArray := prog_1_method_2_code
def yX8_kind : MethodName := ⟨RX8, "kind", "(IIII)I"⟩
abbrev cX8_bare : ByteArray := prog_1_method_3_code
def yX8_bare : MethodName := ⟨RX8, "bare", "(IZ)I"⟩
abbrev cX8_of : ByteArray := prog_1_method_4_code
def yX8_of : MethodName := ⟨RX8, "of", "(II)I"⟩
abbrev cX8_line : ByteArray := prog_1_method_5_code
def yX8_line : MethodName := ⟨RX8, "line", "(II)I"⟩
abbrev cX8_quarrel : ByteArray := prog_1_method_6_code
def yX8_quarrel : MethodName := ⟨RX8, "quarrel", "(I)I"⟩
abbrev cX8_say : ByteArray := prog_1_method_7_code
def yX8_say : MethodName := ⟨RX8, "say", "(I)I"⟩
abbrev cX8_wipe : ByteArray := prog_1_method_8_code
def yX8_wipe : MethodName := ⟨RX8, "wipe", "()I"⟩
abbrev cX8_fault : ByteArray := prog_1_method_9_code
def yX8_fault : MethodName := ⟨RX8, "fault", "()I"⟩
abbrev cX8_has : ByteArray := prog_1_method_10_code
def yX8_has : MethodName := ⟨RX8, "has", "(II)I"⟩
abbrev cX8_drop : ByteArray := prog_1_method_11_code
def yX8_drop : MethodName := ⟨RX8, "drop", "(II)I"⟩
abbrev cX8_answer : ByteArray := prog_1_method_12_code
def yX8_answer : MethodName := ⟨RX8, "answer", "(II)I"⟩
abbrev cX8_next : ByteArray := prog_1_method_13_code
def yX8_next : MethodName := ⟨RX8, "next", "(III)I"⟩
abbrev cX8_run : ByteArray := prog_1_method_14_code
def yX8_run : MethodName := ⟨RX8, "run", "(III)I"⟩
abbrev cX8_nearest : ByteArray := prog_1_method_15_code
def yX8_nearest : MethodName := ⟨RX8, "nearest", "(II)I"⟩
abbrev cX8_doubt : ByteArray := prog_1_method_16_code
def yX8_doubt : MethodName := ⟨RX8, "doubt", "(I)I"⟩
abbrev cX8_settle : ByteArray := prog_1_method_17_code
def yX8_settle : MethodName := ⟨RX8, "settle", "(II)I"⟩
abbrev cX8_shift : ByteArray := prog_1_method_18_code
def yX8_shift : MethodName := ⟨RX8, "shift", "(II)I"⟩
abbrev cX8_column : ByteArray := prog_1_method_19_code
def yX8_column : MethodName := ⟨RX8, "column", "(I)I"⟩
abbrev cX8_packed : ByteArray := prog_1_method_20_code
def yX8_packed : MethodName := ⟨RX8, "packed", "(I)I"⟩
abbrev cX8_slot : ByteArray := prog_1_method_21_code
def yX8_slot : MethodName := ⟨RX8, "slot", "(I)I"⟩
abbrev cX8_one : ByteArray := prog_1_method_22_code
def yX8_one : MethodName := ⟨RX8, "one", "(III)I"⟩
abbrev cX8_call : ByteArray := prog_1_method_23_code
def yX8_call : MethodName := ⟨RX8, "call", "(II)I"⟩
abbrev cX8_forget : ByteArray := prog_1_method_24_code
def yX8_forget : MethodName := ⟨RX8, "forget", "()I"⟩
abbrev cX8_size : ByteArray := prog_1_method_25_code
def yX8_size : MethodName := ⟨RX8, "size", "(II)I"⟩
abbrev cX8_hits : ByteArray := prog_1_method_26_code
def yX8_hits : MethodName := ⟨RX8, "hits", "(II)I"⟩
abbrev cX8_need : ByteArray := prog_1_method_27_code
def yX8_need : MethodName := ⟨RX8, "need", "(II)I"⟩
abbrev cX8_told : ByteArray := prog_1_method_28_code
def yX8_told : MethodName := ⟨RX8, "told", "(I)I"⟩
abbrev cX8_isName : ByteArray := prog_1_method_29_code
def yX8_isName : MethodName := ⟨RX8, "isName", "(I)Z"⟩
abbrev cX8_isPlace : ByteArray := prog_1_method_30_code
def yX8_isPlace : MethodName := ⟨RX8, "isPlace", "(I)Z"⟩
abbrev cX8_bitsOrCount : ByteArray := prog_1_method_31_code
def yX8_bitsOrCount : MethodName := ⟨RX8, "bitsOrCount", "(II)I"⟩
abbrev cX8_isIn : ByteArray := prog_1_method_32_code
def yX8_isIn : MethodName := ⟨RX8, "isIn", "(II)Z"⟩
def RX9 : String := "AnswerLinesModel"
def TX9 : u_T := fun k => match k with
  | 0 => ("AnswerLinesModel", "parents", "[I", true)
  | 1 => ("AnswerLinesModel", "parentMany", "[I", true)
  | 2 => ("AnswerLinesModel", "above", "[I", true)
  | 3 => ("AnswerLinesModel", "isBare", "[Z", true)
  | 4 => ("AnswerLinesModel", "kinds", "I", false)
  | 5 => ("AnswerLinesModel", "lines", "[I", true)
  | 6 => ("AnswerLinesModel", "lineLong", "[I", true)
  | 7 => ("AnswerLinesModel", "quarrels", "[I", true)
  | 8 => ("AnswerLinesModel", "rows", "[I", true)
  | 9 => ("AnswerLinesModel", "rowAt", "[I", true)
  | 10 => ("AnswerLinesModel", "rowEnd", "[I", true)
  | 11 => ("AnswerLinesModel", "rowMany", "I", false)
  | 12 => ("AnswerLinesModel", "signs", "[I", true)
  | 13 => ("AnswerLinesModel", "signMany", "[I", true)
  | 14 => ("AnswerLinesModel", "names", "[I", true)
  | 15 => ("AnswerLinesModel", "openPlace", "[I", true)
  | 16 => ("AnswerLinesModel", "openName", "[I", true)
  | 17 => ("AnswerLinesModel", "openSign", "[I", true)
  | 18 => ("AnswerLinesModel", "open", "I", false)
  | 19 => ("AnswerLinesModel", "worked", "I", false)
  | 20 => ("AnswerLinesModel", "said", "[I", true)
  | 21 => ("AnswerLinesModel", "saidMany", "I", false)
  | 22 => ("AnswerLinesModel", "endIs", "I", false)
  | 23 => ("AnswerLinesModel", "against", "[I", true)
  | 24 => ("AnswerLinesModel", "columns", "[I", true)
  | 25 => ("AnswerLinesModel", "columnMany", "I", false)
  | 26 => ("AnswerLinesModel", "slots", "[I", true)
  | 27 => ("AnswerLinesModel", "pushed", "[I", true)
  | 28 => ("AnswerLinesModel", "packedLong", "I", false)
  | 29 => ("AnswerLinesModel", "callPlace", "[I", true)
  | 30 => ("AnswerLinesModel", "callKind", "[I", true)
  | 31 => ("AnswerLinesModel", "calls", "I", false)
  | 32 => ("AnswerLinesModel", "sizes", "[I", true)
  | 33 => ("AnswerLinesModel", "remembered", "[I", true)
  | _ => ("AnswerLinesModel", "rememberedMany", "I", false)
def tyX9 : Nat → FieldType := fun k => match k with
  | 0 => .array .int
  | 1 => .array .int
  | 2 => .array .int
  | 3 => .array .boolean
  | 4 => .int
  | 5 => .array .int
  | 6 => .array .int
  | 7 => .array .int
  | 8 => .array .int
  | 9 => .array .int
  | 10 => .array .int
  | 11 => .int
  | 12 => .array .int
  | 13 => .array .int
  | 14 => .array .int
  | 15 => .array .int
  | 16 => .array .int
  | 17 => .array .int
  | 18 => .int
  | 19 => .int
  | 20 => .array .int
  | 21 => .int
  | 22 => .int
  | 23 => .array .int
  | 24 => .array .int
  | 25 => .int
  | 26 => .array .int
  | 27 => .array .int
  | 28 => .int
  | 29 => .array .int
  | 30 => .array .int
  | 31 => .int
  | 32 => .array .int
  | 33 => .array .int
  | _ => .int
abbrev wsX90 : List Cond := u_ws RX9 TX9 35
theorem nmX9 : ∀ a, a < 35 → ∀ b, b < 35 → a ≠ b → (TX9 a).2.1 ≠ (TX9 b).2.1 := by decide +kernel
theorem tyX9_ok : ∀ k, k < 35 → parseFieldDescriptor (TX9 k).2.2.1 = some (tyX9 k) := by decide +kernel
abbrev cX9_init : ByteArray := prog_11_method_1_code
def yX9_init : MethodName := ⟨RX9, "<init>", "()V"⟩
abbrev cX9_in : ByteArray := prog_11_method_3_code
def yX9_in : MethodName := ⟨RX9, "in", "(JJJ)Z"⟩
abbrev cX9_ones : ByteArray := prog_11_method_4_code
def yX9_ones : MethodName := ⟨RX9, "ones", "(I)I"⟩
abbrev cX9_isKind : ByteArray := prog_11_method_5_code
def yX9_isKind : MethodName := ⟨RX9, "isKind", "(I)Z"⟩
abbrev cX9_isName : ByteArray := prog_11_method_6_code
def yX9_isName : MethodName := ⟨RX9, "isName", "(I)Z"⟩
abbrev cX9_kind : ByteArray := prog_11_method_7_code
def yX9_kind : MethodName := ⟨RX9, "kind", "(IIII)I"⟩
abbrev cX9_bare : ByteArray := prog_11_method_8_code
def yX9_bare : MethodName := ⟨RX9, "bare", "(IZ)I"⟩
abbrev cX9_belowOf : ByteArray := prog_11_method_9_code
def yX9_belowOf : MethodName := ⟨RX9, "belowOf", "(I)I"⟩
abbrev cX9_of : ByteArray := prog_11_method_10_code
def yX9_of : MethodName := ⟨RX9, "of", "(II)I"⟩
abbrev cX9_isWithin : ByteArray := prog_11_method_11_code
def yX9_isWithin : MethodName := ⟨RX9, "isWithin", "(I)Z"⟩
abbrev cX9_nextHead : ByteArray := prog_11_method_12_code
def yX9_nextHead : MethodName := ⟨RX9, "nextHead", "()I"⟩
abbrev cX9_layLine : ByteArray := prog_11_method_13_code
def yX9_layLine : MethodName := ⟨RX9, "layLine", "(I)V"⟩
abbrev cX9_line : ByteArray := prog_11_method_14_code
def yX9_line : MethodName := ⟨RX9, "line", "(II)I"⟩
abbrev cX9_quarrel : ByteArray := prog_11_method_15_code
def yX9_quarrel : MethodName := ⟨RX9, "quarrel", "(I)I"⟩
abbrev cX9_bodyOf : ByteArray := prog_11_method_16_code
def yX9_bodyOf : MethodName := ⟨RX9, "bodyOf", "(II)I"⟩
abbrev cX9_say : ByteArray := prog_11_method_17_code
def yX9_say : MethodName := ⟨RX9, "say", "(I)I"⟩
abbrev cX9_wipe : ByteArray := prog_11_method_18_code
def yX9_wipe : MethodName := ⟨RX9, "wipe", "()I"⟩
abbrev cX9_fault : ByteArray := prog_11_method_19_code
def yX9_fault : MethodName := ⟨RX9, "fault", "()I"⟩
abbrev cX9_hasName : ByteArray := prog_11_method_20_code
def yX9_hasName : MethodName := ⟨RX9, "hasName", "(II)Z"⟩
abbrev cX9_has : ByteArray := prog_11_method_21_code
def yX9_has : MethodName := ⟨RX9, "has", "(II)I"⟩
abbrev cX9_drop : ByteArray := prog_11_method_22_code
def yX9_drop : MethodName := ⟨RX9, "drop", "(II)I"⟩
abbrev cX9_placeOf : ByteArray := prog_11_method_23_code
def yX9_placeOf : MethodName := ⟨RX9, "placeOf", "(III)I"⟩
abbrev cX9_answerOf : ByteArray := prog_11_method_24_code
def yX9_answerOf : MethodName := ⟨RX9, "answerOf", "(III)I"⟩
abbrev cX9_answer : ByteArray := prog_11_method_25_code
def yX9_answer : MethodName := ⟨RX9, "answer", "(II)I"⟩
abbrev cX9_next : ByteArray := prog_11_method_26_code
def yX9_next : MethodName := ⟨RX9, "next", "(III)I"⟩
abbrev cX9_begin : ByteArray := prog_11_method_27_code
def yX9_begin : MethodName := ⟨RX9, "begin", "(III)V"⟩
abbrev cX9_runAll : ByteArray := prog_11_method_28_code
def yX9_runAll : MethodName := ⟨RX9, "runAll", "(II)V"⟩
abbrev cX9_work : ByteArray := prog_11_method_29_code
def yX9_work : MethodName := ⟨RX9, "work", "(III)V"⟩
abbrev cX9_run : ByteArray := prog_11_method_30_code
def yX9_run : MethodName := ⟨RX9, "run", "(III)I"⟩
abbrev cX9_nearestOf : ByteArray := prog_11_method_31_code
def yX9_nearestOf : MethodName := ⟨RX9, "nearestOf", "(II)I"⟩
abbrev cX9_havingOf : ByteArray := prog_11_method_32_code
def yX9_havingOf : MethodName := ⟨RX9, "havingOf", "(I)I"⟩
abbrev cX9_nearest : ByteArray := prog_11_method_33_code
def yX9_nearest : MethodName := ⟨RX9, "nearest", "(II)I"⟩
abbrev cX9_doubtBy : ByteArray := prog_11_method_34_code
def yX9_doubtBy : MethodName := ⟨RX9, "doubtBy", "(I)I"⟩
abbrev cX9_doubt : ByteArray := prog_11_method_35_code
def yX9_doubt : MethodName := ⟨RX9, "doubt", "(I)I"⟩
abbrev cX9_settle : ByteArray := prog_11_method_36_code
def yX9_settle : MethodName := ⟨RX9, "settle", "(II)I"⟩
abbrev cX9_shift : ByteArray := prog_11_method_37_code
def yX9_shift : MethodName := ⟨RX9, "shift", "(II)I"⟩
abbrev cX9_isRow : ByteArray := prog_11_method_38_code
def yX9_isRow : MethodName := ⟨RX9, "isRow", "(I)Z"⟩
abbrev cX9_answeredBy : ByteArray := prog_11_method_39_code
def yX9_answeredBy : MethodName := ⟨RX9, "answeredBy", "(I)I"⟩
abbrev cX9_findColumns : ByteArray := prog_11_method_40_code
def yX9_findColumns : MethodName := ⟨RX9, "findColumns", "()V"⟩
abbrev cX9_greatestAhead : ByteArray := prog_11_method_41_code
def yX9_greatestAhead : MethodName := ⟨RX9, "greatestAhead", "(I)I"⟩
abbrev cX9_isFree : ByteArray := prog_11_method_42_code
def yX9_isFree : MethodName := ⟨RX9, "isFree", "(I)Z"⟩
abbrev cX9_fill : ByteArray := prog_11_method_43_code
def yX9_fill : MethodName := ⟨RX9, "fill", "(II)Z"⟩
abbrev cX9_column : ByteArray := prog_11_method_44_code
def yX9_column : MethodName := ⟨RX9, "column", "(I)I"⟩
abbrev cX9_isOpenAt : ByteArray := prog_11_method_45_code
def yX9_isOpenAt : MethodName := ⟨RX9, "isOpenAt", "(II)Z"⟩
abbrev cX9_pack : ByteArray := prog_11_method_46_code
def yX9_pack : MethodName := ⟨RX9, "pack", "()V"⟩
abbrev cX9_packed : ByteArray := prog_11_method_47_code
def yX9_packed : MethodName := ⟨RX9, "packed", "(I)I"⟩
abbrev cX9_slot : ByteArray := prog_11_method_48_code
def yX9_slot : MethodName := ⟨RX9, "slot", "(I)I"⟩
abbrev cX9_one : ByteArray := prog_11_method_49_code
def yX9_one : MethodName := ⟨RX9, "one", "(III)I"⟩
abbrev cX9_isPlace : ByteArray := prog_11_method_50_code
def yX9_isPlace : MethodName := ⟨RX9, "isPlace", "(I)Z"⟩
abbrev cX9_call : ByteArray := prog_11_method_51_code
def yX9_call : MethodName := ⟨RX9, "call", "(II)I"⟩
abbrev cX9_forget : ByteArray := prog_11_method_52_code
def yX9_forget : MethodName := ⟨RX9, "forget", "()I"⟩
abbrev cX9_size : ByteArray := prog_11_method_53_code
def yX9_size : MethodName := ⟨RX9, "size", "(II)I"⟩
abbrev cX9_whereIs : ByteArray := prog_11_method_54_code
def yX9_whereIs : MethodName := ⟨RX9, "whereIs", "(I)I"⟩
abbrev cX9_takeOut : ByteArray := prog_11_method_55_code
def yX9_takeOut : MethodName := ⟨RX9, "takeOut", "(I)V"⟩
abbrev cX9_putFirst : ByteArray := prog_11_method_56_code
def yX9_putFirst : MethodName := ⟨RX9, "putFirst", "(I)V"⟩
abbrev cX9_nextCall : ByteArray := prog_11_method_57_code
def yX9_nextCall : MethodName := ⟨RX9, "nextCall", "(III)I"⟩
abbrev cX9_farthest : ByteArray := prog_11_method_58_code
def yX9_farthest : MethodName := ⟨RX9, "farthest", "(II)I"⟩
abbrev cX9_hitsBy : ByteArray := prog_11_method_59_code
def yX9_hitsBy : MethodName := ⟨RX9, "hitsBy", "(IIZ)I"⟩
abbrev cX9_hits : ByteArray := prog_11_method_60_code
def yX9_hits : MethodName := ⟨RX9, "hits", "(II)I"⟩
abbrev cX9_need : ByteArray := prog_11_method_61_code
def yX9_need : MethodName := ⟨RX9, "need", "(II)I"⟩
abbrev cX9_told : ByteArray := prog_11_method_62_code
def yX9_told : MethodName := ⟨RX9, "told", "(I)I"⟩
def RJ6 : String := "java/lang/Integer"
def TJ6 : u_T := fun k => match k with
  | _ => ("", "", "", false)
def tyJ6 : Nat → FieldType := fun k => match k with
  | _ => .int
abbrev wsJ60 : List Cond := u_ws RJ6 TJ6 0
theorem nmJ6 : ∀ a, a < 0 → ∀ b, b < 0 → a ≠ b → (TJ6 a).2.1 ≠ (TJ6 b).2.1 := by decide +kernel
theorem tyJ6_ok : ∀ k, k < 0 → parseFieldDescriptor (TJ6 k).2.2.1 = some (tyJ6 k) := by decide +kernel
abbrev cJ6_numberOfTrailingZeros_0f7a4 : ByteArray := prog_12_method_48_code
def yJ6_numberOfTrailingZeros_0f7a4 : MethodName := ⟨RJ6, "numberOfTrailingZeros", "(I)I"⟩
abbrev cJ6_bitCount_0f7a4 : ByteArray := prog_12_method_49_code
def yJ6_bitCount_0f7a4 : MethodName := ⟨RJ6, "bitCount", "(I)I"⟩
def RJ9 : String := "java/lang/Math"
def TJ9 : u_T := fun k => match k with
  | _ => ("", "", "", false)
def tyJ9 : Nat → FieldType := fun k => match k with
  | _ => .int
abbrev wsJ90 : List Cond := u_ws RJ9 TJ9 0
theorem nmJ9 : ∀ a, a < 0 → ∀ b, b < 0 → a ≠ b → (TJ9 a).2.1 ≠ (TJ9 b).2.1 := by decide +kernel
theorem tyJ9_ok : ∀ k, k < 0 → parseFieldDescriptor (TJ9 k).2.2.1 = some (tyJ9 k) := by decide +kernel
abbrev cJ9_max_7cf53 : ByteArray := prog_13_method_65_code
def yJ9_max_7cf53 : MethodName := ⟨RJ9, "max", "(II)I"⟩
abbrev cJ9_min_7cf53 : ByteArray := prog_13_method_69_code
def yJ9_min_7cf53 : MethodName := ⟨RJ9, "min", "(II)I"⟩
def RL : String := "AnswerLinesLaw"
abbrev cL_law : ByteArray := code
def yL_law : MethodName := ⟨RL, "law", "([I)Z"⟩
theorem inJ6 : ∀ w ∈ wsJ60, w ∈ lw_tbl := by decide +kernel
theorem inJ9 : ∀ w ∈ wsJ90, w ∈ lw_tbl := by decide +kernel
abbrev vwCl : List vw_C := [(RX0, TX0, 3), (RX1, TX1, 8), (RX2, TX2, 2), (RX3, TX3, 6), (RX4, TX4, 4), (RX5, TX5, 4), (RX7, TX7, 5), (RX8, TX8, 6), (RX9, TX9, 35)]
end
section
/-! small rows of our own: tops of the stack, Int facts, worlds of contracts -/
section HLP
variable {p : Program} {l : Launch} {e : Env} {R : Room} {s : State} {m : MethodId} {args : Array Value} {below : List Frame} {meth : Method} {c : Code} {H : Heap} {locs : List Loc} {cells slots : Nat} {Q : State → Prop} {pc : Nat} {ls : Array Slot} {rest : List Value}
theorem hx_top {x y : Int32} (h : x = y) (k : W p l e R s m args below meth c H locs cells slots Q (F0 m pc ls (.int y :: rest))) : W p l e R s m args below meth c H locs cells slots Q (F0 m pc ls (.int x :: rest)) := by
  rw [h]; exact k
end HLP
theorem fx_lt {x c : Int32} {C : Int} (hc : c.toInt = C) (h : x < c) : x.toInt < C := hc ▸ Int32.lt_iff_toInt_lt.mp h
theorem fx_le {x c : Int32} {C : Int} (hc : c.toInt = C) (h : x ≤ c) : x.toInt ≤ C := hc ▸ Int32.le_iff_toInt_le.mp h
theorem fx_gt {x c : Int32} {C : Int} (hc : c.toInt = C) (h : c < x) : C < x.toInt := hc ▸ Int32.lt_iff_toInt_lt.mp h
theorem fx_ge {x c : Int32} {C : Int} (hc : c.toInt = C) (h : c ≤ x) : C ≤ x.toInt := hc ▸ Int32.le_iff_toInt_le.mp h
theorem fx_eq {x c : Int32} {C : Int} (hc : c.toInt = C) (h : x = c) : x.toInt = C := by rw [h]; exact hc
theorem fx_ne {x c : Int32} {C : Int} (hc : c.toInt = C) (h : ¬ x = c) : x.toInt ≠ C := fun e => h (Int32.toInt_inj.mp (e.trans hc.symm))
theorem fn_lt {x c : Int32} {C : Int} (hc : c.toInt = C) (h : ¬ x < c) : C ≤ x.toInt := by have h1 := mt Int32.lt_iff_toInt_lt.mpr h; rw [hc] at h1; omega
theorem fn_le {x c : Int32} {C : Int} (hc : c.toInt = C) (h : ¬ x ≤ c) : C < x.toInt := by have h1 := mt Int32.le_iff_toInt_le.mpr h; rw [hc] at h1; omega
theorem fn_gt {x c : Int32} {C : Int} (hc : c.toInt = C) (h : ¬ c < x) : x.toInt ≤ C := by have h1 := mt Int32.lt_iff_toInt_lt.mpr h; rw [hc] at h1; omega
theorem fn_ge {x c : Int32} {C : Int} (hc : c.toInt = C) (h : ¬ c ≤ x) : x.toInt < C := by have h1 := mt Int32.le_iff_toInt_le.mpr h; rw [hc] at h1; omega
theorem fn_eq {x c : Int32} {C : Int} (hc : c.toInt = C) (h : ¬ x = c) : x.toInt ≠ C := fx_ne hc h
theorem fn_ne {x c : Int32} {C : Int} (hc : c.toInt = C) (h : x = c) : x.toInt = C := fx_eq hc h
theorem fx_rng (x : Int32) : -2147483648 ≤ x.toInt ∧ x.toInt < 2147483648 := by
  have h1 := Int32.le_toInt x
  have h2 := Int32.toInt_lt x
  omega
theorem fx_in {x : Int32} {n : Nat} (h0 : 0 ≤ x.toInt) (h : x.toInt < n) : vp_in x n := vp_in_iff.mpr ⟨h0, h⟩
theorem fx_cl {x : Int32} {n : Nat} (h0 : 0 ≤ x.toInt) (h : x.toInt < n) : x.toNatClampNeg < n := by
  have h1 : x.toNatClampNeg = x.toInt.toNat := rfl
  omega
theorem fx_sub {x c : Int32} {C : Int} (hc : c.toInt = C) (h1 : -2147483648 ≤ x.toInt - C) (h2 : x.toInt - C < 2147483648) : (x - c).toInt = x.toInt - C := by
  rw [Int32.toInt_sub, hc, Int.bmod_eq_of_le (by omega) (by omega)]
theorem fx_bool {P : Prop} [Decidable P] {r : Int32} (h : r = if P then 1 else 0) : (r = 1 ∧ P) ∨ (r = 0 ∧ ¬ P) := by
  by_cases hp : P
  · rw [if_pos hp] at h; exact Or.inl ⟨h, hp⟩
  · rw [if_neg hp] at h; exact Or.inr ⟨h, hp⟩
theorem nz_lt {a b : Nat} (ha : a < 2 ^ 31) (hb : b < 2 ^ 31) (h : nI a < nI b) : a < b := (nI_ltI ha hb).mp h
theorem nz_ltn {a b : Nat} (ha : a < 2 ^ 31) (hb : b < 2 ^ 31) (h : ¬ nI a < nI b) : ¬ (a < b) := fun q => h ((nI_ltI ha hb).mpr q)
theorem nz_le {a b : Nat} (ha : a < 2 ^ 31) (hb : b < 2 ^ 31) (h : nI a ≤ nI b) : a ≤ b := (nI_leI ha hb).mp h
theorem nz_len {a b : Nat} (ha : a < 2 ^ 31) (hb : b < 2 ^ 31) (h : ¬ nI a ≤ nI b) : ¬ (a ≤ b) := fun q => h ((nI_leI ha hb).mpr q)
theorem nz_ge {a b : Nat} (ha : a < 2 ^ 31) (hb : b < 2 ^ 31) (h : nI b ≤ nI a) : a ≥ b := (nI_leI hb ha).mp h
theorem nz_gen {a b : Nat} (ha : a < 2 ^ 31) (hb : b < 2 ^ 31) (h : ¬ nI b ≤ nI a) : ¬ (a ≥ b) := fun q => h ((nI_leI hb ha).mpr q)
theorem nz_gt {a b : Nat} (ha : a < 2 ^ 31) (hb : b < 2 ^ 31) (h : nI b < nI a) : a > b := (nI_ltI hb ha).mp h
theorem nz_gtn {a b : Nat} (ha : a < 2 ^ 31) (hb : b < 2 ^ 31) (h : ¬ nI b < nI a) : ¬ (a > b) := fun q => h ((nI_ltI hb ha).mpr q)
theorem nz_eq {a b : Nat} (ha : a < 2 ^ 31) (hb : b < 2 ^ 31) (h : nI a = nI b) : a = b := (nI_eq ha hb).mp h
theorem nz_eqn {a b : Nat} (ha : a < 2 ^ 31) (hb : b < 2 ^ 31) (h : ¬ nI a = nI b) : ¬ (a = b) := fun q => h ((nI_eq ha hb).mpr q)
theorem z_and (x : Int32) : (0 : Int32) &&& x = 0 := by apply Int32.toBitVec_inj.mp; simp
theorem z_shr (x : Int32) : (0 : Int32) >>> (x &&& 31) = 0 := by apply Int32.toBitVec_inj.mp; simp
def slF (a b : Int32) (k : Nat) : Nat → Int32 := fun j => if j < k then a else b
theorem slF_0 (a b : Int32) : slF a b 0 = fun _ => b := by funext j; simp [slF]
theorem slF_in {a b : Int32} {k j : Nat} (h : j < k) : slF a b k j = a := if_pos h
theorem slF_u (a b : Int32) (k : Nat) : upd (slF a b k) k a = slF a b (k + 1) := by
  funext j
  unfold upd slF
  by_cases h : j = k
  · rw [if_pos h, if_pos (by omega)]
  · rw [if_neg h]
    by_cases h2 : j < k
    · rw [if_pos h2, if_pos (by omega)]
    · rw [if_neg h2, if_neg (by omega)]
theorem slF_u0 (a b : Int32) : upd (fun _ => b) 0 a = slF a b 1 := by
  rw [← slF_0 a b]; exact slF_u a b 0
theorem slF_n {a b : Int32} {k : Nat} (h : k < 2 ^ 31) : upd (slF a b k) (Int32.toNatClampNeg (nI k)) a = slF a b (k + 1) := by
  rw [nI_clamp h]; exact slF_u a b k
theorem upd_const (v : Int32) (k : Nat) : upd (fun _ => v) k v = fun _ => v := by funext j; unfold upd; split <;> rfl
/-- the nest mates' links -/
def nw_list : List (String × Nat × MethodName × String) := [(RX8, 9, yX1_init, RX8), (RX1, 29, yX4_init, RX8), (RX8, 18, yX2_init, RX8), (RX8, 25, yX0_init, RX8), (RX8, 32, yX5_init, RX8), (RX8, 39, yX7_init, RX8), (RX4, 32, yX8_isIn, RX8), (RX1, 45, yX8_isIn, RX8), (RX0, 22, yX8_isName, RX8), (RX0, 30, yX8_isIn, RX8), (RX6, 15, yX8_isIn, RX8), (RX7, 62, yX8_isIn, RX8), (RX7, 50, yX8_isName, RX8), (RX3, 32, yX8_isPlace, RX8), (RX3, 50, yX8_isIn, RX8)]
def nw_ok (U : State) : Prop := ∀ q ∈ nw_list, va_Nw (.methodLinkNest q.1 q.2.1 q.2.2.1 q.2.2.2) U
theorem nw_ok.warm {s U : State} (hW : s.WarmedH U.vm) (h : nw_ok s) : nw_ok U := fun q hq => va_Nw.warmM hW (h q hq)
theorem nw_ok.calling {U : State} {g : JFrame} {mk : MethodId} {a : Array Value} (h : nw_ok U) : nw_ok (U.calling g mk a) := fun q hq => va_Nw.same rfl rfl (h q hq)
def pcW (dC : Nat → ClassId) (dI : Nat → Nat → Nat) (tys : List (ClassId × FieldType)) (ws : va_W) (sz : Nat) (U : State) : Prop := U.heap.size = sz ∧ nw_ok U ∧ va_P (dC, dI) vwCl ws U.heap ∧ va_K (dC, dI) vwCl tys U ∧ va_D (fun _ => True) ws
theorem pcW_blind {av : List Value} {dC : Nat → ClassId} {dI : Nat → Nat → Nat} {tys : List (ClassId × FieldType)} {ws : va_W} {sz : Nat} : FrameBlind (va_Pc av (pcW dC dI tys ws sz)) := by
  intro a U g mk q
  obtain ⟨q0, q1, q2, q3, q4, q5⟩ := q
  exact ⟨q0, q1, q2.calling, q3, va_K.moved (u := U) (U := U.calling g mk a) (Vm.Alike.refl U.vm) q4, q5⟩
theorem pcW_at {av : List Value} {dC : Nat → ClassId} {dI : Nat → Nat → Nat} {tys : List (ClassId × FieldType)} {ws : va_W} {H : Heap} {s : State} {A : Nat → Prop} (hP : va_P (dC, dI) vwCl ws H) (hK : va_K (dC, dI) vwCl tys s) (hD : va_D A ws) (hN : nw_ok s) : ∀ U : State, U.heap = H → s.WarmedH U.vm → va_Pc av (pcW dC dI tys ws H.size) av.toArray U :=
  fun U hU hW => ⟨rfl, by rw [hU], hN.warm hW, by rw [hU]; exact hP, va_K.moved hW.alike hK, hD.weaken (fun _ _ _ _ => trivial)⟩
theorem keepP {D : va_G} {cl : List vw_C} {ws : va_W} {H H1 : Heap} (hP : va_P D cl ws H) (hk : ∀ q : Nat, q < H.size → ¬ (H.size ≤ q) → H1[q]? = H[q]?) : va_P D cl ws H1 :=
  hP.kept (fun k q h => hk q.1 (hP k q h).lt (Nat.not_le.mpr (hP k q h).lt))
theorem nilP {D : va_G} {cl : List vw_C} {H : Heap} : va_P D cl [] H := fun k q h => by simp at h
theorem nilD {A : Nat → Prop} : va_D A [] := ⟨fun i j p q h => by simp at h, fun k q h => by simp at h⟩
/-- the tables' good words: every contract stands on all of them -/
def BG : List Cond := lw_tbl.filter goodWord
def wq (y : MethodName) (b : ByteArray) (n : Nat) (r : Option FieldType) : List Cond := .code y b n r :: BG
theorem mB {w : Cond} (h : w ∈ lw_tbl) (g : goodWord w = true) : w ∈ BG := List.mem_filter.mpr ⟨h, g⟩
theorem BG_lw {w : Cond} (h : w ∈ BG) : w ∈ lw_tbl := (List.mem_filter.mp h).1
theorem t0 {w : Cond} {i : Nat} (h : (k2_sels lw_privs)[i]? = some w) : w ∈ lw_tbl := List.mem_append_left _ (List.mem_of_getElem? h)
theorem t1 {w : Cond} {i : Nat} (h : tables_1_1[i]? = some w) : w ∈ lw_tbl := List.mem_append_right _ (List.mem_append_left _ (List.mem_of_getElem? h))
theorem t2 {w : Cond} {i : Nat} (h : tables_1_2[i]? = some w) : w ∈ lw_tbl := List.mem_append_right _ (List.mem_append_right _ (List.mem_append_left _ (List.mem_of_getElem? h)))
theorem t3 {w : Cond} {i : Nat} (h : tables_1_3[i]? = some w) : w ∈ lw_tbl := List.mem_append_right _ (List.mem_append_right _ (List.mem_append_right _ (List.mem_append_left _ (List.mem_of_getElem? h))))
theorem t4 {w : Cond} {i : Nat} (h : tables_1_4[i]? = some w) : w ∈ lw_tbl := List.mem_append_right _ (List.mem_append_right _ (List.mem_append_right _ (List.mem_append_right _ (List.mem_append_left _ (List.mem_of_getElem? h)))))
theorem t5 {w : Cond} {i : Nat} (h : tables_1_5[i]? = some w) : w ∈ lw_tbl := List.mem_append_right _ (List.mem_append_right _ (List.mem_append_right _ (List.mem_append_right _ (List.mem_append_right _ (List.mem_of_getElem? h)))))
theorem BG_good {w : Cond} (h : w ∈ BG) : (w.onTables && w.keeps) = true ∨ ∃ ty, w = .arrayClass ty := good_of_word (List.mem_filter.mp h).2
theorem gN {y : MethodName} {b : ByteArray} {n : Nat} {r : Option FieldType} (h : Cond.code y b n r ∈ BG) : GoodIn BG (wq y b n r) := by
  intro w hw
  have h1 : w ∈ BG := (List.mem_cons.mp hw).elim (fun e => e ▸ h) id
  exact ⟨h1, BG_good h1⟩
theorem gApp {a b : List Cond} (ha : ∀ w ∈ a, w ∈ BG) (hb : GoodIn BG b) : GoodIn BG (a ++ b) := fun w h => (List.mem_append.mp h).elim (fun q => ⟨ha w q, BG_good (ha w q)⟩) (hb w)
theorem gV {own C : String} {idx : Nat} {y : MethodName} {b : ByteArray} {n : Nat} {r : Option FieldType} (h1 : Cond.methodLink own idx y ∈ BG) (h2 : Cond.instanceMethod y ∈ BG) (h3 : Cond.selects C y y ∈ BG) (h4 : Cond.initialized C ∈ BG) (h5 : Cond.code y b n r ∈ BG) : GoodIn BG (wsV own idx C y (wq y b n r)) :=
  gApp (List.forall_mem_cons.mpr ⟨h1, List.forall_mem_cons.mpr ⟨h2, List.forall_mem_cons.mpr ⟨h3, List.forall_mem_cons.mpr ⟨h4, fun _ h => absurd h List.not_mem_nil⟩⟩⟩⟩) (gN h5)
theorem gS {own : String} {idx : Nat} {y : MethodName} {b : ByteArray} {n : Nat} {r : Option FieldType} (h1 : Cond.methodLink own idx y ∈ BG) (h2 : Cond.static y ∈ BG) (h4 : Cond.initialized y.cls ∈ BG) (h5 : Cond.code y b n r ∈ BG) : GoodIn BG (va_wsS own idx y (wq y b n r)) :=
  gApp (List.forall_mem_cons.mpr ⟨h1, List.forall_mem_cons.mpr ⟨h2, List.forall_mem_cons.mpr ⟨h4, fun _ h => absurd h List.not_mem_nil⟩⟩⟩) (gN h5)
theorem lc_lt {x y : Int32} (h : lg_cmp (Int32.toInt64 x) (Int32.toInt64 y) < 0) : x.toInt < y.toInt := by
  rw [lg_cmp_lt, Int64.lt_iff_toInt_lt, Int32.toInt_toInt64, Int32.toInt_toInt64] at h
  exact h
theorem lc_ltn {x y : Int32} (h : ¬ lg_cmp (Int32.toInt64 x) (Int32.toInt64 y) < 0) : y.toInt ≤ x.toInt := by
  rw [lg_cmp_lt, Int64.lt_iff_toInt_lt, Int32.toInt_toInt64, Int32.toInt_toInt64] at h
  omega
theorem lc_gt {x y : Int32} (h : 0 < lg_cmp (Int32.toInt64 x) (Int32.toInt64 y)) : y.toInt < x.toInt := by
  rw [lg_cmp_gt, Int64.lt_iff_toInt_lt, Int32.toInt_toInt64, Int32.toInt_toInt64] at h
  exact h
theorem lc_gtn {x y : Int32} (h : ¬ 0 < lg_cmp (Int32.toInt64 x) (Int32.toInt64 y)) : x.toInt ≤ y.toInt := by
  rw [lg_cmp_gt, Int64.lt_iff_toInt_lt, Int32.toInt_toInt64, Int32.toInt_toInt64] at h
  omega
theorem fx_sing {x c : Int32} {C : Int} (hc : c.toInt = C) (h : x.toInt = C) : x = c := Int32.toInt_inj.mp (h.trans hc.symm)
end
section
theorem mw_2_220 : Cond.constant RJ6 265 (1431655765) ∈ BG := mB (t2 (i := 220) (by decide +kernel)) (by decide +kernel)
theorem mw_2_221 : Cond.constant RJ6 266 (858993459) ∈ BG := mB (t2 (i := 221) (by decide +kernel)) (by decide +kernel)
theorem mw_2_222 : Cond.constant RJ6 267 (252645135) ∈ BG := mB (t2 (i := 222) (by decide +kernel)) (by decide +kernel)
theorem mw_2_219 : Cond.code yJ6_bitCount_0f7a4 cJ6_bitCount_0f7a4 1 (some .int) ∈ BG := mB (t2 (i := 219) rfl) (by decide +kernel)
theorem mw_2_233 : Cond.methodLink RX8 214 yJ6_bitCount_0f7a4 ∈ BG := mB (t2 (i := 233) (by decide +kernel)) (by decide +kernel)
theorem mw_2_218 : Cond.static yJ6_bitCount_0f7a4 ∈ BG := mB (t2 (i := 218) (by decide +kernel)) (by decide +kernel)
theorem mw_1_12 : Cond.initialized RJ6 ∈ BG := mB (t1 (i := 12) (by decide +kernel)) (by decide +kernel)
theorem dX8_isName_0 : decode cX8_isName 0 = .ok (.iload_n 0, 1) := by decide +kernel
theorem dX8_isName_1 : decode cX8_isName 1 = .ok (.ifCond .lt 13, 3) := by decide +kernel
theorem dX8_isName_14 : decode cX8_isName 14 = .ok (.iconst 0, 1) := by decide +kernel
theorem dX8_isName_15 : decode cX8_isName 15 = .ok (.ireturn, 1) := by decide +kernel
theorem dX8_isName_4 : decode cX8_isName 4 = .ok (.iload_n 0, 1) := by decide +kernel
theorem dX8_isName_5 : decode cX8_isName 5 = .ok (.bipush 8, 2) := by decide +kernel
theorem dX8_isName_7 : decode cX8_isName 7 = .ok (.if_icmp .ge 7, 3) := by decide +kernel
theorem dX8_isName_10 : decode cX8_isName 10 = .ok (.iconst 1, 1) := by decide +kernel
theorem dX8_isName_11 : decode cX8_isName 11 = .ok (.goto 4, 3) := by decide +kernel
theorem dX8_isPlace_0 : decode cX8_isPlace 0 = .ok (.iload_n 0, 1) := by decide +kernel
theorem dX8_isPlace_1 : decode cX8_isPlace 1 = .ok (.ifCond .lt 12, 3) := by decide +kernel
theorem dX8_isPlace_13 : decode cX8_isPlace 13 = .ok (.iconst 0, 1) := by decide +kernel
theorem dX8_isPlace_14 : decode cX8_isPlace 14 = .ok (.ireturn, 1) := by decide +kernel
theorem dX8_isPlace_4 : decode cX8_isPlace 4 = .ok (.iload_n 0, 1) := by decide +kernel
theorem dX8_isPlace_5 : decode cX8_isPlace 5 = .ok (.iconst 4, 1) := by decide +kernel
theorem dX8_isPlace_6 : decode cX8_isPlace 6 = .ok (.if_icmp .ge 7, 3) := by decide +kernel
theorem dX8_isPlace_9 : decode cX8_isPlace 9 = .ok (.iconst 1, 1) := by decide +kernel
theorem dX8_isPlace_10 : decode cX8_isPlace 10 = .ok (.goto 4, 3) := by decide +kernel
theorem dX8_isIn_0 : decode cX8_isIn 0 = .ok (.iload_n 1, 1) := by decide +kernel
theorem dX8_isIn_1 : decode cX8_isIn 1 = .ok (.iload_n 0, 1) := by decide +kernel
theorem dX8_isIn_2 : decode cX8_isIn 2 = .ok (.ishr, 1) := by decide +kernel
theorem dX8_isIn_3 : decode cX8_isIn 3 = .ok (.iconst 1, 1) := by decide +kernel
theorem dX8_isIn_4 : decode cX8_isIn 4 = .ok (.iand, 1) := by decide +kernel
theorem dX8_isIn_5 : decode cX8_isIn 5 = .ok (.ifCond .eq 7, 3) := by decide +kernel
theorem dX8_isIn_12 : decode cX8_isIn 12 = .ok (.iconst 0, 1) := by decide +kernel
theorem dX8_isIn_13 : decode cX8_isIn 13 = .ok (.ireturn, 1) := by decide +kernel
theorem dJ6_bitCount_0f7a4_0 : decode cJ6_bitCount_0f7a4 0 = .ok (.iload_n 0, 1) := by decide +kernel
theorem dJ6_bitCount_0f7a4_1 : decode cJ6_bitCount_0f7a4 1 = .ok (.iload_n 0, 1) := by decide +kernel
theorem dJ6_bitCount_0f7a4_2 : decode cJ6_bitCount_0f7a4 2 = .ok (.iconst 1, 1) := by decide +kernel
theorem dJ6_bitCount_0f7a4_3 : decode cJ6_bitCount_0f7a4 3 = .ok (.iushr, 1) := by decide +kernel
theorem dJ6_bitCount_0f7a4_4 : decode cJ6_bitCount_0f7a4 4 = .ok (.ldc_w 265, 3) := by decide +kernel
theorem dJ6_bitCount_0f7a4_7 : decode cJ6_bitCount_0f7a4 7 = .ok (.iand, 1) := by decide +kernel
theorem dJ6_bitCount_0f7a4_8 : decode cJ6_bitCount_0f7a4 8 = .ok (.isub, 1) := by decide +kernel
theorem dJ6_bitCount_0f7a4_9 : decode cJ6_bitCount_0f7a4 9 = .ok (.istore_n 0, 1) := by decide +kernel
theorem dJ6_bitCount_0f7a4_10 : decode cJ6_bitCount_0f7a4 10 = .ok (.iload_n 0, 1) := by decide +kernel
theorem dJ6_bitCount_0f7a4_11 : decode cJ6_bitCount_0f7a4 11 = .ok (.ldc_w 266, 3) := by decide +kernel
theorem dJ6_bitCount_0f7a4_14 : decode cJ6_bitCount_0f7a4 14 = .ok (.iand, 1) := by decide +kernel
theorem dJ6_bitCount_0f7a4_15 : decode cJ6_bitCount_0f7a4 15 = .ok (.iload_n 0, 1) := by decide +kernel
theorem dJ6_bitCount_0f7a4_16 : decode cJ6_bitCount_0f7a4 16 = .ok (.iconst 2, 1) := by decide +kernel
theorem dJ6_bitCount_0f7a4_17 : decode cJ6_bitCount_0f7a4 17 = .ok (.iushr, 1) := by decide +kernel
theorem dJ6_bitCount_0f7a4_18 : decode cJ6_bitCount_0f7a4 18 = .ok (.ldc_w 266, 3) := by decide +kernel
theorem dJ6_bitCount_0f7a4_21 : decode cJ6_bitCount_0f7a4 21 = .ok (.iand, 1) := by decide +kernel
theorem dJ6_bitCount_0f7a4_22 : decode cJ6_bitCount_0f7a4 22 = .ok (.iadd, 1) := by decide +kernel
theorem dJ6_bitCount_0f7a4_23 : decode cJ6_bitCount_0f7a4 23 = .ok (.istore_n 0, 1) := by decide +kernel
theorem dJ6_bitCount_0f7a4_24 : decode cJ6_bitCount_0f7a4 24 = .ok (.iload_n 0, 1) := by decide +kernel
theorem dJ6_bitCount_0f7a4_25 : decode cJ6_bitCount_0f7a4 25 = .ok (.iload_n 0, 1) := by decide +kernel
theorem dJ6_bitCount_0f7a4_26 : decode cJ6_bitCount_0f7a4 26 = .ok (.iconst 4, 1) := by decide +kernel
theorem dJ6_bitCount_0f7a4_27 : decode cJ6_bitCount_0f7a4 27 = .ok (.iushr, 1) := by decide +kernel
theorem dJ6_bitCount_0f7a4_28 : decode cJ6_bitCount_0f7a4 28 = .ok (.iadd, 1) := by decide +kernel
theorem dJ6_bitCount_0f7a4_29 : decode cJ6_bitCount_0f7a4 29 = .ok (.ldc_w 267, 3) := by decide +kernel
theorem dJ6_bitCount_0f7a4_32 : decode cJ6_bitCount_0f7a4 32 = .ok (.iand, 1) := by decide +kernel
theorem dJ6_bitCount_0f7a4_33 : decode cJ6_bitCount_0f7a4 33 = .ok (.istore_n 0, 1) := by decide +kernel
theorem dJ6_bitCount_0f7a4_34 : decode cJ6_bitCount_0f7a4 34 = .ok (.iload_n 0, 1) := by decide +kernel
theorem dJ6_bitCount_0f7a4_35 : decode cJ6_bitCount_0f7a4 35 = .ok (.iload_n 0, 1) := by decide +kernel
theorem dJ6_bitCount_0f7a4_36 : decode cJ6_bitCount_0f7a4 36 = .ok (.bipush 8, 2) := by decide +kernel
theorem dJ6_bitCount_0f7a4_38 : decode cJ6_bitCount_0f7a4 38 = .ok (.iushr, 1) := by decide +kernel
theorem dJ6_bitCount_0f7a4_39 : decode cJ6_bitCount_0f7a4 39 = .ok (.iadd, 1) := by decide +kernel
theorem dJ6_bitCount_0f7a4_40 : decode cJ6_bitCount_0f7a4 40 = .ok (.istore_n 0, 1) := by decide +kernel
theorem dJ6_bitCount_0f7a4_41 : decode cJ6_bitCount_0f7a4 41 = .ok (.iload_n 0, 1) := by decide +kernel
theorem dJ6_bitCount_0f7a4_42 : decode cJ6_bitCount_0f7a4 42 = .ok (.iload_n 0, 1) := by decide +kernel
theorem dJ6_bitCount_0f7a4_43 : decode cJ6_bitCount_0f7a4 43 = .ok (.bipush 16, 2) := by decide +kernel
theorem dJ6_bitCount_0f7a4_45 : decode cJ6_bitCount_0f7a4 45 = .ok (.iushr, 1) := by decide +kernel
theorem dJ6_bitCount_0f7a4_46 : decode cJ6_bitCount_0f7a4 46 = .ok (.iadd, 1) := by decide +kernel
theorem dJ6_bitCount_0f7a4_47 : decode cJ6_bitCount_0f7a4 47 = .ok (.istore_n 0, 1) := by decide +kernel
theorem dJ6_bitCount_0f7a4_48 : decode cJ6_bitCount_0f7a4 48 = .ok (.iload_n 0, 1) := by decide +kernel
theorem dJ6_bitCount_0f7a4_49 : decode cJ6_bitCount_0f7a4 49 = .ok (.bipush 63, 2) := by decide +kernel
theorem dJ6_bitCount_0f7a4_51 : decode cJ6_bitCount_0f7a4 51 = .ok (.iand, 1) := by decide +kernel
theorem dJ6_bitCount_0f7a4_52 : decode cJ6_bitCount_0f7a4 52 = .ok (.ireturn, 1) := by decide +kernel
theorem dX8_bitsOrCount_0 : decode cX8_bitsOrCount 0 = .ok (.iload_n 1, 1) := by decide +kernel
theorem dX8_bitsOrCount_1 : decode cX8_bitsOrCount 1 = .ok (.ifCond .ne 7, 3) := by decide +kernel
theorem dX8_bitsOrCount_8 : decode cX8_bitsOrCount 8 = .ok (.iload_n 0, 1) := by decide +kernel
theorem dX8_bitsOrCount_9 : decode cX8_bitsOrCount 9 = .ok (.invokestatic 214, 3) := by decide +kernel
theorem dX8_bitsOrCount_12 : decode cX8_bitsOrCount 12 = .ok (.ireturn, 1) := by decide +kernel
theorem dX8_bitsOrCount_4 : decode cX8_bitsOrCount 4 = .ok (.iload_n 0, 1) := by decide +kernel
theorem dX8_bitsOrCount_5 : decode cX8_bitsOrCount 5 = .ok (.goto 7, 3) := by decide +kernel
set_option maxHeartbeats 4000000 in
set_option maxRecDepth 100000 in
theorem c_isName (l : Launch) (dC : Nat → ClassId) (dI : Nat → Nat → Nat) (sz : Nat) (n : Int32)  : Met l yX8_isName (wq yX8_isName cX8_isName 1 (some .boolean)) ({ frames := 0, cells := 0, slots := 0, locals := 0 }) (va_Pc [.int n] (pcW dC dI [] [] sz)) (va_Qi (fun (r : Int32) (_ : Unit) => r = (if 0 ≤ Int32.toInt n ∧ Int32.toInt n ≤ 7 then 1 else 0)) (fun _ _ => True) (fun q : Nat => sz ≤ q)) 0 0 (fun q : Nat => sz ≤ q) := by
  refine Met.ofW (cc := cX8_isName) (maxL := 1) (ret := (some .boolean)) (by decide) rfl ?_
  intro p e s m args below meth c s₁ B hml hv
  obtain ⟨rfl, hsz, hN, hP, hK, hD0⟩ := hv
  have hx := B.exec
  have hb := B.bytes
  have hr := B.returns
  have hts0 := atoms_spec (ws := (wq yX8_isName cX8_isName 1 (some .boolean))) B.pre
  have hts : ∀ w ∈ BG, w.before _ s = true := fun w h => hts0 w (List.mem_cons_of_mem _ h)
  have hown : s.vm.findClass RX8 = some m.cls := findClass_of_methodNamed B.named
  have hlocks := B.notSynchronized
  subst hsz
  have hA : ∀ q : Nat, s.heap.size ≤ q → (fun q : Nat => s.heap.size ≤ q) q := fun _ h => h
  have hD := hD0
  have hS : va_S (fun q : Nat => s.heap.size ≤ q) s.heap s.heap [] := va_S.rf
  have hP : va_P (dC, dI) vwCl [] s.heap := hP
  have hl := lv_entry ([.int n]) (n := 1) (Nat.le_of_ble_eq_true rfl)
  rw [lg_entry_eq]
  generalize (lg_sl ([.int n]) ++ List.replicate (1 - (lg_sl ([.int n])).length) Slot.unset).toArray = ls at hl ⊢
  have hl : lv_has ls 1 [(0, .int n)] := hl
  skip
  refine lv_iload_n hx hb dX8_isName_0 rfl (lv_at hl 0 rfl) ?_
  refine lv_if_lt (tgt := 14) hx hb dX8_isName_1 (by decide) (fun c_1 => ?_) (fun c_1 => ?_)
  · have b_2 := fx_lt (x := n) (C := 0) (by decide) c_1
    refine lv_iconst (v := 0) hx hb dX8_isName_14 (by decide) ?_
    exact W.zret (v := 0) hx hb hr (by decide) (fun t ht hW => ⟨⟨0, (), rfl, (by first | exact (if_pos (by omega)).symm | exact (if_neg (by omega)).symm), trivial⟩, hS.F ht⟩) hS.2.2 dX8_isName_15
  · have b_2 := fn_lt (x := n) (C := 0) (by decide) c_1
    refine lv_iload_n hx hb dX8_isName_4 rfl (lv_at hl 0 rfl) ?_
    refine lv_bipush (v := 8) hx hb dX8_isName_5 (by decide) ?_
    refine lv_icmp_ge (tgt := 14) hx hb dX8_isName_7 (by decide) (fun c_3 => ?_) (fun c_3 => ?_)
    · have b_4 := fx_ge (x := n) (C := 8) (by decide) c_3
      refine lv_iconst (v := 0) hx hb dX8_isName_14 (by decide) ?_
      exact W.zret (v := 0) hx hb hr (by decide) (fun t ht hW => ⟨⟨0, (), rfl, (by first | exact (if_pos (by omega)).symm | exact (if_neg (by omega)).symm), trivial⟩, hS.F ht⟩) hS.2.2 dX8_isName_15
    · have b_4 := fn_ge (x := n) (C := 8) (by decide) c_3
      refine lv_iconst (v := 1) hx hb dX8_isName_10 (by decide) ?_
      refine lv_goto (tgt := 15) hx hb dX8_isName_11 (by decide) ?_
      exact W.zret (v := 1) hx hb hr (by decide) (fun t ht hW => ⟨⟨1, (), rfl, (by first | exact (if_pos (by omega)).symm | exact (if_neg (by omega)).symm), trivial⟩, hS.F ht⟩) hS.2.2 dX8_isName_15
set_option maxHeartbeats 4000000 in
set_option maxRecDepth 100000 in
theorem c_isPlace (l : Launch) (dC : Nat → ClassId) (dI : Nat → Nat → Nat) (sz : Nat) (n : Int32)  : Met l yX8_isPlace (wq yX8_isPlace cX8_isPlace 1 (some .boolean)) ({ frames := 0, cells := 0, slots := 0, locals := 0 }) (va_Pc [.int n] (pcW dC dI [] [] sz)) (va_Qi (fun (r : Int32) (_ : Unit) => r = (if 0 ≤ Int32.toInt n ∧ Int32.toInt n ≤ 3 then 1 else 0)) (fun _ _ => True) (fun q : Nat => sz ≤ q)) 0 0 (fun q : Nat => sz ≤ q) := by
  refine Met.ofW (cc := cX8_isPlace) (maxL := 1) (ret := (some .boolean)) (by decide) rfl ?_
  intro p e s m args below meth c s₁ B hml hv
  obtain ⟨rfl, hsz, hN, hP, hK, hD0⟩ := hv
  have hx := B.exec
  have hb := B.bytes
  have hr := B.returns
  have hts0 := atoms_spec (ws := (wq yX8_isPlace cX8_isPlace 1 (some .boolean))) B.pre
  have hts : ∀ w ∈ BG, w.before _ s = true := fun w h => hts0 w (List.mem_cons_of_mem _ h)
  have hown : s.vm.findClass RX8 = some m.cls := findClass_of_methodNamed B.named
  have hlocks := B.notSynchronized
  subst hsz
  have hA : ∀ q : Nat, s.heap.size ≤ q → (fun q : Nat => s.heap.size ≤ q) q := fun _ h => h
  have hD := hD0
  have hS : va_S (fun q : Nat => s.heap.size ≤ q) s.heap s.heap [] := va_S.rf
  have hP : va_P (dC, dI) vwCl [] s.heap := hP
  have hl := lv_entry ([.int n]) (n := 1) (Nat.le_of_ble_eq_true rfl)
  rw [lg_entry_eq]
  generalize (lg_sl ([.int n]) ++ List.replicate (1 - (lg_sl ([.int n])).length) Slot.unset).toArray = ls at hl ⊢
  have hl : lv_has ls 1 [(0, .int n)] := hl
  skip
  refine lv_iload_n hx hb dX8_isPlace_0 rfl (lv_at hl 0 rfl) ?_
  refine lv_if_lt (tgt := 13) hx hb dX8_isPlace_1 (by decide) (fun c_1 => ?_) (fun c_1 => ?_)
  · have b_2 := fx_lt (x := n) (C := 0) (by decide) c_1
    refine lv_iconst (v := 0) hx hb dX8_isPlace_13 (by decide) ?_
    exact W.zret (v := 0) hx hb hr (by decide) (fun t ht hW => ⟨⟨0, (), rfl, (by first | exact (if_pos (by omega)).symm | exact (if_neg (by omega)).symm), trivial⟩, hS.F ht⟩) hS.2.2 dX8_isPlace_14
  · have b_2 := fn_lt (x := n) (C := 0) (by decide) c_1
    refine lv_iload_n hx hb dX8_isPlace_4 rfl (lv_at hl 0 rfl) ?_
    refine lv_iconst (v := 4) hx hb dX8_isPlace_5 (by decide) ?_
    refine lv_icmp_ge (tgt := 13) hx hb dX8_isPlace_6 (by decide) (fun c_3 => ?_) (fun c_3 => ?_)
    · have b_4 := fx_ge (x := n) (C := 4) (by decide) c_3
      refine lv_iconst (v := 0) hx hb dX8_isPlace_13 (by decide) ?_
      exact W.zret (v := 0) hx hb hr (by decide) (fun t ht hW => ⟨⟨0, (), rfl, (by first | exact (if_pos (by omega)).symm | exact (if_neg (by omega)).symm), trivial⟩, hS.F ht⟩) hS.2.2 dX8_isPlace_14
    · have b_4 := fn_ge (x := n) (C := 4) (by decide) c_3
      refine lv_iconst (v := 1) hx hb dX8_isPlace_9 (by decide) ?_
      refine lv_goto (tgt := 14) hx hb dX8_isPlace_10 (by decide) ?_
      exact W.zret (v := 1) hx hb hr (by decide) (fun t ht hW => ⟨⟨1, (), rfl, (by first | exact (if_pos (by omega)).symm | exact (if_neg (by omega)).symm), trivial⟩, hS.F ht⟩) hS.2.2 dX8_isPlace_14
set_option maxHeartbeats 4000000 in
set_option maxRecDepth 100000 in
theorem c_isIn0 (l : Launch) (dC : Nat → ClassId) (dI : Nat → Nat → Nat) (sz : Nat) (n : Int32)  : Met l yX8_isIn (wq yX8_isIn cX8_isIn 2 (some .boolean)) ({ frames := 0, cells := 0, slots := 0, locals := 0 }) (va_Pc [.int n, .int 0] (pcW dC dI [] [] sz)) (va_Qi (fun (r : Int32) (_ : Unit) => r = 0) (fun _ _ => True) (fun q : Nat => sz ≤ q)) 0 0 (fun q : Nat => sz ≤ q) := by
  refine Met.ofW (cc := cX8_isIn) (maxL := 2) (ret := (some .boolean)) (by decide) rfl ?_
  intro p e s m args below meth c s₁ B hml hv
  obtain ⟨rfl, hsz, hN, hP, hK, hD0⟩ := hv
  have hx := B.exec
  have hb := B.bytes
  have hr := B.returns
  have hts0 := atoms_spec (ws := (wq yX8_isIn cX8_isIn 2 (some .boolean))) B.pre
  have hts : ∀ w ∈ BG, w.before _ s = true := fun w h => hts0 w (List.mem_cons_of_mem _ h)
  have hown : s.vm.findClass RX8 = some m.cls := findClass_of_methodNamed B.named
  have hlocks := B.notSynchronized
  subst hsz
  have hA : ∀ q : Nat, s.heap.size ≤ q → (fun q : Nat => s.heap.size ≤ q) q := fun _ h => h
  have hD := hD0
  have hS : va_S (fun q : Nat => s.heap.size ≤ q) s.heap s.heap [] := va_S.rf
  have hP : va_P (dC, dI) vwCl [] s.heap := hP
  have hl := lv_entry ([.int n, .int 0]) (n := 2) (Nat.le_of_ble_eq_true rfl)
  rw [lg_entry_eq]
  generalize (lg_sl ([.int n, .int 0]) ++ List.replicate (2 - (lg_sl ([.int n, .int 0])).length) Slot.unset).toArray = ls at hl ⊢
  have hl : lv_has ls 2 [(0, .int n), (1, .int 0)] := hl
  skip
  refine lv_iload_n hx hb dX8_isIn_0 rfl (lv_at hl 1 rfl) ?_
  refine lv_iload_n hx hb dX8_isIn_1 rfl (lv_at hl 0 rfl) ?_
  refine lv_ishr hx hb dX8_isIn_2 ?_
  refine hx_top (y := 0) (z_shr _) ?_
  refine lv_iconst (v := 1) hx hb dX8_isIn_3 (by decide) ?_
  refine lv_iand hx hb dX8_isIn_4 ?_
  refine hx_top (y := 0) (by decide) ?_
  refine lv_if_eq (tgt := 12) hx hb dX8_isIn_5 (by decide) (fun _ => ?_) (fun h => absurd (by decide) h)
  refine lv_iconst (v := 0) hx hb dX8_isIn_12 (by decide) ?_
  exact W.zret (v := 0) hx hb hr (by decide) (fun t ht hW => ⟨⟨0, (), rfl, rfl, trivial⟩, hS.F ht⟩) hS.2.2 dX8_isIn_13
set_option maxHeartbeats 4000000 in
set_option maxRecDepth 100000 in
theorem c_bit0 (l : Launch) (dC : Nat → ClassId) (dI : Nat → Nat → Nat) (sz : Nat)   : Met l yJ6_bitCount_0f7a4 (wq yJ6_bitCount_0f7a4 cJ6_bitCount_0f7a4 1 (some .int)) ({ frames := 0, cells := 0, slots := 0, locals := 0 }) (va_Pc [.int 0] (pcW dC dI [] [] sz)) (va_Qi (fun (r : Int32) (_ : Unit) => r = 0) (fun _ _ => True) (fun q : Nat => sz ≤ q)) 0 0 (fun q : Nat => sz ≤ q) := by
  refine Met.ofW (cc := cJ6_bitCount_0f7a4) (maxL := 1) (ret := (some .int)) (by decide) rfl ?_
  intro p e s m args below meth c s₁ B hml hv
  obtain ⟨rfl, hsz, hN, hP, hK, hD0⟩ := hv
  have hx := B.exec
  have hb := B.bytes
  have hr := B.returns
  have hts0 := atoms_spec (ws := (wq yJ6_bitCount_0f7a4 cJ6_bitCount_0f7a4 1 (some .int))) B.pre
  have hts : ∀ w ∈ BG, w.before _ s = true := fun w h => hts0 w (List.mem_cons_of_mem _ h)
  have hown : s.vm.findClass RJ6 = some m.cls := findClass_of_methodNamed B.named
  have hlocks := B.notSynchronized
  subst hsz
  have hA : ∀ q : Nat, s.heap.size ≤ q → (fun q : Nat => s.heap.size ≤ q) q := fun _ h => h
  have hD := hD0
  have hS : va_S (fun q : Nat => s.heap.size ≤ q) s.heap s.heap [] := va_S.rf
  have hP : va_P (dC, dI) vwCl [] s.heap := hP
  have hl := lv_entry ([.int 0]) (n := 1) (Nat.le_of_ble_eq_true rfl)
  rw [lg_entry_eq]
  generalize (lg_sl ([.int 0]) ++ List.replicate (1 - (lg_sl ([.int 0])).length) Slot.unset).toArray = ls at hl ⊢
  have hl : lv_has ls 1 [(0, .int 0)] := hl
  skip
  refine lv_iload_n hx hb dJ6_bitCount_0f7a4_0 rfl (lv_at hl 0 rfl) ?_
  refine lv_iload_n hx hb dJ6_bitCount_0f7a4_1 rfl (lv_at hl 0 rfl) ?_
  refine lv_iconst (v := 1) hx hb dJ6_bitCount_0f7a4_2 (by decide) ?_
  refine lv_iushr (v := 0) hx hb dJ6_bitCount_0f7a4_3 (by decide) ?_
  refine lv_ldcw (v := 1431655765) hx hb hown (hts _ mw_2_220) dJ6_bitCount_0f7a4_4 ?_
  refine lv_iand hx hb dJ6_bitCount_0f7a4_7 ?_
  refine hx_top (y := 0) (by decide) ?_
  refine lv_isub hx hb dJ6_bitCount_0f7a4_8 ?_
  refine hx_top (y := 0) (by decide) ?_
  refine lv_istore_n (lv' := [(0, .int 0)]) hx hb dJ6_bitCount_0f7a4_9 rfl hl (by decide) rfl (fun ls hl => ?_)
  refine lv_iload_n hx hb dJ6_bitCount_0f7a4_10 rfl (lv_at hl 0 rfl) ?_
  refine lv_ldcw (v := 858993459) hx hb hown (hts _ mw_2_221) dJ6_bitCount_0f7a4_11 ?_
  refine lv_iand hx hb dJ6_bitCount_0f7a4_14 ?_
  refine hx_top (y := 0) (by decide) ?_
  refine lv_iload_n hx hb dJ6_bitCount_0f7a4_15 rfl (lv_at hl 0 rfl) ?_
  refine lv_iconst (v := 2) hx hb dJ6_bitCount_0f7a4_16 (by decide) ?_
  refine lv_iushr (v := 0) hx hb dJ6_bitCount_0f7a4_17 (by decide) ?_
  refine lv_ldcw (v := 858993459) hx hb hown (hts _ mw_2_221) dJ6_bitCount_0f7a4_18 ?_
  refine lv_iand hx hb dJ6_bitCount_0f7a4_21 ?_
  refine hx_top (y := 0) (by decide) ?_
  refine lv_iadd hx hb dJ6_bitCount_0f7a4_22 ?_
  refine hx_top (y := 0) (by decide) ?_
  refine lv_istore_n (lv' := [(0, .int 0)]) hx hb dJ6_bitCount_0f7a4_23 rfl hl (by decide) rfl (fun ls hl => ?_)
  refine lv_iload_n hx hb dJ6_bitCount_0f7a4_24 rfl (lv_at hl 0 rfl) ?_
  refine lv_iload_n hx hb dJ6_bitCount_0f7a4_25 rfl (lv_at hl 0 rfl) ?_
  refine lv_iconst (v := 4) hx hb dJ6_bitCount_0f7a4_26 (by decide) ?_
  refine lv_iushr (v := 0) hx hb dJ6_bitCount_0f7a4_27 (by decide) ?_
  refine lv_iadd hx hb dJ6_bitCount_0f7a4_28 ?_
  refine hx_top (y := 0) (by decide) ?_
  refine lv_ldcw (v := 252645135) hx hb hown (hts _ mw_2_222) dJ6_bitCount_0f7a4_29 ?_
  refine lv_iand hx hb dJ6_bitCount_0f7a4_32 ?_
  refine hx_top (y := 0) (by decide) ?_
  refine lv_istore_n (lv' := [(0, .int 0)]) hx hb dJ6_bitCount_0f7a4_33 rfl hl (by decide) rfl (fun ls hl => ?_)
  refine lv_iload_n hx hb dJ6_bitCount_0f7a4_34 rfl (lv_at hl 0 rfl) ?_
  refine lv_iload_n hx hb dJ6_bitCount_0f7a4_35 rfl (lv_at hl 0 rfl) ?_
  refine lv_bipush (v := 8) hx hb dJ6_bitCount_0f7a4_36 (by decide) ?_
  refine lv_iushr (v := 0) hx hb dJ6_bitCount_0f7a4_38 (by decide) ?_
  refine lv_iadd hx hb dJ6_bitCount_0f7a4_39 ?_
  refine hx_top (y := 0) (by decide) ?_
  refine lv_istore_n (lv' := [(0, .int 0)]) hx hb dJ6_bitCount_0f7a4_40 rfl hl (by decide) rfl (fun ls hl => ?_)
  refine lv_iload_n hx hb dJ6_bitCount_0f7a4_41 rfl (lv_at hl 0 rfl) ?_
  refine lv_iload_n hx hb dJ6_bitCount_0f7a4_42 rfl (lv_at hl 0 rfl) ?_
  refine lv_bipush (v := 16) hx hb dJ6_bitCount_0f7a4_43 (by decide) ?_
  refine lv_iushr (v := 0) hx hb dJ6_bitCount_0f7a4_45 (by decide) ?_
  refine lv_iadd hx hb dJ6_bitCount_0f7a4_46 ?_
  refine hx_top (y := 0) (by decide) ?_
  refine lv_istore_n (lv' := [(0, .int 0)]) hx hb dJ6_bitCount_0f7a4_47 rfl hl (by decide) rfl (fun ls hl => ?_)
  refine lv_iload_n hx hb dJ6_bitCount_0f7a4_48 rfl (lv_at hl 0 rfl) ?_
  refine lv_bipush (v := 63) hx hb dJ6_bitCount_0f7a4_49 (by decide) ?_
  refine lv_iand hx hb dJ6_bitCount_0f7a4_51 ?_
  refine hx_top (y := 0) (by decide) ?_
  exact W.iret (v := 0) hx hb hr (fun t ht hW => ⟨⟨0, (), rfl, rfl, trivial⟩, hS.F ht⟩) hS.2.2 dJ6_bitCount_0f7a4_52
set_option maxHeartbeats 4000000 in
set_option maxRecDepth 100000 in
theorem c_boc (l : Launch) (dC : Nat → ClassId) (dI : Nat → Nat → Nat) (sz : Nat) (n : Int32)  : Met l yX8_bitsOrCount (wq yX8_bitsOrCount cX8_bitsOrCount 2 (some .int)) ({ frames := 1, cells := 0, slots := 0, locals := 20 }) (va_Pc [.int 0, .int n] (pcW dC dI [] [] sz)) (va_Qi (fun (r : Int32) (_ : Unit) => r = 0) (fun _ _ => True) (fun q : Nat => sz ≤ q)) 0 0 (fun q : Nat => sz ≤ q) := by
  refine Met.ofW (cc := cX8_bitsOrCount) (maxL := 2) (ret := (some .int)) (by decide) rfl ?_
  intro p e s m args below meth c s₁ B hml hv
  obtain ⟨rfl, hsz, hN, hP, hK, hD0⟩ := hv
  have hx := B.exec
  have hb := B.bytes
  have hr := B.returns
  have hts0 := atoms_spec (ws := (wq yX8_bitsOrCount cX8_bitsOrCount 2 (some .int))) B.pre
  have hts : ∀ w ∈ BG, w.before _ s = true := fun w h => hts0 w (List.mem_cons_of_mem _ h)
  have hown : s.vm.findClass RX8 = some m.cls := findClass_of_methodNamed B.named
  have hlocks := B.notSynchronized
  subst hsz
  have hA : ∀ q : Nat, s.heap.size ≤ q → (fun q : Nat => s.heap.size ≤ q) q := fun _ h => h
  have hD := hD0
  have hS : va_S (fun q : Nat => s.heap.size ≤ q) s.heap s.heap [] := va_S.rf
  have hP : va_P (dC, dI) vwCl [] s.heap := hP
  have hl := lv_entry ([.int 0, .int n]) (n := 2) (Nat.le_of_ble_eq_true rfl)
  rw [lg_entry_eq]
  generalize (lg_sl ([.int 0, .int n]) ++ List.replicate (2 - (lg_sl ([.int 0, .int n])).length) Slot.unset).toArray = ls at hl ⊢
  have hl : lv_has ls 2 [(0, .int 0), (1, .int n)] := hl
  skip
  refine lv_iload_n hx hb dX8_bitsOrCount_0 rfl (lv_at hl 1 rfl) ?_
  refine lv_if_ne (tgt := 8) hx hb dX8_bitsOrCount_1 (by decide) (fun c_1 => ?_) (fun c_1 => ?_)
  · have b_2 := fx_ne (x := n) (C := 0) (by decide) c_1
    refine lv_iload_n hx hb dX8_bitsOrCount_8 rfl (lv_at hl 0 rfl) ?_
    have hPc := hP.sub (ws' := []) [] rfl
    have hDc := hD.sub (ws' := []) [] (by decide) rfl
    have hKc := hK.sub (tys' := []) [] rfl
    refine va_calli (va_runS (As := [.int 0]) (rest := []) ⟨hx, hb, hml, hown, hts⟩ (c_bit0 l dC dI s.heap.size ) (va_cwS 1 hts (gS mw_2_233 mw_2_218 mw_1_12 mw_2_219) rfl rfl rfl (by decide +kernel) ⟨Nat.le_of_ble_eq_true rfl, Nat.le_of_ble_eq_true rfl⟩) ⟨pcW_blind, pcW_at hPc hKc hDc hN⟩ rfl rfl hl.1 rfl (lv_room (Nat.le_of_ble_eq_true rfl)) dX8_bitsOrCount_9 ⟨Nat.le_of_ble_eq_true rfl, Nat.le_of_ble_eq_true rfl⟩) hS (fun q h1 h2 => absurd h2 (Nat.not_le.mpr h1)) (fun q h => hA q (Nat.le_trans hS.1 h)) (fun r_3 u t H1 locs ht hvm hw_3 hB hz1 hk1 hS => ?_)
    have hP := keepP hP hk1
    clear hz1 hk1 hB ht hvm hPc hDc hKc
    generalize H1 = H at hP hS ⊢
    obtain rfl : r_3 = 0 := hw_3
    exact W.iret (v := 0) hx hb hr (fun t ht hW => ⟨⟨0, (), rfl, rfl, trivial⟩, hS.F ht⟩) hS.2.2 dX8_bitsOrCount_12
  · have b_2 := fn_ne (x := n) (C := 0) (by decide) c_1
    refine lv_iload_n hx hb dX8_bitsOrCount_4 rfl (lv_at hl 0 rfl) ?_
    refine lv_goto (tgt := 12) hx hb dX8_bitsOrCount_5 (by decide) ?_
    exact W.iret (v := 0) hx hb hr (fun t ht hW => ⟨⟨0, (), rfl, rfl, trivial⟩, hS.F ht⟩) hS.2.2 dX8_bitsOrCount_12
end
section
theorem mw_1_55 : Cond.laysFinal RX1 "AnswerLines$Kinds" "above" "[I" ∈ BG := mB (t1 (i := 55) (by decide +kernel)) (by decide +kernel)
theorem mw_1_57 : Cond.laysFinal RX1 "AnswerLines$Kinds" "lengths" "[I" ∈ BG := mB (t1 (i := 57) (by decide +kernel)) (by decide +kernel)
theorem mw_1_59 : Cond.laysFinal RX1 "AnswerLines$Kinds" "quarrels" "[I" ∈ BG := mB (t1 (i := 59) (by decide +kernel)) (by decide +kernel)
theorem mw_1_61 : Cond.laysFinal RX1 "AnswerLines$Kinds" "lines" "[I" ∈ BG := mB (t1 (i := 61) (by decide +kernel)) (by decide +kernel)
theorem mw_1_63 : Cond.laysFinal RX1 "AnswerLines$Kinds" "parents" "[I" ∈ BG := mB (t1 (i := 63) (by decide +kernel)) (by decide +kernel)
theorem mw_1_65 : Cond.laysFinal RX1 "AnswerLines$Kinds" "rows" "LAnswerLines$Rows;" ∈ BG := mB (t1 (i := 65) (by decide +kernel)) (by decide +kernel)
theorem mw_1_67 : Cond.lays RX1 "AnswerLines$Kinds" "count" "I" ∈ BG := mB (t1 (i := 67) (by decide +kernel)) (by decide +kernel)
theorem mw_1_69 : Cond.lays RX1 "AnswerLines$Kinds" "bareBits" "I" ∈ BG := mB (t1 (i := 69) (by decide +kernel)) (by decide +kernel)
theorem inB_1 : ∀ w ∈ u_ws RX1 TX1 8, w ∈ BG := fun w hw => by
  obtain ⟨k, hk, rfl⟩ := List.mem_map.mp hw
  have hk := List.mem_range.mp hk
  rcases (by omega : k = 0 ∨ k = 1 ∨ k = 2 ∨ k = 3 ∨ k = 4 ∨ k = 5 ∨ k = 6 ∨ k = 7) with rfl | rfl | rfl | rfl | rfl | rfl | rfl | rfl
  · exact mw_1_55
  · exact mw_1_57
  · exact mw_1_59
  · exact mw_1_61
  · exact mw_1_63
  · exact mw_1_65
  · exact mw_1_67
  · exact mw_1_69
theorem mw_1_53 : Cond.fieldLink RX1 34 "AnswerLines$Kinds" "count" "I" ∈ BG := mB (t1 (i := 53) (by decide +kernel)) (by decide +kernel)
theorem mw_1_194 : Cond.code yX1_knows cX1_knows 2 (some .boolean) ∈ BG := mB (t1 (i := 194) rfl) (by decide +kernel)
theorem mw_1_208 : Cond.methodLink RX1 38 yX1_knows ∈ BG := mB (t1 (i := 208) (by decide +kernel)) (by decide +kernel)
theorem mw_1_192 : Cond.instanceMethod yX1_knows ∈ BG := mB (t1 (i := 192) (by decide +kernel)) (by decide +kernel)
theorem mw_1_193 : Cond.selects RX1 yX1_knows yX1_knows ∈ BG := mB (t1 (i := 193) (by decide +kernel)) (by decide +kernel)
theorem mw_1_2 : Cond.initialized RX1 ∈ BG := mB (t1 (i := 2) (by decide +kernel)) (by decide +kernel)
theorem mw_1_216 : Cond.code yX1_lengthOf cX1_lengthOf 2 (some .int) ∈ BG := mB (t1 (i := 216) rfl) (by decide +kernel)
theorem mw_1_213 : Cond.methodLink RX1 49 yX1_lengthOf ∈ BG := mB (t1 (i := 213) (by decide +kernel)) (by decide +kernel)
theorem mw_1_214 : Cond.instanceMethod yX1_lengthOf ∈ BG := mB (t1 (i := 214) (by decide +kernel)) (by decide +kernel)
theorem mw_1_215 : Cond.selects RX1 yX1_lengthOf yX1_lengthOf ∈ BG := mB (t1 (i := 215) (by decide +kernel)) (by decide +kernel)
theorem mw_1_212 : Cond.code yX1_isLaid cX1_isLaid 2 (some .boolean) ∈ BG := mB (t1 (i := 212) rfl) (by decide +kernel)
theorem mw_1_209 : Cond.methodLink RX1 53 yX1_isLaid ∈ BG := mB (t1 (i := 209) (by decide +kernel)) (by decide +kernel)
theorem mw_1_210 : Cond.instanceMethod yX1_isLaid ∈ BG := mB (t1 (i := 210) (by decide +kernel)) (by decide +kernel)
theorem mw_1_211 : Cond.selects RX1 yX1_isLaid yX1_isLaid ∈ BG := mB (t1 (i := 211) (by decide +kernel)) (by decide +kernel)
theorem dX1_knows_0 : decode cX1_knows 0 = .ok (.iload_n 1, 1) := by decide +kernel
theorem dX1_knows_1 : decode cX1_knows 1 = .ok (.ifCond .lt 15, 3) := by decide +kernel
theorem dX1_knows_16 : decode cX1_knows 16 = .ok (.iconst 0, 1) := by decide +kernel
theorem dX1_knows_17 : decode cX1_knows 17 = .ok (.ireturn, 1) := by decide +kernel
theorem dX1_knows_4 : decode cX1_knows 4 = .ok (.iload_n 1, 1) := by decide +kernel
theorem dX1_knows_5 : decode cX1_knows 5 = .ok (.aload_n 0, 1) := by decide +kernel
theorem dX1_knows_6 : decode cX1_knows 6 = .ok (.getfield 34, 3) := by decide +kernel
theorem dX1_knows_9 : decode cX1_knows 9 = .ok (.if_icmp .ge 7, 3) := by decide +kernel
theorem dX1_isFull_0 : decode cX1_isFull 0 = .ok (.aload_n 0, 1) := by decide +kernel
theorem dX1_isFull_1 : decode cX1_isFull 1 = .ok (.getfield 34, 3) := by decide +kernel
theorem dX1_isFull_4 : decode cX1_isFull 4 = .ok (.bipush 10, 2) := by decide +kernel
theorem dX1_isFull_6 : decode cX1_isFull 6 = .ok (.if_icmp .lt 7, 3) := by decide +kernel
theorem dX1_isFull_13 : decode cX1_isFull 13 = .ok (.iconst 0, 1) := by decide +kernel
theorem dX1_isFull_14 : decode cX1_isFull 14 = .ok (.ireturn, 1) := by decide +kernel
theorem dX1_howMany_0 : decode cX1_howMany 0 = .ok (.aload_n 0, 1) := by decide +kernel
theorem dX1_howMany_1 : decode cX1_howMany 1 = .ok (.getfield 34, 3) := by decide +kernel
theorem dX1_howMany_4 : decode cX1_howMany 4 = .ok (.ireturn, 1) := by decide +kernel
theorem dX1_isBare_0 : decode cX1_isBare 0 = .ok (.aload_n 0, 1) := by decide +kernel
theorem dX1_isBare_1 : decode cX1_isBare 1 = .ok (.iload_n 1, 1) := by decide +kernel
theorem dX1_isBare_2 : decode cX1_isBare 2 = .ok (.invokevirtual 38, 3) := by decide +kernel
theorem dX1_isBare_5 : decode cX1_isBare 5 = .ok (.ifCond .eq 18, 3) := by decide +kernel
theorem dX1_isBare_23 : decode cX1_isBare 23 = .ok (.iconst 0, 1) := by decide +kernel
theorem dX1_isBare_24 : decode cX1_isBare 24 = .ok (.ireturn, 1) := by decide +kernel
theorem dX1_lengthOf_0 : decode cX1_lengthOf 0 = .ok (.aload_n 0, 1) := by decide +kernel
theorem dX1_lengthOf_1 : decode cX1_lengthOf 1 = .ok (.iload_n 1, 1) := by decide +kernel
theorem dX1_lengthOf_2 : decode cX1_lengthOf 2 = .ok (.invokevirtual 38, 3) := by decide +kernel
theorem dX1_lengthOf_5 : decode cX1_lengthOf 5 = .ok (.ifCond .eq 12, 3) := by decide +kernel
theorem dX1_lengthOf_17 : decode cX1_lengthOf 17 = .ok (.iconst 0, 1) := by decide +kernel
theorem dX1_lengthOf_18 : decode cX1_lengthOf 18 = .ok (.ireturn, 1) := by decide +kernel
theorem dX1_isLaid_0 : decode cX1_isLaid 0 = .ok (.aload_n 0, 1) := by decide +kernel
theorem dX1_isLaid_1 : decode cX1_isLaid 1 = .ok (.iload_n 1, 1) := by decide +kernel
theorem dX1_isLaid_2 : decode cX1_isLaid 2 = .ok (.invokevirtual 49, 3) := by decide +kernel
theorem dX1_isLaid_5 : decode cX1_isLaid 5 = .ok (.ifCond .le 7, 3) := by decide +kernel
theorem dX1_isLaid_12 : decode cX1_isLaid 12 = .ok (.iconst 0, 1) := by decide +kernel
theorem dX1_isLaid_13 : decode cX1_isLaid 13 = .ok (.ireturn, 1) := by decide +kernel
theorem dX1_hasRow_0 : decode cX1_hasRow 0 = .ok (.aload_n 0, 1) := by decide +kernel
theorem dX1_hasRow_1 : decode cX1_hasRow 1 = .ok (.iload_n 1, 1) := by decide +kernel
theorem dX1_hasRow_2 : decode cX1_hasRow 2 = .ok (.invokevirtual 53, 3) := by decide +kernel
theorem dX1_hasRow_5 : decode cX1_hasRow 5 = .ok (.ifCond .eq 15, 3) := by decide +kernel
theorem dX1_hasRow_20 : decode cX1_hasRow 20 = .ok (.iconst 0, 1) := by decide +kernel
theorem dX1_hasRow_21 : decode cX1_hasRow 21 = .ok (.ireturn, 1) := by decide +kernel
set_option maxHeartbeats 4000000 in
set_option maxRecDepth 100000 in
theorem c_knows0 (l : Launch) (dC : Nat → ClassId) (dI : Nat → Nat → Nat) (sz : Nat) (h0 : Nat) (w0 : Value) (w1 : Value) (w2 : Value) (w3 : Value) (w4 : Value) (w5 : Value) (w7 : Value) (n : Int32)  : Met l yX1_knows (wq yX1_knows cX1_knows 2 (some .boolean)) ({ frames := 0, cells := 0, slots := 0, locals := 0 }) (va_Pc [.ref h0, .int n] (pcW dC dI [] [(h0, .inr (1, [w0, w1, w2, w3, w4, w5, .int 0, w7]))] sz)) (va_Qi (fun (r : Int32) (_ : Unit) => r = 0) (fun _ _ => True) (fun q : Nat => sz ≤ q)) 0 0 (fun q : Nat => sz ≤ q) := by
  refine Met.ofW (cc := cX1_knows) (maxL := 2) (ret := (some .boolean)) (by decide) rfl ?_
  intro p e s m args below meth c s₁ B hml hv
  obtain ⟨rfl, hsz, hN, hP, hK, hD0⟩ := hv
  have hx := B.exec
  have hb := B.bytes
  have hr := B.returns
  have hts0 := atoms_spec (ws := (wq yX1_knows cX1_knows 2 (some .boolean))) B.pre
  have hts : ∀ w ∈ BG, w.before _ s = true := fun w h => hts0 w (List.mem_cons_of_mem _ h)
  have hown : s.vm.findClass RX1 = some m.cls := findClass_of_methodNamed B.named
  have hlocks := B.notSynchronized
  subst hsz
  have hA : ∀ q : Nat, s.heap.size ≤ q → (fun q : Nat => s.heap.size ≤ q) q := fun _ h => h
  have hD := hD0
  have hS : va_S (fun q : Nat => s.heap.size ≤ q) s.heap s.heap [] := va_S.rf
  have hP : va_P (dC, dI) vwCl [(h0, .inr (1, [w0, w1, w2, w3, w4, w5, .int 0, w7]))] s.heap := hP
  have hl := lv_entry ([.ref h0, .int n]) (n := 2) (Nat.le_of_ble_eq_true rfl)
  rw [lg_entry_eq]
  generalize (lg_sl ([.ref h0, .int n]) ++ List.replicate (2 - (lg_sl ([.ref h0, .int n])).length) Slot.unset).toArray = ls at hl ⊢
  have hl : lv_has ls 2 [(0, .ref h0), (1, .int n)] := hl
  skip
  refine lv_iload_n hx hb dX1_knows_0 rfl (lv_at hl 1 rfl) ?_
  refine lv_if_lt (tgt := 16) hx hb dX1_knows_1 (by decide) (fun c_1 => ?_) (fun c_1 => ?_)
  · have b_2 := fx_lt (x := n) (C := 0) (by decide) c_1
    refine lv_iconst (v := 0) hx hb dX1_knows_16 (by decide) ?_
    exact W.zret (v := 0) hx hb hr (by decide) (fun t ht hW => ⟨⟨0, (), rfl, rfl, trivial⟩, hS.F ht⟩) hS.2.2 dX1_knows_17
  · have b_2 := fn_lt (x := n) (C := 0) (by decide) c_1
    refine lv_iload_n hx hb dX1_knows_4 rfl (lv_at hl 1 rfl) ?_
    refine lv_aload_n hx hb dX1_knows_5 rfl (lv_at hl 0 rfl) ?_
    refine va_get (D := (dC, dI)) (ci := 1) (v := .int 0) (C := RX1) (T := TX1) (N := 8) hx hb hts inB_1 hown hK hP 0 rfl rfl 6 (by decide) (hts _ mw_1_53) (fun _ h9 => h9) rfl dX1_knows_6 ?_
    refine lv_icmp_ge (tgt := 16) hx hb dX1_knows_9 (by decide) (fun _ => ?_) (fun h => absurd (fn_ge (x := n) (C := 0) (by decide) h) (by omega))
    refine lv_iconst (v := 0) hx hb dX1_knows_16 (by decide) ?_
    exact W.zret (v := 0) hx hb hr (by decide) (fun t ht hW => ⟨⟨0, (), rfl, rfl, trivial⟩, hS.F ht⟩) hS.2.2 dX1_knows_17
set_option maxHeartbeats 4000000 in
set_option maxRecDepth 100000 in
theorem c_isFull (l : Launch) (dC : Nat → ClassId) (dI : Nat → Nat → Nat) (sz : Nat) (h0 : Nat) (w0 : Value) (w1 : Value) (w2 : Value) (w3 : Value) (w4 : Value) (w5 : Value) (w7 : Value)  : Met l yX1_isFull (wq yX1_isFull cX1_isFull 1 (some .boolean)) ({ frames := 0, cells := 0, slots := 0, locals := 0 }) (va_Pc [.ref h0] (pcW dC dI [] [(h0, .inr (1, [w0, w1, w2, w3, w4, w5, .int 0, w7]))] sz)) (va_Qi (fun (r : Int32) (_ : Unit) => r = 0) (fun _ _ => True) (fun q : Nat => sz ≤ q)) 0 0 (fun q : Nat => sz ≤ q) := by
  refine Met.ofW (cc := cX1_isFull) (maxL := 1) (ret := (some .boolean)) (by decide) rfl ?_
  intro p e s m args below meth c s₁ B hml hv
  obtain ⟨rfl, hsz, hN, hP, hK, hD0⟩ := hv
  have hx := B.exec
  have hb := B.bytes
  have hr := B.returns
  have hts0 := atoms_spec (ws := (wq yX1_isFull cX1_isFull 1 (some .boolean))) B.pre
  have hts : ∀ w ∈ BG, w.before _ s = true := fun w h => hts0 w (List.mem_cons_of_mem _ h)
  have hown : s.vm.findClass RX1 = some m.cls := findClass_of_methodNamed B.named
  have hlocks := B.notSynchronized
  subst hsz
  have hA : ∀ q : Nat, s.heap.size ≤ q → (fun q : Nat => s.heap.size ≤ q) q := fun _ h => h
  have hD := hD0
  have hS : va_S (fun q : Nat => s.heap.size ≤ q) s.heap s.heap [] := va_S.rf
  have hP : va_P (dC, dI) vwCl [(h0, .inr (1, [w0, w1, w2, w3, w4, w5, .int 0, w7]))] s.heap := hP
  have hl := lv_entry ([.ref h0]) (n := 1) (Nat.le_of_ble_eq_true rfl)
  rw [lg_entry_eq]
  generalize (lg_sl ([.ref h0]) ++ List.replicate (1 - (lg_sl ([.ref h0])).length) Slot.unset).toArray = ls at hl ⊢
  have hl : lv_has ls 1 [(0, .ref h0)] := hl
  skip
  refine lv_aload_n hx hb dX1_isFull_0 rfl (lv_at hl 0 rfl) ?_
  refine va_get (D := (dC, dI)) (ci := 1) (v := .int 0) (C := RX1) (T := TX1) (N := 8) hx hb hts inB_1 hown hK hP 0 rfl rfl 6 (by decide) (hts _ mw_1_53) (fun _ h9 => h9) rfl dX1_isFull_1 ?_
  refine lv_bipush (v := 10) hx hb dX1_isFull_4 (by decide) ?_
  refine lv_icmp_lt (tgt := 13) hx hb dX1_isFull_6 (by decide) (fun _ => ?_) (fun h => absurd (by decide) h)
  refine lv_iconst (v := 0) hx hb dX1_isFull_13 (by decide) ?_
  exact W.zret (v := 0) hx hb hr (by decide) (fun t ht hW => ⟨⟨0, (), rfl, rfl, trivial⟩, hS.F ht⟩) hS.2.2 dX1_isFull_14
set_option maxHeartbeats 4000000 in
set_option maxRecDepth 100000 in
theorem c_howMany (l : Launch) (dC : Nat → ClassId) (dI : Nat → Nat → Nat) (sz : Nat) (h0 : Nat) (w0 : Value) (w1 : Value) (w2 : Value) (w3 : Value) (w4 : Value) (w5 : Value) (w7 : Value)  : Met l yX1_howMany (wq yX1_howMany cX1_howMany 1 (some .int)) ({ frames := 0, cells := 0, slots := 0, locals := 0 }) (va_Pc [.ref h0] (pcW dC dI [] [(h0, .inr (1, [w0, w1, w2, w3, w4, w5, .int 0, w7]))] sz)) (va_Qi (fun (r : Int32) (_ : Unit) => r = 0) (fun _ _ => True) (fun q : Nat => sz ≤ q)) 0 0 (fun q : Nat => sz ≤ q) := by
  refine Met.ofW (cc := cX1_howMany) (maxL := 1) (ret := (some .int)) (by decide) rfl ?_
  intro p e s m args below meth c s₁ B hml hv
  obtain ⟨rfl, hsz, hN, hP, hK, hD0⟩ := hv
  have hx := B.exec
  have hb := B.bytes
  have hr := B.returns
  have hts0 := atoms_spec (ws := (wq yX1_howMany cX1_howMany 1 (some .int))) B.pre
  have hts : ∀ w ∈ BG, w.before _ s = true := fun w h => hts0 w (List.mem_cons_of_mem _ h)
  have hown : s.vm.findClass RX1 = some m.cls := findClass_of_methodNamed B.named
  have hlocks := B.notSynchronized
  subst hsz
  have hA : ∀ q : Nat, s.heap.size ≤ q → (fun q : Nat => s.heap.size ≤ q) q := fun _ h => h
  have hD := hD0
  have hS : va_S (fun q : Nat => s.heap.size ≤ q) s.heap s.heap [] := va_S.rf
  have hP : va_P (dC, dI) vwCl [(h0, .inr (1, [w0, w1, w2, w3, w4, w5, .int 0, w7]))] s.heap := hP
  have hl := lv_entry ([.ref h0]) (n := 1) (Nat.le_of_ble_eq_true rfl)
  rw [lg_entry_eq]
  generalize (lg_sl ([.ref h0]) ++ List.replicate (1 - (lg_sl ([.ref h0])).length) Slot.unset).toArray = ls at hl ⊢
  have hl : lv_has ls 1 [(0, .ref h0)] := hl
  skip
  refine lv_aload_n hx hb dX1_howMany_0 rfl (lv_at hl 0 rfl) ?_
  refine va_get (D := (dC, dI)) (ci := 1) (v := .int 0) (C := RX1) (T := TX1) (N := 8) hx hb hts inB_1 hown hK hP 0 rfl rfl 6 (by decide) (hts _ mw_1_53) (fun _ h9 => h9) rfl dX1_howMany_1 ?_
  exact W.iret (v := 0) hx hb hr (fun t ht hW => ⟨⟨0, (), rfl, rfl, trivial⟩, hS.F ht⟩) hS.2.2 dX1_howMany_4
set_option maxHeartbeats 4000000 in
set_option maxRecDepth 100000 in
theorem c_isBare0 (l : Launch) (dC : Nat → ClassId) (dI : Nat → Nat → Nat) (sz : Nat) (h0 : Nat) (w0 : Value) (w1 : Value) (w2 : Value) (w3 : Value) (w4 : Value) (w5 : Value) (w7 : Value) (n : Int32)  : Met l yX1_isBare (wq yX1_isBare cX1_isBare 2 (some .boolean)) ({ frames := 1, cells := 0, slots := 0, locals := 21 }) (va_Pc [.ref h0, .int n] (pcW dC dI [] [(h0, .inr (1, [w0, w1, w2, w3, w4, w5, .int 0, w7]))] sz)) (va_Qi (fun (r : Int32) (_ : Unit) => r = 0) (fun _ _ => True) (fun q : Nat => sz ≤ q)) 0 0 (fun q : Nat => sz ≤ q) := by
  refine Met.ofW (cc := cX1_isBare) (maxL := 2) (ret := (some .boolean)) (by decide) rfl ?_
  intro p e s m args below meth c s₁ B hml hv
  obtain ⟨rfl, hsz, hN, hP, hK, hD0⟩ := hv
  have hx := B.exec
  have hb := B.bytes
  have hr := B.returns
  have hts0 := atoms_spec (ws := (wq yX1_isBare cX1_isBare 2 (some .boolean))) B.pre
  have hts : ∀ w ∈ BG, w.before _ s = true := fun w h => hts0 w (List.mem_cons_of_mem _ h)
  have hown : s.vm.findClass RX1 = some m.cls := findClass_of_methodNamed B.named
  have hlocks := B.notSynchronized
  subst hsz
  have hA : ∀ q : Nat, s.heap.size ≤ q → (fun q : Nat => s.heap.size ≤ q) q := fun _ h => h
  have hD := hD0
  have hS : va_S (fun q : Nat => s.heap.size ≤ q) s.heap s.heap [] := va_S.rf
  have hP : va_P (dC, dI) vwCl [(h0, .inr (1, [w0, w1, w2, w3, w4, w5, .int 0, w7]))] s.heap := hP
  have hl := lv_entry ([.ref h0, .int n]) (n := 2) (Nat.le_of_ble_eq_true rfl)
  rw [lg_entry_eq]
  generalize (lg_sl ([.ref h0, .int n]) ++ List.replicate (2 - (lg_sl ([.ref h0, .int n])).length) Slot.unset).toArray = ls at hl ⊢
  have hl : lv_has ls 2 [(0, .ref h0), (1, .int n)] := hl
  skip
  refine lv_aload_n hx hb dX1_isBare_0 rfl (lv_at hl 0 rfl) ?_
  refine lv_iload_n hx hb dX1_isBare_1 rfl (lv_at hl 1 rfl) ?_
  have hPc := hP.sub (ws' := [(h0, .inr (1, [w0, w1, w2, w3, w4, w5, .int 0, w7]))]) [0] rfl
  have hDc := hD.sub (ws' := [(h0, .inr (1, [w0, w1, w2, w3, w4, w5, .int 0, w7]))]) [0] (by decide) rfl
  have hKc := hK.sub (tys' := []) [] rfl
  refine va_calli (va_runV (As := [.int n]) (rest := []) ⟨hx, hb, hml, hown, hts⟩ (c_knows0 l dC dI s.heap.size h0 (w0) (w1) (w2) (w3) (w4) (w5) (w7) n) (cwV 1 hts (gV mw_1_208 mw_1_192 mw_1_193 mw_1_2 mw_1_194) rfl rfl rfl (by decide +kernel) ⟨Nat.le_of_ble_eq_true rfl, Nat.le_of_ble_eq_true rfl⟩) ⟨pcW_blind, va_recv hKc hPc (ci := 1) (q0 := 0) rfl rfl, pcW_at hPc hKc hDc hN⟩ rfl rfl hl.1 rfl (lv_room (Nat.le_of_ble_eq_true rfl)) dX1_isBare_2 ⟨Nat.le_of_ble_eq_true rfl, Nat.le_of_ble_eq_true rfl⟩) hS (fun q h1 h2 => absurd h2 (Nat.not_le.mpr h1)) (fun q h => hA q (Nat.le_trans hS.1 h)) (fun r_1 u t H1 locs ht hvm hw_1 hB hz1 hk1 hS => ?_)
  have hP := keepP hP hk1
  clear hz1 hk1 hB ht hvm hPc hDc hKc
  generalize H1 = H at hP hS ⊢
  obtain rfl : r_1 = 0 := hw_1
  refine lv_if_eq (tgt := 23) hx hb dX1_isBare_5 (by decide) (fun _ => ?_) (fun h => absurd (by decide) h)
  refine lv_iconst (v := 0) hx hb dX1_isBare_23 (by decide) ?_
  exact W.zret (v := 0) hx hb hr (by decide) (fun t ht hW => ⟨⟨0, (), rfl, rfl, trivial⟩, hS.F ht⟩) hS.2.2 dX1_isBare_24
set_option maxHeartbeats 4000000 in
set_option maxRecDepth 100000 in
theorem c_lengthOf0 (l : Launch) (dC : Nat → ClassId) (dI : Nat → Nat → Nat) (sz : Nat) (h0 : Nat) (w0 : Value) (w1 : Value) (w2 : Value) (w3 : Value) (w4 : Value) (w5 : Value) (w7 : Value) (n : Int32)  : Met l yX1_lengthOf (wq yX1_lengthOf cX1_lengthOf 2 (some .int)) ({ frames := 1, cells := 0, slots := 0, locals := 21 }) (va_Pc [.ref h0, .int n] (pcW dC dI [] [(h0, .inr (1, [w0, w1, w2, w3, w4, w5, .int 0, w7]))] sz)) (va_Qi (fun (r : Int32) (_ : Unit) => r = 0) (fun _ _ => True) (fun q : Nat => sz ≤ q)) 0 0 (fun q : Nat => sz ≤ q) := by
  refine Met.ofW (cc := cX1_lengthOf) (maxL := 2) (ret := (some .int)) (by decide) rfl ?_
  intro p e s m args below meth c s₁ B hml hv
  obtain ⟨rfl, hsz, hN, hP, hK, hD0⟩ := hv
  have hx := B.exec
  have hb := B.bytes
  have hr := B.returns
  have hts0 := atoms_spec (ws := (wq yX1_lengthOf cX1_lengthOf 2 (some .int))) B.pre
  have hts : ∀ w ∈ BG, w.before _ s = true := fun w h => hts0 w (List.mem_cons_of_mem _ h)
  have hown : s.vm.findClass RX1 = some m.cls := findClass_of_methodNamed B.named
  have hlocks := B.notSynchronized
  subst hsz
  have hA : ∀ q : Nat, s.heap.size ≤ q → (fun q : Nat => s.heap.size ≤ q) q := fun _ h => h
  have hD := hD0
  have hS : va_S (fun q : Nat => s.heap.size ≤ q) s.heap s.heap [] := va_S.rf
  have hP : va_P (dC, dI) vwCl [(h0, .inr (1, [w0, w1, w2, w3, w4, w5, .int 0, w7]))] s.heap := hP
  have hl := lv_entry ([.ref h0, .int n]) (n := 2) (Nat.le_of_ble_eq_true rfl)
  rw [lg_entry_eq]
  generalize (lg_sl ([.ref h0, .int n]) ++ List.replicate (2 - (lg_sl ([.ref h0, .int n])).length) Slot.unset).toArray = ls at hl ⊢
  have hl : lv_has ls 2 [(0, .ref h0), (1, .int n)] := hl
  skip
  refine lv_aload_n hx hb dX1_lengthOf_0 rfl (lv_at hl 0 rfl) ?_
  refine lv_iload_n hx hb dX1_lengthOf_1 rfl (lv_at hl 1 rfl) ?_
  have hPc := hP.sub (ws' := [(h0, .inr (1, [w0, w1, w2, w3, w4, w5, .int 0, w7]))]) [0] rfl
  have hDc := hD.sub (ws' := [(h0, .inr (1, [w0, w1, w2, w3, w4, w5, .int 0, w7]))]) [0] (by decide) rfl
  have hKc := hK.sub (tys' := []) [] rfl
  refine va_calli (va_runV (As := [.int n]) (rest := []) ⟨hx, hb, hml, hown, hts⟩ (c_knows0 l dC dI s.heap.size h0 (w0) (w1) (w2) (w3) (w4) (w5) (w7) n) (cwV 1 hts (gV mw_1_208 mw_1_192 mw_1_193 mw_1_2 mw_1_194) rfl rfl rfl (by decide +kernel) ⟨Nat.le_of_ble_eq_true rfl, Nat.le_of_ble_eq_true rfl⟩) ⟨pcW_blind, va_recv hKc hPc (ci := 1) (q0 := 0) rfl rfl, pcW_at hPc hKc hDc hN⟩ rfl rfl hl.1 rfl (lv_room (Nat.le_of_ble_eq_true rfl)) dX1_lengthOf_2 ⟨Nat.le_of_ble_eq_true rfl, Nat.le_of_ble_eq_true rfl⟩) hS (fun q h1 h2 => absurd h2 (Nat.not_le.mpr h1)) (fun q h => hA q (Nat.le_trans hS.1 h)) (fun r_1 u t H1 locs ht hvm hw_1 hB hz1 hk1 hS => ?_)
  have hP := keepP hP hk1
  clear hz1 hk1 hB ht hvm hPc hDc hKc
  generalize H1 = H at hP hS ⊢
  obtain rfl : r_1 = 0 := hw_1
  refine lv_if_eq (tgt := 17) hx hb dX1_lengthOf_5 (by decide) (fun _ => ?_) (fun h => absurd (by decide) h)
  refine lv_iconst (v := 0) hx hb dX1_lengthOf_17 (by decide) ?_
  exact W.iret (v := 0) hx hb hr (fun t ht hW => ⟨⟨0, (), rfl, rfl, trivial⟩, hS.F ht⟩) hS.2.2 dX1_lengthOf_18
set_option maxHeartbeats 4000000 in
set_option maxRecDepth 100000 in
theorem c_isLaid0 (l : Launch) (dC : Nat → ClassId) (dI : Nat → Nat → Nat) (sz : Nat) (h0 : Nat) (w0 : Value) (w1 : Value) (w2 : Value) (w3 : Value) (w4 : Value) (w5 : Value) (w7 : Value) (n : Int32)  : Met l yX1_isLaid (wq yX1_isLaid cX1_isLaid 2 (some .boolean)) ({ frames := 2, cells := 0, slots := 0, locals := 42 }) (va_Pc [.ref h0, .int n] (pcW dC dI [] [(h0, .inr (1, [w0, w1, w2, w3, w4, w5, .int 0, w7]))] sz)) (va_Qi (fun (r : Int32) (_ : Unit) => r = 0) (fun _ _ => True) (fun q : Nat => sz ≤ q)) 0 0 (fun q : Nat => sz ≤ q) := by
  refine Met.ofW (cc := cX1_isLaid) (maxL := 2) (ret := (some .boolean)) (by decide) rfl ?_
  intro p e s m args below meth c s₁ B hml hv
  obtain ⟨rfl, hsz, hN, hP, hK, hD0⟩ := hv
  have hx := B.exec
  have hb := B.bytes
  have hr := B.returns
  have hts0 := atoms_spec (ws := (wq yX1_isLaid cX1_isLaid 2 (some .boolean))) B.pre
  have hts : ∀ w ∈ BG, w.before _ s = true := fun w h => hts0 w (List.mem_cons_of_mem _ h)
  have hown : s.vm.findClass RX1 = some m.cls := findClass_of_methodNamed B.named
  have hlocks := B.notSynchronized
  subst hsz
  have hA : ∀ q : Nat, s.heap.size ≤ q → (fun q : Nat => s.heap.size ≤ q) q := fun _ h => h
  have hD := hD0
  have hS : va_S (fun q : Nat => s.heap.size ≤ q) s.heap s.heap [] := va_S.rf
  have hP : va_P (dC, dI) vwCl [(h0, .inr (1, [w0, w1, w2, w3, w4, w5, .int 0, w7]))] s.heap := hP
  have hl := lv_entry ([.ref h0, .int n]) (n := 2) (Nat.le_of_ble_eq_true rfl)
  rw [lg_entry_eq]
  generalize (lg_sl ([.ref h0, .int n]) ++ List.replicate (2 - (lg_sl ([.ref h0, .int n])).length) Slot.unset).toArray = ls at hl ⊢
  have hl : lv_has ls 2 [(0, .ref h0), (1, .int n)] := hl
  skip
  refine lv_aload_n hx hb dX1_isLaid_0 rfl (lv_at hl 0 rfl) ?_
  refine lv_iload_n hx hb dX1_isLaid_1 rfl (lv_at hl 1 rfl) ?_
  have hPc := hP.sub (ws' := [(h0, .inr (1, [w0, w1, w2, w3, w4, w5, .int 0, w7]))]) [0] rfl
  have hDc := hD.sub (ws' := [(h0, .inr (1, [w0, w1, w2, w3, w4, w5, .int 0, w7]))]) [0] (by decide) rfl
  have hKc := hK.sub (tys' := []) [] rfl
  refine va_calli (va_runV (As := [.int n]) (rest := []) ⟨hx, hb, hml, hown, hts⟩ (c_lengthOf0 l dC dI s.heap.size h0 (w0) (w1) (w2) (w3) (w4) (w5) (w7) n) (cwV 1 hts (gV mw_1_213 mw_1_214 mw_1_215 mw_1_2 mw_1_216) rfl rfl rfl (by decide +kernel) ⟨Nat.le_of_ble_eq_true rfl, Nat.le_of_ble_eq_true rfl⟩) ⟨pcW_blind, va_recv hKc hPc (ci := 1) (q0 := 0) rfl rfl, pcW_at hPc hKc hDc hN⟩ rfl rfl hl.1 rfl (lv_room (Nat.le_of_ble_eq_true rfl)) dX1_isLaid_2 ⟨Nat.le_of_ble_eq_true rfl, Nat.le_of_ble_eq_true rfl⟩) hS (fun q h1 h2 => absurd h2 (Nat.not_le.mpr h1)) (fun q h => hA q (Nat.le_trans hS.1 h)) (fun r_1 u t H1 locs ht hvm hw_1 hB hz1 hk1 hS => ?_)
  have hP := keepP hP hk1
  clear hz1 hk1 hB ht hvm hPc hDc hKc
  generalize H1 = H at hP hS ⊢
  obtain rfl : r_1 = 0 := hw_1
  refine lv_if_le (tgt := 12) hx hb dX1_isLaid_5 (by decide) (fun _ => ?_) (fun h => absurd (by decide) h)
  refine lv_iconst (v := 0) hx hb dX1_isLaid_12 (by decide) ?_
  exact W.zret (v := 0) hx hb hr (by decide) (fun t ht hW => ⟨⟨0, (), rfl, rfl, trivial⟩, hS.F ht⟩) hS.2.2 dX1_isLaid_13
set_option maxHeartbeats 4000000 in
set_option maxRecDepth 100000 in
theorem c_hasRow0 (l : Launch) (dC : Nat → ClassId) (dI : Nat → Nat → Nat) (sz : Nat) (h0 : Nat) (w0 : Value) (w1 : Value) (w2 : Value) (w3 : Value) (w4 : Value) (w5 : Value) (w7 : Value) (n : Int32)  : Met l yX1_hasRow (wq yX1_hasRow cX1_hasRow 2 (some .boolean)) ({ frames := 3, cells := 0, slots := 0, locals := 63 }) (va_Pc [.ref h0, .int n] (pcW dC dI [] [(h0, .inr (1, [w0, w1, w2, w3, w4, w5, .int 0, w7]))] sz)) (va_Qi (fun (r : Int32) (_ : Unit) => r = 0) (fun _ _ => True) (fun q : Nat => sz ≤ q)) 0 0 (fun q : Nat => sz ≤ q) := by
  refine Met.ofW (cc := cX1_hasRow) (maxL := 2) (ret := (some .boolean)) (by decide) rfl ?_
  intro p e s m args below meth c s₁ B hml hv
  obtain ⟨rfl, hsz, hN, hP, hK, hD0⟩ := hv
  have hx := B.exec
  have hb := B.bytes
  have hr := B.returns
  have hts0 := atoms_spec (ws := (wq yX1_hasRow cX1_hasRow 2 (some .boolean))) B.pre
  have hts : ∀ w ∈ BG, w.before _ s = true := fun w h => hts0 w (List.mem_cons_of_mem _ h)
  have hown : s.vm.findClass RX1 = some m.cls := findClass_of_methodNamed B.named
  have hlocks := B.notSynchronized
  subst hsz
  have hA : ∀ q : Nat, s.heap.size ≤ q → (fun q : Nat => s.heap.size ≤ q) q := fun _ h => h
  have hD := hD0
  have hS : va_S (fun q : Nat => s.heap.size ≤ q) s.heap s.heap [] := va_S.rf
  have hP : va_P (dC, dI) vwCl [(h0, .inr (1, [w0, w1, w2, w3, w4, w5, .int 0, w7]))] s.heap := hP
  have hl := lv_entry ([.ref h0, .int n]) (n := 2) (Nat.le_of_ble_eq_true rfl)
  rw [lg_entry_eq]
  generalize (lg_sl ([.ref h0, .int n]) ++ List.replicate (2 - (lg_sl ([.ref h0, .int n])).length) Slot.unset).toArray = ls at hl ⊢
  have hl : lv_has ls 2 [(0, .ref h0), (1, .int n)] := hl
  skip
  refine lv_aload_n hx hb dX1_hasRow_0 rfl (lv_at hl 0 rfl) ?_
  refine lv_iload_n hx hb dX1_hasRow_1 rfl (lv_at hl 1 rfl) ?_
  have hPc := hP.sub (ws' := [(h0, .inr (1, [w0, w1, w2, w3, w4, w5, .int 0, w7]))]) [0] rfl
  have hDc := hD.sub (ws' := [(h0, .inr (1, [w0, w1, w2, w3, w4, w5, .int 0, w7]))]) [0] (by decide) rfl
  have hKc := hK.sub (tys' := []) [] rfl
  refine va_calli (va_runV (As := [.int n]) (rest := []) ⟨hx, hb, hml, hown, hts⟩ (c_isLaid0 l dC dI s.heap.size h0 (w0) (w1) (w2) (w3) (w4) (w5) (w7) n) (cwV 1 hts (gV mw_1_209 mw_1_210 mw_1_211 mw_1_2 mw_1_212) rfl rfl rfl (by decide +kernel) ⟨Nat.le_of_ble_eq_true rfl, Nat.le_of_ble_eq_true rfl⟩) ⟨pcW_blind, va_recv hKc hPc (ci := 1) (q0 := 0) rfl rfl, pcW_at hPc hKc hDc hN⟩ rfl rfl hl.1 rfl (lv_room (Nat.le_of_ble_eq_true rfl)) dX1_hasRow_2 ⟨Nat.le_of_ble_eq_true rfl, Nat.le_of_ble_eq_true rfl⟩) hS (fun q h1 h2 => absurd h2 (Nat.not_le.mpr h1)) (fun q h => hA q (Nat.le_trans hS.1 h)) (fun r_1 u t H1 locs ht hvm hw_1 hB hz1 hk1 hS => ?_)
  have hP := keepP hP hk1
  clear hz1 hk1 hB ht hvm hPc hDc hKc
  generalize H1 = H at hP hS ⊢
  obtain rfl : r_1 = 0 := hw_1
  refine lv_if_eq (tgt := 20) hx hb dX1_hasRow_5 (by decide) (fun _ => ?_) (fun h => absurd (by decide) h)
  refine lv_iconst (v := 0) hx hb dX1_hasRow_20 (by decide) ?_
  exact W.zret (v := 0) hx hb hr (by decide) (fun t ht hW => ⟨⟨0, (), rfl, rfl, trivial⟩, hS.F ht⟩) hS.2.2 dX1_hasRow_21
end
section
theorem mw_1_80 : Cond.laysFinal RX2 "AnswerLines$Pad" "signs" "[C" ∈ BG := mB (t1 (i := 80) (by decide +kernel)) (by decide +kernel)
theorem mw_1_82 : Cond.lays RX2 "AnswerLines$Pad" "count" "I" ∈ BG := mB (t1 (i := 82) (by decide +kernel)) (by decide +kernel)
theorem inB_2 : ∀ w ∈ u_ws RX2 TX2 2, w ∈ BG := fun w hw => by
  obtain ⟨k, hk, rfl⟩ := List.mem_map.mp hw
  have hk := List.mem_range.mp hk
  rcases (by omega : k = 0 ∨ k = 1) with rfl | rfl
  · exact mw_1_80
  · exact mw_1_82
theorem mw_1_79 : Cond.fieldLink RX2 15 "AnswerLines$Pad" "count" "I" ∈ BG := mB (t1 (i := 79) (by decide +kernel)) (by decide +kernel)
theorem mw_2_68 : Cond.code yX2_isFull cX2_isFull 1 (some .boolean) ∈ BG := mB (t2 (i := 68) rfl) (by decide +kernel)
theorem mw_2_73 : Cond.methodLink RX2 19 yX2_isFull ∈ BG := mB (t2 (i := 73) (by decide +kernel)) (by decide +kernel)
theorem mw_2_66 : Cond.instanceMethod yX2_isFull ∈ BG := mB (t2 (i := 66) (by decide +kernel)) (by decide +kernel)
theorem mw_2_67 : Cond.selects RX2 yX2_isFull yX2_isFull ∈ BG := mB (t2 (i := 67) (by decide +kernel)) (by decide +kernel)
theorem mw_1_4 : Cond.initialized RX2 ∈ BG := mB (t1 (i := 4) (by decide +kernel)) (by decide +kernel)
theorem mw_1_78 : Cond.fieldLink RX2 9 "AnswerLines$Pad" "signs" "[C" ∈ BG := mB (t1 (i := 78) (by decide +kernel)) (by decide +kernel)
theorem dX2_isFull_0 : decode cX2_isFull 0 = .ok (.aload_n 0, 1) := by decide +kernel
theorem dX2_isFull_1 : decode cX2_isFull 1 = .ok (.getfield 15, 3) := by decide +kernel
theorem dX2_isFull_4 : decode cX2_isFull 4 = .ok (.bipush 12, 2) := by decide +kernel
theorem dX2_isFull_6 : decode cX2_isFull 6 = .ok (.if_icmp .lt 7, 3) := by decide +kernel
theorem dX2_isFull_13 : decode cX2_isFull 13 = .ok (.iconst 0, 1) := by decide +kernel
theorem dX2_isFull_14 : decode cX2_isFull 14 = .ok (.ireturn, 1) := by decide +kernel
theorem dX2_length_0 : decode cX2_length 0 = .ok (.aload_n 0, 1) := by decide +kernel
theorem dX2_length_1 : decode cX2_length 1 = .ok (.getfield 15, 3) := by decide +kernel
theorem dX2_length_4 : decode cX2_length 4 = .ok (.ireturn, 1) := by decide +kernel
theorem dX2_put_0 : decode cX2_put 0 = .ok (.aload_n 0, 1) := by decide +kernel
theorem dX2_put_1 : decode cX2_put 1 = .ok (.invokevirtual 19, 3) := by decide +kernel
theorem dX2_put_4 : decode cX2_put 4 = .ok (.ifCond .eq 6, 3) := by decide +kernel
theorem dX2_put_10 : decode cX2_put 10 = .ok (.aload_n 0, 1) := by decide +kernel
theorem dX2_put_11 : decode cX2_put 11 = .ok (.getfield 9, 3) := by decide +kernel
theorem dX2_put_14 : decode cX2_put 14 = .ok (.aload_n 0, 1) := by decide +kernel
theorem dX2_put_15 : decode cX2_put 15 = .ok (.getfield 15, 3) := by decide +kernel
theorem dX2_put_18 : decode cX2_put 18 = .ok (.iload_n 1, 1) := by decide +kernel
theorem dX2_put_19 : decode cX2_put 19 = .ok (.i2c, 1) := by decide +kernel
theorem dX2_put_20 : decode cX2_put 20 = .ok (.castore, 1) := by decide +kernel
theorem dX2_put_21 : decode cX2_put 21 = .ok (.aload_n 0, 1) := by decide +kernel
theorem dX2_put_22 : decode cX2_put 22 = .ok (.dup, 1) := by decide +kernel
theorem dX2_put_23 : decode cX2_put 23 = .ok (.getfield 15, 3) := by decide +kernel
theorem dX2_put_26 : decode cX2_put 26 = .ok (.iconst 1, 1) := by decide +kernel
theorem dX2_put_27 : decode cX2_put 27 = .ok (.iadd, 1) := by decide +kernel
theorem dX2_put_28 : decode cX2_put 28 = .ok (.putfield 15, 3) := by decide +kernel
theorem dX2_put_31 : decode cX2_put 31 = .ok (.aload_n 0, 1) := by decide +kernel
theorem dX2_put_32 : decode cX2_put 32 = .ok (.getfield 15, 3) := by decide +kernel
theorem dX2_put_35 : decode cX2_put 35 = .ok (.ireturn, 1) := by decide +kernel
theorem dX2_empty_0 : decode cX2_empty 0 = .ok (.aload_n 0, 1) := by decide +kernel
theorem dX2_empty_1 : decode cX2_empty 1 = .ok (.getfield 15, 3) := by decide +kernel
theorem dX2_empty_4 : decode cX2_empty 4 = .ok (.istore_n 1, 1) := by decide +kernel
theorem dX2_empty_5 : decode cX2_empty 5 = .ok (.aload_n 0, 1) := by decide +kernel
theorem dX2_empty_6 : decode cX2_empty 6 = .ok (.iconst 0, 1) := by decide +kernel
theorem dX2_empty_7 : decode cX2_empty 7 = .ok (.putfield 15, 3) := by decide +kernel
theorem dX2_empty_10 : decode cX2_empty 10 = .ok (.iload_n 1, 1) := by decide +kernel
theorem dX2_empty_11 : decode cX2_empty 11 = .ok (.ireturn, 1) := by decide +kernel
theorem dX2_firstFault_0 : decode cX2_firstFault 0 = .ok (.iconst 0, 1) := by decide +kernel
theorem dX2_firstFault_1 : decode cX2_firstFault 1 = .ok (.istore_n 1, 1) := by decide +kernel
theorem dX2_firstFault_2 : decode cX2_firstFault 2 = .ok (.iload_n 1, 1) := by decide +kernel
theorem dX2_firstFault_3 : decode cX2_firstFault 3 = .ok (.aload_n 0, 1) := by decide +kernel
theorem dX2_firstFault_4 : decode cX2_firstFault 4 = .ok (.getfield 15, 3) := by decide +kernel
theorem dX2_firstFault_7 : decode cX2_firstFault 7 = .ok (.if_icmp .ge 23, 3) := by decide +kernel
theorem dX2_firstFault_30 : decode cX2_firstFault 30 = .ok (.bipush (-6), 2) := by decide +kernel
theorem dX2_firstFault_32 : decode cX2_firstFault 32 = .ok (.ireturn, 1) := by decide +kernel
set_option maxHeartbeats 4000000 in
set_option maxRecDepth 100000 in
theorem c_pFull (l : Launch) (dC : Nat → ClassId) (dI : Nat → Nat → Nat) (sz : Nat) (h0 : Nat) (w0 : Value)  : Met l yX2_isFull (wq yX2_isFull cX2_isFull 1 (some .boolean)) ({ frames := 0, cells := 0, slots := 0, locals := 0 }) (va_Pc [.ref h0] (pcW dC dI [] [(h0, .inr (2, [w0, .int 0]))] sz)) (va_Qi (fun (r : Int32) (_ : Unit) => r = 0) (fun _ _ => True) (fun q : Nat => sz ≤ q)) 0 0 (fun q : Nat => sz ≤ q) := by
  refine Met.ofW (cc := cX2_isFull) (maxL := 1) (ret := (some .boolean)) (by decide) rfl ?_
  intro p e s m args below meth c s₁ B hml hv
  obtain ⟨rfl, hsz, hN, hP, hK, hD0⟩ := hv
  have hx := B.exec
  have hb := B.bytes
  have hr := B.returns
  have hts0 := atoms_spec (ws := (wq yX2_isFull cX2_isFull 1 (some .boolean))) B.pre
  have hts : ∀ w ∈ BG, w.before _ s = true := fun w h => hts0 w (List.mem_cons_of_mem _ h)
  have hown : s.vm.findClass RX2 = some m.cls := findClass_of_methodNamed B.named
  have hlocks := B.notSynchronized
  subst hsz
  have hA : ∀ q : Nat, s.heap.size ≤ q → (fun q : Nat => s.heap.size ≤ q) q := fun _ h => h
  have hD := hD0
  have hS : va_S (fun q : Nat => s.heap.size ≤ q) s.heap s.heap [] := va_S.rf
  have hP : va_P (dC, dI) vwCl [(h0, .inr (2, [w0, .int 0]))] s.heap := hP
  have hl := lv_entry ([.ref h0]) (n := 1) (Nat.le_of_ble_eq_true rfl)
  rw [lg_entry_eq]
  generalize (lg_sl ([.ref h0]) ++ List.replicate (1 - (lg_sl ([.ref h0])).length) Slot.unset).toArray = ls at hl ⊢
  have hl : lv_has ls 1 [(0, .ref h0)] := hl
  skip
  refine lv_aload_n hx hb dX2_isFull_0 rfl (lv_at hl 0 rfl) ?_
  refine va_get (D := (dC, dI)) (ci := 2) (v := .int 0) (C := RX2) (T := TX2) (N := 2) hx hb hts inB_2 hown hK hP 0 rfl rfl 1 (by decide) (hts _ mw_1_79) (fun _ h9 => h9) rfl dX2_isFull_1 ?_
  refine lv_bipush (v := 12) hx hb dX2_isFull_4 (by decide) ?_
  refine lv_icmp_lt (tgt := 13) hx hb dX2_isFull_6 (by decide) (fun _ => ?_) (fun h => absurd (by decide) h)
  refine lv_iconst (v := 0) hx hb dX2_isFull_13 (by decide) ?_
  exact W.zret (v := 0) hx hb hr (by decide) (fun t ht hW => ⟨⟨0, (), rfl, rfl, trivial⟩, hS.F ht⟩) hS.2.2 dX2_isFull_14
set_option maxHeartbeats 4000000 in
set_option maxRecDepth 100000 in
theorem c_pLen (l : Launch) (dC : Nat → ClassId) (dI : Nat → Nat → Nat) (sz : Nat) (h0 : Nat) (w0 : Value)  : Met l yX2_length (wq yX2_length cX2_length 1 (some .int)) ({ frames := 0, cells := 0, slots := 0, locals := 0 }) (va_Pc [.ref h0] (pcW dC dI [] [(h0, .inr (2, [w0, .int 0]))] sz)) (va_Qi (fun (r : Int32) (_ : Unit) => r = 0) (fun _ _ => True) (fun q : Nat => sz ≤ q)) 0 0 (fun q : Nat => sz ≤ q) := by
  refine Met.ofW (cc := cX2_length) (maxL := 1) (ret := (some .int)) (by decide) rfl ?_
  intro p e s m args below meth c s₁ B hml hv
  obtain ⟨rfl, hsz, hN, hP, hK, hD0⟩ := hv
  have hx := B.exec
  have hb := B.bytes
  have hr := B.returns
  have hts0 := atoms_spec (ws := (wq yX2_length cX2_length 1 (some .int))) B.pre
  have hts : ∀ w ∈ BG, w.before _ s = true := fun w h => hts0 w (List.mem_cons_of_mem _ h)
  have hown : s.vm.findClass RX2 = some m.cls := findClass_of_methodNamed B.named
  have hlocks := B.notSynchronized
  subst hsz
  have hA : ∀ q : Nat, s.heap.size ≤ q → (fun q : Nat => s.heap.size ≤ q) q := fun _ h => h
  have hD := hD0
  have hS : va_S (fun q : Nat => s.heap.size ≤ q) s.heap s.heap [] := va_S.rf
  have hP : va_P (dC, dI) vwCl [(h0, .inr (2, [w0, .int 0]))] s.heap := hP
  have hl := lv_entry ([.ref h0]) (n := 1) (Nat.le_of_ble_eq_true rfl)
  rw [lg_entry_eq]
  generalize (lg_sl ([.ref h0]) ++ List.replicate (1 - (lg_sl ([.ref h0])).length) Slot.unset).toArray = ls at hl ⊢
  have hl : lv_has ls 1 [(0, .ref h0)] := hl
  skip
  refine lv_aload_n hx hb dX2_length_0 rfl (lv_at hl 0 rfl) ?_
  refine va_get (D := (dC, dI)) (ci := 2) (v := .int 0) (C := RX2) (T := TX2) (N := 2) hx hb hts inB_2 hown hK hP 0 rfl rfl 1 (by decide) (hts _ mw_1_79) (fun _ h9 => h9) rfl dX2_length_1 ?_
  exact W.iret (v := 0) hx hb hr (fun t ht hW => ⟨⟨0, (), rfl, rfl, trivial⟩, hS.F ht⟩) hS.2.2 dX2_length_4
set_option maxHeartbeats 4000000 in
set_option maxRecDepth 100000 in
theorem c_pPut (l : Launch) (dC : Nat → ClassId) (dI : Nat → Nat → Nat) (sz : Nat) (h0 : Nat) (a0 : Nat) (ka0 : ClassId) (n : Int32)  : Met l yX2_put (wq yX2_put cX2_put 2 (some .int)) ({ frames := 1, cells := 0, slots := 0, locals := 20 }) (va_Pc [.ref h0, .int n] (pcW dC dI [(ka0, .char)] [(h0, .inr (2, [.ref a0, .int 0])), (a0, .inl (ka0, 12, .inl (fun _ => 0)))] sz)) (va_Qi (fun (r : Int32) (_ : Unit) => r = 1) (fun _ _ => True) (va_A [(h0, .inr (2, [.ref a0, .int 0])), (a0, .inl (ka0, 12, .inl (fun _ => 0)))] sz)) 0 0 (va_A [(h0, .inr (2, [.ref a0, .int 0])), (a0, .inl (ka0, 12, .inl (fun _ => 0)))] sz) := by
  refine Met.ofW (cc := cX2_put) (maxL := 2) (ret := (some .int)) (by decide) rfl ?_
  intro p e s m args below meth c s₁ B hml hv
  obtain ⟨rfl, hsz, hN, hP, hK, hD0⟩ := hv
  have hx := B.exec
  have hb := B.bytes
  have hr := B.returns
  have hts0 := atoms_spec (ws := (wq yX2_put cX2_put 2 (some .int))) B.pre
  have hts : ∀ w ∈ BG, w.before _ s = true := fun w h => hts0 w (List.mem_cons_of_mem _ h)
  have hown : s.vm.findClass RX2 = some m.cls := findClass_of_methodNamed B.named
  have hlocks := B.notSynchronized
  subst hsz
  have hD := hD0.self (sz := s.heap.size)
  generalize hAe : va_A [(h0, .inr (2, [.ref a0, .int 0])), (a0, .inl (ka0, 12, .inl (fun _ => 0)))] s.heap.size = A at hD ⊢
  have hA : ∀ q : Nat, s.heap.size ≤ q → A q := fun q h => by rw [← hAe]; exact Or.inr h
  have hS : va_S A s.heap s.heap [] := va_S.rf
  have hP : va_P (dC, dI) vwCl [(h0, .inr (2, [.ref a0, .int 0])), (a0, .inl (ka0, 12, .inl (fun _ => 0)))] s.heap := hP
  have hl := lv_entry ([.ref h0, .int n]) (n := 2) (Nat.le_of_ble_eq_true rfl)
  rw [lg_entry_eq]
  generalize (lg_sl ([.ref h0, .int n]) ++ List.replicate (2 - (lg_sl ([.ref h0, .int n])).length) Slot.unset).toArray = ls at hl ⊢
  have hl : lv_has ls 2 [(0, .ref h0), (1, .int n)] := hl
  skip
  refine lv_aload_n hx hb dX2_put_0 rfl (lv_at hl 0 rfl) ?_
  have hPc := hP.sub (ws' := [(h0, .inr (2, [.ref a0, .int 0]))]) [0] rfl
  have hDc := hD.sub (ws' := [(h0, .inr (2, [.ref a0, .int 0]))]) [0] (by decide) rfl
  have hKc := hK.sub (tys' := []) [] rfl
  refine va_calli (va_runV (As := []) (rest := []) ⟨hx, hb, hml, hown, hts⟩ (c_pFull l dC dI s.heap.size h0 (.ref a0)) (cwV 0 hts (gV mw_2_73 mw_2_66 mw_2_67 mw_1_4 mw_2_68) rfl rfl rfl (by decide +kernel) ⟨Nat.le_of_ble_eq_true rfl, Nat.le_of_ble_eq_true rfl⟩) ⟨pcW_blind, va_recv hKc hPc (ci := 2) (q0 := 0) rfl rfl, pcW_at hPc hKc hDc hN⟩ rfl rfl hl.1 rfl (lv_room (Nat.le_of_ble_eq_true rfl)) dX2_put_1 ⟨Nat.le_of_ble_eq_true rfl, Nat.le_of_ble_eq_true rfl⟩) hS (fun q h1 h2 => absurd h2 (Nat.not_le.mpr h1)) (fun q h => hA q (Nat.le_trans hS.1 h)) (fun r_1 u t H1 locs ht hvm hw_1 hB hz1 hk1 hS => ?_)
  have hP := keepP hP hk1
  clear hz1 hk1 hB ht hvm hPc hDc hKc
  generalize H1 = H at hP hS ⊢
  obtain rfl : r_1 = 0 := hw_1
  refine lv_if_eq (tgt := 10) hx hb dX2_put_4 (by decide) (fun _ => ?_) (fun h => absurd (by decide) h)
  refine lv_aload_n hx hb dX2_put_10 rfl (lv_at hl 0 rfl) ?_
  refine va_get (D := (dC, dI)) (ci := 2) (v := .ref a0) (C := RX2) (T := TX2) (N := 2) hx hb hts inB_2 hown hK hP 0 rfl rfl 0 (by decide) (hts _ mw_1_78) (fun _ h9 => h9) rfl dX2_put_11 ?_
  refine lv_aload_n hx hb dX2_put_14 rfl (lv_at hl 0 rfl) ?_
  refine va_get (D := (dC, dI)) (ci := 2) (v := .int 0) (C := RX2) (T := TX2) (N := 2) hx hb hts inB_2 hown hK hP 0 rfl rfl 1 (by decide) (hts _ mw_1_79) (fun _ h9 => h9) rfl dX2_put_15 ?_
  refine lv_iload_n hx hb dX2_put_18 rfl (lv_at hl 1 rfl) ?_
  refine lv_i2c hx hb dX2_put_19 rfl ?_
  refine va_cast hx hb hK hP hD hS 1 0 rfl rfl (show vp_in 0 12 by unfold vp_in; decide) dX2_put_20 (fun H locs hP hD hS => ?_)
  have hP : va_P (dC, dI) vwCl [(h0, .inr (2, [.ref a0, .int 0])), (a0, .inl (ka0, 12, .inl (upd (fun _ => 0) 0 (vp_nar .char (n.toUInt32 % 65536).toInt32))))] H := hP
  have hD : va_D A [(h0, .inr (2, [.ref a0, .int 0])), (a0, .inl (ka0, 12, .inl (upd (fun _ => 0) 0 (vp_nar .char (n.toUInt32 % 65536).toInt32))))] := hD
  refine lv_aload_n hx hb dX2_put_21 rfl (lv_at hl 0 rfl) ?_
  refine lv_dup hx hb dX2_put_22 rfl ?_
  refine va_get (D := (dC, dI)) (ci := 2) (v := .int 0) (C := RX2) (T := TX2) (N := 2) hx hb hts inB_2 hown hK hP 0 rfl rfl 1 (by decide) (hts _ mw_1_79) (fun _ h9 => h9) rfl dX2_put_23 ?_
  refine lv_iconst (v := 1) hx hb dX2_put_26 (by decide) ?_
  refine lv_iadd hx hb dX2_put_27 ?_
  refine hx_top (y := 1) (by decide) ?_
  refine va_put (D := (dC, dI)) (ci := 2) (v := .int 1) (ty := .int) (C := RX2) (T := TX2) (N := 2) hx hb hts inB_2 tyX2 tyX2_ok nmX2 hown hK hP hD hS 0 rfl rfl 1 (by decide) (hts _ mw_1_79) (fun _ h9 => h9) rfl (by decide +kernel) rfl rfl (Nat.le_of_ble_eq_true rfl) dX2_put_28 (fun H locs hP hD hS => ?_)
  have hP : va_P (dC, dI) vwCl [(h0, .inr (2, [.ref a0, .int 1])), (a0, .inl (ka0, 12, .inl (upd (fun _ => 0) 0 (vp_nar .char (n.toUInt32 % 65536).toInt32))))] H := hP
  have hD : va_D A [(h0, .inr (2, [.ref a0, .int 1])), (a0, .inl (ka0, 12, .inl (upd (fun _ => 0) 0 (vp_nar .char (n.toUInt32 % 65536).toInt32))))] := hD
  refine lv_aload_n hx hb dX2_put_31 rfl (lv_at hl 0 rfl) ?_
  refine va_get (D := (dC, dI)) (ci := 2) (v := .int 1) (C := RX2) (T := TX2) (N := 2) hx hb hts inB_2 hown hK hP 0 rfl rfl 1 (by decide) (hts _ mw_1_79) (fun _ h9 => h9) rfl dX2_put_32 ?_
  exact W.iret (v := 1) hx hb hr (fun t ht hW => ⟨⟨1, (), rfl, rfl, trivial⟩, hS.F ht⟩) hS.2.2 dX2_put_35
set_option maxHeartbeats 4000000 in
set_option maxRecDepth 100000 in
theorem c_pEmpty (l : Launch) (dC : Nat → ClassId) (dI : Nat → Nat → Nat) (sz : Nat) (h0 : Nat) (w0 : Value)  : Met l yX2_empty (wq yX2_empty cX2_empty 2 (some .int)) ({ frames := 0, cells := 0, slots := 0, locals := 0 }) (va_Pc [.ref h0] (pcW dC dI [] [(h0, .inr (2, [w0, .int 0]))] sz)) (va_Qi (fun (r : Int32) (_ : Unit) => r = 0) (fun _ _ => True) (va_A [(h0, .inr (2, [w0, .int 0]))] sz)) 0 0 (va_A [(h0, .inr (2, [w0, .int 0]))] sz) := by
  refine Met.ofW (cc := cX2_empty) (maxL := 2) (ret := (some .int)) (by decide) rfl ?_
  intro p e s m args below meth c s₁ B hml hv
  obtain ⟨rfl, hsz, hN, hP, hK, hD0⟩ := hv
  have hx := B.exec
  have hb := B.bytes
  have hr := B.returns
  have hts0 := atoms_spec (ws := (wq yX2_empty cX2_empty 2 (some .int))) B.pre
  have hts : ∀ w ∈ BG, w.before _ s = true := fun w h => hts0 w (List.mem_cons_of_mem _ h)
  have hown : s.vm.findClass RX2 = some m.cls := findClass_of_methodNamed B.named
  have hlocks := B.notSynchronized
  subst hsz
  have hD := hD0.self (sz := s.heap.size)
  generalize hAe : va_A [(h0, .inr (2, [w0, .int 0]))] s.heap.size = A at hD ⊢
  have hA : ∀ q : Nat, s.heap.size ≤ q → A q := fun q h => by rw [← hAe]; exact Or.inr h
  have hS : va_S A s.heap s.heap [] := va_S.rf
  have hP : va_P (dC, dI) vwCl [(h0, .inr (2, [w0, .int 0]))] s.heap := hP
  have hl := lv_entry ([.ref h0]) (n := 2) (Nat.le_of_ble_eq_true rfl)
  rw [lg_entry_eq]
  generalize (lg_sl ([.ref h0]) ++ List.replicate (2 - (lg_sl ([.ref h0])).length) Slot.unset).toArray = ls at hl ⊢
  have hl : lv_has ls 2 [(0, .ref h0)] := hl
  skip
  refine lv_aload_n hx hb dX2_empty_0 rfl (lv_at hl 0 rfl) ?_
  refine va_get (D := (dC, dI)) (ci := 2) (v := .int 0) (C := RX2) (T := TX2) (N := 2) hx hb hts inB_2 hown hK hP 0 rfl rfl 1 (by decide) (hts _ mw_1_79) (fun _ h9 => h9) rfl dX2_empty_1 ?_
  refine lv_istore_n (lv' := [(1, .int 0), (0, .ref h0)]) hx hb dX2_empty_4 rfl hl (by decide) rfl (fun ls hl => ?_)
  refine lv_aload_n hx hb dX2_empty_5 rfl (lv_at hl 1 rfl) ?_
  refine lv_iconst (v := 0) hx hb dX2_empty_6 (by decide) ?_
  refine va_put (D := (dC, dI)) (ci := 2) (v := .int 0) (ty := .int) (C := RX2) (T := TX2) (N := 2) hx hb hts inB_2 tyX2 tyX2_ok nmX2 hown hK hP hD hS 0 rfl rfl 1 (by decide) (hts _ mw_1_79) (fun _ h9 => h9) rfl (by decide +kernel) rfl rfl (Nat.le_of_ble_eq_true rfl) dX2_empty_7 (fun H locs hP hD hS => ?_)
  have hP : va_P (dC, dI) vwCl [(h0, .inr (2, [w0, .int 0]))] H := hP
  have hD : va_D A [(h0, .inr (2, [w0, .int 0]))] := hD
  refine lv_iload_n hx hb dX2_empty_10 rfl (lv_at hl 0 rfl) ?_
  exact W.iret (v := 0) hx hb hr (fun t ht hW => ⟨⟨0, (), rfl, rfl, trivial⟩, hS.F ht⟩) hS.2.2 dX2_empty_11
set_option maxHeartbeats 4000000 in
set_option maxRecDepth 100000 in
theorem c_pFault (l : Launch) (dC : Nat → ClassId) (dI : Nat → Nat → Nat) (sz : Nat) (h0 : Nat) (w0 : Value)  : Met l yX2_firstFault (wq yX2_firstFault cX2_firstFault 2 (some .int)) ({ frames := 0, cells := 0, slots := 0, locals := 0 }) (va_Pc [.ref h0] (pcW dC dI [] [(h0, .inr (2, [w0, .int 0]))] sz)) (va_Qi (fun (r : Int32) (_ : Unit) => r = (-6)) (fun _ _ => True) (fun q : Nat => sz ≤ q)) 0 0 (fun q : Nat => sz ≤ q) := by
  refine Met.ofW (cc := cX2_firstFault) (maxL := 2) (ret := (some .int)) (by decide) rfl ?_
  intro p e s m args below meth c s₁ B hml hv
  obtain ⟨rfl, hsz, hN, hP, hK, hD0⟩ := hv
  have hx := B.exec
  have hb := B.bytes
  have hr := B.returns
  have hts0 := atoms_spec (ws := (wq yX2_firstFault cX2_firstFault 2 (some .int))) B.pre
  have hts : ∀ w ∈ BG, w.before _ s = true := fun w h => hts0 w (List.mem_cons_of_mem _ h)
  have hown : s.vm.findClass RX2 = some m.cls := findClass_of_methodNamed B.named
  have hlocks := B.notSynchronized
  subst hsz
  have hA : ∀ q : Nat, s.heap.size ≤ q → (fun q : Nat => s.heap.size ≤ q) q := fun _ h => h
  have hD := hD0
  have hS : va_S (fun q : Nat => s.heap.size ≤ q) s.heap s.heap [] := va_S.rf
  have hP : va_P (dC, dI) vwCl [(h0, .inr (2, [w0, .int 0]))] s.heap := hP
  have hl := lv_entry ([.ref h0]) (n := 2) (Nat.le_of_ble_eq_true rfl)
  rw [lg_entry_eq]
  generalize (lg_sl ([.ref h0]) ++ List.replicate (2 - (lg_sl ([.ref h0])).length) Slot.unset).toArray = ls at hl ⊢
  have hl : lv_has ls 2 [(0, .ref h0)] := hl
  skip
  refine lv_iconst (v := 0) hx hb dX2_firstFault_0 (by decide) ?_
  refine lv_istore_n (lv' := [(1, .int 0), (0, .ref h0)]) hx hb dX2_firstFault_1 rfl hl (by decide) rfl (fun ls hl => ?_)
  refine lv_iload_n hx hb dX2_firstFault_2 rfl (lv_at hl 0 rfl) ?_
  refine lv_aload_n hx hb dX2_firstFault_3 rfl (lv_at hl 1 rfl) ?_
  refine va_get (D := (dC, dI)) (ci := 2) (v := .int 0) (C := RX2) (T := TX2) (N := 2) hx hb hts inB_2 hown hK hP 0 rfl rfl 1 (by decide) (hts _ mw_1_79) (fun _ h9 => h9) rfl dX2_firstFault_4 ?_
  refine lv_icmp_ge (tgt := 30) hx hb dX2_firstFault_7 (by decide) (fun _ => ?_) (fun h => absurd (by decide) h)
  refine lv_bipush (v := (-6)) hx hb dX2_firstFault_30 (by decide) ?_
  exact W.iret (v := (-6)) hx hb hr (fun t ht hW => ⟨⟨(-6), (), rfl, rfl, trivial⟩, hS.F ht⟩) hS.2.2 dX2_firstFault_32
end
section
theorem mw_2_99 : Cond.code yX8_isName cX8_isName 1 (some .boolean) ∈ BG := mB (t2 (i := 99) rfl) (by decide +kernel)
theorem mw_1_1 : Cond.initialized RX8 ∈ BG := mB (t1 (i := 1) (by decide +kernel)) (by decide +kernel)
theorem mw_2_98 : Cond.static yX8_isName ∈ BG := mB (t2 (i := 98) (by decide +kernel)) (by decide +kernel)
theorem mw_1_95 : Cond.laysFinal RX0 "AnswerLines$Bodies" "owners" "[I" ∈ BG := mB (t1 (i := 95) (by decide +kernel)) (by decide +kernel)
theorem mw_1_97 : Cond.laysFinal RX0 "AnswerLines$Bodies" "lengths" "[I" ∈ BG := mB (t1 (i := 97) (by decide +kernel)) (by decide +kernel)
theorem mw_1_99 : Cond.laysFinal RX0 "AnswerLines$Bodies" "signs" "[C" ∈ BG := mB (t1 (i := 99) (by decide +kernel)) (by decide +kernel)
theorem inB_0 : ∀ w ∈ u_ws RX0 TX0 3, w ∈ BG := fun w hw => by
  obtain ⟨k, hk, rfl⟩ := List.mem_map.mp hw
  have hk := List.mem_range.mp hk
  rcases (by omega : k = 0 ∨ k = 1 ∨ k = 2) with rfl | rfl | rfl
  · exact mw_1_95
  · exact mw_1_97
  · exact mw_1_99
theorem mw_1_92 : Cond.fieldLink RX0 9 "AnswerLines$Bodies" "owners" "[I" ∈ BG := mB (t1 (i := 92) (by decide +kernel)) (by decide +kernel)
theorem mw_2_107 : Cond.code yX0_ownersOf cX0_ownersOf 2 (some .int) ∈ BG := mB (t2 (i := 107) rfl) (by decide +kernel)
theorem mw_2_104 : Cond.methodLink RX0 26 yX0_ownersOf ∈ BG := mB (t2 (i := 104) (by decide +kernel)) (by decide +kernel)
theorem mw_2_105 : Cond.instanceMethod yX0_ownersOf ∈ BG := mB (t2 (i := 105) (by decide +kernel)) (by decide +kernel)
theorem mw_2_106 : Cond.selects RX0 yX0_ownersOf yX0_ownersOf ∈ BG := mB (t2 (i := 106) (by decide +kernel)) (by decide +kernel)
theorem mw_1_5 : Cond.initialized RX0 ∈ BG := mB (t1 (i := 5) (by decide +kernel)) (by decide +kernel)
theorem mw_2_15 : Cond.code yX8_isIn cX8_isIn 2 (some .boolean) ∈ BG := mB (t2 (i := 15) rfl) (by decide +kernel)
theorem mw_2_14 : Cond.static yX8_isIn ∈ BG := mB (t2 (i := 14) (by decide +kernel)) (by decide +kernel)
theorem mw_2_103 : Cond.code yX0_isOwner cX0_isOwner 3 (some .boolean) ∈ BG := mB (t2 (i := 103) rfl) (by decide +kernel)
theorem mw_3_175 : Cond.methodLink RX0 34 yX0_isOwner ∈ BG := mB (t3 (i := 175) (by decide +kernel)) (by decide +kernel)
theorem mw_2_101 : Cond.instanceMethod yX0_isOwner ∈ BG := mB (t2 (i := 101) (by decide +kernel)) (by decide +kernel)
theorem mw_2_102 : Cond.selects RX0 yX0_isOwner yX0_isOwner ∈ BG := mB (t2 (i := 102) (by decide +kernel)) (by decide +kernel)
theorem dX0_ownersOf_0 : decode cX0_ownersOf 0 = .ok (.iload_n 1, 1) := by decide +kernel
theorem dX0_ownersOf_1 : decode cX0_ownersOf 1 = .ok (.invokestatic 22, 3) := by decide +kernel
theorem dX0_ownersOf_4 : decode cX0_ownersOf 4 = .ok (.ifCond .eq 12, 3) := by decide +kernel
theorem dX0_ownersOf_7 : decode cX0_ownersOf 7 = .ok (.aload_n 0, 1) := by decide +kernel
theorem dX0_ownersOf_8 : decode cX0_ownersOf 8 = .ok (.getfield 9, 3) := by decide +kernel
theorem dX0_ownersOf_11 : decode cX0_ownersOf 11 = .ok (.iload_n 1, 1) := by decide +kernel
theorem dX0_ownersOf_12 : decode cX0_ownersOf 12 = .ok (.iaload, 1) := by decide +kernel
theorem dX0_ownersOf_13 : decode cX0_ownersOf 13 = .ok (.goto 4, 3) := by decide +kernel
theorem dX0_ownersOf_17 : decode cX0_ownersOf 17 = .ok (.ireturn, 1) := by decide +kernel
theorem dX0_ownersOf_16 : decode cX0_ownersOf 16 = .ok (.iconst 0, 1) := by decide +kernel
theorem dX0_isOwner_0 : decode cX0_isOwner 0 = .ok (.iload_n 1, 1) := by decide +kernel
theorem dX0_isOwner_1 : decode cX0_isOwner 1 = .ok (.aload_n 0, 1) := by decide +kernel
theorem dX0_isOwner_2 : decode cX0_isOwner 2 = .ok (.iload_n 2, 1) := by decide +kernel
theorem dX0_isOwner_3 : decode cX0_isOwner 3 = .ok (.invokevirtual 26, 3) := by decide +kernel
theorem dX0_isOwner_6 : decode cX0_isOwner 6 = .ok (.invokestatic 30, 3) := by decide +kernel
theorem dX0_isOwner_9 : decode cX0_isOwner 9 = .ok (.ireturn, 1) := by decide +kernel
theorem dX0_namesOf_0 : decode cX0_namesOf 0 = .ok (.iconst 0, 1) := by decide +kernel
theorem dX0_namesOf_1 : decode cX0_namesOf 1 = .ok (.istore_n 2, 1) := by decide +kernel
theorem dX0_namesOf_2 : decode cX0_namesOf 2 = .ok (.iconst 0, 1) := by decide +kernel
theorem dX0_namesOf_3 : decode cX0_namesOf 3 = .ok (.istore_n 3, 1) := by decide +kernel
theorem dX0_namesOf_4 : decode cX0_namesOf 4 = .ok (.iload_n 3, 1) := by decide +kernel
theorem dX0_namesOf_5 : decode cX0_namesOf 5 = .ok (.bipush 8, 2) := by decide +kernel
theorem dX0_namesOf_7 : decode cX0_namesOf 7 = .ok (.if_icmp .ge 24, 3) := by decide +kernel
theorem dX0_namesOf_10 : decode cX0_namesOf 10 = .ok (.aload_n 0, 1) := by decide +kernel
theorem dX0_namesOf_11 : decode cX0_namesOf 11 = .ok (.iload_n 1, 1) := by decide +kernel
theorem dX0_namesOf_12 : decode cX0_namesOf 12 = .ok (.iload_n 3, 1) := by decide +kernel
theorem dX0_namesOf_13 : decode cX0_namesOf 13 = .ok (.invokevirtual 34, 3) := by decide +kernel
theorem dX0_namesOf_16 : decode cX0_namesOf 16 = .ok (.ifCond .eq 9, 3) := by decide +kernel
theorem dX0_namesOf_25 : decode cX0_namesOf 25 = .ok (.iinc 3 1, 3) := by decide +kernel
theorem dX0_namesOf_28 : decode cX0_namesOf 28 = .ok (.goto (-24), 3) := by decide +kernel
theorem dX0_namesOf_31 : decode cX0_namesOf 31 = .ok (.iload_n 2, 1) := by decide +kernel
theorem dX0_namesOf_32 : decode cX0_namesOf 32 = .ok (.ireturn, 1) := by decide +kernel
set_option maxHeartbeats 4000000 in
set_option maxRecDepth 100000 in
theorem c_own (l : Launch) (dC : Nat → ClassId) (dI : Nat → Nat → Nat) (sz : Nat) (h0 : Nat) (a0 : Nat) (w1 : Value) (w2 : Value) (ka0 : ClassId) (n : Int32)  : Met l yX0_ownersOf (wq yX0_ownersOf cX0_ownersOf 2 (some .int)) ({ frames := 1, cells := 0, slots := 0, locals := 20 }) (va_Pc [.ref h0, .int n] (pcW dC dI [(ka0, .int)] [(h0, .inr (0, [.ref a0, w1, w2])), (a0, .inl (ka0, 8, .inl (fun _ => 0)))] sz)) (va_Qi (fun (r : Int32) (_ : Unit) => r = 0) (fun _ _ => True) (fun q : Nat => sz ≤ q)) 0 0 (fun q : Nat => sz ≤ q) := by
  refine Met.ofW (cc := cX0_ownersOf) (maxL := 2) (ret := (some .int)) (by decide) rfl ?_
  intro p e s m args below meth c s₁ B hml hv
  obtain ⟨rfl, hsz, hN, hP, hK, hD0⟩ := hv
  have hx := B.exec
  have hb := B.bytes
  have hr := B.returns
  have hts0 := atoms_spec (ws := (wq yX0_ownersOf cX0_ownersOf 2 (some .int))) B.pre
  have hts : ∀ w ∈ BG, w.before _ s = true := fun w h => hts0 w (List.mem_cons_of_mem _ h)
  have hown : s.vm.findClass RX0 = some m.cls := findClass_of_methodNamed B.named
  have hlocks := B.notSynchronized
  subst hsz
  have hA : ∀ q : Nat, s.heap.size ≤ q → (fun q : Nat => s.heap.size ≤ q) q := fun _ h => h
  have hD := hD0
  have hS : va_S (fun q : Nat => s.heap.size ≤ q) s.heap s.heap [] := va_S.rf
  have hP : va_P (dC, dI) vwCl [(h0, .inr (0, [.ref a0, w1, w2])), (a0, .inl (ka0, 8, .inl (fun _ => 0)))] s.heap := hP
  have hl := lv_entry ([.ref h0, .int n]) (n := 2) (Nat.le_of_ble_eq_true rfl)
  rw [lg_entry_eq]
  generalize (lg_sl ([.ref h0, .int n]) ++ List.replicate (2 - (lg_sl ([.ref h0, .int n])).length) Slot.unset).toArray = ls at hl ⊢
  have hl : lv_has ls 2 [(0, .ref h0), (1, .int n)] := hl
  skip
  refine lv_iload_n hx hb dX0_ownersOf_0 rfl (lv_at hl 1 rfl) ?_
  have hPc := hP.sub (ws' := []) [] rfl
  have hDc := hD.sub (ws' := []) [] (by decide) rfl
  have hKc := hK.sub (tys' := []) [] rfl
  refine va_calli (va_runSN (As := [.int n]) (rest := []) ⟨hx, hb, hml, hown, hts⟩ (c_isName l dC dI s.heap.size n) ⟨va_cnB 1 hts (gN mw_2_99) rfl rfl rfl (hN (RX0, 22, yX8_isName, RX8) (List.mem_of_getElem? (i := 8) rfl)) (hts _ mw_1_1) (by decide +kernel) ⟨Nat.le_of_ble_eq_true rfl, Nat.le_of_ble_eq_true rfl⟩, (hts _ mw_2_98), trivial⟩ ⟨pcW_blind, pcW_at hPc hKc hDc hN⟩ rfl rfl hl.1 rfl (lv_room (Nat.le_of_ble_eq_true rfl)) dX0_ownersOf_1 ⟨Nat.le_of_ble_eq_true rfl, Nat.le_of_ble_eq_true rfl⟩) hS (fun q h1 h2 => absurd h2 (Nat.not_le.mpr h1)) (fun q h => hA q (Nat.le_trans hS.1 h)) (fun r_1 u t H1 locs ht hvm hw_1 hB hz1 hk1 hS => ?_)
  have hP := keepP hP hk1
  clear hz1 hk1 hB ht hvm hPc hDc hKc
  generalize H1 = H at hP hS ⊢
  rcases fx_bool hw_1 with ⟨rfl, b_2⟩ | ⟨rfl, b_2⟩
  · skip
    refine lv_if_eq (tgt := 16) hx hb dX0_ownersOf_4 (by decide) (fun h => absurd h (by decide)) (fun _ => ?_)
    refine lv_aload_n hx hb dX0_ownersOf_7 rfl (lv_at hl 0 rfl) ?_
    refine va_get (D := (dC, dI)) (ci := 0) (v := .ref a0) (C := RX0) (T := TX0) (N := 3) hx hb hts inB_0 hown hK hP 0 rfl rfl 0 (by decide) (hts _ mw_1_92) (fun _ h9 => h9) rfl dX0_ownersOf_8 ?_
    refine lv_iload_n hx hb dX0_ownersOf_11 rfl (lv_at hl 1 rfl) ?_
    refine va_iald hx hb hK hP 1 0 rfl rfl (show vp_in n 8 from fx_in (by omega) (by omega)) dX0_ownersOf_12 ?_
    refine hx_top (y := 0) rfl ?_
    refine lv_goto (tgt := 17) hx hb dX0_ownersOf_13 (by decide) ?_
    exact W.iret (v := 0) hx hb hr (fun t ht hW => ⟨⟨0, (), rfl, rfl, trivial⟩, hS.F ht⟩) hS.2.2 dX0_ownersOf_17
  · skip
    refine lv_if_eq (tgt := 16) hx hb dX0_ownersOf_4 (by decide) (fun _ => ?_) (fun h => absurd (by decide) h)
    refine lv_iconst (v := 0) hx hb dX0_ownersOf_16 (by decide) ?_
    exact W.iret (v := 0) hx hb hr (fun t ht hW => ⟨⟨0, (), rfl, rfl, trivial⟩, hS.F ht⟩) hS.2.2 dX0_ownersOf_17
set_option maxHeartbeats 4000000 in
set_option maxRecDepth 100000 in
theorem c_isOwn (l : Launch) (dC : Nat → ClassId) (dI : Nat → Nat → Nat) (sz : Nat) (h0 : Nat) (a0 : Nat) (w1 : Value) (w2 : Value) (ka0 : ClassId) (j : Int32) (n : Int32)  : Met l yX0_isOwner (wq yX0_isOwner cX0_isOwner 3 (some .boolean)) ({ frames := 2, cells := 0, slots := 0, locals := 41 }) (va_Pc [.ref h0, .int j, .int n] (pcW dC dI [(ka0, .int)] [(h0, .inr (0, [.ref a0, w1, w2])), (a0, .inl (ka0, 8, .inl (fun _ => 0)))] sz)) (va_Qi (fun (r : Int32) (_ : Unit) => r = 0) (fun _ _ => True) (fun q : Nat => sz ≤ q)) 0 0 (fun q : Nat => sz ≤ q) := by
  refine Met.ofW (cc := cX0_isOwner) (maxL := 3) (ret := (some .boolean)) (by decide) rfl ?_
  intro p e s m args below meth c s₁ B hml hv
  obtain ⟨rfl, hsz, hN, hP, hK, hD0⟩ := hv
  have hx := B.exec
  have hb := B.bytes
  have hr := B.returns
  have hts0 := atoms_spec (ws := (wq yX0_isOwner cX0_isOwner 3 (some .boolean))) B.pre
  have hts : ∀ w ∈ BG, w.before _ s = true := fun w h => hts0 w (List.mem_cons_of_mem _ h)
  have hown : s.vm.findClass RX0 = some m.cls := findClass_of_methodNamed B.named
  have hlocks := B.notSynchronized
  subst hsz
  have hA : ∀ q : Nat, s.heap.size ≤ q → (fun q : Nat => s.heap.size ≤ q) q := fun _ h => h
  have hD := hD0
  have hS : va_S (fun q : Nat => s.heap.size ≤ q) s.heap s.heap [] := va_S.rf
  have hP : va_P (dC, dI) vwCl [(h0, .inr (0, [.ref a0, w1, w2])), (a0, .inl (ka0, 8, .inl (fun _ => 0)))] s.heap := hP
  have hl := lv_entry ([.ref h0, .int j, .int n]) (n := 3) (Nat.le_of_ble_eq_true rfl)
  rw [lg_entry_eq]
  generalize (lg_sl ([.ref h0, .int j, .int n]) ++ List.replicate (3 - (lg_sl ([.ref h0, .int j, .int n])).length) Slot.unset).toArray = ls at hl ⊢
  have hl : lv_has ls 3 [(0, .ref h0), (1, .int j), (2, .int n)] := hl
  skip
  refine lv_iload_n hx hb dX0_isOwner_0 rfl (lv_at hl 1 rfl) ?_
  refine lv_aload_n hx hb dX0_isOwner_1 rfl (lv_at hl 0 rfl) ?_
  refine lv_iload_n hx hb dX0_isOwner_2 rfl (lv_at hl 2 rfl) ?_
  have hPc := hP.sub (ws' := [(h0, .inr (0, [.ref a0, w1, w2])), (a0, .inl (ka0, 8, .inl (fun _ => 0)))]) [0, 1] rfl
  have hDc := hD.sub (ws' := [(h0, .inr (0, [.ref a0, w1, w2])), (a0, .inl (ka0, 8, .inl (fun _ => 0)))]) [0, 1] (by decide) rfl
  have hKc := hK.sub (tys' := [(ka0, .int)]) [0] rfl
  refine va_calli (va_runV (As := [.int n]) (rest := [.int j]) ⟨hx, hb, hml, hown, hts⟩ (c_own l dC dI s.heap.size h0 a0 (w1) (w2) ka0 n) (cwV 1 hts (gV mw_2_104 mw_2_105 mw_2_106 mw_1_5 mw_2_107) rfl rfl rfl (by decide +kernel) ⟨Nat.le_of_ble_eq_true rfl, Nat.le_of_ble_eq_true rfl⟩) ⟨pcW_blind, va_recv hKc hPc (ci := 0) (q0 := 0) rfl rfl, pcW_at hPc hKc hDc hN⟩ rfl rfl hl.1 rfl (lv_room (Nat.le_of_ble_eq_true rfl)) dX0_isOwner_3 ⟨Nat.le_of_ble_eq_true rfl, Nat.le_of_ble_eq_true rfl⟩) hS (fun q h1 h2 => absurd h2 (Nat.not_le.mpr h1)) (fun q h => hA q (Nat.le_trans hS.1 h)) (fun r_1 u t H1 locs ht hvm hw_1 hB hz1 hk1 hS => ?_)
  have hP := keepP hP hk1
  clear hz1 hk1 hB ht hvm hPc hDc hKc
  generalize H1 = H at hP hS ⊢
  obtain rfl : r_1 = 0 := hw_1
  have hPc := hP.sub (ws' := []) [] rfl
  have hDc := hD.sub (ws' := []) [] (by decide) rfl
  have hKc := hK.sub (tys' := []) [] rfl
  refine va_calli (va_runSN (As := [.int j, .int 0]) (rest := []) ⟨hx, hb, hml, hown, hts⟩ (c_isIn0 l dC dI H.size j) ⟨va_cnB 2 hts (gN mw_2_15) rfl rfl rfl (hN (RX0, 30, yX8_isIn, RX8) (List.mem_of_getElem? (i := 9) rfl)) (hts _ mw_1_1) (by decide +kernel) ⟨Nat.le_of_ble_eq_true rfl, Nat.le_of_ble_eq_true rfl⟩, (hts _ mw_2_14), trivial⟩ ⟨pcW_blind, pcW_at hPc hKc hDc hN⟩ rfl rfl hl.1 rfl (lv_room (Nat.le_of_ble_eq_true rfl)) dX0_isOwner_6 ⟨Nat.le_of_ble_eq_true rfl, Nat.le_of_ble_eq_true rfl⟩) hS (fun q h1 h2 => absurd h2 (Nat.not_le.mpr h1)) (fun q h => hA q (Nat.le_trans hS.1 h)) (fun r_2 u t H1 locs ht hvm hw_2 hB hz1 hk1 hS => ?_)
  have hP := keepP hP hk1
  clear hz1 hk1 hB ht hvm hPc hDc hKc
  generalize H1 = H at hP hS ⊢
  obtain rfl : r_2 = 0 := hw_2
  exact W.zret (v := 0) hx hb hr (by decide) (fun t ht hW => ⟨⟨0, (), rfl, rfl, trivial⟩, hS.F ht⟩) hS.2.2 dX0_isOwner_9
set_option maxHeartbeats 4000000 in
set_option maxRecDepth 100000 in
theorem c_names (l : Launch) (dC : Nat → ClassId) (dI : Nat → Nat → Nat) (sz : Nat) (h0 : Nat) (a0 : Nat) (w1 : Value) (w2 : Value) (ka0 : ClassId) (j : Int32)  : Met l yX0_namesOf (wq yX0_namesOf cX0_namesOf 4 (some .int)) ({ frames := 3, cells := 0, slots := 0, locals := 63 }) (va_Pc [.ref h0, .int j] (pcW dC dI [(ka0, .int)] [(h0, .inr (0, [.ref a0, w1, w2])), (a0, .inl (ka0, 8, .inl (fun _ => 0)))] sz)) (va_Qi (fun (r : Int32) (_ : Unit) => r = 0) (fun _ _ => True) (fun q : Nat => sz ≤ q)) 0 0 (fun q : Nat => sz ≤ q) := by
  refine Met.ofW (cc := cX0_namesOf) (maxL := 4) (ret := (some .int)) (by decide) rfl ?_
  intro p e s m args below meth c s₁ B hml hv
  obtain ⟨rfl, hsz, hN, hP, hK, hD0⟩ := hv
  have hx := B.exec
  have hb := B.bytes
  have hr := B.returns
  have hts0 := atoms_spec (ws := (wq yX0_namesOf cX0_namesOf 4 (some .int))) B.pre
  have hts : ∀ w ∈ BG, w.before _ s = true := fun w h => hts0 w (List.mem_cons_of_mem _ h)
  have hown : s.vm.findClass RX0 = some m.cls := findClass_of_methodNamed B.named
  have hlocks := B.notSynchronized
  subst hsz
  have hA : ∀ q : Nat, s.heap.size ≤ q → (fun q : Nat => s.heap.size ≤ q) q := fun _ h => h
  have hD := hD0
  have hS : va_S (fun q : Nat => s.heap.size ≤ q) s.heap s.heap [] := va_S.rf
  have hP : va_P (dC, dI) vwCl [(h0, .inr (0, [.ref a0, w1, w2])), (a0, .inl (ka0, 8, .inl (fun _ => 0)))] s.heap := hP
  have hl := lv_entry ([.ref h0, .int j]) (n := 4) (Nat.le_of_ble_eq_true rfl)
  rw [lg_entry_eq]
  generalize (lg_sl ([.ref h0, .int j]) ++ List.replicate (4 - (lg_sl ([.ref h0, .int j])).length) Slot.unset).toArray = ls at hl ⊢
  have hl : lv_has ls 4 [(0, .ref h0), (1, .int j)] := hl
  skip
  refine lv_iconst (v := 0) hx hb dX0_namesOf_0 (by decide) ?_
  refine lv_istore_n (lv' := [(2, .int 0), (0, .ref h0), (1, .int j)]) hx hb dX0_namesOf_1 rfl hl (by decide) rfl (fun ls hl => ?_)
  refine lv_iconst (v := 0) hx hb dX0_namesOf_2 (by decide) ?_
  refine lv_istore_n (lv' := [(3, .int 0), (2, .int 0), (0, .ref h0), (1, .int j)]) hx hb dX0_namesOf_3 rfl hl (by decide) rfl (fun ls hl => ?_)
  refine lv_iload_n hx hb dX0_namesOf_4 rfl (lv_at hl 0 rfl) ?_
  refine lv_bipush (v := 8) hx hb dX0_namesOf_5 (by decide) ?_
  refine lv_icmp_ge (tgt := 31) hx hb dX0_namesOf_7 (by decide) (fun h => absurd h (by decide)) (fun _ => ?_)
  refine lv_aload_n hx hb dX0_namesOf_10 rfl (lv_at hl 2 rfl) ?_
  refine lv_iload_n hx hb dX0_namesOf_11 rfl (lv_at hl 3 rfl) ?_
  refine lv_iload_n hx hb dX0_namesOf_12 rfl (lv_at hl 0 rfl) ?_
  have hPc := hP.sub (ws' := [(h0, .inr (0, [.ref a0, w1, w2])), (a0, .inl (ka0, 8, .inl (fun _ => 0)))]) [0, 1] rfl
  have hDc := hD.sub (ws' := [(h0, .inr (0, [.ref a0, w1, w2])), (a0, .inl (ka0, 8, .inl (fun _ => 0)))]) [0, 1] (by decide) rfl
  have hKc := hK.sub (tys' := [(ka0, .int)]) [0] rfl
  refine va_calli (va_runV (As := [.int j, .int 0]) (rest := []) ⟨hx, hb, hml, hown, hts⟩ (c_isOwn l dC dI s.heap.size h0 a0 (w1) (w2) ka0 j 0) (cwV 2 hts (gV mw_3_175 mw_2_101 mw_2_102 mw_1_5 mw_2_103) rfl rfl rfl (by decide +kernel) ⟨Nat.le_of_ble_eq_true rfl, Nat.le_of_ble_eq_true rfl⟩) ⟨pcW_blind, va_recv hKc hPc (ci := 0) (q0 := 0) rfl rfl, pcW_at hPc hKc hDc hN⟩ rfl rfl hl.1 rfl (lv_room (Nat.le_of_ble_eq_true rfl)) dX0_namesOf_13 ⟨Nat.le_of_ble_eq_true rfl, Nat.le_of_ble_eq_true rfl⟩) hS (fun q h1 h2 => absurd h2 (Nat.not_le.mpr h1)) (fun q h => hA q (Nat.le_trans hS.1 h)) (fun r_1 u t H1 locs ht hvm hw_1 hB hz1 hk1 hS => ?_)
  have hP := keepP hP hk1
  clear hz1 hk1 hB ht hvm hPc hDc hKc
  generalize H1 = H at hP hS ⊢
  obtain rfl : r_1 = 0 := hw_1
  refine lv_if_eq (tgt := 25) hx hb dX0_namesOf_16 (by decide) (fun _ => ?_) (fun h => absurd (by decide) h)
  refine lv_iinc (v := 1) (lv' := [(3, .int 1), (2, .int 0), (0, .ref h0), (1, .int j)]) hx hb dX0_namesOf_25 hl (k := 0) rfl (by decide) (by decide) rfl (fun ls hl => ?_)
  refine lv_goto (tgt := 4) hx hb dX0_namesOf_28 (by decide) ?_
  refine lv_iload_n hx hb dX0_namesOf_4 rfl (lv_at hl 0 rfl) ?_
  refine lv_bipush (v := 8) hx hb dX0_namesOf_5 (by decide) ?_
  refine lv_icmp_ge (tgt := 31) hx hb dX0_namesOf_7 (by decide) (fun h => absurd h (by decide)) (fun _ => ?_)
  refine lv_aload_n hx hb dX0_namesOf_10 rfl (lv_at hl 2 rfl) ?_
  refine lv_iload_n hx hb dX0_namesOf_11 rfl (lv_at hl 3 rfl) ?_
  refine lv_iload_n hx hb dX0_namesOf_12 rfl (lv_at hl 0 rfl) ?_
  have hPc := hP.sub (ws' := [(h0, .inr (0, [.ref a0, w1, w2])), (a0, .inl (ka0, 8, .inl (fun _ => 0)))]) [0, 1] rfl
  have hDc := hD.sub (ws' := [(h0, .inr (0, [.ref a0, w1, w2])), (a0, .inl (ka0, 8, .inl (fun _ => 0)))]) [0, 1] (by decide) rfl
  have hKc := hK.sub (tys' := [(ka0, .int)]) [0] rfl
  refine va_calli (va_runV (As := [.int j, .int 1]) (rest := []) ⟨hx, hb, hml, hown, hts⟩ (c_isOwn l dC dI H.size h0 a0 (w1) (w2) ka0 j 1) (cwV 2 hts (gV mw_3_175 mw_2_101 mw_2_102 mw_1_5 mw_2_103) rfl rfl rfl (by decide +kernel) ⟨Nat.le_of_ble_eq_true rfl, Nat.le_of_ble_eq_true rfl⟩) ⟨pcW_blind, va_recv hKc hPc (ci := 0) (q0 := 0) rfl rfl, pcW_at hPc hKc hDc hN⟩ rfl rfl hl.1 rfl (lv_room (Nat.le_of_ble_eq_true rfl)) dX0_namesOf_13 ⟨Nat.le_of_ble_eq_true rfl, Nat.le_of_ble_eq_true rfl⟩) hS (fun q h1 h2 => absurd h2 (Nat.not_le.mpr h1)) (fun q h => hA q (Nat.le_trans hS.1 h)) (fun r_2 u t H1 locs ht hvm hw_2 hB hz1 hk1 hS => ?_)
  have hP := keepP hP hk1
  clear hz1 hk1 hB ht hvm hPc hDc hKc
  generalize H1 = H at hP hS ⊢
  obtain rfl : r_2 = 0 := hw_2
  refine lv_if_eq (tgt := 25) hx hb dX0_namesOf_16 (by decide) (fun _ => ?_) (fun h => absurd (by decide) h)
  refine lv_iinc (v := 2) (lv' := [(3, .int 2), (2, .int 0), (0, .ref h0), (1, .int j)]) hx hb dX0_namesOf_25 hl (k := 0) rfl (by decide) (by decide) rfl (fun ls hl => ?_)
  refine lv_goto (tgt := 4) hx hb dX0_namesOf_28 (by decide) ?_
  refine lv_iload_n hx hb dX0_namesOf_4 rfl (lv_at hl 0 rfl) ?_
  refine lv_bipush (v := 8) hx hb dX0_namesOf_5 (by decide) ?_
  refine lv_icmp_ge (tgt := 31) hx hb dX0_namesOf_7 (by decide) (fun h => absurd h (by decide)) (fun _ => ?_)
  refine lv_aload_n hx hb dX0_namesOf_10 rfl (lv_at hl 2 rfl) ?_
  refine lv_iload_n hx hb dX0_namesOf_11 rfl (lv_at hl 3 rfl) ?_
  refine lv_iload_n hx hb dX0_namesOf_12 rfl (lv_at hl 0 rfl) ?_
  have hPc := hP.sub (ws' := [(h0, .inr (0, [.ref a0, w1, w2])), (a0, .inl (ka0, 8, .inl (fun _ => 0)))]) [0, 1] rfl
  have hDc := hD.sub (ws' := [(h0, .inr (0, [.ref a0, w1, w2])), (a0, .inl (ka0, 8, .inl (fun _ => 0)))]) [0, 1] (by decide) rfl
  have hKc := hK.sub (tys' := [(ka0, .int)]) [0] rfl
  refine va_calli (va_runV (As := [.int j, .int 2]) (rest := []) ⟨hx, hb, hml, hown, hts⟩ (c_isOwn l dC dI H.size h0 a0 (w1) (w2) ka0 j 2) (cwV 2 hts (gV mw_3_175 mw_2_101 mw_2_102 mw_1_5 mw_2_103) rfl rfl rfl (by decide +kernel) ⟨Nat.le_of_ble_eq_true rfl, Nat.le_of_ble_eq_true rfl⟩) ⟨pcW_blind, va_recv hKc hPc (ci := 0) (q0 := 0) rfl rfl, pcW_at hPc hKc hDc hN⟩ rfl rfl hl.1 rfl (lv_room (Nat.le_of_ble_eq_true rfl)) dX0_namesOf_13 ⟨Nat.le_of_ble_eq_true rfl, Nat.le_of_ble_eq_true rfl⟩) hS (fun q h1 h2 => absurd h2 (Nat.not_le.mpr h1)) (fun q h => hA q (Nat.le_trans hS.1 h)) (fun r_3 u t H1 locs ht hvm hw_3 hB hz1 hk1 hS => ?_)
  have hP := keepP hP hk1
  clear hz1 hk1 hB ht hvm hPc hDc hKc
  generalize H1 = H at hP hS ⊢
  obtain rfl : r_3 = 0 := hw_3
  refine lv_if_eq (tgt := 25) hx hb dX0_namesOf_16 (by decide) (fun _ => ?_) (fun h => absurd (by decide) h)
  refine lv_iinc (v := 3) (lv' := [(3, .int 3), (2, .int 0), (0, .ref h0), (1, .int j)]) hx hb dX0_namesOf_25 hl (k := 0) rfl (by decide) (by decide) rfl (fun ls hl => ?_)
  refine lv_goto (tgt := 4) hx hb dX0_namesOf_28 (by decide) ?_
  refine lv_iload_n hx hb dX0_namesOf_4 rfl (lv_at hl 0 rfl) ?_
  refine lv_bipush (v := 8) hx hb dX0_namesOf_5 (by decide) ?_
  refine lv_icmp_ge (tgt := 31) hx hb dX0_namesOf_7 (by decide) (fun h => absurd h (by decide)) (fun _ => ?_)
  refine lv_aload_n hx hb dX0_namesOf_10 rfl (lv_at hl 2 rfl) ?_
  refine lv_iload_n hx hb dX0_namesOf_11 rfl (lv_at hl 3 rfl) ?_
  refine lv_iload_n hx hb dX0_namesOf_12 rfl (lv_at hl 0 rfl) ?_
  have hPc := hP.sub (ws' := [(h0, .inr (0, [.ref a0, w1, w2])), (a0, .inl (ka0, 8, .inl (fun _ => 0)))]) [0, 1] rfl
  have hDc := hD.sub (ws' := [(h0, .inr (0, [.ref a0, w1, w2])), (a0, .inl (ka0, 8, .inl (fun _ => 0)))]) [0, 1] (by decide) rfl
  have hKc := hK.sub (tys' := [(ka0, .int)]) [0] rfl
  refine va_calli (va_runV (As := [.int j, .int 3]) (rest := []) ⟨hx, hb, hml, hown, hts⟩ (c_isOwn l dC dI H.size h0 a0 (w1) (w2) ka0 j 3) (cwV 2 hts (gV mw_3_175 mw_2_101 mw_2_102 mw_1_5 mw_2_103) rfl rfl rfl (by decide +kernel) ⟨Nat.le_of_ble_eq_true rfl, Nat.le_of_ble_eq_true rfl⟩) ⟨pcW_blind, va_recv hKc hPc (ci := 0) (q0 := 0) rfl rfl, pcW_at hPc hKc hDc hN⟩ rfl rfl hl.1 rfl (lv_room (Nat.le_of_ble_eq_true rfl)) dX0_namesOf_13 ⟨Nat.le_of_ble_eq_true rfl, Nat.le_of_ble_eq_true rfl⟩) hS (fun q h1 h2 => absurd h2 (Nat.not_le.mpr h1)) (fun q h => hA q (Nat.le_trans hS.1 h)) (fun r_4 u t H1 locs ht hvm hw_4 hB hz1 hk1 hS => ?_)
  have hP := keepP hP hk1
  clear hz1 hk1 hB ht hvm hPc hDc hKc
  generalize H1 = H at hP hS ⊢
  obtain rfl : r_4 = 0 := hw_4
  refine lv_if_eq (tgt := 25) hx hb dX0_namesOf_16 (by decide) (fun _ => ?_) (fun h => absurd (by decide) h)
  refine lv_iinc (v := 4) (lv' := [(3, .int 4), (2, .int 0), (0, .ref h0), (1, .int j)]) hx hb dX0_namesOf_25 hl (k := 0) rfl (by decide) (by decide) rfl (fun ls hl => ?_)
  refine lv_goto (tgt := 4) hx hb dX0_namesOf_28 (by decide) ?_
  refine lv_iload_n hx hb dX0_namesOf_4 rfl (lv_at hl 0 rfl) ?_
  refine lv_bipush (v := 8) hx hb dX0_namesOf_5 (by decide) ?_
  refine lv_icmp_ge (tgt := 31) hx hb dX0_namesOf_7 (by decide) (fun h => absurd h (by decide)) (fun _ => ?_)
  refine lv_aload_n hx hb dX0_namesOf_10 rfl (lv_at hl 2 rfl) ?_
  refine lv_iload_n hx hb dX0_namesOf_11 rfl (lv_at hl 3 rfl) ?_
  refine lv_iload_n hx hb dX0_namesOf_12 rfl (lv_at hl 0 rfl) ?_
  have hPc := hP.sub (ws' := [(h0, .inr (0, [.ref a0, w1, w2])), (a0, .inl (ka0, 8, .inl (fun _ => 0)))]) [0, 1] rfl
  have hDc := hD.sub (ws' := [(h0, .inr (0, [.ref a0, w1, w2])), (a0, .inl (ka0, 8, .inl (fun _ => 0)))]) [0, 1] (by decide) rfl
  have hKc := hK.sub (tys' := [(ka0, .int)]) [0] rfl
  refine va_calli (va_runV (As := [.int j, .int 4]) (rest := []) ⟨hx, hb, hml, hown, hts⟩ (c_isOwn l dC dI H.size h0 a0 (w1) (w2) ka0 j 4) (cwV 2 hts (gV mw_3_175 mw_2_101 mw_2_102 mw_1_5 mw_2_103) rfl rfl rfl (by decide +kernel) ⟨Nat.le_of_ble_eq_true rfl, Nat.le_of_ble_eq_true rfl⟩) ⟨pcW_blind, va_recv hKc hPc (ci := 0) (q0 := 0) rfl rfl, pcW_at hPc hKc hDc hN⟩ rfl rfl hl.1 rfl (lv_room (Nat.le_of_ble_eq_true rfl)) dX0_namesOf_13 ⟨Nat.le_of_ble_eq_true rfl, Nat.le_of_ble_eq_true rfl⟩) hS (fun q h1 h2 => absurd h2 (Nat.not_le.mpr h1)) (fun q h => hA q (Nat.le_trans hS.1 h)) (fun r_5 u t H1 locs ht hvm hw_5 hB hz1 hk1 hS => ?_)
  have hP := keepP hP hk1
  clear hz1 hk1 hB ht hvm hPc hDc hKc
  generalize H1 = H at hP hS ⊢
  obtain rfl : r_5 = 0 := hw_5
  refine lv_if_eq (tgt := 25) hx hb dX0_namesOf_16 (by decide) (fun _ => ?_) (fun h => absurd (by decide) h)
  refine lv_iinc (v := 5) (lv' := [(3, .int 5), (2, .int 0), (0, .ref h0), (1, .int j)]) hx hb dX0_namesOf_25 hl (k := 0) rfl (by decide) (by decide) rfl (fun ls hl => ?_)
  refine lv_goto (tgt := 4) hx hb dX0_namesOf_28 (by decide) ?_
  refine lv_iload_n hx hb dX0_namesOf_4 rfl (lv_at hl 0 rfl) ?_
  refine lv_bipush (v := 8) hx hb dX0_namesOf_5 (by decide) ?_
  refine lv_icmp_ge (tgt := 31) hx hb dX0_namesOf_7 (by decide) (fun h => absurd h (by decide)) (fun _ => ?_)
  refine lv_aload_n hx hb dX0_namesOf_10 rfl (lv_at hl 2 rfl) ?_
  refine lv_iload_n hx hb dX0_namesOf_11 rfl (lv_at hl 3 rfl) ?_
  refine lv_iload_n hx hb dX0_namesOf_12 rfl (lv_at hl 0 rfl) ?_
  have hPc := hP.sub (ws' := [(h0, .inr (0, [.ref a0, w1, w2])), (a0, .inl (ka0, 8, .inl (fun _ => 0)))]) [0, 1] rfl
  have hDc := hD.sub (ws' := [(h0, .inr (0, [.ref a0, w1, w2])), (a0, .inl (ka0, 8, .inl (fun _ => 0)))]) [0, 1] (by decide) rfl
  have hKc := hK.sub (tys' := [(ka0, .int)]) [0] rfl
  refine va_calli (va_runV (As := [.int j, .int 5]) (rest := []) ⟨hx, hb, hml, hown, hts⟩ (c_isOwn l dC dI H.size h0 a0 (w1) (w2) ka0 j 5) (cwV 2 hts (gV mw_3_175 mw_2_101 mw_2_102 mw_1_5 mw_2_103) rfl rfl rfl (by decide +kernel) ⟨Nat.le_of_ble_eq_true rfl, Nat.le_of_ble_eq_true rfl⟩) ⟨pcW_blind, va_recv hKc hPc (ci := 0) (q0 := 0) rfl rfl, pcW_at hPc hKc hDc hN⟩ rfl rfl hl.1 rfl (lv_room (Nat.le_of_ble_eq_true rfl)) dX0_namesOf_13 ⟨Nat.le_of_ble_eq_true rfl, Nat.le_of_ble_eq_true rfl⟩) hS (fun q h1 h2 => absurd h2 (Nat.not_le.mpr h1)) (fun q h => hA q (Nat.le_trans hS.1 h)) (fun r_6 u t H1 locs ht hvm hw_6 hB hz1 hk1 hS => ?_)
  have hP := keepP hP hk1
  clear hz1 hk1 hB ht hvm hPc hDc hKc
  generalize H1 = H at hP hS ⊢
  obtain rfl : r_6 = 0 := hw_6
  refine lv_if_eq (tgt := 25) hx hb dX0_namesOf_16 (by decide) (fun _ => ?_) (fun h => absurd (by decide) h)
  refine lv_iinc (v := 6) (lv' := [(3, .int 6), (2, .int 0), (0, .ref h0), (1, .int j)]) hx hb dX0_namesOf_25 hl (k := 0) rfl (by decide) (by decide) rfl (fun ls hl => ?_)
  refine lv_goto (tgt := 4) hx hb dX0_namesOf_28 (by decide) ?_
  refine lv_iload_n hx hb dX0_namesOf_4 rfl (lv_at hl 0 rfl) ?_
  refine lv_bipush (v := 8) hx hb dX0_namesOf_5 (by decide) ?_
  refine lv_icmp_ge (tgt := 31) hx hb dX0_namesOf_7 (by decide) (fun h => absurd h (by decide)) (fun _ => ?_)
  refine lv_aload_n hx hb dX0_namesOf_10 rfl (lv_at hl 2 rfl) ?_
  refine lv_iload_n hx hb dX0_namesOf_11 rfl (lv_at hl 3 rfl) ?_
  refine lv_iload_n hx hb dX0_namesOf_12 rfl (lv_at hl 0 rfl) ?_
  have hPc := hP.sub (ws' := [(h0, .inr (0, [.ref a0, w1, w2])), (a0, .inl (ka0, 8, .inl (fun _ => 0)))]) [0, 1] rfl
  have hDc := hD.sub (ws' := [(h0, .inr (0, [.ref a0, w1, w2])), (a0, .inl (ka0, 8, .inl (fun _ => 0)))]) [0, 1] (by decide) rfl
  have hKc := hK.sub (tys' := [(ka0, .int)]) [0] rfl
  refine va_calli (va_runV (As := [.int j, .int 6]) (rest := []) ⟨hx, hb, hml, hown, hts⟩ (c_isOwn l dC dI H.size h0 a0 (w1) (w2) ka0 j 6) (cwV 2 hts (gV mw_3_175 mw_2_101 mw_2_102 mw_1_5 mw_2_103) rfl rfl rfl (by decide +kernel) ⟨Nat.le_of_ble_eq_true rfl, Nat.le_of_ble_eq_true rfl⟩) ⟨pcW_blind, va_recv hKc hPc (ci := 0) (q0 := 0) rfl rfl, pcW_at hPc hKc hDc hN⟩ rfl rfl hl.1 rfl (lv_room (Nat.le_of_ble_eq_true rfl)) dX0_namesOf_13 ⟨Nat.le_of_ble_eq_true rfl, Nat.le_of_ble_eq_true rfl⟩) hS (fun q h1 h2 => absurd h2 (Nat.not_le.mpr h1)) (fun q h => hA q (Nat.le_trans hS.1 h)) (fun r_7 u t H1 locs ht hvm hw_7 hB hz1 hk1 hS => ?_)
  have hP := keepP hP hk1
  clear hz1 hk1 hB ht hvm hPc hDc hKc
  generalize H1 = H at hP hS ⊢
  obtain rfl : r_7 = 0 := hw_7
  refine lv_if_eq (tgt := 25) hx hb dX0_namesOf_16 (by decide) (fun _ => ?_) (fun h => absurd (by decide) h)
  refine lv_iinc (v := 7) (lv' := [(3, .int 7), (2, .int 0), (0, .ref h0), (1, .int j)]) hx hb dX0_namesOf_25 hl (k := 0) rfl (by decide) (by decide) rfl (fun ls hl => ?_)
  refine lv_goto (tgt := 4) hx hb dX0_namesOf_28 (by decide) ?_
  refine lv_iload_n hx hb dX0_namesOf_4 rfl (lv_at hl 0 rfl) ?_
  refine lv_bipush (v := 8) hx hb dX0_namesOf_5 (by decide) ?_
  refine lv_icmp_ge (tgt := 31) hx hb dX0_namesOf_7 (by decide) (fun h => absurd h (by decide)) (fun _ => ?_)
  refine lv_aload_n hx hb dX0_namesOf_10 rfl (lv_at hl 2 rfl) ?_
  refine lv_iload_n hx hb dX0_namesOf_11 rfl (lv_at hl 3 rfl) ?_
  refine lv_iload_n hx hb dX0_namesOf_12 rfl (lv_at hl 0 rfl) ?_
  have hPc := hP.sub (ws' := [(h0, .inr (0, [.ref a0, w1, w2])), (a0, .inl (ka0, 8, .inl (fun _ => 0)))]) [0, 1] rfl
  have hDc := hD.sub (ws' := [(h0, .inr (0, [.ref a0, w1, w2])), (a0, .inl (ka0, 8, .inl (fun _ => 0)))]) [0, 1] (by decide) rfl
  have hKc := hK.sub (tys' := [(ka0, .int)]) [0] rfl
  refine va_calli (va_runV (As := [.int j, .int 7]) (rest := []) ⟨hx, hb, hml, hown, hts⟩ (c_isOwn l dC dI H.size h0 a0 (w1) (w2) ka0 j 7) (cwV 2 hts (gV mw_3_175 mw_2_101 mw_2_102 mw_1_5 mw_2_103) rfl rfl rfl (by decide +kernel) ⟨Nat.le_of_ble_eq_true rfl, Nat.le_of_ble_eq_true rfl⟩) ⟨pcW_blind, va_recv hKc hPc (ci := 0) (q0 := 0) rfl rfl, pcW_at hPc hKc hDc hN⟩ rfl rfl hl.1 rfl (lv_room (Nat.le_of_ble_eq_true rfl)) dX0_namesOf_13 ⟨Nat.le_of_ble_eq_true rfl, Nat.le_of_ble_eq_true rfl⟩) hS (fun q h1 h2 => absurd h2 (Nat.not_le.mpr h1)) (fun q h => hA q (Nat.le_trans hS.1 h)) (fun r_8 u t H1 locs ht hvm hw_8 hB hz1 hk1 hS => ?_)
  have hP := keepP hP hk1
  clear hz1 hk1 hB ht hvm hPc hDc hKc
  generalize H1 = H at hP hS ⊢
  obtain rfl : r_8 = 0 := hw_8
  refine lv_if_eq (tgt := 25) hx hb dX0_namesOf_16 (by decide) (fun _ => ?_) (fun h => absurd (by decide) h)
  refine lv_iinc (v := 8) (lv' := [(3, .int 8), (2, .int 0), (0, .ref h0), (1, .int j)]) hx hb dX0_namesOf_25 hl (k := 0) rfl (by decide) (by decide) rfl (fun ls hl => ?_)
  refine lv_goto (tgt := 4) hx hb dX0_namesOf_28 (by decide) ?_
  refine lv_iload_n hx hb dX0_namesOf_4 rfl (lv_at hl 0 rfl) ?_
  refine lv_bipush (v := 8) hx hb dX0_namesOf_5 (by decide) ?_
  refine lv_icmp_ge (tgt := 31) hx hb dX0_namesOf_7 (by decide) (fun _ => ?_) (fun h => absurd (by decide) h)
  refine lv_iload_n hx hb dX0_namesOf_31 rfl (lv_at hl 1 rfl) ?_
  exact W.iret (v := 0) hx hb hr (fun t ht hW => ⟨⟨0, (), rfl, rfl, trivial⟩, hS.F ht⟩) hS.2.2 dX0_namesOf_32
end
section
theorem mw_2_212 : Cond.code yX1_howMany cX1_howMany 1 (some .int) ∈ BG := mB (t2 (i := 212) rfl) (by decide +kernel)
theorem mw_2_209 : Cond.methodLink RX6 19 yX1_howMany ∈ BG := mB (t2 (i := 209) (by decide +kernel)) (by decide +kernel)
theorem mw_2_210 : Cond.instanceMethod yX1_howMany ∈ BG := mB (t2 (i := 210) (by decide +kernel)) (by decide +kernel)
theorem mw_2_211 : Cond.selects RX1 yX1_howMany yX1_howMany ∈ BG := mB (t2 (i := 211) (by decide +kernel)) (by decide +kernel)
theorem dX6_doubtful_0 : decode cX6_doubtful 0 = .ok (.iconst 0, 1) := by decide +kernel
theorem dX6_doubtful_1 : decode cX6_doubtful 1 = .ok (.istore_n 2, 1) := by decide +kernel
theorem dX6_doubtful_2 : decode cX6_doubtful 2 = .ok (.aload_n 0, 1) := by decide +kernel
theorem dX6_doubtful_3 : decode cX6_doubtful 3 = .ok (.invokevirtual 19, 3) := by decide +kernel
theorem dX6_doubtful_6 : decode cX6_doubtful 6 = .ok (.istore_n 3, 1) := by decide +kernel
theorem dX6_doubtful_7 : decode cX6_doubtful 7 = .ok (.iconst 0, 1) := by decide +kernel
theorem dX6_doubtful_8 : decode cX6_doubtful 8 = .ok (.istore 4, 2) := by decide +kernel
theorem dX6_doubtful_10 : decode cX6_doubtful 10 = .ok (.iload 4, 2) := by decide +kernel
theorem dX6_doubtful_12 : decode cX6_doubtful 12 = .ok (.iload_n 3, 1) := by decide +kernel
theorem dX6_doubtful_13 : decode cX6_doubtful 13 = .ok (.if_icmp .ge 26, 3) := by decide +kernel
theorem dX6_doubtful_39 : decode cX6_doubtful 39 = .ok (.iload_n 2, 1) := by decide +kernel
theorem dX6_doubtful_40 : decode cX6_doubtful 40 = .ok (.ireturn, 1) := by decide +kernel
theorem dX6_settlers_0 : decode cX6_settlers 0 = .ok (.iconst 0, 1) := by decide +kernel
theorem dX6_settlers_1 : decode cX6_settlers 1 = .ok (.istore_n 2, 1) := by decide +kernel
theorem dX6_settlers_2 : decode cX6_settlers 2 = .ok (.aload_n 0, 1) := by decide +kernel
theorem dX6_settlers_3 : decode cX6_settlers 3 = .ok (.invokevirtual 19, 3) := by decide +kernel
theorem dX6_settlers_6 : decode cX6_settlers 6 = .ok (.istore_n 3, 1) := by decide +kernel
theorem dX6_settlers_7 : decode cX6_settlers 7 = .ok (.iconst 0, 1) := by decide +kernel
theorem dX6_settlers_8 : decode cX6_settlers 8 = .ok (.istore 4, 2) := by decide +kernel
theorem dX6_settlers_10 : decode cX6_settlers 10 = .ok (.iload 4, 2) := by decide +kernel
theorem dX6_settlers_12 : decode cX6_settlers 12 = .ok (.iload_n 3, 1) := by decide +kernel
theorem dX6_settlers_13 : decode cX6_settlers 13 = .ok (.if_icmp .ge 28, 3) := by decide +kernel
theorem dX6_settlers_41 : decode cX6_settlers 41 = .ok (.iload_n 2, 1) := by decide +kernel
theorem dX6_settlers_42 : decode cX6_settlers 42 = .ok (.ireturn, 1) := by decide +kernel
set_option maxHeartbeats 4000000 in
set_option maxRecDepth 100000 in
theorem c_doubtful (l : Launch) (dC : Nat → ClassId) (dI : Nat → Nat → Nat) (sz : Nat) (h0 : Nat) (w0 : Value) (w1 : Value) (w2 : Value) (w3 : Value) (w4 : Value) (w5 : Value) (w7 : Value) (o : Int32)  : Met l yX6_doubtful (wq yX6_doubtful cX6_doubtful 5 (some .int)) ({ frames := 1, cells := 0, slots := 0, locals := 20 }) (va_Pc [.ref h0, .int o] (pcW dC dI [] [(h0, .inr (1, [w0, w1, w2, w3, w4, w5, .int 0, w7]))] sz)) (va_Qi (fun (r : Int32) (_ : Unit) => r = 0) (fun _ _ => True) (fun q : Nat => sz ≤ q)) 0 0 (fun q : Nat => sz ≤ q) := by
  refine Met.ofW (cc := cX6_doubtful) (maxL := 5) (ret := (some .int)) (by decide) rfl ?_
  intro p e s m args below meth c s₁ B hml hv
  obtain ⟨rfl, hsz, hN, hP, hK, hD0⟩ := hv
  have hx := B.exec
  have hb := B.bytes
  have hr := B.returns
  have hts0 := atoms_spec (ws := (wq yX6_doubtful cX6_doubtful 5 (some .int))) B.pre
  have hts : ∀ w ∈ BG, w.before _ s = true := fun w h => hts0 w (List.mem_cons_of_mem _ h)
  have hown : s.vm.findClass RX6 = some m.cls := findClass_of_methodNamed B.named
  have hlocks := B.notSynchronized
  subst hsz
  have hA : ∀ q : Nat, s.heap.size ≤ q → (fun q : Nat => s.heap.size ≤ q) q := fun _ h => h
  have hD := hD0
  have hS : va_S (fun q : Nat => s.heap.size ≤ q) s.heap s.heap [] := va_S.rf
  have hP : va_P (dC, dI) vwCl [(h0, .inr (1, [w0, w1, w2, w3, w4, w5, .int 0, w7]))] s.heap := hP
  have hl := lv_entry ([.ref h0, .int o]) (n := 5) (Nat.le_of_ble_eq_true rfl)
  rw [lg_entry_eq]
  generalize (lg_sl ([.ref h0, .int o]) ++ List.replicate (5 - (lg_sl ([.ref h0, .int o])).length) Slot.unset).toArray = ls at hl ⊢
  have hl : lv_has ls 5 [(0, .ref h0), (1, .int o)] := hl
  skip
  refine lv_iconst (v := 0) hx hb dX6_doubtful_0 (by decide) ?_
  refine lv_istore_n (lv' := [(2, .int 0), (0, .ref h0), (1, .int o)]) hx hb dX6_doubtful_1 rfl hl (by decide) rfl (fun ls hl => ?_)
  refine lv_aload_n hx hb dX6_doubtful_2 rfl (lv_at hl 1 rfl) ?_
  have hPc := hP.sub (ws' := [(h0, .inr (1, [w0, w1, w2, w3, w4, w5, .int 0, w7]))]) [0] rfl
  have hDc := hD.sub (ws' := [(h0, .inr (1, [w0, w1, w2, w3, w4, w5, .int 0, w7]))]) [0] (by decide) rfl
  have hKc := hK.sub (tys' := []) [] rfl
  refine va_calli (va_runV (As := []) (rest := []) ⟨hx, hb, hml, hown, hts⟩ (c_howMany l dC dI s.heap.size h0 (w0) (w1) (w2) (w3) (w4) (w5) (w7)) (cwV 0 hts (gV mw_2_209 mw_2_210 mw_2_211 mw_1_2 mw_2_212) rfl rfl rfl (by decide +kernel) ⟨Nat.le_of_ble_eq_true rfl, Nat.le_of_ble_eq_true rfl⟩) ⟨pcW_blind, va_recv hKc hPc (ci := 1) (q0 := 0) rfl rfl, pcW_at hPc hKc hDc hN⟩ rfl rfl hl.1 rfl (lv_room (Nat.le_of_ble_eq_true rfl)) dX6_doubtful_3 ⟨Nat.le_of_ble_eq_true rfl, Nat.le_of_ble_eq_true rfl⟩) hS (fun q h1 h2 => absurd h2 (Nat.not_le.mpr h1)) (fun q h => hA q (Nat.le_trans hS.1 h)) (fun r_1 u t H1 locs ht hvm hw_1 hB hz1 hk1 hS => ?_)
  have hP := keepP hP hk1
  clear hz1 hk1 hB ht hvm hPc hDc hKc
  generalize H1 = H at hP hS ⊢
  obtain rfl : r_1 = 0 := hw_1
  refine lv_istore_n (lv' := [(3, .int 0), (2, .int 0), (0, .ref h0), (1, .int o)]) hx hb dX6_doubtful_6 rfl hl (by decide) rfl (fun ls hl => ?_)
  refine lv_iconst (v := 0) hx hb dX6_doubtful_7 (by decide) ?_
  refine lv_istore (lv' := [(4, .int 0), (3, .int 0), (2, .int 0), (0, .ref h0), (1, .int o)]) hx hb dX6_doubtful_8 hl (by decide) rfl (fun ls hl => ?_)
  refine lv_iload hx hb dX6_doubtful_10 (lv_at hl 0 rfl) ?_
  refine lv_iload_n hx hb dX6_doubtful_12 rfl (lv_at hl 1 rfl) ?_
  refine lv_icmp_ge (tgt := 39) hx hb dX6_doubtful_13 (by decide) (fun _ => ?_) (fun h => absurd (by decide) h)
  refine lv_iload_n hx hb dX6_doubtful_39 rfl (lv_at hl 2 rfl) ?_
  exact W.iret (v := 0) hx hb hr (fun t ht hW => ⟨⟨0, (), rfl, rfl, trivial⟩, hS.F ht⟩) hS.2.2 dX6_doubtful_40
set_option maxHeartbeats 4000000 in
set_option maxRecDepth 100000 in
theorem c_settlers (l : Launch) (dC : Nat → ClassId) (dI : Nat → Nat → Nat) (sz : Nat) (h0 : Nat) (w0 : Value) (w1 : Value) (w2 : Value) (w3 : Value) (w4 : Value) (w5 : Value) (w7 : Value) (o : Int32)  : Met l yX6_settlers (wq yX6_settlers cX6_settlers 5 (some .int)) ({ frames := 1, cells := 0, slots := 0, locals := 20 }) (va_Pc [.ref h0, .int o] (pcW dC dI [] [(h0, .inr (1, [w0, w1, w2, w3, w4, w5, .int 0, w7]))] sz)) (va_Qi (fun (r : Int32) (_ : Unit) => r = 0) (fun _ _ => True) (fun q : Nat => sz ≤ q)) 0 0 (fun q : Nat => sz ≤ q) := by
  refine Met.ofW (cc := cX6_settlers) (maxL := 5) (ret := (some .int)) (by decide) rfl ?_
  intro p e s m args below meth c s₁ B hml hv
  obtain ⟨rfl, hsz, hN, hP, hK, hD0⟩ := hv
  have hx := B.exec
  have hb := B.bytes
  have hr := B.returns
  have hts0 := atoms_spec (ws := (wq yX6_settlers cX6_settlers 5 (some .int))) B.pre
  have hts : ∀ w ∈ BG, w.before _ s = true := fun w h => hts0 w (List.mem_cons_of_mem _ h)
  have hown : s.vm.findClass RX6 = some m.cls := findClass_of_methodNamed B.named
  have hlocks := B.notSynchronized
  subst hsz
  have hA : ∀ q : Nat, s.heap.size ≤ q → (fun q : Nat => s.heap.size ≤ q) q := fun _ h => h
  have hD := hD0
  have hS : va_S (fun q : Nat => s.heap.size ≤ q) s.heap s.heap [] := va_S.rf
  have hP : va_P (dC, dI) vwCl [(h0, .inr (1, [w0, w1, w2, w3, w4, w5, .int 0, w7]))] s.heap := hP
  have hl := lv_entry ([.ref h0, .int o]) (n := 5) (Nat.le_of_ble_eq_true rfl)
  rw [lg_entry_eq]
  generalize (lg_sl ([.ref h0, .int o]) ++ List.replicate (5 - (lg_sl ([.ref h0, .int o])).length) Slot.unset).toArray = ls at hl ⊢
  have hl : lv_has ls 5 [(0, .ref h0), (1, .int o)] := hl
  skip
  refine lv_iconst (v := 0) hx hb dX6_settlers_0 (by decide) ?_
  refine lv_istore_n (lv' := [(2, .int 0), (0, .ref h0), (1, .int o)]) hx hb dX6_settlers_1 rfl hl (by decide) rfl (fun ls hl => ?_)
  refine lv_aload_n hx hb dX6_settlers_2 rfl (lv_at hl 1 rfl) ?_
  have hPc := hP.sub (ws' := [(h0, .inr (1, [w0, w1, w2, w3, w4, w5, .int 0, w7]))]) [0] rfl
  have hDc := hD.sub (ws' := [(h0, .inr (1, [w0, w1, w2, w3, w4, w5, .int 0, w7]))]) [0] (by decide) rfl
  have hKc := hK.sub (tys' := []) [] rfl
  refine va_calli (va_runV (As := []) (rest := []) ⟨hx, hb, hml, hown, hts⟩ (c_howMany l dC dI s.heap.size h0 (w0) (w1) (w2) (w3) (w4) (w5) (w7)) (cwV 0 hts (gV mw_2_209 mw_2_210 mw_2_211 mw_1_2 mw_2_212) rfl rfl rfl (by decide +kernel) ⟨Nat.le_of_ble_eq_true rfl, Nat.le_of_ble_eq_true rfl⟩) ⟨pcW_blind, va_recv hKc hPc (ci := 1) (q0 := 0) rfl rfl, pcW_at hPc hKc hDc hN⟩ rfl rfl hl.1 rfl (lv_room (Nat.le_of_ble_eq_true rfl)) dX6_settlers_3 ⟨Nat.le_of_ble_eq_true rfl, Nat.le_of_ble_eq_true rfl⟩) hS (fun q h1 h2 => absurd h2 (Nat.not_le.mpr h1)) (fun q h => hA q (Nat.le_trans hS.1 h)) (fun r_1 u t H1 locs ht hvm hw_1 hB hz1 hk1 hS => ?_)
  have hP := keepP hP hk1
  clear hz1 hk1 hB ht hvm hPc hDc hKc
  generalize H1 = H at hP hS ⊢
  obtain rfl : r_1 = 0 := hw_1
  refine lv_istore_n (lv' := [(3, .int 0), (2, .int 0), (0, .ref h0), (1, .int o)]) hx hb dX6_settlers_6 rfl hl (by decide) rfl (fun ls hl => ?_)
  refine lv_iconst (v := 0) hx hb dX6_settlers_7 (by decide) ?_
  refine lv_istore (lv' := [(4, .int 0), (3, .int 0), (2, .int 0), (0, .ref h0), (1, .int o)]) hx hb dX6_settlers_8 hl (by decide) rfl (fun ls hl => ?_)
  refine lv_iload hx hb dX6_settlers_10 (lv_at hl 0 rfl) ?_
  refine lv_iload_n hx hb dX6_settlers_12 rfl (lv_at hl 1 rfl) ?_
  refine lv_icmp_ge (tgt := 41) hx hb dX6_settlers_13 (by decide) (fun _ => ?_) (fun h => absurd (by decide) h)
  refine lv_iload_n hx hb dX6_settlers_41 rfl (lv_at hl 2 rfl) ?_
  exact W.iret (v := 0) hx hb hr (fun t ht hW => ⟨⟨0, (), rfl, rfl, trivial⟩, hS.F ht⟩) hS.2.2 dX6_settlers_42
end
section
theorem mw_1_132 : Cond.laysFinal RX7 "AnswerLines$Table" "rows" "[I" ∈ BG := mB (t1 (i := 132) (by decide +kernel)) (by decide +kernel)
theorem mw_1_134 : Cond.laysFinal RX7 "AnswerLines$Table" "together" "[I" ∈ BG := mB (t1 (i := 134) (by decide +kernel)) (by decide +kernel)
theorem mw_1_136 : Cond.laysFinal RX7 "AnswerLines$Table" "columns" "[I" ∈ BG := mB (t1 (i := 136) (by decide +kernel)) (by decide +kernel)
theorem mw_1_138 : Cond.laysFinal RX7 "AnswerLines$Table" "pushedTo" "[I" ∈ BG := mB (t1 (i := 138) (by decide +kernel)) (by decide +kernel)
theorem mw_1_140 : Cond.laysFinal RX7 "AnswerLines$Table" "slots" "[I" ∈ BG := mB (t1 (i := 140) (by decide +kernel)) (by decide +kernel)
theorem inB_7 : ∀ w ∈ u_ws RX7 TX7 5, w ∈ BG := fun w hw => by
  obtain ⟨k, hk, rfl⟩ := List.mem_map.mp hw
  have hk := List.mem_range.mp hk
  rcases (by omega : k = 0 ∨ k = 1 ∨ k = 2 ∨ k = 3 ∨ k = 4) with rfl | rfl | rfl | rfl | rfl
  · exact mw_1_132
  · exact mw_1_134
  · exact mw_1_136
  · exact mw_1_138
  · exact mw_1_140
theorem mw_1_127 : Cond.fieldLink RX7 9 "AnswerLines$Table" "rows" "[I" ∈ BG := mB (t1 (i := 127) (by decide +kernel)) (by decide +kernel)
theorem mw_3_13 : Cond.code yX1_hasRow cX1_hasRow 2 (some .boolean) ∈ BG := mB (t3 (i := 13) rfl) (by decide +kernel)
theorem mw_3_10 : Cond.methodLink RX7 27 yX1_hasRow ∈ BG := mB (t3 (i := 10) (by decide +kernel)) (by decide +kernel)
theorem mw_3_11 : Cond.instanceMethod yX1_hasRow ∈ BG := mB (t3 (i := 11) (by decide +kernel)) (by decide +kernel)
theorem mw_3_12 : Cond.selects RX1 yX1_hasRow yX1_hasRow ∈ BG := mB (t3 (i := 12) (by decide +kernel)) (by decide +kernel)
theorem dX7_fill_0 : decode cX7_fill 0 = .ok (.iconst 0, 1) := by decide +kernel
theorem dX7_fill_1 : decode cX7_fill 1 = .ok (.istore_n 3, 1) := by decide +kernel
theorem dX7_fill_2 : decode cX7_fill 2 = .ok (.iload_n 3, 1) := by decide +kernel
theorem dX7_fill_3 : decode cX7_fill 3 = .ok (.bipush 10, 2) := by decide +kernel
theorem dX7_fill_5 : decode cX7_fill 5 = .ok (.if_icmp .ge 73, 3) := by decide +kernel
theorem dX7_fill_8 : decode cX7_fill 8 = .ok (.aload_n 0, 1) := by decide +kernel
theorem dX7_fill_9 : decode cX7_fill 9 = .ok (.getfield 9, 3) := by decide +kernel
theorem dX7_fill_12 : decode cX7_fill 12 = .ok (.iload_n 3, 1) := by decide +kernel
theorem dX7_fill_13 : decode cX7_fill 13 = .ok (.iconst 0, 1) := by decide +kernel
theorem dX7_fill_14 : decode cX7_fill 14 = .ok (.iastore, 1) := by decide +kernel
theorem dX7_fill_15 : decode cX7_fill 15 = .ok (.aload_n 1, 1) := by decide +kernel
theorem dX7_fill_16 : decode cX7_fill 16 = .ok (.iload_n 3, 1) := by decide +kernel
theorem dX7_fill_17 : decode cX7_fill 17 = .ok (.invokevirtual 27, 3) := by decide +kernel
theorem dX7_fill_20 : decode cX7_fill 20 = .ok (.ifCond .ne 6, 3) := by decide +kernel
theorem dX7_fill_23 : decode cX7_fill 23 = .ok (.goto 49, 3) := by decide +kernel
theorem dX7_fill_72 : decode cX7_fill 72 = .ok (.iinc 3 1, 3) := by decide +kernel
theorem dX7_fill_75 : decode cX7_fill 75 = .ok (.goto (-73), 3) := by decide +kernel
theorem dX7_fill_78 : decode cX7_fill 78 = .ok (.return_, 1) := by decide +kernel
set_option maxHeartbeats 4000000 in
set_option maxRecDepth 100000 in
theorem c_fill (l : Launch) (dC : Nat → ClassId) (dI : Nat → Nat → Nat) (sz : Nat) (h0 : Nat) (a0 : Nat) (w1 : Value) (w2 : Value) (w3 : Value) (w4 : Value) (ka0 : ClassId) (h1 : Nat) (v0 : Value) (v1 : Value) (v2 : Value) (v3 : Value) (v4 : Value) (v5 : Value) (v7 : Value) (h9 : Nat)  : Met l yX7_fill (wq yX7_fill cX7_fill 5 none) ({ frames := 4, cells := 0, slots := 0, locals := 84 }) (va_Pc [.ref h0, .ref h1, .ref h9] (pcW dC dI [(ka0, .int)] [(h0, .inr (6, [.ref a0, w1, w2, w3, w4])), (a0, .inl (ka0, 10, .inl (fun _ => 0))), (h1, .inr (1, [v0, v1, v2, v3, v4, v5, .int 0, v7]))] sz)) (va_Qv (fun _ : Unit => True) (fun _ t => va_P (dC, dI) vwCl [(h0, .inr (6, [.ref a0, w1, w2, w3, w4])), (a0, .inl (ka0, 10, .inl (fun _ => 0))), (h1, .inr (1, [v0, v1, v2, v3, v4, v5, .int 0, v7]))] t.heap ∧ va_K (dC, dI) vwCl [(ka0, .int)] t ∧ va_D (va_A [(h0, .inr (6, [.ref a0, w1, w2, w3, w4])), (a0, .inl (ka0, 10, .inl (fun _ => 0))), (h1, .inr (1, [v0, v1, v2, v3, v4, v5, .int 0, v7]))] sz) [(h0, .inr (6, [.ref a0, w1, w2, w3, w4])), (a0, .inl (ka0, 10, .inl (fun _ => 0))), (h1, .inr (1, [v0, v1, v2, v3, v4, v5, .int 0, v7]))]) (va_A [(h0, .inr (6, [.ref a0, w1, w2, w3, w4])), (a0, .inl (ka0, 10, .inl (fun _ => 0))), (h1, .inr (1, [v0, v1, v2, v3, v4, v5, .int 0, v7]))] sz)) 0 0 (va_A [(h0, .inr (6, [.ref a0, w1, w2, w3, w4])), (a0, .inl (ka0, 10, .inl (fun _ => 0))), (h1, .inr (1, [v0, v1, v2, v3, v4, v5, .int 0, v7]))] sz) := by
  refine Met.ofW (cc := cX7_fill) (maxL := 5) (ret := none) (by decide) rfl ?_
  intro p e s m args below meth c s₁ B hml hv
  obtain ⟨rfl, hsz, hN, hP, hK, hD0⟩ := hv
  have hx := B.exec
  have hb := B.bytes
  have hr := B.returns
  have hts0 := atoms_spec (ws := (wq yX7_fill cX7_fill 5 none)) B.pre
  have hts : ∀ w ∈ BG, w.before _ s = true := fun w h => hts0 w (List.mem_cons_of_mem _ h)
  have hown : s.vm.findClass RX7 = some m.cls := findClass_of_methodNamed B.named
  have hlocks := B.notSynchronized
  subst hsz
  have hD := hD0.self (sz := s.heap.size)
  generalize hAe : va_A [(h0, .inr (6, [.ref a0, w1, w2, w3, w4])), (a0, .inl (ka0, 10, .inl (fun _ => 0))), (h1, .inr (1, [v0, v1, v2, v3, v4, v5, .int 0, v7]))] s.heap.size = A at hD ⊢
  have hA : ∀ q : Nat, s.heap.size ≤ q → A q := fun q h => by rw [← hAe]; exact Or.inr h
  have hS : va_S A s.heap s.heap [] := va_S.rf
  have hP : va_P (dC, dI) vwCl [(h0, .inr (6, [.ref a0, w1, w2, w3, w4])), (a0, .inl (ka0, 10, .inl (fun _ => 0))), (h1, .inr (1, [v0, v1, v2, v3, v4, v5, .int 0, v7]))] s.heap := hP
  have hl := lv_entry ([.ref h0, .ref h1, .ref h9]) (n := 5) (Nat.le_of_ble_eq_true rfl)
  rw [lg_entry_eq]
  generalize (lg_sl ([.ref h0, .ref h1, .ref h9]) ++ List.replicate (5 - (lg_sl ([.ref h0, .ref h1, .ref h9])).length) Slot.unset).toArray = ls at hl ⊢
  have hl : lv_has ls 5 [(0, .ref h0), (1, .ref h1), (2, .ref h9)] := hl
  skip
  refine lv_iconst (v := 0) hx hb dX7_fill_0 (by decide) ?_
  refine lv_istore_n (lv' := [(3, .int 0), (0, .ref h0), (1, .ref h1), (2, .ref h9)]) hx hb dX7_fill_1 rfl hl (by decide) rfl (fun ls hl => ?_)
  refine lv_iload_n hx hb dX7_fill_2 rfl (lv_at hl 0 rfl) ?_
  refine lv_bipush (v := 10) hx hb dX7_fill_3 (by decide) ?_
  refine lv_icmp_ge (tgt := 78) hx hb dX7_fill_5 (by decide) (fun h => absurd h (by decide)) (fun _ => ?_)
  refine lv_aload_n hx hb dX7_fill_8 rfl (lv_at hl 1 rfl) ?_
  refine va_get (D := (dC, dI)) (ci := 6) (v := .ref a0) (C := RX7) (T := TX7) (N := 5) hx hb hts inB_7 hown hK hP 0 rfl rfl 0 (by decide) (hts _ mw_1_127) (fun _ h9 => h9) rfl dX7_fill_9 ?_
  refine lv_iload_n hx hb dX7_fill_12 rfl (lv_at hl 0 rfl) ?_
  refine lv_iconst (v := 0) hx hb dX7_fill_13 (by decide) ?_
  refine va_iast hx hb hK hP hD hS 1 0 rfl rfl (show vp_in 0 10 by unfold vp_in; decide) dX7_fill_14 (fun H locs hP hD hS => ?_)
  rw [show upd (fun _ => 0) (Int32.toNatClampNeg 0) 0 = (fun _ => 0) from upd_const _ _] at hP hD
  have hP : va_P (dC, dI) vwCl [(h0, .inr (6, [.ref a0, w1, w2, w3, w4])), (a0, .inl (ka0, 10, .inl (fun _ => 0))), (h1, .inr (1, [v0, v1, v2, v3, v4, v5, .int 0, v7]))] H := hP
  have hD : va_D A [(h0, .inr (6, [.ref a0, w1, w2, w3, w4])), (a0, .inl (ka0, 10, .inl (fun _ => 0))), (h1, .inr (1, [v0, v1, v2, v3, v4, v5, .int 0, v7]))] := hD
  refine lv_aload_n hx hb dX7_fill_15 rfl (lv_at hl 2 rfl) ?_
  refine lv_iload_n hx hb dX7_fill_16 rfl (lv_at hl 0 rfl) ?_
  have hPc := hP.sub (ws' := [(h1, .inr (1, [v0, v1, v2, v3, v4, v5, .int 0, v7]))]) [2] rfl
  have hDc := hD.sub (ws' := [(h1, .inr (1, [v0, v1, v2, v3, v4, v5, .int 0, v7]))]) [2] (by decide) rfl
  have hKc := hK.sub (tys' := []) [] rfl
  refine va_calli (va_runV (As := [.int 0]) (rest := []) ⟨hx, hb, hml, hown, hts⟩ (c_hasRow0 l dC dI H.size h1 (v0) (v1) (v2) (v3) (v4) (v5) (v7) 0) (cwV 1 hts (gV mw_3_10 mw_3_11 mw_3_12 mw_1_2 mw_3_13) rfl rfl rfl (by decide +kernel) ⟨Nat.le_of_ble_eq_true rfl, Nat.le_of_ble_eq_true rfl⟩) ⟨pcW_blind, va_recv hKc hPc (ci := 1) (q0 := 0) rfl rfl, pcW_at hPc hKc hDc hN⟩ rfl rfl hl.1 rfl (lv_room (Nat.le_of_ble_eq_true rfl)) dX7_fill_17 ⟨Nat.le_of_ble_eq_true rfl, Nat.le_of_ble_eq_true rfl⟩) hS (fun q h1 h2 => absurd h2 (Nat.not_le.mpr h1)) (fun q h => hA q (Nat.le_trans hS.1 h)) (fun r_1 u t H1 locs ht hvm hw_1 hB hz1 hk1 hS => ?_)
  have hP := keepP hP hk1
  clear hz1 hk1 hB ht hvm hPc hDc hKc
  generalize H1 = H at hP hS ⊢
  obtain rfl : r_1 = 0 := hw_1
  refine lv_if_ne (tgt := 26) hx hb dX7_fill_20 (by decide) (fun h => absurd h (by decide)) (fun _ => ?_)
  refine lv_goto (tgt := 72) hx hb dX7_fill_23 (by decide) ?_
  refine lv_iinc (v := 1) (lv' := [(3, .int 1), (0, .ref h0), (1, .ref h1), (2, .ref h9)]) hx hb dX7_fill_72 hl (k := 0) rfl (by decide) (by decide) rfl (fun ls hl => ?_)
  refine lv_goto (tgt := 2) hx hb dX7_fill_75 (by decide) ?_
  refine lv_iload_n hx hb dX7_fill_2 rfl (lv_at hl 0 rfl) ?_
  refine lv_bipush (v := 10) hx hb dX7_fill_3 (by decide) ?_
  refine lv_icmp_ge (tgt := 78) hx hb dX7_fill_5 (by decide) (fun h => absurd h (by decide)) (fun _ => ?_)
  refine lv_aload_n hx hb dX7_fill_8 rfl (lv_at hl 1 rfl) ?_
  refine va_get (D := (dC, dI)) (ci := 6) (v := .ref a0) (C := RX7) (T := TX7) (N := 5) hx hb hts inB_7 hown hK hP 0 rfl rfl 0 (by decide) (hts _ mw_1_127) (fun _ h9 => h9) rfl dX7_fill_9 ?_
  refine lv_iload_n hx hb dX7_fill_12 rfl (lv_at hl 0 rfl) ?_
  refine lv_iconst (v := 0) hx hb dX7_fill_13 (by decide) ?_
  refine va_iast hx hb hK hP hD hS 1 0 rfl rfl (show vp_in 1 10 by unfold vp_in; decide) dX7_fill_14 (fun H locs hP hD hS => ?_)
  rw [show upd (fun _ => 0) (Int32.toNatClampNeg 1) 0 = (fun _ => 0) from upd_const _ _] at hP hD
  have hP : va_P (dC, dI) vwCl [(h0, .inr (6, [.ref a0, w1, w2, w3, w4])), (a0, .inl (ka0, 10, .inl (fun _ => 0))), (h1, .inr (1, [v0, v1, v2, v3, v4, v5, .int 0, v7]))] H := hP
  have hD : va_D A [(h0, .inr (6, [.ref a0, w1, w2, w3, w4])), (a0, .inl (ka0, 10, .inl (fun _ => 0))), (h1, .inr (1, [v0, v1, v2, v3, v4, v5, .int 0, v7]))] := hD
  refine lv_aload_n hx hb dX7_fill_15 rfl (lv_at hl 2 rfl) ?_
  refine lv_iload_n hx hb dX7_fill_16 rfl (lv_at hl 0 rfl) ?_
  have hPc := hP.sub (ws' := [(h1, .inr (1, [v0, v1, v2, v3, v4, v5, .int 0, v7]))]) [2] rfl
  have hDc := hD.sub (ws' := [(h1, .inr (1, [v0, v1, v2, v3, v4, v5, .int 0, v7]))]) [2] (by decide) rfl
  have hKc := hK.sub (tys' := []) [] rfl
  refine va_calli (va_runV (As := [.int 1]) (rest := []) ⟨hx, hb, hml, hown, hts⟩ (c_hasRow0 l dC dI H.size h1 (v0) (v1) (v2) (v3) (v4) (v5) (v7) 1) (cwV 1 hts (gV mw_3_10 mw_3_11 mw_3_12 mw_1_2 mw_3_13) rfl rfl rfl (by decide +kernel) ⟨Nat.le_of_ble_eq_true rfl, Nat.le_of_ble_eq_true rfl⟩) ⟨pcW_blind, va_recv hKc hPc (ci := 1) (q0 := 0) rfl rfl, pcW_at hPc hKc hDc hN⟩ rfl rfl hl.1 rfl (lv_room (Nat.le_of_ble_eq_true rfl)) dX7_fill_17 ⟨Nat.le_of_ble_eq_true rfl, Nat.le_of_ble_eq_true rfl⟩) hS (fun q h1 h2 => absurd h2 (Nat.not_le.mpr h1)) (fun q h => hA q (Nat.le_trans hS.1 h)) (fun r_2 u t H1 locs ht hvm hw_2 hB hz1 hk1 hS => ?_)
  have hP := keepP hP hk1
  clear hz1 hk1 hB ht hvm hPc hDc hKc
  generalize H1 = H at hP hS ⊢
  obtain rfl : r_2 = 0 := hw_2
  refine lv_if_ne (tgt := 26) hx hb dX7_fill_20 (by decide) (fun h => absurd h (by decide)) (fun _ => ?_)
  refine lv_goto (tgt := 72) hx hb dX7_fill_23 (by decide) ?_
  refine lv_iinc (v := 2) (lv' := [(3, .int 2), (0, .ref h0), (1, .ref h1), (2, .ref h9)]) hx hb dX7_fill_72 hl (k := 0) rfl (by decide) (by decide) rfl (fun ls hl => ?_)
  refine lv_goto (tgt := 2) hx hb dX7_fill_75 (by decide) ?_
  refine lv_iload_n hx hb dX7_fill_2 rfl (lv_at hl 0 rfl) ?_
  refine lv_bipush (v := 10) hx hb dX7_fill_3 (by decide) ?_
  refine lv_icmp_ge (tgt := 78) hx hb dX7_fill_5 (by decide) (fun h => absurd h (by decide)) (fun _ => ?_)
  refine lv_aload_n hx hb dX7_fill_8 rfl (lv_at hl 1 rfl) ?_
  refine va_get (D := (dC, dI)) (ci := 6) (v := .ref a0) (C := RX7) (T := TX7) (N := 5) hx hb hts inB_7 hown hK hP 0 rfl rfl 0 (by decide) (hts _ mw_1_127) (fun _ h9 => h9) rfl dX7_fill_9 ?_
  refine lv_iload_n hx hb dX7_fill_12 rfl (lv_at hl 0 rfl) ?_
  refine lv_iconst (v := 0) hx hb dX7_fill_13 (by decide) ?_
  refine va_iast hx hb hK hP hD hS 1 0 rfl rfl (show vp_in 2 10 by unfold vp_in; decide) dX7_fill_14 (fun H locs hP hD hS => ?_)
  rw [show upd (fun _ => 0) (Int32.toNatClampNeg 2) 0 = (fun _ => 0) from upd_const _ _] at hP hD
  have hP : va_P (dC, dI) vwCl [(h0, .inr (6, [.ref a0, w1, w2, w3, w4])), (a0, .inl (ka0, 10, .inl (fun _ => 0))), (h1, .inr (1, [v0, v1, v2, v3, v4, v5, .int 0, v7]))] H := hP
  have hD : va_D A [(h0, .inr (6, [.ref a0, w1, w2, w3, w4])), (a0, .inl (ka0, 10, .inl (fun _ => 0))), (h1, .inr (1, [v0, v1, v2, v3, v4, v5, .int 0, v7]))] := hD
  refine lv_aload_n hx hb dX7_fill_15 rfl (lv_at hl 2 rfl) ?_
  refine lv_iload_n hx hb dX7_fill_16 rfl (lv_at hl 0 rfl) ?_
  have hPc := hP.sub (ws' := [(h1, .inr (1, [v0, v1, v2, v3, v4, v5, .int 0, v7]))]) [2] rfl
  have hDc := hD.sub (ws' := [(h1, .inr (1, [v0, v1, v2, v3, v4, v5, .int 0, v7]))]) [2] (by decide) rfl
  have hKc := hK.sub (tys' := []) [] rfl
  refine va_calli (va_runV (As := [.int 2]) (rest := []) ⟨hx, hb, hml, hown, hts⟩ (c_hasRow0 l dC dI H.size h1 (v0) (v1) (v2) (v3) (v4) (v5) (v7) 2) (cwV 1 hts (gV mw_3_10 mw_3_11 mw_3_12 mw_1_2 mw_3_13) rfl rfl rfl (by decide +kernel) ⟨Nat.le_of_ble_eq_true rfl, Nat.le_of_ble_eq_true rfl⟩) ⟨pcW_blind, va_recv hKc hPc (ci := 1) (q0 := 0) rfl rfl, pcW_at hPc hKc hDc hN⟩ rfl rfl hl.1 rfl (lv_room (Nat.le_of_ble_eq_true rfl)) dX7_fill_17 ⟨Nat.le_of_ble_eq_true rfl, Nat.le_of_ble_eq_true rfl⟩) hS (fun q h1 h2 => absurd h2 (Nat.not_le.mpr h1)) (fun q h => hA q (Nat.le_trans hS.1 h)) (fun r_3 u t H1 locs ht hvm hw_3 hB hz1 hk1 hS => ?_)
  have hP := keepP hP hk1
  clear hz1 hk1 hB ht hvm hPc hDc hKc
  generalize H1 = H at hP hS ⊢
  obtain rfl : r_3 = 0 := hw_3
  refine lv_if_ne (tgt := 26) hx hb dX7_fill_20 (by decide) (fun h => absurd h (by decide)) (fun _ => ?_)
  refine lv_goto (tgt := 72) hx hb dX7_fill_23 (by decide) ?_
  refine lv_iinc (v := 3) (lv' := [(3, .int 3), (0, .ref h0), (1, .ref h1), (2, .ref h9)]) hx hb dX7_fill_72 hl (k := 0) rfl (by decide) (by decide) rfl (fun ls hl => ?_)
  refine lv_goto (tgt := 2) hx hb dX7_fill_75 (by decide) ?_
  refine lv_iload_n hx hb dX7_fill_2 rfl (lv_at hl 0 rfl) ?_
  refine lv_bipush (v := 10) hx hb dX7_fill_3 (by decide) ?_
  refine lv_icmp_ge (tgt := 78) hx hb dX7_fill_5 (by decide) (fun h => absurd h (by decide)) (fun _ => ?_)
  refine lv_aload_n hx hb dX7_fill_8 rfl (lv_at hl 1 rfl) ?_
  refine va_get (D := (dC, dI)) (ci := 6) (v := .ref a0) (C := RX7) (T := TX7) (N := 5) hx hb hts inB_7 hown hK hP 0 rfl rfl 0 (by decide) (hts _ mw_1_127) (fun _ h9 => h9) rfl dX7_fill_9 ?_
  refine lv_iload_n hx hb dX7_fill_12 rfl (lv_at hl 0 rfl) ?_
  refine lv_iconst (v := 0) hx hb dX7_fill_13 (by decide) ?_
  refine va_iast hx hb hK hP hD hS 1 0 rfl rfl (show vp_in 3 10 by unfold vp_in; decide) dX7_fill_14 (fun H locs hP hD hS => ?_)
  rw [show upd (fun _ => 0) (Int32.toNatClampNeg 3) 0 = (fun _ => 0) from upd_const _ _] at hP hD
  have hP : va_P (dC, dI) vwCl [(h0, .inr (6, [.ref a0, w1, w2, w3, w4])), (a0, .inl (ka0, 10, .inl (fun _ => 0))), (h1, .inr (1, [v0, v1, v2, v3, v4, v5, .int 0, v7]))] H := hP
  have hD : va_D A [(h0, .inr (6, [.ref a0, w1, w2, w3, w4])), (a0, .inl (ka0, 10, .inl (fun _ => 0))), (h1, .inr (1, [v0, v1, v2, v3, v4, v5, .int 0, v7]))] := hD
  refine lv_aload_n hx hb dX7_fill_15 rfl (lv_at hl 2 rfl) ?_
  refine lv_iload_n hx hb dX7_fill_16 rfl (lv_at hl 0 rfl) ?_
  have hPc := hP.sub (ws' := [(h1, .inr (1, [v0, v1, v2, v3, v4, v5, .int 0, v7]))]) [2] rfl
  have hDc := hD.sub (ws' := [(h1, .inr (1, [v0, v1, v2, v3, v4, v5, .int 0, v7]))]) [2] (by decide) rfl
  have hKc := hK.sub (tys' := []) [] rfl
  refine va_calli (va_runV (As := [.int 3]) (rest := []) ⟨hx, hb, hml, hown, hts⟩ (c_hasRow0 l dC dI H.size h1 (v0) (v1) (v2) (v3) (v4) (v5) (v7) 3) (cwV 1 hts (gV mw_3_10 mw_3_11 mw_3_12 mw_1_2 mw_3_13) rfl rfl rfl (by decide +kernel) ⟨Nat.le_of_ble_eq_true rfl, Nat.le_of_ble_eq_true rfl⟩) ⟨pcW_blind, va_recv hKc hPc (ci := 1) (q0 := 0) rfl rfl, pcW_at hPc hKc hDc hN⟩ rfl rfl hl.1 rfl (lv_room (Nat.le_of_ble_eq_true rfl)) dX7_fill_17 ⟨Nat.le_of_ble_eq_true rfl, Nat.le_of_ble_eq_true rfl⟩) hS (fun q h1 h2 => absurd h2 (Nat.not_le.mpr h1)) (fun q h => hA q (Nat.le_trans hS.1 h)) (fun r_4 u t H1 locs ht hvm hw_4 hB hz1 hk1 hS => ?_)
  have hP := keepP hP hk1
  clear hz1 hk1 hB ht hvm hPc hDc hKc
  generalize H1 = H at hP hS ⊢
  obtain rfl : r_4 = 0 := hw_4
  refine lv_if_ne (tgt := 26) hx hb dX7_fill_20 (by decide) (fun h => absurd h (by decide)) (fun _ => ?_)
  refine lv_goto (tgt := 72) hx hb dX7_fill_23 (by decide) ?_
  refine lv_iinc (v := 4) (lv' := [(3, .int 4), (0, .ref h0), (1, .ref h1), (2, .ref h9)]) hx hb dX7_fill_72 hl (k := 0) rfl (by decide) (by decide) rfl (fun ls hl => ?_)
  refine lv_goto (tgt := 2) hx hb dX7_fill_75 (by decide) ?_
  refine lv_iload_n hx hb dX7_fill_2 rfl (lv_at hl 0 rfl) ?_
  refine lv_bipush (v := 10) hx hb dX7_fill_3 (by decide) ?_
  refine lv_icmp_ge (tgt := 78) hx hb dX7_fill_5 (by decide) (fun h => absurd h (by decide)) (fun _ => ?_)
  refine lv_aload_n hx hb dX7_fill_8 rfl (lv_at hl 1 rfl) ?_
  refine va_get (D := (dC, dI)) (ci := 6) (v := .ref a0) (C := RX7) (T := TX7) (N := 5) hx hb hts inB_7 hown hK hP 0 rfl rfl 0 (by decide) (hts _ mw_1_127) (fun _ h9 => h9) rfl dX7_fill_9 ?_
  refine lv_iload_n hx hb dX7_fill_12 rfl (lv_at hl 0 rfl) ?_
  refine lv_iconst (v := 0) hx hb dX7_fill_13 (by decide) ?_
  refine va_iast hx hb hK hP hD hS 1 0 rfl rfl (show vp_in 4 10 by unfold vp_in; decide) dX7_fill_14 (fun H locs hP hD hS => ?_)
  rw [show upd (fun _ => 0) (Int32.toNatClampNeg 4) 0 = (fun _ => 0) from upd_const _ _] at hP hD
  have hP : va_P (dC, dI) vwCl [(h0, .inr (6, [.ref a0, w1, w2, w3, w4])), (a0, .inl (ka0, 10, .inl (fun _ => 0))), (h1, .inr (1, [v0, v1, v2, v3, v4, v5, .int 0, v7]))] H := hP
  have hD : va_D A [(h0, .inr (6, [.ref a0, w1, w2, w3, w4])), (a0, .inl (ka0, 10, .inl (fun _ => 0))), (h1, .inr (1, [v0, v1, v2, v3, v4, v5, .int 0, v7]))] := hD
  refine lv_aload_n hx hb dX7_fill_15 rfl (lv_at hl 2 rfl) ?_
  refine lv_iload_n hx hb dX7_fill_16 rfl (lv_at hl 0 rfl) ?_
  have hPc := hP.sub (ws' := [(h1, .inr (1, [v0, v1, v2, v3, v4, v5, .int 0, v7]))]) [2] rfl
  have hDc := hD.sub (ws' := [(h1, .inr (1, [v0, v1, v2, v3, v4, v5, .int 0, v7]))]) [2] (by decide) rfl
  have hKc := hK.sub (tys' := []) [] rfl
  refine va_calli (va_runV (As := [.int 4]) (rest := []) ⟨hx, hb, hml, hown, hts⟩ (c_hasRow0 l dC dI H.size h1 (v0) (v1) (v2) (v3) (v4) (v5) (v7) 4) (cwV 1 hts (gV mw_3_10 mw_3_11 mw_3_12 mw_1_2 mw_3_13) rfl rfl rfl (by decide +kernel) ⟨Nat.le_of_ble_eq_true rfl, Nat.le_of_ble_eq_true rfl⟩) ⟨pcW_blind, va_recv hKc hPc (ci := 1) (q0 := 0) rfl rfl, pcW_at hPc hKc hDc hN⟩ rfl rfl hl.1 rfl (lv_room (Nat.le_of_ble_eq_true rfl)) dX7_fill_17 ⟨Nat.le_of_ble_eq_true rfl, Nat.le_of_ble_eq_true rfl⟩) hS (fun q h1 h2 => absurd h2 (Nat.not_le.mpr h1)) (fun q h => hA q (Nat.le_trans hS.1 h)) (fun r_5 u t H1 locs ht hvm hw_5 hB hz1 hk1 hS => ?_)
  have hP := keepP hP hk1
  clear hz1 hk1 hB ht hvm hPc hDc hKc
  generalize H1 = H at hP hS ⊢
  obtain rfl : r_5 = 0 := hw_5
  refine lv_if_ne (tgt := 26) hx hb dX7_fill_20 (by decide) (fun h => absurd h (by decide)) (fun _ => ?_)
  refine lv_goto (tgt := 72) hx hb dX7_fill_23 (by decide) ?_
  refine lv_iinc (v := 5) (lv' := [(3, .int 5), (0, .ref h0), (1, .ref h1), (2, .ref h9)]) hx hb dX7_fill_72 hl (k := 0) rfl (by decide) (by decide) rfl (fun ls hl => ?_)
  refine lv_goto (tgt := 2) hx hb dX7_fill_75 (by decide) ?_
  refine lv_iload_n hx hb dX7_fill_2 rfl (lv_at hl 0 rfl) ?_
  refine lv_bipush (v := 10) hx hb dX7_fill_3 (by decide) ?_
  refine lv_icmp_ge (tgt := 78) hx hb dX7_fill_5 (by decide) (fun h => absurd h (by decide)) (fun _ => ?_)
  refine lv_aload_n hx hb dX7_fill_8 rfl (lv_at hl 1 rfl) ?_
  refine va_get (D := (dC, dI)) (ci := 6) (v := .ref a0) (C := RX7) (T := TX7) (N := 5) hx hb hts inB_7 hown hK hP 0 rfl rfl 0 (by decide) (hts _ mw_1_127) (fun _ h9 => h9) rfl dX7_fill_9 ?_
  refine lv_iload_n hx hb dX7_fill_12 rfl (lv_at hl 0 rfl) ?_
  refine lv_iconst (v := 0) hx hb dX7_fill_13 (by decide) ?_
  refine va_iast hx hb hK hP hD hS 1 0 rfl rfl (show vp_in 5 10 by unfold vp_in; decide) dX7_fill_14 (fun H locs hP hD hS => ?_)
  rw [show upd (fun _ => 0) (Int32.toNatClampNeg 5) 0 = (fun _ => 0) from upd_const _ _] at hP hD
  have hP : va_P (dC, dI) vwCl [(h0, .inr (6, [.ref a0, w1, w2, w3, w4])), (a0, .inl (ka0, 10, .inl (fun _ => 0))), (h1, .inr (1, [v0, v1, v2, v3, v4, v5, .int 0, v7]))] H := hP
  have hD : va_D A [(h0, .inr (6, [.ref a0, w1, w2, w3, w4])), (a0, .inl (ka0, 10, .inl (fun _ => 0))), (h1, .inr (1, [v0, v1, v2, v3, v4, v5, .int 0, v7]))] := hD
  refine lv_aload_n hx hb dX7_fill_15 rfl (lv_at hl 2 rfl) ?_
  refine lv_iload_n hx hb dX7_fill_16 rfl (lv_at hl 0 rfl) ?_
  have hPc := hP.sub (ws' := [(h1, .inr (1, [v0, v1, v2, v3, v4, v5, .int 0, v7]))]) [2] rfl
  have hDc := hD.sub (ws' := [(h1, .inr (1, [v0, v1, v2, v3, v4, v5, .int 0, v7]))]) [2] (by decide) rfl
  have hKc := hK.sub (tys' := []) [] rfl
  refine va_calli (va_runV (As := [.int 5]) (rest := []) ⟨hx, hb, hml, hown, hts⟩ (c_hasRow0 l dC dI H.size h1 (v0) (v1) (v2) (v3) (v4) (v5) (v7) 5) (cwV 1 hts (gV mw_3_10 mw_3_11 mw_3_12 mw_1_2 mw_3_13) rfl rfl rfl (by decide +kernel) ⟨Nat.le_of_ble_eq_true rfl, Nat.le_of_ble_eq_true rfl⟩) ⟨pcW_blind, va_recv hKc hPc (ci := 1) (q0 := 0) rfl rfl, pcW_at hPc hKc hDc hN⟩ rfl rfl hl.1 rfl (lv_room (Nat.le_of_ble_eq_true rfl)) dX7_fill_17 ⟨Nat.le_of_ble_eq_true rfl, Nat.le_of_ble_eq_true rfl⟩) hS (fun q h1 h2 => absurd h2 (Nat.not_le.mpr h1)) (fun q h => hA q (Nat.le_trans hS.1 h)) (fun r_6 u t H1 locs ht hvm hw_6 hB hz1 hk1 hS => ?_)
  have hP := keepP hP hk1
  clear hz1 hk1 hB ht hvm hPc hDc hKc
  generalize H1 = H at hP hS ⊢
  obtain rfl : r_6 = 0 := hw_6
  refine lv_if_ne (tgt := 26) hx hb dX7_fill_20 (by decide) (fun h => absurd h (by decide)) (fun _ => ?_)
  refine lv_goto (tgt := 72) hx hb dX7_fill_23 (by decide) ?_
  refine lv_iinc (v := 6) (lv' := [(3, .int 6), (0, .ref h0), (1, .ref h1), (2, .ref h9)]) hx hb dX7_fill_72 hl (k := 0) rfl (by decide) (by decide) rfl (fun ls hl => ?_)
  refine lv_goto (tgt := 2) hx hb dX7_fill_75 (by decide) ?_
  refine lv_iload_n hx hb dX7_fill_2 rfl (lv_at hl 0 rfl) ?_
  refine lv_bipush (v := 10) hx hb dX7_fill_3 (by decide) ?_
  refine lv_icmp_ge (tgt := 78) hx hb dX7_fill_5 (by decide) (fun h => absurd h (by decide)) (fun _ => ?_)
  refine lv_aload_n hx hb dX7_fill_8 rfl (lv_at hl 1 rfl) ?_
  refine va_get (D := (dC, dI)) (ci := 6) (v := .ref a0) (C := RX7) (T := TX7) (N := 5) hx hb hts inB_7 hown hK hP 0 rfl rfl 0 (by decide) (hts _ mw_1_127) (fun _ h9 => h9) rfl dX7_fill_9 ?_
  refine lv_iload_n hx hb dX7_fill_12 rfl (lv_at hl 0 rfl) ?_
  refine lv_iconst (v := 0) hx hb dX7_fill_13 (by decide) ?_
  refine va_iast hx hb hK hP hD hS 1 0 rfl rfl (show vp_in 6 10 by unfold vp_in; decide) dX7_fill_14 (fun H locs hP hD hS => ?_)
  rw [show upd (fun _ => 0) (Int32.toNatClampNeg 6) 0 = (fun _ => 0) from upd_const _ _] at hP hD
  have hP : va_P (dC, dI) vwCl [(h0, .inr (6, [.ref a0, w1, w2, w3, w4])), (a0, .inl (ka0, 10, .inl (fun _ => 0))), (h1, .inr (1, [v0, v1, v2, v3, v4, v5, .int 0, v7]))] H := hP
  have hD : va_D A [(h0, .inr (6, [.ref a0, w1, w2, w3, w4])), (a0, .inl (ka0, 10, .inl (fun _ => 0))), (h1, .inr (1, [v0, v1, v2, v3, v4, v5, .int 0, v7]))] := hD
  refine lv_aload_n hx hb dX7_fill_15 rfl (lv_at hl 2 rfl) ?_
  refine lv_iload_n hx hb dX7_fill_16 rfl (lv_at hl 0 rfl) ?_
  have hPc := hP.sub (ws' := [(h1, .inr (1, [v0, v1, v2, v3, v4, v5, .int 0, v7]))]) [2] rfl
  have hDc := hD.sub (ws' := [(h1, .inr (1, [v0, v1, v2, v3, v4, v5, .int 0, v7]))]) [2] (by decide) rfl
  have hKc := hK.sub (tys' := []) [] rfl
  refine va_calli (va_runV (As := [.int 6]) (rest := []) ⟨hx, hb, hml, hown, hts⟩ (c_hasRow0 l dC dI H.size h1 (v0) (v1) (v2) (v3) (v4) (v5) (v7) 6) (cwV 1 hts (gV mw_3_10 mw_3_11 mw_3_12 mw_1_2 mw_3_13) rfl rfl rfl (by decide +kernel) ⟨Nat.le_of_ble_eq_true rfl, Nat.le_of_ble_eq_true rfl⟩) ⟨pcW_blind, va_recv hKc hPc (ci := 1) (q0 := 0) rfl rfl, pcW_at hPc hKc hDc hN⟩ rfl rfl hl.1 rfl (lv_room (Nat.le_of_ble_eq_true rfl)) dX7_fill_17 ⟨Nat.le_of_ble_eq_true rfl, Nat.le_of_ble_eq_true rfl⟩) hS (fun q h1 h2 => absurd h2 (Nat.not_le.mpr h1)) (fun q h => hA q (Nat.le_trans hS.1 h)) (fun r_7 u t H1 locs ht hvm hw_7 hB hz1 hk1 hS => ?_)
  have hP := keepP hP hk1
  clear hz1 hk1 hB ht hvm hPc hDc hKc
  generalize H1 = H at hP hS ⊢
  obtain rfl : r_7 = 0 := hw_7
  refine lv_if_ne (tgt := 26) hx hb dX7_fill_20 (by decide) (fun h => absurd h (by decide)) (fun _ => ?_)
  refine lv_goto (tgt := 72) hx hb dX7_fill_23 (by decide) ?_
  refine lv_iinc (v := 7) (lv' := [(3, .int 7), (0, .ref h0), (1, .ref h1), (2, .ref h9)]) hx hb dX7_fill_72 hl (k := 0) rfl (by decide) (by decide) rfl (fun ls hl => ?_)
  refine lv_goto (tgt := 2) hx hb dX7_fill_75 (by decide) ?_
  refine lv_iload_n hx hb dX7_fill_2 rfl (lv_at hl 0 rfl) ?_
  refine lv_bipush (v := 10) hx hb dX7_fill_3 (by decide) ?_
  refine lv_icmp_ge (tgt := 78) hx hb dX7_fill_5 (by decide) (fun h => absurd h (by decide)) (fun _ => ?_)
  refine lv_aload_n hx hb dX7_fill_8 rfl (lv_at hl 1 rfl) ?_
  refine va_get (D := (dC, dI)) (ci := 6) (v := .ref a0) (C := RX7) (T := TX7) (N := 5) hx hb hts inB_7 hown hK hP 0 rfl rfl 0 (by decide) (hts _ mw_1_127) (fun _ h9 => h9) rfl dX7_fill_9 ?_
  refine lv_iload_n hx hb dX7_fill_12 rfl (lv_at hl 0 rfl) ?_
  refine lv_iconst (v := 0) hx hb dX7_fill_13 (by decide) ?_
  refine va_iast hx hb hK hP hD hS 1 0 rfl rfl (show vp_in 7 10 by unfold vp_in; decide) dX7_fill_14 (fun H locs hP hD hS => ?_)
  rw [show upd (fun _ => 0) (Int32.toNatClampNeg 7) 0 = (fun _ => 0) from upd_const _ _] at hP hD
  have hP : va_P (dC, dI) vwCl [(h0, .inr (6, [.ref a0, w1, w2, w3, w4])), (a0, .inl (ka0, 10, .inl (fun _ => 0))), (h1, .inr (1, [v0, v1, v2, v3, v4, v5, .int 0, v7]))] H := hP
  have hD : va_D A [(h0, .inr (6, [.ref a0, w1, w2, w3, w4])), (a0, .inl (ka0, 10, .inl (fun _ => 0))), (h1, .inr (1, [v0, v1, v2, v3, v4, v5, .int 0, v7]))] := hD
  refine lv_aload_n hx hb dX7_fill_15 rfl (lv_at hl 2 rfl) ?_
  refine lv_iload_n hx hb dX7_fill_16 rfl (lv_at hl 0 rfl) ?_
  have hPc := hP.sub (ws' := [(h1, .inr (1, [v0, v1, v2, v3, v4, v5, .int 0, v7]))]) [2] rfl
  have hDc := hD.sub (ws' := [(h1, .inr (1, [v0, v1, v2, v3, v4, v5, .int 0, v7]))]) [2] (by decide) rfl
  have hKc := hK.sub (tys' := []) [] rfl
  refine va_calli (va_runV (As := [.int 7]) (rest := []) ⟨hx, hb, hml, hown, hts⟩ (c_hasRow0 l dC dI H.size h1 (v0) (v1) (v2) (v3) (v4) (v5) (v7) 7) (cwV 1 hts (gV mw_3_10 mw_3_11 mw_3_12 mw_1_2 mw_3_13) rfl rfl rfl (by decide +kernel) ⟨Nat.le_of_ble_eq_true rfl, Nat.le_of_ble_eq_true rfl⟩) ⟨pcW_blind, va_recv hKc hPc (ci := 1) (q0 := 0) rfl rfl, pcW_at hPc hKc hDc hN⟩ rfl rfl hl.1 rfl (lv_room (Nat.le_of_ble_eq_true rfl)) dX7_fill_17 ⟨Nat.le_of_ble_eq_true rfl, Nat.le_of_ble_eq_true rfl⟩) hS (fun q h1 h2 => absurd h2 (Nat.not_le.mpr h1)) (fun q h => hA q (Nat.le_trans hS.1 h)) (fun r_8 u t H1 locs ht hvm hw_8 hB hz1 hk1 hS => ?_)
  have hP := keepP hP hk1
  clear hz1 hk1 hB ht hvm hPc hDc hKc
  generalize H1 = H at hP hS ⊢
  obtain rfl : r_8 = 0 := hw_8
  refine lv_if_ne (tgt := 26) hx hb dX7_fill_20 (by decide) (fun h => absurd h (by decide)) (fun _ => ?_)
  refine lv_goto (tgt := 72) hx hb dX7_fill_23 (by decide) ?_
  refine lv_iinc (v := 8) (lv' := [(3, .int 8), (0, .ref h0), (1, .ref h1), (2, .ref h9)]) hx hb dX7_fill_72 hl (k := 0) rfl (by decide) (by decide) rfl (fun ls hl => ?_)
  refine lv_goto (tgt := 2) hx hb dX7_fill_75 (by decide) ?_
  refine lv_iload_n hx hb dX7_fill_2 rfl (lv_at hl 0 rfl) ?_
  refine lv_bipush (v := 10) hx hb dX7_fill_3 (by decide) ?_
  refine lv_icmp_ge (tgt := 78) hx hb dX7_fill_5 (by decide) (fun h => absurd h (by decide)) (fun _ => ?_)
  refine lv_aload_n hx hb dX7_fill_8 rfl (lv_at hl 1 rfl) ?_
  refine va_get (D := (dC, dI)) (ci := 6) (v := .ref a0) (C := RX7) (T := TX7) (N := 5) hx hb hts inB_7 hown hK hP 0 rfl rfl 0 (by decide) (hts _ mw_1_127) (fun _ h9 => h9) rfl dX7_fill_9 ?_
  refine lv_iload_n hx hb dX7_fill_12 rfl (lv_at hl 0 rfl) ?_
  refine lv_iconst (v := 0) hx hb dX7_fill_13 (by decide) ?_
  refine va_iast hx hb hK hP hD hS 1 0 rfl rfl (show vp_in 8 10 by unfold vp_in; decide) dX7_fill_14 (fun H locs hP hD hS => ?_)
  rw [show upd (fun _ => 0) (Int32.toNatClampNeg 8) 0 = (fun _ => 0) from upd_const _ _] at hP hD
  have hP : va_P (dC, dI) vwCl [(h0, .inr (6, [.ref a0, w1, w2, w3, w4])), (a0, .inl (ka0, 10, .inl (fun _ => 0))), (h1, .inr (1, [v0, v1, v2, v3, v4, v5, .int 0, v7]))] H := hP
  have hD : va_D A [(h0, .inr (6, [.ref a0, w1, w2, w3, w4])), (a0, .inl (ka0, 10, .inl (fun _ => 0))), (h1, .inr (1, [v0, v1, v2, v3, v4, v5, .int 0, v7]))] := hD
  refine lv_aload_n hx hb dX7_fill_15 rfl (lv_at hl 2 rfl) ?_
  refine lv_iload_n hx hb dX7_fill_16 rfl (lv_at hl 0 rfl) ?_
  have hPc := hP.sub (ws' := [(h1, .inr (1, [v0, v1, v2, v3, v4, v5, .int 0, v7]))]) [2] rfl
  have hDc := hD.sub (ws' := [(h1, .inr (1, [v0, v1, v2, v3, v4, v5, .int 0, v7]))]) [2] (by decide) rfl
  have hKc := hK.sub (tys' := []) [] rfl
  refine va_calli (va_runV (As := [.int 8]) (rest := []) ⟨hx, hb, hml, hown, hts⟩ (c_hasRow0 l dC dI H.size h1 (v0) (v1) (v2) (v3) (v4) (v5) (v7) 8) (cwV 1 hts (gV mw_3_10 mw_3_11 mw_3_12 mw_1_2 mw_3_13) rfl rfl rfl (by decide +kernel) ⟨Nat.le_of_ble_eq_true rfl, Nat.le_of_ble_eq_true rfl⟩) ⟨pcW_blind, va_recv hKc hPc (ci := 1) (q0 := 0) rfl rfl, pcW_at hPc hKc hDc hN⟩ rfl rfl hl.1 rfl (lv_room (Nat.le_of_ble_eq_true rfl)) dX7_fill_17 ⟨Nat.le_of_ble_eq_true rfl, Nat.le_of_ble_eq_true rfl⟩) hS (fun q h1 h2 => absurd h2 (Nat.not_le.mpr h1)) (fun q h => hA q (Nat.le_trans hS.1 h)) (fun r_9 u t H1 locs ht hvm hw_9 hB hz1 hk1 hS => ?_)
  have hP := keepP hP hk1
  clear hz1 hk1 hB ht hvm hPc hDc hKc
  generalize H1 = H at hP hS ⊢
  obtain rfl : r_9 = 0 := hw_9
  refine lv_if_ne (tgt := 26) hx hb dX7_fill_20 (by decide) (fun h => absurd h (by decide)) (fun _ => ?_)
  refine lv_goto (tgt := 72) hx hb dX7_fill_23 (by decide) ?_
  refine lv_iinc (v := 9) (lv' := [(3, .int 9), (0, .ref h0), (1, .ref h1), (2, .ref h9)]) hx hb dX7_fill_72 hl (k := 0) rfl (by decide) (by decide) rfl (fun ls hl => ?_)
  refine lv_goto (tgt := 2) hx hb dX7_fill_75 (by decide) ?_
  refine lv_iload_n hx hb dX7_fill_2 rfl (lv_at hl 0 rfl) ?_
  refine lv_bipush (v := 10) hx hb dX7_fill_3 (by decide) ?_
  refine lv_icmp_ge (tgt := 78) hx hb dX7_fill_5 (by decide) (fun h => absurd h (by decide)) (fun _ => ?_)
  refine lv_aload_n hx hb dX7_fill_8 rfl (lv_at hl 1 rfl) ?_
  refine va_get (D := (dC, dI)) (ci := 6) (v := .ref a0) (C := RX7) (T := TX7) (N := 5) hx hb hts inB_7 hown hK hP 0 rfl rfl 0 (by decide) (hts _ mw_1_127) (fun _ h9 => h9) rfl dX7_fill_9 ?_
  refine lv_iload_n hx hb dX7_fill_12 rfl (lv_at hl 0 rfl) ?_
  refine lv_iconst (v := 0) hx hb dX7_fill_13 (by decide) ?_
  refine va_iast hx hb hK hP hD hS 1 0 rfl rfl (show vp_in 9 10 by unfold vp_in; decide) dX7_fill_14 (fun H locs hP hD hS => ?_)
  rw [show upd (fun _ => 0) (Int32.toNatClampNeg 9) 0 = (fun _ => 0) from upd_const _ _] at hP hD
  have hP : va_P (dC, dI) vwCl [(h0, .inr (6, [.ref a0, w1, w2, w3, w4])), (a0, .inl (ka0, 10, .inl (fun _ => 0))), (h1, .inr (1, [v0, v1, v2, v3, v4, v5, .int 0, v7]))] H := hP
  have hD : va_D A [(h0, .inr (6, [.ref a0, w1, w2, w3, w4])), (a0, .inl (ka0, 10, .inl (fun _ => 0))), (h1, .inr (1, [v0, v1, v2, v3, v4, v5, .int 0, v7]))] := hD
  refine lv_aload_n hx hb dX7_fill_15 rfl (lv_at hl 2 rfl) ?_
  refine lv_iload_n hx hb dX7_fill_16 rfl (lv_at hl 0 rfl) ?_
  have hPc := hP.sub (ws' := [(h1, .inr (1, [v0, v1, v2, v3, v4, v5, .int 0, v7]))]) [2] rfl
  have hDc := hD.sub (ws' := [(h1, .inr (1, [v0, v1, v2, v3, v4, v5, .int 0, v7]))]) [2] (by decide) rfl
  have hKc := hK.sub (tys' := []) [] rfl
  refine va_calli (va_runV (As := [.int 9]) (rest := []) ⟨hx, hb, hml, hown, hts⟩ (c_hasRow0 l dC dI H.size h1 (v0) (v1) (v2) (v3) (v4) (v5) (v7) 9) (cwV 1 hts (gV mw_3_10 mw_3_11 mw_3_12 mw_1_2 mw_3_13) rfl rfl rfl (by decide +kernel) ⟨Nat.le_of_ble_eq_true rfl, Nat.le_of_ble_eq_true rfl⟩) ⟨pcW_blind, va_recv hKc hPc (ci := 1) (q0 := 0) rfl rfl, pcW_at hPc hKc hDc hN⟩ rfl rfl hl.1 rfl (lv_room (Nat.le_of_ble_eq_true rfl)) dX7_fill_17 ⟨Nat.le_of_ble_eq_true rfl, Nat.le_of_ble_eq_true rfl⟩) hS (fun q h1 h2 => absurd h2 (Nat.not_le.mpr h1)) (fun q h => hA q (Nat.le_trans hS.1 h)) (fun r_10 u t H1 locs ht hvm hw_10 hB hz1 hk1 hS => ?_)
  have hP := keepP hP hk1
  clear hz1 hk1 hB ht hvm hPc hDc hKc
  generalize H1 = H at hP hS ⊢
  obtain rfl : r_10 = 0 := hw_10
  refine lv_if_ne (tgt := 26) hx hb dX7_fill_20 (by decide) (fun h => absurd h (by decide)) (fun _ => ?_)
  refine lv_goto (tgt := 72) hx hb dX7_fill_23 (by decide) ?_
  refine lv_iinc (v := 10) (lv' := [(3, .int 10), (0, .ref h0), (1, .ref h1), (2, .ref h9)]) hx hb dX7_fill_72 hl (k := 0) rfl (by decide) (by decide) rfl (fun ls hl => ?_)
  refine lv_goto (tgt := 2) hx hb dX7_fill_75 (by decide) ?_
  refine lv_iload_n hx hb dX7_fill_2 rfl (lv_at hl 0 rfl) ?_
  refine lv_bipush (v := 10) hx hb dX7_fill_3 (by decide) ?_
  refine lv_icmp_ge (tgt := 78) hx hb dX7_fill_5 (by decide) (fun _ => ?_) (fun h => absurd (by decide) h)
  exact W.vret hx hb hr (fun t ht hW => ⟨⟨(), rfl, trivial, by rw [ht]; exact hP, va_K.moved hW.alike hK, hD⟩, hS.F ht⟩) hS.2.2 dX7_fill_78
end
section
theorem mw_1_128 : Cond.fieldLink RX7 15 "AnswerLines$Table" "together" "[I" ∈ BG := mB (t1 (i := 128) (by decide +kernel)) (by decide +kernel)
theorem mw_1_129 : Cond.fieldLink RX7 18 "AnswerLines$Table" "columns" "[I" ∈ BG := mB (t1 (i := 129) (by decide +kernel)) (by decide +kernel)
theorem mw_3_29 : Cond.code yX7_fitInto cX7_fitInto 5 (some .boolean) ∈ BG := mB (t3 (i := 29) rfl) (by decide +kernel)
theorem mw_3_26 : Cond.methodLink RX7 46 yX7_fitInto ∈ BG := mB (t3 (i := 26) (by decide +kernel)) (by decide +kernel)
theorem mw_3_28 : Cond.instanceMethod yX7_fitInto ∈ BG := mB (t3 (i := 28) (by decide +kernel)) (by decide +kernel)
theorem mw_0_7 : Cond.selects RX7 yX7_fitInto yX7_fitInto ∈ BG := mB (t0 (i := 7) (by decide +kernel)) (by decide +kernel)
theorem mw_1_7 : Cond.initialized RX7 ∈ BG := mB (t1 (i := 7) (by decide +kernel)) (by decide +kernel)
theorem mw_3_24 : Cond.code yX7_findTogether cX7_findTogether 3 none ∈ BG := mB (t3 (i := 24) rfl) (by decide +kernel)
theorem mw_3_21 : Cond.methodLink RX7 43 yX7_findTogether ∈ BG := mB (t3 (i := 21) (by decide +kernel)) (by decide +kernel)
theorem mw_3_23 : Cond.instanceMethod yX7_findTogether ∈ BG := mB (t3 (i := 23) (by decide +kernel)) (by decide +kernel)
theorem mw_0_6 : Cond.selects RX7 yX7_findTogether yX7_findTogether ∈ BG := mB (t0 (i := 6) (by decide +kernel)) (by decide +kernel)
theorem dX7_findTogether_0 : decode cX7_findTogether 0 = .ok (.iconst 0, 1) := by decide +kernel
theorem dX7_findTogether_1 : decode cX7_findTogether 1 = .ok (.istore_n 1, 1) := by decide +kernel
theorem dX7_findTogether_2 : decode cX7_findTogether 2 = .ok (.iload_n 1, 1) := by decide +kernel
theorem dX7_findTogether_3 : decode cX7_findTogether 3 = .ok (.bipush 8, 2) := by decide +kernel
theorem dX7_findTogether_5 : decode cX7_findTogether 5 = .ok (.if_icmp .ge 58, 3) := by decide +kernel
theorem dX7_findTogether_63 : decode cX7_findTogether 63 = .ok (.return_, 1) := by decide +kernel
theorem dX7_findTogether_8 : decode cX7_findTogether 8 = .ok (.aload_n 0, 1) := by decide +kernel
theorem dX7_findTogether_9 : decode cX7_findTogether 9 = .ok (.getfield 15, 3) := by decide +kernel
theorem dX7_findTogether_12 : decode cX7_findTogether 12 = .ok (.iload_n 1, 1) := by decide +kernel
theorem dX7_findTogether_13 : decode cX7_findTogether 13 = .ok (.iconst 0, 1) := by decide +kernel
theorem dX7_findTogether_14 : decode cX7_findTogether 14 = .ok (.iastore, 1) := by decide +kernel
theorem dX7_findTogether_15 : decode cX7_findTogether 15 = .ok (.iconst 0, 1) := by decide +kernel
theorem dX7_findTogether_16 : decode cX7_findTogether 16 = .ok (.istore_n 2, 1) := by decide +kernel
theorem dX7_findTogether_17 : decode cX7_findTogether 17 = .ok (.iload_n 2, 1) := by decide +kernel
theorem dX7_findTogether_18 : decode cX7_findTogether 18 = .ok (.bipush 10, 2) := by decide +kernel
theorem dX7_findTogether_20 : decode cX7_findTogether 20 = .ok (.if_icmp .ge 37, 3) := by decide +kernel
theorem dX7_findTogether_57 : decode cX7_findTogether 57 = .ok (.iinc 1 1, 3) := by decide +kernel
theorem dX7_findTogether_60 : decode cX7_findTogether 60 = .ok (.goto (-58), 3) := by decide +kernel
theorem dX7_findTogether_23 : decode cX7_findTogether 23 = .ok (.iload_n 1, 1) := by decide +kernel
theorem dX7_findTogether_24 : decode cX7_findTogether 24 = .ok (.aload_n 0, 1) := by decide +kernel
theorem dX7_findTogether_25 : decode cX7_findTogether 25 = .ok (.getfield 9, 3) := by decide +kernel
theorem dX7_findTogether_28 : decode cX7_findTogether 28 = .ok (.iload_n 2, 1) := by decide +kernel
theorem dX7_findTogether_29 : decode cX7_findTogether 29 = .ok (.iaload, 1) := by decide +kernel
theorem dX7_findTogether_30 : decode cX7_findTogether 30 = .ok (.invokestatic 62, 3) := by decide +kernel
theorem dX7_findTogether_33 : decode cX7_findTogether 33 = .ok (.ifCond .eq 18, 3) := by decide +kernel
theorem dX7_findTogether_51 : decode cX7_findTogether 51 = .ok (.iinc 2 1, 3) := by decide +kernel
theorem dX7_findTogether_54 : decode cX7_findTogether 54 = .ok (.goto (-37), 3) := by decide +kernel
theorem dX7_fitInto_0 : decode cX7_fitInto 0 = .ok (.iload_n 2, 1) := by decide +kernel
theorem dX7_fitInto_1 : decode cX7_fitInto 1 = .ok (.ifCond .lt 9, 3) := by decide +kernel
theorem dX7_fitInto_4 : decode cX7_fitInto 4 = .ok (.iload_n 2, 1) := by decide +kernel
theorem dX7_fitInto_5 : decode cX7_fitInto 5 = .ok (.bipush 8, 2) := by decide +kernel
theorem dX7_fitInto_7 : decode cX7_fitInto 7 = .ok (.if_icmp .lt 5, 3) := by decide +kernel
theorem dX7_fitInto_10 : decode cX7_fitInto 10 = .ok (.iconst 1, 1) := by decide +kernel
theorem dX7_fitInto_11 : decode cX7_fitInto 11 = .ok (.ireturn, 1) := by decide +kernel
theorem dX7_fitInto_12 : decode cX7_fitInto 12 = .ok (.aload_n 0, 1) := by decide +kernel
theorem dX7_fitInto_13 : decode cX7_fitInto 13 = .ok (.getfield 18, 3) := by decide +kernel
theorem dX7_fitInto_16 : decode cX7_fitInto 16 = .ok (.iload_n 2, 1) := by decide +kernel
theorem dX7_fitInto_17 : decode cX7_fitInto 17 = .ok (.bipush (-6), 2) := by decide +kernel
theorem dX7_fitInto_19 : decode cX7_fitInto 19 = .ok (.iastore, 1) := by decide +kernel
theorem dX7_fitInto_20 : decode cX7_fitInto 20 = .ok (.aload_n 0, 1) := by decide +kernel
theorem dX7_fitInto_21 : decode cX7_fitInto 21 = .ok (.getfield 15, 3) := by decide +kernel
theorem dX7_fitInto_24 : decode cX7_fitInto 24 = .ok (.iload_n 2, 1) := by decide +kernel
theorem dX7_fitInto_25 : decode cX7_fitInto 25 = .ok (.iaload, 1) := by decide +kernel
theorem dX7_fitInto_26 : decode cX7_fitInto 26 = .ok (.ifCond .ne 13, 3) := by decide +kernel
theorem dX7_fitInto_29 : decode cX7_fitInto 29 = .ok (.aload_n 0, 1) := by decide +kernel
theorem dX7_fitInto_30 : decode cX7_fitInto 30 = .ok (.iload_n 1, 1) := by decide +kernel
theorem dX7_fitInto_31 : decode cX7_fitInto 31 = .ok (.iload_n 2, 1) := by decide +kernel
theorem dX7_fitInto_32 : decode cX7_fitInto 32 = .ok (.iconst 1, 1) := by decide +kernel
theorem dX7_fitInto_33 : decode cX7_fitInto 33 = .ok (.iadd, 1) := by decide +kernel
theorem dX7_fitInto_34 : decode cX7_fitInto 34 = .ok (.iload_n 3, 1) := by decide +kernel
theorem dX7_fitInto_35 : decode cX7_fitInto 35 = .ok (.invokevirtual 46, 3) := by decide +kernel
theorem dX7_fitInto_38 : decode cX7_fitInto 38 = .ok (.ireturn, 1) := by decide +kernel
theorem dX7_spread_0 : decode cX7_spread 0 = .ok (.aload_n 0, 1) := by decide +kernel
theorem dX7_spread_1 : decode cX7_spread 1 = .ok (.invokevirtual 43, 3) := by decide +kernel
theorem dX7_spread_4 : decode cX7_spread 4 = .ok (.iconst 0, 1) := by decide +kernel
theorem dX7_spread_5 : decode cX7_spread 5 = .ok (.istore_n 1, 1) := by decide +kernel
theorem dX7_spread_6 : decode cX7_spread 6 = .ok (.iload_n 1, 1) := by decide +kernel
theorem dX7_spread_7 : decode cX7_spread 7 = .ok (.bipush 8, 2) := by decide +kernel
theorem dX7_spread_9 : decode cX7_spread 9 = .ok (.if_icmp .gt 21, 3) := by decide +kernel
theorem dX7_spread_12 : decode cX7_spread 12 = .ok (.aload_n 0, 1) := by decide +kernel
theorem dX7_spread_13 : decode cX7_spread 13 = .ok (.iload_n 1, 1) := by decide +kernel
theorem dX7_spread_14 : decode cX7_spread 14 = .ok (.iconst 0, 1) := by decide +kernel
theorem dX7_spread_15 : decode cX7_spread 15 = .ok (.iconst 0, 1) := by decide +kernel
theorem dX7_spread_16 : decode cX7_spread 16 = .ok (.invokevirtual 46, 3) := by decide +kernel
theorem dX7_spread_19 : decode cX7_spread 19 = .ok (.ifCond .eq 5, 3) := by decide +kernel
theorem dX7_spread_22 : decode cX7_spread 22 = .ok (.iload_n 1, 1) := by decide +kernel
theorem dX7_spread_23 : decode cX7_spread 23 = .ok (.ireturn, 1) := by decide +kernel
theorem dX7_columnOf_0 : decode cX7_columnOf 0 = .ok (.iload_n 1, 1) := by decide +kernel
theorem dX7_columnOf_1 : decode cX7_columnOf 1 = .ok (.invokestatic 50, 3) := by decide +kernel
theorem dX7_columnOf_4 : decode cX7_columnOf 4 = .ok (.ifCond .eq 12, 3) := by decide +kernel
theorem dX7_columnOf_7 : decode cX7_columnOf 7 = .ok (.aload_n 0, 1) := by decide +kernel
theorem dX7_columnOf_8 : decode cX7_columnOf 8 = .ok (.getfield 18, 3) := by decide +kernel
theorem dX7_columnOf_11 : decode cX7_columnOf 11 = .ok (.iload_n 1, 1) := by decide +kernel
theorem dX7_columnOf_12 : decode cX7_columnOf 12 = .ok (.iaload, 1) := by decide +kernel
theorem dX7_columnOf_13 : decode cX7_columnOf 13 = .ok (.goto 5, 3) := by decide +kernel
theorem dX7_columnOf_18 : decode cX7_columnOf 18 = .ok (.ireturn, 1) := by decide +kernel
theorem dX7_columnOf_16 : decode cX7_columnOf 16 = .ok (.bipush (-6), 2) := by decide +kernel
set_option maxHeartbeats 4000000 in
set_option maxRecDepth 100000 in
theorem c_findT (l : Launch) (dC : Nat → ClassId) (dI : Nat → Nat → Nat) (sz : Nat) (h0 : Nat) (a0 : Nat) (a1 : Nat) (w2 : Value) (w3 : Value) (w4 : Value) (ka0 : ClassId) (ka1 : ClassId)  : Met l yX7_findTogether (wq yX7_findTogether cX7_findTogether 3 none) ({ frames := 1, cells := 0, slots := 0, locals := 21 }) (va_Pc [.ref h0] (pcW dC dI [(ka0, .int), (ka1, .int)] [(h0, .inr (6, [.ref a0, .ref a1, w2, w3, w4])), (a0, .inl (ka0, 10, .inl (fun _ => 0))), (a1, .inl (ka1, 8, .inl (fun _ => 0)))] sz)) (va_Qv (fun _ : Unit => True) (fun _ t => va_P (dC, dI) vwCl [(h0, .inr (6, [.ref a0, .ref a1, w2, w3, w4])), (a0, .inl (ka0, 10, .inl (fun _ => 0))), (a1, .inl (ka1, 8, .inl (fun _ => 0)))] t.heap ∧ va_K (dC, dI) vwCl [(ka0, .int), (ka1, .int)] t ∧ va_D (va_A [(h0, .inr (6, [.ref a0, .ref a1, w2, w3, w4])), (a0, .inl (ka0, 10, .inl (fun _ => 0))), (a1, .inl (ka1, 8, .inl (fun _ => 0)))] sz) [(h0, .inr (6, [.ref a0, .ref a1, w2, w3, w4])), (a0, .inl (ka0, 10, .inl (fun _ => 0))), (a1, .inl (ka1, 8, .inl (fun _ => 0)))]) (va_A [(h0, .inr (6, [.ref a0, .ref a1, w2, w3, w4])), (a0, .inl (ka0, 10, .inl (fun _ => 0))), (a1, .inl (ka1, 8, .inl (fun _ => 0)))] sz)) 0 0 (va_A [(h0, .inr (6, [.ref a0, .ref a1, w2, w3, w4])), (a0, .inl (ka0, 10, .inl (fun _ => 0))), (a1, .inl (ka1, 8, .inl (fun _ => 0)))] sz) := by
  refine Met.ofW (cc := cX7_findTogether) (maxL := 3) (ret := none) (by decide) rfl ?_
  intro p e s m args below meth c s₁ B hml hv
  obtain ⟨rfl, hsz, hN, hP, hK, hD0⟩ := hv
  have hx := B.exec
  have hb := B.bytes
  have hr := B.returns
  have hts0 := atoms_spec (ws := (wq yX7_findTogether cX7_findTogether 3 none)) B.pre
  have hts : ∀ w ∈ BG, w.before _ s = true := fun w h => hts0 w (List.mem_cons_of_mem _ h)
  have hown : s.vm.findClass RX7 = some m.cls := findClass_of_methodNamed B.named
  have hlocks := B.notSynchronized
  subst hsz
  have hD := hD0.self (sz := s.heap.size)
  generalize hAe : va_A [(h0, .inr (6, [.ref a0, .ref a1, w2, w3, w4])), (a0, .inl (ka0, 10, .inl (fun _ => 0))), (a1, .inl (ka1, 8, .inl (fun _ => 0)))] s.heap.size = A at hD ⊢
  have hA : ∀ q : Nat, s.heap.size ≤ q → A q := fun q h => by rw [← hAe]; exact Or.inr h
  have hS : va_S A s.heap s.heap [] := va_S.rf
  have hP : va_P (dC, dI) vwCl [(h0, .inr (6, [.ref a0, .ref a1, w2, w3, w4])), (a0, .inl (ka0, 10, .inl (fun _ => 0))), (a1, .inl (ka1, 8, .inl (fun _ => 0)))] s.heap := hP
  have hl := lv_entry ([.ref h0]) (n := 3) (Nat.le_of_ble_eq_true rfl)
  rw [lg_entry_eq]
  generalize (lg_sl ([.ref h0]) ++ List.replicate (3 - (lg_sl ([.ref h0])).length) Slot.unset).toArray = ls at hl ⊢
  have hl : lv_has ls 3 [(0, .ref h0)] := hl
  skip
  refine lv_iconst (v := 0) hx hb dX7_findTogether_0 (by decide) ?_
  refine lv_istore_n (lv' := [(1, .int 0), (0, .ref h0)]) hx hb dX7_findTogether_1 rfl hl (by decide) rfl (fun ls hl => ?_)
  have key_1 : ∀ (n : Nat) (k : Nat), k ≤ 8 → 8 - k < n → ∀ (H : Heap) (locs : List Loc), va_P (dC, dI) vwCl [(h0, .inr (6, [.ref a0, .ref a1, w2, w3, w4])), (a0, .inl (ka0, 10, .inl (fun _ => 0))), (a1, .inl (ka1, 8, .inl (fun _ => 0)))] H → va_D A [(h0, .inr (6, [.ref a0, .ref a1, w2, w3, w4])), (a0, .inl (ka0, 10, .inl (fun _ => 0))), (a1, .inl (ka1, 8, .inl (fun _ => 0)))] → va_S A s.heap H locs → ∀ (ls : Array Slot), lv_has ls 3 [(1, .int (nI k)), (0, .ref h0)] → W p l e (headSpec (wq yX7_findTogether cX7_findTogether 3 none) ({ frames := 1, cells := 0, slots := 0, locals := 21 })).room s m (([.ref h0] : List Value)).toArray below meth c H locs 0 0 (MQ below (va_Qv (fun _ : Unit => True) (fun _ t => va_P (dC, dI) vwCl [(h0, .inr (6, [.ref a0, .ref a1, w2, w3, w4])), (a0, .inl (ka0, 10, .inl (fun _ => 0))), (a1, .inl (ka1, 8, .inl (fun _ => 0)))] t.heap ∧ va_K (dC, dI) vwCl [(ka0, .int), (ka1, .int)] t ∧ va_D A [(h0, .inr (6, [.ref a0, .ref a1, w2, w3, w4])), (a0, .inl (ka0, 10, .inl (fun _ => 0))), (a1, .inl (ka1, 8, .inl (fun _ => 0)))]) A) (([.ref h0] : List Value)).toArray s 0 0 A) (F0 m 2 ls []) := by
    intro n
    induction n with
    | zero => intro k hk hme; exact absurd hme (Nat.not_lt_zero _)
    | succ n ih_2 =>
      intro k hk hme H locs hP hD hS ls hl
      refine lv_iload_n hx hb dX7_findTogether_2 rfl (lv_at hl 0 rfl) ?_
      refine lv_bipush (v := 8) hx hb dX7_findTogether_3 (by decide) ?_
      refine lv_icmp_ge (tgt := 63) hx hb dX7_findTogether_5 (by decide) (fun c_3 => ?_) (fun c_3 => ?_)
      · have b_4 : k ≥ 8 := nz_ge (by omega) (by omega) c_3
        obtain rfl : k = 8 := by omega
        exact W.vret hx hb hr (fun t ht hW => ⟨⟨(), rfl, trivial, by rw [ht]; exact hP, va_K.moved hW.alike hK, hD⟩, hS.F ht⟩) hS.2.2 dX7_findTogether_63
      · have b_4 : ¬ (k ≥ 8) := nz_gen (by omega) (by omega) c_3
        refine lv_aload_n hx hb dX7_findTogether_8 rfl (lv_at hl 1 rfl) ?_
        refine va_get (D := (dC, dI)) (ci := 6) (v := .ref a1) (C := RX7) (T := TX7) (N := 5) hx hb hts inB_7 hown hK hP 0 rfl rfl 1 (by decide) (hts _ mw_1_128) (fun _ h9 => h9) rfl dX7_findTogether_9 ?_
        refine lv_iload_n hx hb dX7_findTogether_12 rfl (lv_at hl 0 rfl) ?_
        refine lv_iconst (v := 0) hx hb dX7_findTogether_13 (by decide) ?_
        refine va_iast hx hb hK hP hD hS 2 1 rfl rfl (show vp_in (nI k) 8 from vp_in_nI (by omega) (by omega)) dX7_findTogether_14 (fun H locs hP hD hS => ?_)
        rw [show upd (fun _ => 0) (Int32.toNatClampNeg (nI k)) 0 = (fun _ => 0) from upd_const _ _] at hP hD
        have hP : va_P (dC, dI) vwCl [(h0, .inr (6, [.ref a0, .ref a1, w2, w3, w4])), (a0, .inl (ka0, 10, .inl (fun _ => 0))), (a1, .inl (ka1, 8, .inl (fun _ => 0)))] H := hP
        have hD : va_D A [(h0, .inr (6, [.ref a0, .ref a1, w2, w3, w4])), (a0, .inl (ka0, 10, .inl (fun _ => 0))), (a1, .inl (ka1, 8, .inl (fun _ => 0)))] := hD
        refine lv_iconst (v := 0) hx hb dX7_findTogether_15 (by decide) ?_
        refine lv_istore_n (lv' := [(2, .int 0), (1, .int (nI k)), (0, .ref h0)]) hx hb dX7_findTogether_16 rfl hl (by decide) rfl (fun ls hl => ?_)
        have key_5 : ∀ (n : Nat) (j : Nat), j ≤ 10 → 10 - j < n → ∀ (H : Heap) (locs : List Loc), va_P (dC, dI) vwCl [(h0, .inr (6, [.ref a0, .ref a1, w2, w3, w4])), (a0, .inl (ka0, 10, .inl (fun _ => 0))), (a1, .inl (ka1, 8, .inl (fun _ => 0)))] H → va_D A [(h0, .inr (6, [.ref a0, .ref a1, w2, w3, w4])), (a0, .inl (ka0, 10, .inl (fun _ => 0))), (a1, .inl (ka1, 8, .inl (fun _ => 0)))] → va_S A s.heap H locs → ∀ (ls : Array Slot), lv_has ls 3 [(2, .int (nI j)), (1, .int (nI k)), (0, .ref h0)] → W p l e (headSpec (wq yX7_findTogether cX7_findTogether 3 none) ({ frames := 1, cells := 0, slots := 0, locals := 21 })).room s m (([.ref h0] : List Value)).toArray below meth c H locs 0 0 (MQ below (va_Qv (fun _ : Unit => True) (fun _ t => va_P (dC, dI) vwCl [(h0, .inr (6, [.ref a0, .ref a1, w2, w3, w4])), (a0, .inl (ka0, 10, .inl (fun _ => 0))), (a1, .inl (ka1, 8, .inl (fun _ => 0)))] t.heap ∧ va_K (dC, dI) vwCl [(ka0, .int), (ka1, .int)] t ∧ va_D A [(h0, .inr (6, [.ref a0, .ref a1, w2, w3, w4])), (a0, .inl (ka0, 10, .inl (fun _ => 0))), (a1, .inl (ka1, 8, .inl (fun _ => 0)))]) A) (([.ref h0] : List Value)).toArray s 0 0 A) (F0 m 17 ls []) := by
          intro n
          induction n with
          | zero => intro j hj hme; exact absurd hme (Nat.not_lt_zero _)
          | succ n ih_6 =>
            intro j hj hme H locs hP hD hS ls hl
            refine lv_iload_n hx hb dX7_findTogether_17 rfl (lv_at hl 0 rfl) ?_
            refine lv_bipush (v := 10) hx hb dX7_findTogether_18 (by decide) ?_
            refine lv_icmp_ge (tgt := 57) hx hb dX7_findTogether_20 (by decide) (fun c_7 => ?_) (fun c_7 => ?_)
            · have b_8 : j ≥ 10 := nz_ge (by omega) (by omega) c_7
              obtain rfl : j = 10 := by omega
              refine lv_iinc (v := (nI (k + 1))) (lv' := [(1, .int (nI (k + 1))), (2, .int (nI 10)), (0, .ref h0)]) hx hb dX7_findTogether_57 hl (k := 1) rfl (nI_1 _) (by decide) rfl (fun ls hl => ?_)
              refine lv_goto (tgt := 2) hx hb dX7_findTogether_60 (by decide) ?_
              exact ih_2 (k + 1) (by omega) (by omega) _ _ (by exact hP) (by exact hD) hS ls (by exact lv_sub hl [0, 2] rfl)
            · have b_8 : ¬ (j ≥ 10) := nz_gen (by omega) (by omega) c_7
              refine lv_iload_n hx hb dX7_findTogether_23 rfl (lv_at hl 1 rfl) ?_
              refine lv_aload_n hx hb dX7_findTogether_24 rfl (lv_at hl 2 rfl) ?_
              refine va_get (D := (dC, dI)) (ci := 6) (v := .ref a0) (C := RX7) (T := TX7) (N := 5) hx hb hts inB_7 hown hK hP 0 rfl rfl 0 (by decide) (hts _ mw_1_127) (fun _ h9 => h9) rfl dX7_findTogether_25 ?_
              refine lv_iload_n hx hb dX7_findTogether_28 rfl (lv_at hl 0 rfl) ?_
              refine va_iald hx hb hK hP 1 0 rfl rfl (show vp_in (nI j) 10 from vp_in_nI (by omega) (by omega)) dX7_findTogether_29 ?_
              refine hx_top (y := 0) rfl ?_
              have hPc := hP.sub (ws' := []) [] rfl
              have hDc := hD.sub (ws' := []) [] (by decide) rfl
              have hKc := hK.sub (tys' := []) [] rfl
              refine va_calli (va_runSN (As := [.int (nI k), .int 0]) (rest := []) ⟨hx, hb, hml, hown, hts⟩ (c_isIn0 l dC dI H.size (nI k)) ⟨va_cnB 2 hts (gN mw_2_15) rfl rfl rfl (hN (RX7, 62, yX8_isIn, RX8) (List.mem_of_getElem? (i := 11) rfl)) (hts _ mw_1_1) (by decide +kernel) ⟨Nat.le_of_ble_eq_true rfl, Nat.le_of_ble_eq_true rfl⟩, (hts _ mw_2_14), trivial⟩ ⟨pcW_blind, pcW_at hPc hKc hDc hN⟩ rfl rfl hl.1 rfl (lv_room (Nat.le_of_ble_eq_true rfl)) dX7_findTogether_30 ⟨Nat.le_of_ble_eq_true rfl, Nat.le_of_ble_eq_true rfl⟩) hS (fun q h1 h2 => absurd h2 (Nat.not_le.mpr h1)) (fun q h => hA q (Nat.le_trans hS.1 h)) (fun r_9 u t H1 locs ht hvm hw_9 hB hz1 hk1 hS => ?_)
              have hP := keepP hP hk1
              clear hz1 hk1 hB ht hvm hPc hDc hKc
              generalize H1 = H at hP hS ⊢
              obtain rfl : r_9 = 0 := hw_9
              refine lv_if_eq (tgt := 51) hx hb dX7_findTogether_33 (by decide) (fun _ => ?_) (fun h => absurd (by decide) h)
              refine lv_iinc (v := (nI (j + 1))) (lv' := [(2, .int (nI (j + 1))), (1, .int (nI k)), (0, .ref h0)]) hx hb dX7_findTogether_51 hl (k := 0) rfl (nI_1 _) (by decide) rfl (fun ls hl => ?_)
              refine lv_goto (tgt := 17) hx hb dX7_findTogether_54 (by decide) ?_
              exact ih_6 (j + 1) (by omega) (by omega) _ _ (by exact hP) (by exact hD) hS ls (by exact lv_sub hl [0, 1, 2] rfl)
        exact key_5 ((10 - 0) + 1) (0) (by omega) (Nat.lt_succ_self _) _ _ (by exact hP) (by exact hD) hS ls (lv_sub hl [0, 1, 2] rfl)
  exact key_1 ((8 - 0) + 1) (0) (by omega) (Nat.lt_succ_self _) _ _ (by exact hP) (by exact hD) hS ls (lv_sub hl [0, 1] rfl)
set_option maxHeartbeats 4000000 in
set_option maxRecDepth 100000 in
theorem c_fit8 (l : Launch) (dC : Nat → ClassId) (dI : Nat → Nat → Nat) (sz : Nat) (h0 : Nat) (w0 : Value) (a1 : Nat) (a2 : Nat) (w3 : Value) (w4 : Value) (ka1 : ClassId) (ka2 : ClassId)  : Met l yX7_fitInto (wq yX7_fitInto cX7_fitInto 5 (some .boolean)) ({ frames := 0, cells := 0, slots := 0, locals := 0 }) (va_Pc [.ref h0, .int 0, .int 8, .int 0] (pcW dC dI [(ka1, .int), (ka2, .int)] [(h0, .inr (6, [w0, .ref a1, .ref a2, w3, w4])), (a1, .inl (ka1, 8, .inl (fun _ => 0))), (a2, .inl (ka2, 8, .inl (slF (-6) 0 8)))] sz)) (va_Qi (fun (r : Int32) (_ : Unit) => r = 1) (fun _ t => va_P (dC, dI) vwCl [(h0, .inr (6, [w0, .ref a1, .ref a2, w3, w4])), (a1, .inl (ka1, 8, .inl (fun _ => 0))), (a2, .inl (ka2, 8, .inl (slF (-6) 0 8)))] t.heap ∧ va_K (dC, dI) vwCl [(ka1, .int), (ka2, .int)] t ∧ va_D (va_A [(h0, .inr (6, [w0, .ref a1, .ref a2, w3, w4])), (a1, .inl (ka1, 8, .inl (fun _ => 0))), (a2, .inl (ka2, 8, .inl (slF (-6) 0 8)))] sz) [(h0, .inr (6, [w0, .ref a1, .ref a2, w3, w4])), (a1, .inl (ka1, 8, .inl (fun _ => 0))), (a2, .inl (ka2, 8, .inl (slF (-6) 0 8)))]) (va_A [(h0, .inr (6, [w0, .ref a1, .ref a2, w3, w4])), (a1, .inl (ka1, 8, .inl (fun _ => 0))), (a2, .inl (ka2, 8, .inl (slF (-6) 0 8)))] sz)) 0 0 (va_A [(h0, .inr (6, [w0, .ref a1, .ref a2, w3, w4])), (a1, .inl (ka1, 8, .inl (fun _ => 0))), (a2, .inl (ka2, 8, .inl (slF (-6) 0 8)))] sz) := by
  refine Met.ofW (cc := cX7_fitInto) (maxL := 5) (ret := (some .boolean)) (by decide) rfl ?_
  intro p e s m args below meth c s₁ B hml hv
  obtain ⟨rfl, hsz, hN, hP, hK, hD0⟩ := hv
  have hx := B.exec
  have hb := B.bytes
  have hr := B.returns
  have hts0 := atoms_spec (ws := (wq yX7_fitInto cX7_fitInto 5 (some .boolean))) B.pre
  have hts : ∀ w ∈ BG, w.before _ s = true := fun w h => hts0 w (List.mem_cons_of_mem _ h)
  have hown : s.vm.findClass RX7 = some m.cls := findClass_of_methodNamed B.named
  have hlocks := B.notSynchronized
  subst hsz
  have hD := hD0.self (sz := s.heap.size)
  generalize hAe : va_A [(h0, .inr (6, [w0, .ref a1, .ref a2, w3, w4])), (a1, .inl (ka1, 8, .inl (fun _ => 0))), (a2, .inl (ka2, 8, .inl (slF (-6) 0 8)))] s.heap.size = A at hD ⊢
  have hA : ∀ q : Nat, s.heap.size ≤ q → A q := fun q h => by rw [← hAe]; exact Or.inr h
  have hS : va_S A s.heap s.heap [] := va_S.rf
  have hP : va_P (dC, dI) vwCl [(h0, .inr (6, [w0, .ref a1, .ref a2, w3, w4])), (a1, .inl (ka1, 8, .inl (fun _ => 0))), (a2, .inl (ka2, 8, .inl (slF (-6) 0 8)))] s.heap := hP
  have hl := lv_entry ([.ref h0, .int 0, .int 8, .int 0]) (n := 5) (Nat.le_of_ble_eq_true rfl)
  rw [lg_entry_eq]
  generalize (lg_sl ([.ref h0, .int 0, .int 8, .int 0]) ++ List.replicate (5 - (lg_sl ([.ref h0, .int 0, .int 8, .int 0])).length) Slot.unset).toArray = ls at hl ⊢
  have hl : lv_has ls 5 [(0, .ref h0), (1, .int 0), (2, .int 8), (3, .int 0)] := hl
  skip
  refine lv_iload_n hx hb dX7_fitInto_0 rfl (lv_at hl 2 rfl) ?_
  refine lv_if_lt (tgt := 10) hx hb dX7_fitInto_1 (by decide) (fun h => absurd h (by decide)) (fun _ => ?_)
  refine lv_iload_n hx hb dX7_fitInto_4 rfl (lv_at hl 2 rfl) ?_
  refine lv_bipush (v := 8) hx hb dX7_fitInto_5 (by decide) ?_
  refine lv_icmp_lt (tgt := 12) hx hb dX7_fitInto_7 (by decide) (fun h => absurd h (by decide)) (fun _ => ?_)
  refine lv_iconst (v := 1) hx hb dX7_fitInto_10 (by decide) ?_
  exact W.zret (v := 1) hx hb hr (by decide) (fun t ht hW => ⟨⟨1, (), rfl, rfl, by rw [ht]; exact hP, va_K.moved hW.alike hK, hD⟩, hS.F ht⟩) hS.2.2 dX7_fitInto_11
set_option maxHeartbeats 4000000 in
set_option maxRecDepth 100000 in
theorem c_fit7 (l : Launch) (dC : Nat → ClassId) (dI : Nat → Nat → Nat) (sz : Nat) (h0 : Nat) (w0 : Value) (a1 : Nat) (a2 : Nat) (w3 : Value) (w4 : Value) (ka1 : ClassId) (ka2 : ClassId)  : Met l yX7_fitInto (wq yX7_fitInto cX7_fitInto 5 (some .boolean)) ({ frames := 1, cells := 0, slots := 0, locals := 24 }) (va_Pc [.ref h0, .int 0, .int 7, .int 0] (pcW dC dI [(ka1, .int), (ka2, .int)] [(h0, .inr (6, [w0, .ref a1, .ref a2, w3, w4])), (a1, .inl (ka1, 8, .inl (fun _ => 0))), (a2, .inl (ka2, 8, .inl (slF (-6) 0 7)))] sz)) (va_Qi (fun (r : Int32) (_ : Unit) => r = 1) (fun _ t => va_P (dC, dI) vwCl [(h0, .inr (6, [w0, .ref a1, .ref a2, w3, w4])), (a1, .inl (ka1, 8, .inl (fun _ => 0))), (a2, .inl (ka2, 8, .inl (slF (-6) 0 8)))] t.heap ∧ va_K (dC, dI) vwCl [(ka1, .int), (ka2, .int)] t ∧ va_D (va_A [(h0, .inr (6, [w0, .ref a1, .ref a2, w3, w4])), (a1, .inl (ka1, 8, .inl (fun _ => 0))), (a2, .inl (ka2, 8, .inl (slF (-6) 0 7)))] sz) [(h0, .inr (6, [w0, .ref a1, .ref a2, w3, w4])), (a1, .inl (ka1, 8, .inl (fun _ => 0))), (a2, .inl (ka2, 8, .inl (slF (-6) 0 8)))]) (va_A [(h0, .inr (6, [w0, .ref a1, .ref a2, w3, w4])), (a1, .inl (ka1, 8, .inl (fun _ => 0))), (a2, .inl (ka2, 8, .inl (slF (-6) 0 7)))] sz)) 0 0 (va_A [(h0, .inr (6, [w0, .ref a1, .ref a2, w3, w4])), (a1, .inl (ka1, 8, .inl (fun _ => 0))), (a2, .inl (ka2, 8, .inl (slF (-6) 0 7)))] sz) := by
  refine Met.ofW (cc := cX7_fitInto) (maxL := 5) (ret := (some .boolean)) (by decide) rfl ?_
  intro p e s m args below meth c s₁ B hml hv
  obtain ⟨rfl, hsz, hN, hP, hK, hD0⟩ := hv
  have hx := B.exec
  have hb := B.bytes
  have hr := B.returns
  have hts0 := atoms_spec (ws := (wq yX7_fitInto cX7_fitInto 5 (some .boolean))) B.pre
  have hts : ∀ w ∈ BG, w.before _ s = true := fun w h => hts0 w (List.mem_cons_of_mem _ h)
  have hown : s.vm.findClass RX7 = some m.cls := findClass_of_methodNamed B.named
  have hlocks := B.notSynchronized
  subst hsz
  have hD := hD0.self (sz := s.heap.size)
  generalize hAe : va_A [(h0, .inr (6, [w0, .ref a1, .ref a2, w3, w4])), (a1, .inl (ka1, 8, .inl (fun _ => 0))), (a2, .inl (ka2, 8, .inl (slF (-6) 0 7)))] s.heap.size = A at hD ⊢
  have hA : ∀ q : Nat, s.heap.size ≤ q → A q := fun q h => by rw [← hAe]; exact Or.inr h
  have hS : va_S A s.heap s.heap [] := va_S.rf
  have hP : va_P (dC, dI) vwCl [(h0, .inr (6, [w0, .ref a1, .ref a2, w3, w4])), (a1, .inl (ka1, 8, .inl (fun _ => 0))), (a2, .inl (ka2, 8, .inl (slF (-6) 0 7)))] s.heap := hP
  have hl := lv_entry ([.ref h0, .int 0, .int 7, .int 0]) (n := 5) (Nat.le_of_ble_eq_true rfl)
  rw [lg_entry_eq]
  generalize (lg_sl ([.ref h0, .int 0, .int 7, .int 0]) ++ List.replicate (5 - (lg_sl ([.ref h0, .int 0, .int 7, .int 0])).length) Slot.unset).toArray = ls at hl ⊢
  have hl : lv_has ls 5 [(0, .ref h0), (1, .int 0), (2, .int 7), (3, .int 0)] := hl
  skip
  refine lv_iload_n hx hb dX7_fitInto_0 rfl (lv_at hl 2 rfl) ?_
  refine lv_if_lt (tgt := 10) hx hb dX7_fitInto_1 (by decide) (fun h => absurd h (by decide)) (fun _ => ?_)
  refine lv_iload_n hx hb dX7_fitInto_4 rfl (lv_at hl 2 rfl) ?_
  refine lv_bipush (v := 8) hx hb dX7_fitInto_5 (by decide) ?_
  refine lv_icmp_lt (tgt := 12) hx hb dX7_fitInto_7 (by decide) (fun _ => ?_) (fun h => absurd (by decide) h)
  refine lv_aload_n hx hb dX7_fitInto_12 rfl (lv_at hl 0 rfl) ?_
  refine va_get (D := (dC, dI)) (ci := 6) (v := .ref a2) (C := RX7) (T := TX7) (N := 5) hx hb hts inB_7 hown hK hP 0 rfl rfl 2 (by decide) (hts _ mw_1_129) (fun _ h9 => h9) rfl dX7_fitInto_13 ?_
  refine lv_iload_n hx hb dX7_fitInto_16 rfl (lv_at hl 2 rfl) ?_
  refine lv_bipush (v := (-6)) hx hb dX7_fitInto_17 (by decide) ?_
  refine va_iast hx hb hK hP hD hS 2 1 rfl rfl (show vp_in 7 8 by unfold vp_in; decide) dX7_fitInto_19 (fun H locs hP hD hS => ?_)
  rw [show upd (slF (-6) 0 7) (Int32.toNatClampNeg 7) (-6) = (slF (-6) 0 8) from slF_u _ _ 7] at hP hD
  have hP : va_P (dC, dI) vwCl [(h0, .inr (6, [w0, .ref a1, .ref a2, w3, w4])), (a1, .inl (ka1, 8, .inl (fun _ => 0))), (a2, .inl (ka2, 8, .inl (slF (-6) 0 8)))] H := hP
  have hD : va_D A [(h0, .inr (6, [w0, .ref a1, .ref a2, w3, w4])), (a1, .inl (ka1, 8, .inl (fun _ => 0))), (a2, .inl (ka2, 8, .inl (slF (-6) 0 8)))] := hD
  refine lv_aload_n hx hb dX7_fitInto_20 rfl (lv_at hl 0 rfl) ?_
  refine va_get (D := (dC, dI)) (ci := 6) (v := .ref a1) (C := RX7) (T := TX7) (N := 5) hx hb hts inB_7 hown hK hP 0 rfl rfl 1 (by decide) (hts _ mw_1_128) (fun _ h9 => h9) rfl dX7_fitInto_21 ?_
  refine lv_iload_n hx hb dX7_fitInto_24 rfl (lv_at hl 2 rfl) ?_
  refine va_iald hx hb hK hP 1 0 rfl rfl (show vp_in 7 8 by unfold vp_in; decide) dX7_fitInto_25 ?_
  refine hx_top (y := 0) rfl ?_
  refine lv_if_ne (tgt := 39) hx hb dX7_fitInto_26 (by decide) (fun h => absurd h (by decide)) (fun _ => ?_)
  refine lv_aload_n hx hb dX7_fitInto_29 rfl (lv_at hl 0 rfl) ?_
  refine lv_iload_n hx hb dX7_fitInto_30 rfl (lv_at hl 1 rfl) ?_
  refine lv_iload_n hx hb dX7_fitInto_31 rfl (lv_at hl 2 rfl) ?_
  refine lv_iconst (v := 1) hx hb dX7_fitInto_32 (by decide) ?_
  refine lv_iadd hx hb dX7_fitInto_33 ?_
  refine hx_top (y := 8) (by decide) ?_
  refine lv_iload_n hx hb dX7_fitInto_34 rfl (lv_at hl 3 rfl) ?_
  have hPc := hP.sub (ws' := [(h0, .inr (6, [w0, .ref a1, .ref a2, w3, w4])), (a1, .inl (ka1, 8, .inl (fun _ => 0))), (a2, .inl (ka2, 8, .inl (slF (-6) 0 8)))]) [0, 1, 2] rfl
  have hDc := hD.sub (ws' := [(h0, .inr (6, [w0, .ref a1, .ref a2, w3, w4])), (a1, .inl (ka1, 8, .inl (fun _ => 0))), (a2, .inl (ka2, 8, .inl (slF (-6) 0 8)))]) [0, 1, 2] (by decide) rfl
  have hKc := hK.sub (tys' := [(ka1, .int), (ka2, .int)]) [0, 1] rfl
  have hFc := va_free (wc := [(h0, .inr (6, [w0, .ref a1, .ref a2, w3, w4])), (a1, .inl (ka1, 8, .inl (fun _ => 0))), (a2, .inl (ka2, 8, .inl (slF (-6) 0 8)))]) hD hS hA [0, 1, 2] rfl
  refine va_calli (va_runV (As := [.int 0, .int 8, .int 0]) (rest := []) ⟨hx, hb, hml, hown, hts⟩ (c_fit8 l dC dI H.size h0 (w0) a1 a2 (w3) (w4) ka1 ka2) (cwV 3 hts (gV mw_3_26 mw_3_28 mw_0_7 mw_1_7 mw_3_29) rfl rfl rfl (by decide +kernel) ⟨Nat.le_of_ble_eq_true rfl, Nat.le_of_ble_eq_true rfl⟩) ⟨pcW_blind, va_recv hKc hPc (ci := 6) (q0 := 0) rfl rfl, pcW_at hPc hKc hDc hN⟩ rfl rfl hl.1 rfl (lv_room (Nat.le_of_ble_eq_true rfl)) dX7_fitInto_35 ⟨Nat.le_of_ble_eq_true rfl, Nat.le_of_ble_eq_true rfl⟩) hS (fun q _ h => hFc q h) hFc (fun r_1 u t H1 locs ht hvm hw_1 hB hz1 hk1 hS => ?_)
  obtain ⟨hP1, hK1, hD1⟩ := hB
  rw [ht] at hP1
  have hK1 := va_K.moved hvm.symm hK1
  obtain ⟨hP, hD⟩ := va_join (wr := []) (w1 := [(h0, .inr (6, [w0, .ref a1, .ref a2, w3, w4])), (a1, .inl (ka1, 8, .inl (fun _ => 0))), (a2, .inl (ka2, 8, .inl (slF (-6) 0 8)))]) hP hD [0, 1, 2] [] rfl rfl (by decide) (by decide) hk1 hFc hP1 hD1
  have hK := (hK.sub (tys' := []) [] rfl).app hK1
  clear hz1 hk1 hPc hDc hKc hFc
  generalize H1 = H at hP hS ⊢
  have hK : va_K (dC, dI) vwCl [(ka1, .int), (ka2, .int)] s := hK
  have hP : va_P (dC, dI) vwCl [(h0, .inr (6, [w0, .ref a1, .ref a2, w3, w4])), (a1, .inl (ka1, 8, .inl (fun _ => 0))), (a2, .inl (ka2, 8, .inl (slF (-6) 0 8)))] H := hP
  have hD : va_D A [(h0, .inr (6, [w0, .ref a1, .ref a2, w3, w4])), (a1, .inl (ka1, 8, .inl (fun _ => 0))), (a2, .inl (ka2, 8, .inl (slF (-6) 0 8)))] := hD
  obtain rfl : r_1 = 1 := hw_1
  exact W.zret (v := 1) hx hb hr (by decide) (fun t ht hW => ⟨⟨1, (), rfl, rfl, by rw [ht]; exact hP, va_K.moved hW.alike hK, hD⟩, hS.F ht⟩) hS.2.2 dX7_fitInto_38
set_option maxHeartbeats 4000000 in
set_option maxRecDepth 100000 in
theorem c_fit6 (l : Launch) (dC : Nat → ClassId) (dI : Nat → Nat → Nat) (sz : Nat) (h0 : Nat) (w0 : Value) (a1 : Nat) (a2 : Nat) (w3 : Value) (w4 : Value) (ka1 : ClassId) (ka2 : ClassId)  : Met l yX7_fitInto (wq yX7_fitInto cX7_fitInto 5 (some .boolean)) ({ frames := 2, cells := 0, slots := 0, locals := 48 }) (va_Pc [.ref h0, .int 0, .int 6, .int 0] (pcW dC dI [(ka1, .int), (ka2, .int)] [(h0, .inr (6, [w0, .ref a1, .ref a2, w3, w4])), (a1, .inl (ka1, 8, .inl (fun _ => 0))), (a2, .inl (ka2, 8, .inl (slF (-6) 0 6)))] sz)) (va_Qi (fun (r : Int32) (_ : Unit) => r = 1) (fun _ t => va_P (dC, dI) vwCl [(h0, .inr (6, [w0, .ref a1, .ref a2, w3, w4])), (a1, .inl (ka1, 8, .inl (fun _ => 0))), (a2, .inl (ka2, 8, .inl (slF (-6) 0 8)))] t.heap ∧ va_K (dC, dI) vwCl [(ka1, .int), (ka2, .int)] t ∧ va_D (va_A [(h0, .inr (6, [w0, .ref a1, .ref a2, w3, w4])), (a1, .inl (ka1, 8, .inl (fun _ => 0))), (a2, .inl (ka2, 8, .inl (slF (-6) 0 6)))] sz) [(h0, .inr (6, [w0, .ref a1, .ref a2, w3, w4])), (a1, .inl (ka1, 8, .inl (fun _ => 0))), (a2, .inl (ka2, 8, .inl (slF (-6) 0 8)))]) (va_A [(h0, .inr (6, [w0, .ref a1, .ref a2, w3, w4])), (a1, .inl (ka1, 8, .inl (fun _ => 0))), (a2, .inl (ka2, 8, .inl (slF (-6) 0 6)))] sz)) 0 0 (va_A [(h0, .inr (6, [w0, .ref a1, .ref a2, w3, w4])), (a1, .inl (ka1, 8, .inl (fun _ => 0))), (a2, .inl (ka2, 8, .inl (slF (-6) 0 6)))] sz) := by
  refine Met.ofW (cc := cX7_fitInto) (maxL := 5) (ret := (some .boolean)) (by decide) rfl ?_
  intro p e s m args below meth c s₁ B hml hv
  obtain ⟨rfl, hsz, hN, hP, hK, hD0⟩ := hv
  have hx := B.exec
  have hb := B.bytes
  have hr := B.returns
  have hts0 := atoms_spec (ws := (wq yX7_fitInto cX7_fitInto 5 (some .boolean))) B.pre
  have hts : ∀ w ∈ BG, w.before _ s = true := fun w h => hts0 w (List.mem_cons_of_mem _ h)
  have hown : s.vm.findClass RX7 = some m.cls := findClass_of_methodNamed B.named
  have hlocks := B.notSynchronized
  subst hsz
  have hD := hD0.self (sz := s.heap.size)
  generalize hAe : va_A [(h0, .inr (6, [w0, .ref a1, .ref a2, w3, w4])), (a1, .inl (ka1, 8, .inl (fun _ => 0))), (a2, .inl (ka2, 8, .inl (slF (-6) 0 6)))] s.heap.size = A at hD ⊢
  have hA : ∀ q : Nat, s.heap.size ≤ q → A q := fun q h => by rw [← hAe]; exact Or.inr h
  have hS : va_S A s.heap s.heap [] := va_S.rf
  have hP : va_P (dC, dI) vwCl [(h0, .inr (6, [w0, .ref a1, .ref a2, w3, w4])), (a1, .inl (ka1, 8, .inl (fun _ => 0))), (a2, .inl (ka2, 8, .inl (slF (-6) 0 6)))] s.heap := hP
  have hl := lv_entry ([.ref h0, .int 0, .int 6, .int 0]) (n := 5) (Nat.le_of_ble_eq_true rfl)
  rw [lg_entry_eq]
  generalize (lg_sl ([.ref h0, .int 0, .int 6, .int 0]) ++ List.replicate (5 - (lg_sl ([.ref h0, .int 0, .int 6, .int 0])).length) Slot.unset).toArray = ls at hl ⊢
  have hl : lv_has ls 5 [(0, .ref h0), (1, .int 0), (2, .int 6), (3, .int 0)] := hl
  skip
  refine lv_iload_n hx hb dX7_fitInto_0 rfl (lv_at hl 2 rfl) ?_
  refine lv_if_lt (tgt := 10) hx hb dX7_fitInto_1 (by decide) (fun h => absurd h (by decide)) (fun _ => ?_)
  refine lv_iload_n hx hb dX7_fitInto_4 rfl (lv_at hl 2 rfl) ?_
  refine lv_bipush (v := 8) hx hb dX7_fitInto_5 (by decide) ?_
  refine lv_icmp_lt (tgt := 12) hx hb dX7_fitInto_7 (by decide) (fun _ => ?_) (fun h => absurd (by decide) h)
  refine lv_aload_n hx hb dX7_fitInto_12 rfl (lv_at hl 0 rfl) ?_
  refine va_get (D := (dC, dI)) (ci := 6) (v := .ref a2) (C := RX7) (T := TX7) (N := 5) hx hb hts inB_7 hown hK hP 0 rfl rfl 2 (by decide) (hts _ mw_1_129) (fun _ h9 => h9) rfl dX7_fitInto_13 ?_
  refine lv_iload_n hx hb dX7_fitInto_16 rfl (lv_at hl 2 rfl) ?_
  refine lv_bipush (v := (-6)) hx hb dX7_fitInto_17 (by decide) ?_
  refine va_iast hx hb hK hP hD hS 2 1 rfl rfl (show vp_in 6 8 by unfold vp_in; decide) dX7_fitInto_19 (fun H locs hP hD hS => ?_)
  rw [show upd (slF (-6) 0 6) (Int32.toNatClampNeg 6) (-6) = (slF (-6) 0 7) from slF_u _ _ 6] at hP hD
  have hP : va_P (dC, dI) vwCl [(h0, .inr (6, [w0, .ref a1, .ref a2, w3, w4])), (a1, .inl (ka1, 8, .inl (fun _ => 0))), (a2, .inl (ka2, 8, .inl (slF (-6) 0 7)))] H := hP
  have hD : va_D A [(h0, .inr (6, [w0, .ref a1, .ref a2, w3, w4])), (a1, .inl (ka1, 8, .inl (fun _ => 0))), (a2, .inl (ka2, 8, .inl (slF (-6) 0 7)))] := hD
  refine lv_aload_n hx hb dX7_fitInto_20 rfl (lv_at hl 0 rfl) ?_
  refine va_get (D := (dC, dI)) (ci := 6) (v := .ref a1) (C := RX7) (T := TX7) (N := 5) hx hb hts inB_7 hown hK hP 0 rfl rfl 1 (by decide) (hts _ mw_1_128) (fun _ h9 => h9) rfl dX7_fitInto_21 ?_
  refine lv_iload_n hx hb dX7_fitInto_24 rfl (lv_at hl 2 rfl) ?_
  refine va_iald hx hb hK hP 1 0 rfl rfl (show vp_in 6 8 by unfold vp_in; decide) dX7_fitInto_25 ?_
  refine hx_top (y := 0) rfl ?_
  refine lv_if_ne (tgt := 39) hx hb dX7_fitInto_26 (by decide) (fun h => absurd h (by decide)) (fun _ => ?_)
  refine lv_aload_n hx hb dX7_fitInto_29 rfl (lv_at hl 0 rfl) ?_
  refine lv_iload_n hx hb dX7_fitInto_30 rfl (lv_at hl 1 rfl) ?_
  refine lv_iload_n hx hb dX7_fitInto_31 rfl (lv_at hl 2 rfl) ?_
  refine lv_iconst (v := 1) hx hb dX7_fitInto_32 (by decide) ?_
  refine lv_iadd hx hb dX7_fitInto_33 ?_
  refine hx_top (y := 7) (by decide) ?_
  refine lv_iload_n hx hb dX7_fitInto_34 rfl (lv_at hl 3 rfl) ?_
  have hPc := hP.sub (ws' := [(h0, .inr (6, [w0, .ref a1, .ref a2, w3, w4])), (a1, .inl (ka1, 8, .inl (fun _ => 0))), (a2, .inl (ka2, 8, .inl (slF (-6) 0 7)))]) [0, 1, 2] rfl
  have hDc := hD.sub (ws' := [(h0, .inr (6, [w0, .ref a1, .ref a2, w3, w4])), (a1, .inl (ka1, 8, .inl (fun _ => 0))), (a2, .inl (ka2, 8, .inl (slF (-6) 0 7)))]) [0, 1, 2] (by decide) rfl
  have hKc := hK.sub (tys' := [(ka1, .int), (ka2, .int)]) [0, 1] rfl
  have hFc := va_free (wc := [(h0, .inr (6, [w0, .ref a1, .ref a2, w3, w4])), (a1, .inl (ka1, 8, .inl (fun _ => 0))), (a2, .inl (ka2, 8, .inl (slF (-6) 0 7)))]) hD hS hA [0, 1, 2] rfl
  refine va_calli (va_runV (As := [.int 0, .int 7, .int 0]) (rest := []) ⟨hx, hb, hml, hown, hts⟩ (c_fit7 l dC dI H.size h0 (w0) a1 a2 (w3) (w4) ka1 ka2) (cwV 3 hts (gV mw_3_26 mw_3_28 mw_0_7 mw_1_7 mw_3_29) rfl rfl rfl (by decide +kernel) ⟨Nat.le_of_ble_eq_true rfl, Nat.le_of_ble_eq_true rfl⟩) ⟨pcW_blind, va_recv hKc hPc (ci := 6) (q0 := 0) rfl rfl, pcW_at hPc hKc hDc hN⟩ rfl rfl hl.1 rfl (lv_room (Nat.le_of_ble_eq_true rfl)) dX7_fitInto_35 ⟨Nat.le_of_ble_eq_true rfl, Nat.le_of_ble_eq_true rfl⟩) hS (fun q _ h => hFc q h) hFc (fun r_1 u t H1 locs ht hvm hw_1 hB hz1 hk1 hS => ?_)
  obtain ⟨hP1, hK1, hD1⟩ := hB
  rw [ht] at hP1
  have hK1 := va_K.moved hvm.symm hK1
  obtain ⟨hP, hD⟩ := va_join (wr := []) (w1 := [(h0, .inr (6, [w0, .ref a1, .ref a2, w3, w4])), (a1, .inl (ka1, 8, .inl (fun _ => 0))), (a2, .inl (ka2, 8, .inl (slF (-6) 0 8)))]) hP hD [0, 1, 2] [] rfl rfl (by decide) (by decide) hk1 hFc hP1 hD1
  have hK := (hK.sub (tys' := []) [] rfl).app hK1
  clear hz1 hk1 hPc hDc hKc hFc
  generalize H1 = H at hP hS ⊢
  have hK : va_K (dC, dI) vwCl [(ka1, .int), (ka2, .int)] s := hK
  have hP : va_P (dC, dI) vwCl [(h0, .inr (6, [w0, .ref a1, .ref a2, w3, w4])), (a1, .inl (ka1, 8, .inl (fun _ => 0))), (a2, .inl (ka2, 8, .inl (slF (-6) 0 8)))] H := hP
  have hD : va_D A [(h0, .inr (6, [w0, .ref a1, .ref a2, w3, w4])), (a1, .inl (ka1, 8, .inl (fun _ => 0))), (a2, .inl (ka2, 8, .inl (slF (-6) 0 8)))] := hD
  obtain rfl : r_1 = 1 := hw_1
  exact W.zret (v := 1) hx hb hr (by decide) (fun t ht hW => ⟨⟨1, (), rfl, rfl, by rw [ht]; exact hP, va_K.moved hW.alike hK, hD⟩, hS.F ht⟩) hS.2.2 dX7_fitInto_38
set_option maxHeartbeats 4000000 in
set_option maxRecDepth 100000 in
theorem c_fit5 (l : Launch) (dC : Nat → ClassId) (dI : Nat → Nat → Nat) (sz : Nat) (h0 : Nat) (w0 : Value) (a1 : Nat) (a2 : Nat) (w3 : Value) (w4 : Value) (ka1 : ClassId) (ka2 : ClassId)  : Met l yX7_fitInto (wq yX7_fitInto cX7_fitInto 5 (some .boolean)) ({ frames := 3, cells := 0, slots := 0, locals := 72 }) (va_Pc [.ref h0, .int 0, .int 5, .int 0] (pcW dC dI [(ka1, .int), (ka2, .int)] [(h0, .inr (6, [w0, .ref a1, .ref a2, w3, w4])), (a1, .inl (ka1, 8, .inl (fun _ => 0))), (a2, .inl (ka2, 8, .inl (slF (-6) 0 5)))] sz)) (va_Qi (fun (r : Int32) (_ : Unit) => r = 1) (fun _ t => va_P (dC, dI) vwCl [(h0, .inr (6, [w0, .ref a1, .ref a2, w3, w4])), (a1, .inl (ka1, 8, .inl (fun _ => 0))), (a2, .inl (ka2, 8, .inl (slF (-6) 0 8)))] t.heap ∧ va_K (dC, dI) vwCl [(ka1, .int), (ka2, .int)] t ∧ va_D (va_A [(h0, .inr (6, [w0, .ref a1, .ref a2, w3, w4])), (a1, .inl (ka1, 8, .inl (fun _ => 0))), (a2, .inl (ka2, 8, .inl (slF (-6) 0 5)))] sz) [(h0, .inr (6, [w0, .ref a1, .ref a2, w3, w4])), (a1, .inl (ka1, 8, .inl (fun _ => 0))), (a2, .inl (ka2, 8, .inl (slF (-6) 0 8)))]) (va_A [(h0, .inr (6, [w0, .ref a1, .ref a2, w3, w4])), (a1, .inl (ka1, 8, .inl (fun _ => 0))), (a2, .inl (ka2, 8, .inl (slF (-6) 0 5)))] sz)) 0 0 (va_A [(h0, .inr (6, [w0, .ref a1, .ref a2, w3, w4])), (a1, .inl (ka1, 8, .inl (fun _ => 0))), (a2, .inl (ka2, 8, .inl (slF (-6) 0 5)))] sz) := by
  refine Met.ofW (cc := cX7_fitInto) (maxL := 5) (ret := (some .boolean)) (by decide) rfl ?_
  intro p e s m args below meth c s₁ B hml hv
  obtain ⟨rfl, hsz, hN, hP, hK, hD0⟩ := hv
  have hx := B.exec
  have hb := B.bytes
  have hr := B.returns
  have hts0 := atoms_spec (ws := (wq yX7_fitInto cX7_fitInto 5 (some .boolean))) B.pre
  have hts : ∀ w ∈ BG, w.before _ s = true := fun w h => hts0 w (List.mem_cons_of_mem _ h)
  have hown : s.vm.findClass RX7 = some m.cls := findClass_of_methodNamed B.named
  have hlocks := B.notSynchronized
  subst hsz
  have hD := hD0.self (sz := s.heap.size)
  generalize hAe : va_A [(h0, .inr (6, [w0, .ref a1, .ref a2, w3, w4])), (a1, .inl (ka1, 8, .inl (fun _ => 0))), (a2, .inl (ka2, 8, .inl (slF (-6) 0 5)))] s.heap.size = A at hD ⊢
  have hA : ∀ q : Nat, s.heap.size ≤ q → A q := fun q h => by rw [← hAe]; exact Or.inr h
  have hS : va_S A s.heap s.heap [] := va_S.rf
  have hP : va_P (dC, dI) vwCl [(h0, .inr (6, [w0, .ref a1, .ref a2, w3, w4])), (a1, .inl (ka1, 8, .inl (fun _ => 0))), (a2, .inl (ka2, 8, .inl (slF (-6) 0 5)))] s.heap := hP
  have hl := lv_entry ([.ref h0, .int 0, .int 5, .int 0]) (n := 5) (Nat.le_of_ble_eq_true rfl)
  rw [lg_entry_eq]
  generalize (lg_sl ([.ref h0, .int 0, .int 5, .int 0]) ++ List.replicate (5 - (lg_sl ([.ref h0, .int 0, .int 5, .int 0])).length) Slot.unset).toArray = ls at hl ⊢
  have hl : lv_has ls 5 [(0, .ref h0), (1, .int 0), (2, .int 5), (3, .int 0)] := hl
  skip
  refine lv_iload_n hx hb dX7_fitInto_0 rfl (lv_at hl 2 rfl) ?_
  refine lv_if_lt (tgt := 10) hx hb dX7_fitInto_1 (by decide) (fun h => absurd h (by decide)) (fun _ => ?_)
  refine lv_iload_n hx hb dX7_fitInto_4 rfl (lv_at hl 2 rfl) ?_
  refine lv_bipush (v := 8) hx hb dX7_fitInto_5 (by decide) ?_
  refine lv_icmp_lt (tgt := 12) hx hb dX7_fitInto_7 (by decide) (fun _ => ?_) (fun h => absurd (by decide) h)
  refine lv_aload_n hx hb dX7_fitInto_12 rfl (lv_at hl 0 rfl) ?_
  refine va_get (D := (dC, dI)) (ci := 6) (v := .ref a2) (C := RX7) (T := TX7) (N := 5) hx hb hts inB_7 hown hK hP 0 rfl rfl 2 (by decide) (hts _ mw_1_129) (fun _ h9 => h9) rfl dX7_fitInto_13 ?_
  refine lv_iload_n hx hb dX7_fitInto_16 rfl (lv_at hl 2 rfl) ?_
  refine lv_bipush (v := (-6)) hx hb dX7_fitInto_17 (by decide) ?_
  refine va_iast hx hb hK hP hD hS 2 1 rfl rfl (show vp_in 5 8 by unfold vp_in; decide) dX7_fitInto_19 (fun H locs hP hD hS => ?_)
  rw [show upd (slF (-6) 0 5) (Int32.toNatClampNeg 5) (-6) = (slF (-6) 0 6) from slF_u _ _ 5] at hP hD
  have hP : va_P (dC, dI) vwCl [(h0, .inr (6, [w0, .ref a1, .ref a2, w3, w4])), (a1, .inl (ka1, 8, .inl (fun _ => 0))), (a2, .inl (ka2, 8, .inl (slF (-6) 0 6)))] H := hP
  have hD : va_D A [(h0, .inr (6, [w0, .ref a1, .ref a2, w3, w4])), (a1, .inl (ka1, 8, .inl (fun _ => 0))), (a2, .inl (ka2, 8, .inl (slF (-6) 0 6)))] := hD
  refine lv_aload_n hx hb dX7_fitInto_20 rfl (lv_at hl 0 rfl) ?_
  refine va_get (D := (dC, dI)) (ci := 6) (v := .ref a1) (C := RX7) (T := TX7) (N := 5) hx hb hts inB_7 hown hK hP 0 rfl rfl 1 (by decide) (hts _ mw_1_128) (fun _ h9 => h9) rfl dX7_fitInto_21 ?_
  refine lv_iload_n hx hb dX7_fitInto_24 rfl (lv_at hl 2 rfl) ?_
  refine va_iald hx hb hK hP 1 0 rfl rfl (show vp_in 5 8 by unfold vp_in; decide) dX7_fitInto_25 ?_
  refine hx_top (y := 0) rfl ?_
  refine lv_if_ne (tgt := 39) hx hb dX7_fitInto_26 (by decide) (fun h => absurd h (by decide)) (fun _ => ?_)
  refine lv_aload_n hx hb dX7_fitInto_29 rfl (lv_at hl 0 rfl) ?_
  refine lv_iload_n hx hb dX7_fitInto_30 rfl (lv_at hl 1 rfl) ?_
  refine lv_iload_n hx hb dX7_fitInto_31 rfl (lv_at hl 2 rfl) ?_
  refine lv_iconst (v := 1) hx hb dX7_fitInto_32 (by decide) ?_
  refine lv_iadd hx hb dX7_fitInto_33 ?_
  refine hx_top (y := 6) (by decide) ?_
  refine lv_iload_n hx hb dX7_fitInto_34 rfl (lv_at hl 3 rfl) ?_
  have hPc := hP.sub (ws' := [(h0, .inr (6, [w0, .ref a1, .ref a2, w3, w4])), (a1, .inl (ka1, 8, .inl (fun _ => 0))), (a2, .inl (ka2, 8, .inl (slF (-6) 0 6)))]) [0, 1, 2] rfl
  have hDc := hD.sub (ws' := [(h0, .inr (6, [w0, .ref a1, .ref a2, w3, w4])), (a1, .inl (ka1, 8, .inl (fun _ => 0))), (a2, .inl (ka2, 8, .inl (slF (-6) 0 6)))]) [0, 1, 2] (by decide) rfl
  have hKc := hK.sub (tys' := [(ka1, .int), (ka2, .int)]) [0, 1] rfl
  have hFc := va_free (wc := [(h0, .inr (6, [w0, .ref a1, .ref a2, w3, w4])), (a1, .inl (ka1, 8, .inl (fun _ => 0))), (a2, .inl (ka2, 8, .inl (slF (-6) 0 6)))]) hD hS hA [0, 1, 2] rfl
  refine va_calli (va_runV (As := [.int 0, .int 6, .int 0]) (rest := []) ⟨hx, hb, hml, hown, hts⟩ (c_fit6 l dC dI H.size h0 (w0) a1 a2 (w3) (w4) ka1 ka2) (cwV 3 hts (gV mw_3_26 mw_3_28 mw_0_7 mw_1_7 mw_3_29) rfl rfl rfl (by decide +kernel) ⟨Nat.le_of_ble_eq_true rfl, Nat.le_of_ble_eq_true rfl⟩) ⟨pcW_blind, va_recv hKc hPc (ci := 6) (q0 := 0) rfl rfl, pcW_at hPc hKc hDc hN⟩ rfl rfl hl.1 rfl (lv_room (Nat.le_of_ble_eq_true rfl)) dX7_fitInto_35 ⟨Nat.le_of_ble_eq_true rfl, Nat.le_of_ble_eq_true rfl⟩) hS (fun q _ h => hFc q h) hFc (fun r_1 u t H1 locs ht hvm hw_1 hB hz1 hk1 hS => ?_)
  obtain ⟨hP1, hK1, hD1⟩ := hB
  rw [ht] at hP1
  have hK1 := va_K.moved hvm.symm hK1
  obtain ⟨hP, hD⟩ := va_join (wr := []) (w1 := [(h0, .inr (6, [w0, .ref a1, .ref a2, w3, w4])), (a1, .inl (ka1, 8, .inl (fun _ => 0))), (a2, .inl (ka2, 8, .inl (slF (-6) 0 8)))]) hP hD [0, 1, 2] [] rfl rfl (by decide) (by decide) hk1 hFc hP1 hD1
  have hK := (hK.sub (tys' := []) [] rfl).app hK1
  clear hz1 hk1 hPc hDc hKc hFc
  generalize H1 = H at hP hS ⊢
  have hK : va_K (dC, dI) vwCl [(ka1, .int), (ka2, .int)] s := hK
  have hP : va_P (dC, dI) vwCl [(h0, .inr (6, [w0, .ref a1, .ref a2, w3, w4])), (a1, .inl (ka1, 8, .inl (fun _ => 0))), (a2, .inl (ka2, 8, .inl (slF (-6) 0 8)))] H := hP
  have hD : va_D A [(h0, .inr (6, [w0, .ref a1, .ref a2, w3, w4])), (a1, .inl (ka1, 8, .inl (fun _ => 0))), (a2, .inl (ka2, 8, .inl (slF (-6) 0 8)))] := hD
  obtain rfl : r_1 = 1 := hw_1
  exact W.zret (v := 1) hx hb hr (by decide) (fun t ht hW => ⟨⟨1, (), rfl, rfl, by rw [ht]; exact hP, va_K.moved hW.alike hK, hD⟩, hS.F ht⟩) hS.2.2 dX7_fitInto_38
set_option maxHeartbeats 4000000 in
set_option maxRecDepth 100000 in
theorem c_fit4 (l : Launch) (dC : Nat → ClassId) (dI : Nat → Nat → Nat) (sz : Nat) (h0 : Nat) (w0 : Value) (a1 : Nat) (a2 : Nat) (w3 : Value) (w4 : Value) (ka1 : ClassId) (ka2 : ClassId)  : Met l yX7_fitInto (wq yX7_fitInto cX7_fitInto 5 (some .boolean)) ({ frames := 4, cells := 0, slots := 0, locals := 96 }) (va_Pc [.ref h0, .int 0, .int 4, .int 0] (pcW dC dI [(ka1, .int), (ka2, .int)] [(h0, .inr (6, [w0, .ref a1, .ref a2, w3, w4])), (a1, .inl (ka1, 8, .inl (fun _ => 0))), (a2, .inl (ka2, 8, .inl (slF (-6) 0 4)))] sz)) (va_Qi (fun (r : Int32) (_ : Unit) => r = 1) (fun _ t => va_P (dC, dI) vwCl [(h0, .inr (6, [w0, .ref a1, .ref a2, w3, w4])), (a1, .inl (ka1, 8, .inl (fun _ => 0))), (a2, .inl (ka2, 8, .inl (slF (-6) 0 8)))] t.heap ∧ va_K (dC, dI) vwCl [(ka1, .int), (ka2, .int)] t ∧ va_D (va_A [(h0, .inr (6, [w0, .ref a1, .ref a2, w3, w4])), (a1, .inl (ka1, 8, .inl (fun _ => 0))), (a2, .inl (ka2, 8, .inl (slF (-6) 0 4)))] sz) [(h0, .inr (6, [w0, .ref a1, .ref a2, w3, w4])), (a1, .inl (ka1, 8, .inl (fun _ => 0))), (a2, .inl (ka2, 8, .inl (slF (-6) 0 8)))]) (va_A [(h0, .inr (6, [w0, .ref a1, .ref a2, w3, w4])), (a1, .inl (ka1, 8, .inl (fun _ => 0))), (a2, .inl (ka2, 8, .inl (slF (-6) 0 4)))] sz)) 0 0 (va_A [(h0, .inr (6, [w0, .ref a1, .ref a2, w3, w4])), (a1, .inl (ka1, 8, .inl (fun _ => 0))), (a2, .inl (ka2, 8, .inl (slF (-6) 0 4)))] sz) := by
  refine Met.ofW (cc := cX7_fitInto) (maxL := 5) (ret := (some .boolean)) (by decide) rfl ?_
  intro p e s m args below meth c s₁ B hml hv
  obtain ⟨rfl, hsz, hN, hP, hK, hD0⟩ := hv
  have hx := B.exec
  have hb := B.bytes
  have hr := B.returns
  have hts0 := atoms_spec (ws := (wq yX7_fitInto cX7_fitInto 5 (some .boolean))) B.pre
  have hts : ∀ w ∈ BG, w.before _ s = true := fun w h => hts0 w (List.mem_cons_of_mem _ h)
  have hown : s.vm.findClass RX7 = some m.cls := findClass_of_methodNamed B.named
  have hlocks := B.notSynchronized
  subst hsz
  have hD := hD0.self (sz := s.heap.size)
  generalize hAe : va_A [(h0, .inr (6, [w0, .ref a1, .ref a2, w3, w4])), (a1, .inl (ka1, 8, .inl (fun _ => 0))), (a2, .inl (ka2, 8, .inl (slF (-6) 0 4)))] s.heap.size = A at hD ⊢
  have hA : ∀ q : Nat, s.heap.size ≤ q → A q := fun q h => by rw [← hAe]; exact Or.inr h
  have hS : va_S A s.heap s.heap [] := va_S.rf
  have hP : va_P (dC, dI) vwCl [(h0, .inr (6, [w0, .ref a1, .ref a2, w3, w4])), (a1, .inl (ka1, 8, .inl (fun _ => 0))), (a2, .inl (ka2, 8, .inl (slF (-6) 0 4)))] s.heap := hP
  have hl := lv_entry ([.ref h0, .int 0, .int 4, .int 0]) (n := 5) (Nat.le_of_ble_eq_true rfl)
  rw [lg_entry_eq]
  generalize (lg_sl ([.ref h0, .int 0, .int 4, .int 0]) ++ List.replicate (5 - (lg_sl ([.ref h0, .int 0, .int 4, .int 0])).length) Slot.unset).toArray = ls at hl ⊢
  have hl : lv_has ls 5 [(0, .ref h0), (1, .int 0), (2, .int 4), (3, .int 0)] := hl
  skip
  refine lv_iload_n hx hb dX7_fitInto_0 rfl (lv_at hl 2 rfl) ?_
  refine lv_if_lt (tgt := 10) hx hb dX7_fitInto_1 (by decide) (fun h => absurd h (by decide)) (fun _ => ?_)
  refine lv_iload_n hx hb dX7_fitInto_4 rfl (lv_at hl 2 rfl) ?_
  refine lv_bipush (v := 8) hx hb dX7_fitInto_5 (by decide) ?_
  refine lv_icmp_lt (tgt := 12) hx hb dX7_fitInto_7 (by decide) (fun _ => ?_) (fun h => absurd (by decide) h)
  refine lv_aload_n hx hb dX7_fitInto_12 rfl (lv_at hl 0 rfl) ?_
  refine va_get (D := (dC, dI)) (ci := 6) (v := .ref a2) (C := RX7) (T := TX7) (N := 5) hx hb hts inB_7 hown hK hP 0 rfl rfl 2 (by decide) (hts _ mw_1_129) (fun _ h9 => h9) rfl dX7_fitInto_13 ?_
  refine lv_iload_n hx hb dX7_fitInto_16 rfl (lv_at hl 2 rfl) ?_
  refine lv_bipush (v := (-6)) hx hb dX7_fitInto_17 (by decide) ?_
  refine va_iast hx hb hK hP hD hS 2 1 rfl rfl (show vp_in 4 8 by unfold vp_in; decide) dX7_fitInto_19 (fun H locs hP hD hS => ?_)
  rw [show upd (slF (-6) 0 4) (Int32.toNatClampNeg 4) (-6) = (slF (-6) 0 5) from slF_u _ _ 4] at hP hD
  have hP : va_P (dC, dI) vwCl [(h0, .inr (6, [w0, .ref a1, .ref a2, w3, w4])), (a1, .inl (ka1, 8, .inl (fun _ => 0))), (a2, .inl (ka2, 8, .inl (slF (-6) 0 5)))] H := hP
  have hD : va_D A [(h0, .inr (6, [w0, .ref a1, .ref a2, w3, w4])), (a1, .inl (ka1, 8, .inl (fun _ => 0))), (a2, .inl (ka2, 8, .inl (slF (-6) 0 5)))] := hD
  refine lv_aload_n hx hb dX7_fitInto_20 rfl (lv_at hl 0 rfl) ?_
  refine va_get (D := (dC, dI)) (ci := 6) (v := .ref a1) (C := RX7) (T := TX7) (N := 5) hx hb hts inB_7 hown hK hP 0 rfl rfl 1 (by decide) (hts _ mw_1_128) (fun _ h9 => h9) rfl dX7_fitInto_21 ?_
  refine lv_iload_n hx hb dX7_fitInto_24 rfl (lv_at hl 2 rfl) ?_
  refine va_iald hx hb hK hP 1 0 rfl rfl (show vp_in 4 8 by unfold vp_in; decide) dX7_fitInto_25 ?_
  refine hx_top (y := 0) rfl ?_
  refine lv_if_ne (tgt := 39) hx hb dX7_fitInto_26 (by decide) (fun h => absurd h (by decide)) (fun _ => ?_)
  refine lv_aload_n hx hb dX7_fitInto_29 rfl (lv_at hl 0 rfl) ?_
  refine lv_iload_n hx hb dX7_fitInto_30 rfl (lv_at hl 1 rfl) ?_
  refine lv_iload_n hx hb dX7_fitInto_31 rfl (lv_at hl 2 rfl) ?_
  refine lv_iconst (v := 1) hx hb dX7_fitInto_32 (by decide) ?_
  refine lv_iadd hx hb dX7_fitInto_33 ?_
  refine hx_top (y := 5) (by decide) ?_
  refine lv_iload_n hx hb dX7_fitInto_34 rfl (lv_at hl 3 rfl) ?_
  have hPc := hP.sub (ws' := [(h0, .inr (6, [w0, .ref a1, .ref a2, w3, w4])), (a1, .inl (ka1, 8, .inl (fun _ => 0))), (a2, .inl (ka2, 8, .inl (slF (-6) 0 5)))]) [0, 1, 2] rfl
  have hDc := hD.sub (ws' := [(h0, .inr (6, [w0, .ref a1, .ref a2, w3, w4])), (a1, .inl (ka1, 8, .inl (fun _ => 0))), (a2, .inl (ka2, 8, .inl (slF (-6) 0 5)))]) [0, 1, 2] (by decide) rfl
  have hKc := hK.sub (tys' := [(ka1, .int), (ka2, .int)]) [0, 1] rfl
  have hFc := va_free (wc := [(h0, .inr (6, [w0, .ref a1, .ref a2, w3, w4])), (a1, .inl (ka1, 8, .inl (fun _ => 0))), (a2, .inl (ka2, 8, .inl (slF (-6) 0 5)))]) hD hS hA [0, 1, 2] rfl
  refine va_calli (va_runV (As := [.int 0, .int 5, .int 0]) (rest := []) ⟨hx, hb, hml, hown, hts⟩ (c_fit5 l dC dI H.size h0 (w0) a1 a2 (w3) (w4) ka1 ka2) (cwV 3 hts (gV mw_3_26 mw_3_28 mw_0_7 mw_1_7 mw_3_29) rfl rfl rfl (by decide +kernel) ⟨Nat.le_of_ble_eq_true rfl, Nat.le_of_ble_eq_true rfl⟩) ⟨pcW_blind, va_recv hKc hPc (ci := 6) (q0 := 0) rfl rfl, pcW_at hPc hKc hDc hN⟩ rfl rfl hl.1 rfl (lv_room (Nat.le_of_ble_eq_true rfl)) dX7_fitInto_35 ⟨Nat.le_of_ble_eq_true rfl, Nat.le_of_ble_eq_true rfl⟩) hS (fun q _ h => hFc q h) hFc (fun r_1 u t H1 locs ht hvm hw_1 hB hz1 hk1 hS => ?_)
  obtain ⟨hP1, hK1, hD1⟩ := hB
  rw [ht] at hP1
  have hK1 := va_K.moved hvm.symm hK1
  obtain ⟨hP, hD⟩ := va_join (wr := []) (w1 := [(h0, .inr (6, [w0, .ref a1, .ref a2, w3, w4])), (a1, .inl (ka1, 8, .inl (fun _ => 0))), (a2, .inl (ka2, 8, .inl (slF (-6) 0 8)))]) hP hD [0, 1, 2] [] rfl rfl (by decide) (by decide) hk1 hFc hP1 hD1
  have hK := (hK.sub (tys' := []) [] rfl).app hK1
  clear hz1 hk1 hPc hDc hKc hFc
  generalize H1 = H at hP hS ⊢
  have hK : va_K (dC, dI) vwCl [(ka1, .int), (ka2, .int)] s := hK
  have hP : va_P (dC, dI) vwCl [(h0, .inr (6, [w0, .ref a1, .ref a2, w3, w4])), (a1, .inl (ka1, 8, .inl (fun _ => 0))), (a2, .inl (ka2, 8, .inl (slF (-6) 0 8)))] H := hP
  have hD : va_D A [(h0, .inr (6, [w0, .ref a1, .ref a2, w3, w4])), (a1, .inl (ka1, 8, .inl (fun _ => 0))), (a2, .inl (ka2, 8, .inl (slF (-6) 0 8)))] := hD
  obtain rfl : r_1 = 1 := hw_1
  exact W.zret (v := 1) hx hb hr (by decide) (fun t ht hW => ⟨⟨1, (), rfl, rfl, by rw [ht]; exact hP, va_K.moved hW.alike hK, hD⟩, hS.F ht⟩) hS.2.2 dX7_fitInto_38
set_option maxHeartbeats 4000000 in
set_option maxRecDepth 100000 in
theorem c_fit3 (l : Launch) (dC : Nat → ClassId) (dI : Nat → Nat → Nat) (sz : Nat) (h0 : Nat) (w0 : Value) (a1 : Nat) (a2 : Nat) (w3 : Value) (w4 : Value) (ka1 : ClassId) (ka2 : ClassId)  : Met l yX7_fitInto (wq yX7_fitInto cX7_fitInto 5 (some .boolean)) ({ frames := 5, cells := 0, slots := 0, locals := 120 }) (va_Pc [.ref h0, .int 0, .int 3, .int 0] (pcW dC dI [(ka1, .int), (ka2, .int)] [(h0, .inr (6, [w0, .ref a1, .ref a2, w3, w4])), (a1, .inl (ka1, 8, .inl (fun _ => 0))), (a2, .inl (ka2, 8, .inl (slF (-6) 0 3)))] sz)) (va_Qi (fun (r : Int32) (_ : Unit) => r = 1) (fun _ t => va_P (dC, dI) vwCl [(h0, .inr (6, [w0, .ref a1, .ref a2, w3, w4])), (a1, .inl (ka1, 8, .inl (fun _ => 0))), (a2, .inl (ka2, 8, .inl (slF (-6) 0 8)))] t.heap ∧ va_K (dC, dI) vwCl [(ka1, .int), (ka2, .int)] t ∧ va_D (va_A [(h0, .inr (6, [w0, .ref a1, .ref a2, w3, w4])), (a1, .inl (ka1, 8, .inl (fun _ => 0))), (a2, .inl (ka2, 8, .inl (slF (-6) 0 3)))] sz) [(h0, .inr (6, [w0, .ref a1, .ref a2, w3, w4])), (a1, .inl (ka1, 8, .inl (fun _ => 0))), (a2, .inl (ka2, 8, .inl (slF (-6) 0 8)))]) (va_A [(h0, .inr (6, [w0, .ref a1, .ref a2, w3, w4])), (a1, .inl (ka1, 8, .inl (fun _ => 0))), (a2, .inl (ka2, 8, .inl (slF (-6) 0 3)))] sz)) 0 0 (va_A [(h0, .inr (6, [w0, .ref a1, .ref a2, w3, w4])), (a1, .inl (ka1, 8, .inl (fun _ => 0))), (a2, .inl (ka2, 8, .inl (slF (-6) 0 3)))] sz) := by
  refine Met.ofW (cc := cX7_fitInto) (maxL := 5) (ret := (some .boolean)) (by decide) rfl ?_
  intro p e s m args below meth c s₁ B hml hv
  obtain ⟨rfl, hsz, hN, hP, hK, hD0⟩ := hv
  have hx := B.exec
  have hb := B.bytes
  have hr := B.returns
  have hts0 := atoms_spec (ws := (wq yX7_fitInto cX7_fitInto 5 (some .boolean))) B.pre
  have hts : ∀ w ∈ BG, w.before _ s = true := fun w h => hts0 w (List.mem_cons_of_mem _ h)
  have hown : s.vm.findClass RX7 = some m.cls := findClass_of_methodNamed B.named
  have hlocks := B.notSynchronized
  subst hsz
  have hD := hD0.self (sz := s.heap.size)
  generalize hAe : va_A [(h0, .inr (6, [w0, .ref a1, .ref a2, w3, w4])), (a1, .inl (ka1, 8, .inl (fun _ => 0))), (a2, .inl (ka2, 8, .inl (slF (-6) 0 3)))] s.heap.size = A at hD ⊢
  have hA : ∀ q : Nat, s.heap.size ≤ q → A q := fun q h => by rw [← hAe]; exact Or.inr h
  have hS : va_S A s.heap s.heap [] := va_S.rf
  have hP : va_P (dC, dI) vwCl [(h0, .inr (6, [w0, .ref a1, .ref a2, w3, w4])), (a1, .inl (ka1, 8, .inl (fun _ => 0))), (a2, .inl (ka2, 8, .inl (slF (-6) 0 3)))] s.heap := hP
  have hl := lv_entry ([.ref h0, .int 0, .int 3, .int 0]) (n := 5) (Nat.le_of_ble_eq_true rfl)
  rw [lg_entry_eq]
  generalize (lg_sl ([.ref h0, .int 0, .int 3, .int 0]) ++ List.replicate (5 - (lg_sl ([.ref h0, .int 0, .int 3, .int 0])).length) Slot.unset).toArray = ls at hl ⊢
  have hl : lv_has ls 5 [(0, .ref h0), (1, .int 0), (2, .int 3), (3, .int 0)] := hl
  skip
  refine lv_iload_n hx hb dX7_fitInto_0 rfl (lv_at hl 2 rfl) ?_
  refine lv_if_lt (tgt := 10) hx hb dX7_fitInto_1 (by decide) (fun h => absurd h (by decide)) (fun _ => ?_)
  refine lv_iload_n hx hb dX7_fitInto_4 rfl (lv_at hl 2 rfl) ?_
  refine lv_bipush (v := 8) hx hb dX7_fitInto_5 (by decide) ?_
  refine lv_icmp_lt (tgt := 12) hx hb dX7_fitInto_7 (by decide) (fun _ => ?_) (fun h => absurd (by decide) h)
  refine lv_aload_n hx hb dX7_fitInto_12 rfl (lv_at hl 0 rfl) ?_
  refine va_get (D := (dC, dI)) (ci := 6) (v := .ref a2) (C := RX7) (T := TX7) (N := 5) hx hb hts inB_7 hown hK hP 0 rfl rfl 2 (by decide) (hts _ mw_1_129) (fun _ h9 => h9) rfl dX7_fitInto_13 ?_
  refine lv_iload_n hx hb dX7_fitInto_16 rfl (lv_at hl 2 rfl) ?_
  refine lv_bipush (v := (-6)) hx hb dX7_fitInto_17 (by decide) ?_
  refine va_iast hx hb hK hP hD hS 2 1 rfl rfl (show vp_in 3 8 by unfold vp_in; decide) dX7_fitInto_19 (fun H locs hP hD hS => ?_)
  rw [show upd (slF (-6) 0 3) (Int32.toNatClampNeg 3) (-6) = (slF (-6) 0 4) from slF_u _ _ 3] at hP hD
  have hP : va_P (dC, dI) vwCl [(h0, .inr (6, [w0, .ref a1, .ref a2, w3, w4])), (a1, .inl (ka1, 8, .inl (fun _ => 0))), (a2, .inl (ka2, 8, .inl (slF (-6) 0 4)))] H := hP
  have hD : va_D A [(h0, .inr (6, [w0, .ref a1, .ref a2, w3, w4])), (a1, .inl (ka1, 8, .inl (fun _ => 0))), (a2, .inl (ka2, 8, .inl (slF (-6) 0 4)))] := hD
  refine lv_aload_n hx hb dX7_fitInto_20 rfl (lv_at hl 0 rfl) ?_
  refine va_get (D := (dC, dI)) (ci := 6) (v := .ref a1) (C := RX7) (T := TX7) (N := 5) hx hb hts inB_7 hown hK hP 0 rfl rfl 1 (by decide) (hts _ mw_1_128) (fun _ h9 => h9) rfl dX7_fitInto_21 ?_
  refine lv_iload_n hx hb dX7_fitInto_24 rfl (lv_at hl 2 rfl) ?_
  refine va_iald hx hb hK hP 1 0 rfl rfl (show vp_in 3 8 by unfold vp_in; decide) dX7_fitInto_25 ?_
  refine hx_top (y := 0) rfl ?_
  refine lv_if_ne (tgt := 39) hx hb dX7_fitInto_26 (by decide) (fun h => absurd h (by decide)) (fun _ => ?_)
  refine lv_aload_n hx hb dX7_fitInto_29 rfl (lv_at hl 0 rfl) ?_
  refine lv_iload_n hx hb dX7_fitInto_30 rfl (lv_at hl 1 rfl) ?_
  refine lv_iload_n hx hb dX7_fitInto_31 rfl (lv_at hl 2 rfl) ?_
  refine lv_iconst (v := 1) hx hb dX7_fitInto_32 (by decide) ?_
  refine lv_iadd hx hb dX7_fitInto_33 ?_
  refine hx_top (y := 4) (by decide) ?_
  refine lv_iload_n hx hb dX7_fitInto_34 rfl (lv_at hl 3 rfl) ?_
  have hPc := hP.sub (ws' := [(h0, .inr (6, [w0, .ref a1, .ref a2, w3, w4])), (a1, .inl (ka1, 8, .inl (fun _ => 0))), (a2, .inl (ka2, 8, .inl (slF (-6) 0 4)))]) [0, 1, 2] rfl
  have hDc := hD.sub (ws' := [(h0, .inr (6, [w0, .ref a1, .ref a2, w3, w4])), (a1, .inl (ka1, 8, .inl (fun _ => 0))), (a2, .inl (ka2, 8, .inl (slF (-6) 0 4)))]) [0, 1, 2] (by decide) rfl
  have hKc := hK.sub (tys' := [(ka1, .int), (ka2, .int)]) [0, 1] rfl
  have hFc := va_free (wc := [(h0, .inr (6, [w0, .ref a1, .ref a2, w3, w4])), (a1, .inl (ka1, 8, .inl (fun _ => 0))), (a2, .inl (ka2, 8, .inl (slF (-6) 0 4)))]) hD hS hA [0, 1, 2] rfl
  refine va_calli (va_runV (As := [.int 0, .int 4, .int 0]) (rest := []) ⟨hx, hb, hml, hown, hts⟩ (c_fit4 l dC dI H.size h0 (w0) a1 a2 (w3) (w4) ka1 ka2) (cwV 3 hts (gV mw_3_26 mw_3_28 mw_0_7 mw_1_7 mw_3_29) rfl rfl rfl (by decide +kernel) ⟨Nat.le_of_ble_eq_true rfl, Nat.le_of_ble_eq_true rfl⟩) ⟨pcW_blind, va_recv hKc hPc (ci := 6) (q0 := 0) rfl rfl, pcW_at hPc hKc hDc hN⟩ rfl rfl hl.1 rfl (lv_room (Nat.le_of_ble_eq_true rfl)) dX7_fitInto_35 ⟨Nat.le_of_ble_eq_true rfl, Nat.le_of_ble_eq_true rfl⟩) hS (fun q _ h => hFc q h) hFc (fun r_1 u t H1 locs ht hvm hw_1 hB hz1 hk1 hS => ?_)
  obtain ⟨hP1, hK1, hD1⟩ := hB
  rw [ht] at hP1
  have hK1 := va_K.moved hvm.symm hK1
  obtain ⟨hP, hD⟩ := va_join (wr := []) (w1 := [(h0, .inr (6, [w0, .ref a1, .ref a2, w3, w4])), (a1, .inl (ka1, 8, .inl (fun _ => 0))), (a2, .inl (ka2, 8, .inl (slF (-6) 0 8)))]) hP hD [0, 1, 2] [] rfl rfl (by decide) (by decide) hk1 hFc hP1 hD1
  have hK := (hK.sub (tys' := []) [] rfl).app hK1
  clear hz1 hk1 hPc hDc hKc hFc
  generalize H1 = H at hP hS ⊢
  have hK : va_K (dC, dI) vwCl [(ka1, .int), (ka2, .int)] s := hK
  have hP : va_P (dC, dI) vwCl [(h0, .inr (6, [w0, .ref a1, .ref a2, w3, w4])), (a1, .inl (ka1, 8, .inl (fun _ => 0))), (a2, .inl (ka2, 8, .inl (slF (-6) 0 8)))] H := hP
  have hD : va_D A [(h0, .inr (6, [w0, .ref a1, .ref a2, w3, w4])), (a1, .inl (ka1, 8, .inl (fun _ => 0))), (a2, .inl (ka2, 8, .inl (slF (-6) 0 8)))] := hD
  obtain rfl : r_1 = 1 := hw_1
  exact W.zret (v := 1) hx hb hr (by decide) (fun t ht hW => ⟨⟨1, (), rfl, rfl, by rw [ht]; exact hP, va_K.moved hW.alike hK, hD⟩, hS.F ht⟩) hS.2.2 dX7_fitInto_38
set_option maxHeartbeats 4000000 in
set_option maxRecDepth 100000 in
theorem c_fit2 (l : Launch) (dC : Nat → ClassId) (dI : Nat → Nat → Nat) (sz : Nat) (h0 : Nat) (w0 : Value) (a1 : Nat) (a2 : Nat) (w3 : Value) (w4 : Value) (ka1 : ClassId) (ka2 : ClassId)  : Met l yX7_fitInto (wq yX7_fitInto cX7_fitInto 5 (some .boolean)) ({ frames := 6, cells := 0, slots := 0, locals := 144 }) (va_Pc [.ref h0, .int 0, .int 2, .int 0] (pcW dC dI [(ka1, .int), (ka2, .int)] [(h0, .inr (6, [w0, .ref a1, .ref a2, w3, w4])), (a1, .inl (ka1, 8, .inl (fun _ => 0))), (a2, .inl (ka2, 8, .inl (slF (-6) 0 2)))] sz)) (va_Qi (fun (r : Int32) (_ : Unit) => r = 1) (fun _ t => va_P (dC, dI) vwCl [(h0, .inr (6, [w0, .ref a1, .ref a2, w3, w4])), (a1, .inl (ka1, 8, .inl (fun _ => 0))), (a2, .inl (ka2, 8, .inl (slF (-6) 0 8)))] t.heap ∧ va_K (dC, dI) vwCl [(ka1, .int), (ka2, .int)] t ∧ va_D (va_A [(h0, .inr (6, [w0, .ref a1, .ref a2, w3, w4])), (a1, .inl (ka1, 8, .inl (fun _ => 0))), (a2, .inl (ka2, 8, .inl (slF (-6) 0 2)))] sz) [(h0, .inr (6, [w0, .ref a1, .ref a2, w3, w4])), (a1, .inl (ka1, 8, .inl (fun _ => 0))), (a2, .inl (ka2, 8, .inl (slF (-6) 0 8)))]) (va_A [(h0, .inr (6, [w0, .ref a1, .ref a2, w3, w4])), (a1, .inl (ka1, 8, .inl (fun _ => 0))), (a2, .inl (ka2, 8, .inl (slF (-6) 0 2)))] sz)) 0 0 (va_A [(h0, .inr (6, [w0, .ref a1, .ref a2, w3, w4])), (a1, .inl (ka1, 8, .inl (fun _ => 0))), (a2, .inl (ka2, 8, .inl (slF (-6) 0 2)))] sz) := by
  refine Met.ofW (cc := cX7_fitInto) (maxL := 5) (ret := (some .boolean)) (by decide) rfl ?_
  intro p e s m args below meth c s₁ B hml hv
  obtain ⟨rfl, hsz, hN, hP, hK, hD0⟩ := hv
  have hx := B.exec
  have hb := B.bytes
  have hr := B.returns
  have hts0 := atoms_spec (ws := (wq yX7_fitInto cX7_fitInto 5 (some .boolean))) B.pre
  have hts : ∀ w ∈ BG, w.before _ s = true := fun w h => hts0 w (List.mem_cons_of_mem _ h)
  have hown : s.vm.findClass RX7 = some m.cls := findClass_of_methodNamed B.named
  have hlocks := B.notSynchronized
  subst hsz
  have hD := hD0.self (sz := s.heap.size)
  generalize hAe : va_A [(h0, .inr (6, [w0, .ref a1, .ref a2, w3, w4])), (a1, .inl (ka1, 8, .inl (fun _ => 0))), (a2, .inl (ka2, 8, .inl (slF (-6) 0 2)))] s.heap.size = A at hD ⊢
  have hA : ∀ q : Nat, s.heap.size ≤ q → A q := fun q h => by rw [← hAe]; exact Or.inr h
  have hS : va_S A s.heap s.heap [] := va_S.rf
  have hP : va_P (dC, dI) vwCl [(h0, .inr (6, [w0, .ref a1, .ref a2, w3, w4])), (a1, .inl (ka1, 8, .inl (fun _ => 0))), (a2, .inl (ka2, 8, .inl (slF (-6) 0 2)))] s.heap := hP
  have hl := lv_entry ([.ref h0, .int 0, .int 2, .int 0]) (n := 5) (Nat.le_of_ble_eq_true rfl)
  rw [lg_entry_eq]
  generalize (lg_sl ([.ref h0, .int 0, .int 2, .int 0]) ++ List.replicate (5 - (lg_sl ([.ref h0, .int 0, .int 2, .int 0])).length) Slot.unset).toArray = ls at hl ⊢
  have hl : lv_has ls 5 [(0, .ref h0), (1, .int 0), (2, .int 2), (3, .int 0)] := hl
  skip
  refine lv_iload_n hx hb dX7_fitInto_0 rfl (lv_at hl 2 rfl) ?_
  refine lv_if_lt (tgt := 10) hx hb dX7_fitInto_1 (by decide) (fun h => absurd h (by decide)) (fun _ => ?_)
  refine lv_iload_n hx hb dX7_fitInto_4 rfl (lv_at hl 2 rfl) ?_
  refine lv_bipush (v := 8) hx hb dX7_fitInto_5 (by decide) ?_
  refine lv_icmp_lt (tgt := 12) hx hb dX7_fitInto_7 (by decide) (fun _ => ?_) (fun h => absurd (by decide) h)
  refine lv_aload_n hx hb dX7_fitInto_12 rfl (lv_at hl 0 rfl) ?_
  refine va_get (D := (dC, dI)) (ci := 6) (v := .ref a2) (C := RX7) (T := TX7) (N := 5) hx hb hts inB_7 hown hK hP 0 rfl rfl 2 (by decide) (hts _ mw_1_129) (fun _ h9 => h9) rfl dX7_fitInto_13 ?_
  refine lv_iload_n hx hb dX7_fitInto_16 rfl (lv_at hl 2 rfl) ?_
  refine lv_bipush (v := (-6)) hx hb dX7_fitInto_17 (by decide) ?_
  refine va_iast hx hb hK hP hD hS 2 1 rfl rfl (show vp_in 2 8 by unfold vp_in; decide) dX7_fitInto_19 (fun H locs hP hD hS => ?_)
  rw [show upd (slF (-6) 0 2) (Int32.toNatClampNeg 2) (-6) = (slF (-6) 0 3) from slF_u _ _ 2] at hP hD
  have hP : va_P (dC, dI) vwCl [(h0, .inr (6, [w0, .ref a1, .ref a2, w3, w4])), (a1, .inl (ka1, 8, .inl (fun _ => 0))), (a2, .inl (ka2, 8, .inl (slF (-6) 0 3)))] H := hP
  have hD : va_D A [(h0, .inr (6, [w0, .ref a1, .ref a2, w3, w4])), (a1, .inl (ka1, 8, .inl (fun _ => 0))), (a2, .inl (ka2, 8, .inl (slF (-6) 0 3)))] := hD
  refine lv_aload_n hx hb dX7_fitInto_20 rfl (lv_at hl 0 rfl) ?_
  refine va_get (D := (dC, dI)) (ci := 6) (v := .ref a1) (C := RX7) (T := TX7) (N := 5) hx hb hts inB_7 hown hK hP 0 rfl rfl 1 (by decide) (hts _ mw_1_128) (fun _ h9 => h9) rfl dX7_fitInto_21 ?_
  refine lv_iload_n hx hb dX7_fitInto_24 rfl (lv_at hl 2 rfl) ?_
  refine va_iald hx hb hK hP 1 0 rfl rfl (show vp_in 2 8 by unfold vp_in; decide) dX7_fitInto_25 ?_
  refine hx_top (y := 0) rfl ?_
  refine lv_if_ne (tgt := 39) hx hb dX7_fitInto_26 (by decide) (fun h => absurd h (by decide)) (fun _ => ?_)
  refine lv_aload_n hx hb dX7_fitInto_29 rfl (lv_at hl 0 rfl) ?_
  refine lv_iload_n hx hb dX7_fitInto_30 rfl (lv_at hl 1 rfl) ?_
  refine lv_iload_n hx hb dX7_fitInto_31 rfl (lv_at hl 2 rfl) ?_
  refine lv_iconst (v := 1) hx hb dX7_fitInto_32 (by decide) ?_
  refine lv_iadd hx hb dX7_fitInto_33 ?_
  refine hx_top (y := 3) (by decide) ?_
  refine lv_iload_n hx hb dX7_fitInto_34 rfl (lv_at hl 3 rfl) ?_
  have hPc := hP.sub (ws' := [(h0, .inr (6, [w0, .ref a1, .ref a2, w3, w4])), (a1, .inl (ka1, 8, .inl (fun _ => 0))), (a2, .inl (ka2, 8, .inl (slF (-6) 0 3)))]) [0, 1, 2] rfl
  have hDc := hD.sub (ws' := [(h0, .inr (6, [w0, .ref a1, .ref a2, w3, w4])), (a1, .inl (ka1, 8, .inl (fun _ => 0))), (a2, .inl (ka2, 8, .inl (slF (-6) 0 3)))]) [0, 1, 2] (by decide) rfl
  have hKc := hK.sub (tys' := [(ka1, .int), (ka2, .int)]) [0, 1] rfl
  have hFc := va_free (wc := [(h0, .inr (6, [w0, .ref a1, .ref a2, w3, w4])), (a1, .inl (ka1, 8, .inl (fun _ => 0))), (a2, .inl (ka2, 8, .inl (slF (-6) 0 3)))]) hD hS hA [0, 1, 2] rfl
  refine va_calli (va_runV (As := [.int 0, .int 3, .int 0]) (rest := []) ⟨hx, hb, hml, hown, hts⟩ (c_fit3 l dC dI H.size h0 (w0) a1 a2 (w3) (w4) ka1 ka2) (cwV 3 hts (gV mw_3_26 mw_3_28 mw_0_7 mw_1_7 mw_3_29) rfl rfl rfl (by decide +kernel) ⟨Nat.le_of_ble_eq_true rfl, Nat.le_of_ble_eq_true rfl⟩) ⟨pcW_blind, va_recv hKc hPc (ci := 6) (q0 := 0) rfl rfl, pcW_at hPc hKc hDc hN⟩ rfl rfl hl.1 rfl (lv_room (Nat.le_of_ble_eq_true rfl)) dX7_fitInto_35 ⟨Nat.le_of_ble_eq_true rfl, Nat.le_of_ble_eq_true rfl⟩) hS (fun q _ h => hFc q h) hFc (fun r_1 u t H1 locs ht hvm hw_1 hB hz1 hk1 hS => ?_)
  obtain ⟨hP1, hK1, hD1⟩ := hB
  rw [ht] at hP1
  have hK1 := va_K.moved hvm.symm hK1
  obtain ⟨hP, hD⟩ := va_join (wr := []) (w1 := [(h0, .inr (6, [w0, .ref a1, .ref a2, w3, w4])), (a1, .inl (ka1, 8, .inl (fun _ => 0))), (a2, .inl (ka2, 8, .inl (slF (-6) 0 8)))]) hP hD [0, 1, 2] [] rfl rfl (by decide) (by decide) hk1 hFc hP1 hD1
  have hK := (hK.sub (tys' := []) [] rfl).app hK1
  clear hz1 hk1 hPc hDc hKc hFc
  generalize H1 = H at hP hS ⊢
  have hK : va_K (dC, dI) vwCl [(ka1, .int), (ka2, .int)] s := hK
  have hP : va_P (dC, dI) vwCl [(h0, .inr (6, [w0, .ref a1, .ref a2, w3, w4])), (a1, .inl (ka1, 8, .inl (fun _ => 0))), (a2, .inl (ka2, 8, .inl (slF (-6) 0 8)))] H := hP
  have hD : va_D A [(h0, .inr (6, [w0, .ref a1, .ref a2, w3, w4])), (a1, .inl (ka1, 8, .inl (fun _ => 0))), (a2, .inl (ka2, 8, .inl (slF (-6) 0 8)))] := hD
  obtain rfl : r_1 = 1 := hw_1
  exact W.zret (v := 1) hx hb hr (by decide) (fun t ht hW => ⟨⟨1, (), rfl, rfl, by rw [ht]; exact hP, va_K.moved hW.alike hK, hD⟩, hS.F ht⟩) hS.2.2 dX7_fitInto_38
set_option maxHeartbeats 4000000 in
set_option maxRecDepth 100000 in
theorem c_fit1 (l : Launch) (dC : Nat → ClassId) (dI : Nat → Nat → Nat) (sz : Nat) (h0 : Nat) (w0 : Value) (a1 : Nat) (a2 : Nat) (w3 : Value) (w4 : Value) (ka1 : ClassId) (ka2 : ClassId)  : Met l yX7_fitInto (wq yX7_fitInto cX7_fitInto 5 (some .boolean)) ({ frames := 7, cells := 0, slots := 0, locals := 168 }) (va_Pc [.ref h0, .int 0, .int 1, .int 0] (pcW dC dI [(ka1, .int), (ka2, .int)] [(h0, .inr (6, [w0, .ref a1, .ref a2, w3, w4])), (a1, .inl (ka1, 8, .inl (fun _ => 0))), (a2, .inl (ka2, 8, .inl (slF (-6) 0 1)))] sz)) (va_Qi (fun (r : Int32) (_ : Unit) => r = 1) (fun _ t => va_P (dC, dI) vwCl [(h0, .inr (6, [w0, .ref a1, .ref a2, w3, w4])), (a1, .inl (ka1, 8, .inl (fun _ => 0))), (a2, .inl (ka2, 8, .inl (slF (-6) 0 8)))] t.heap ∧ va_K (dC, dI) vwCl [(ka1, .int), (ka2, .int)] t ∧ va_D (va_A [(h0, .inr (6, [w0, .ref a1, .ref a2, w3, w4])), (a1, .inl (ka1, 8, .inl (fun _ => 0))), (a2, .inl (ka2, 8, .inl (slF (-6) 0 1)))] sz) [(h0, .inr (6, [w0, .ref a1, .ref a2, w3, w4])), (a1, .inl (ka1, 8, .inl (fun _ => 0))), (a2, .inl (ka2, 8, .inl (slF (-6) 0 8)))]) (va_A [(h0, .inr (6, [w0, .ref a1, .ref a2, w3, w4])), (a1, .inl (ka1, 8, .inl (fun _ => 0))), (a2, .inl (ka2, 8, .inl (slF (-6) 0 1)))] sz)) 0 0 (va_A [(h0, .inr (6, [w0, .ref a1, .ref a2, w3, w4])), (a1, .inl (ka1, 8, .inl (fun _ => 0))), (a2, .inl (ka2, 8, .inl (slF (-6) 0 1)))] sz) := by
  refine Met.ofW (cc := cX7_fitInto) (maxL := 5) (ret := (some .boolean)) (by decide) rfl ?_
  intro p e s m args below meth c s₁ B hml hv
  obtain ⟨rfl, hsz, hN, hP, hK, hD0⟩ := hv
  have hx := B.exec
  have hb := B.bytes
  have hr := B.returns
  have hts0 := atoms_spec (ws := (wq yX7_fitInto cX7_fitInto 5 (some .boolean))) B.pre
  have hts : ∀ w ∈ BG, w.before _ s = true := fun w h => hts0 w (List.mem_cons_of_mem _ h)
  have hown : s.vm.findClass RX7 = some m.cls := findClass_of_methodNamed B.named
  have hlocks := B.notSynchronized
  subst hsz
  have hD := hD0.self (sz := s.heap.size)
  generalize hAe : va_A [(h0, .inr (6, [w0, .ref a1, .ref a2, w3, w4])), (a1, .inl (ka1, 8, .inl (fun _ => 0))), (a2, .inl (ka2, 8, .inl (slF (-6) 0 1)))] s.heap.size = A at hD ⊢
  have hA : ∀ q : Nat, s.heap.size ≤ q → A q := fun q h => by rw [← hAe]; exact Or.inr h
  have hS : va_S A s.heap s.heap [] := va_S.rf
  have hP : va_P (dC, dI) vwCl [(h0, .inr (6, [w0, .ref a1, .ref a2, w3, w4])), (a1, .inl (ka1, 8, .inl (fun _ => 0))), (a2, .inl (ka2, 8, .inl (slF (-6) 0 1)))] s.heap := hP
  have hl := lv_entry ([.ref h0, .int 0, .int 1, .int 0]) (n := 5) (Nat.le_of_ble_eq_true rfl)
  rw [lg_entry_eq]
  generalize (lg_sl ([.ref h0, .int 0, .int 1, .int 0]) ++ List.replicate (5 - (lg_sl ([.ref h0, .int 0, .int 1, .int 0])).length) Slot.unset).toArray = ls at hl ⊢
  have hl : lv_has ls 5 [(0, .ref h0), (1, .int 0), (2, .int 1), (3, .int 0)] := hl
  skip
  refine lv_iload_n hx hb dX7_fitInto_0 rfl (lv_at hl 2 rfl) ?_
  refine lv_if_lt (tgt := 10) hx hb dX7_fitInto_1 (by decide) (fun h => absurd h (by decide)) (fun _ => ?_)
  refine lv_iload_n hx hb dX7_fitInto_4 rfl (lv_at hl 2 rfl) ?_
  refine lv_bipush (v := 8) hx hb dX7_fitInto_5 (by decide) ?_
  refine lv_icmp_lt (tgt := 12) hx hb dX7_fitInto_7 (by decide) (fun _ => ?_) (fun h => absurd (by decide) h)
  refine lv_aload_n hx hb dX7_fitInto_12 rfl (lv_at hl 0 rfl) ?_
  refine va_get (D := (dC, dI)) (ci := 6) (v := .ref a2) (C := RX7) (T := TX7) (N := 5) hx hb hts inB_7 hown hK hP 0 rfl rfl 2 (by decide) (hts _ mw_1_129) (fun _ h9 => h9) rfl dX7_fitInto_13 ?_
  refine lv_iload_n hx hb dX7_fitInto_16 rfl (lv_at hl 2 rfl) ?_
  refine lv_bipush (v := (-6)) hx hb dX7_fitInto_17 (by decide) ?_
  refine va_iast hx hb hK hP hD hS 2 1 rfl rfl (show vp_in 1 8 by unfold vp_in; decide) dX7_fitInto_19 (fun H locs hP hD hS => ?_)
  rw [show upd (slF (-6) 0 1) (Int32.toNatClampNeg 1) (-6) = (slF (-6) 0 2) from slF_u _ _ 1] at hP hD
  have hP : va_P (dC, dI) vwCl [(h0, .inr (6, [w0, .ref a1, .ref a2, w3, w4])), (a1, .inl (ka1, 8, .inl (fun _ => 0))), (a2, .inl (ka2, 8, .inl (slF (-6) 0 2)))] H := hP
  have hD : va_D A [(h0, .inr (6, [w0, .ref a1, .ref a2, w3, w4])), (a1, .inl (ka1, 8, .inl (fun _ => 0))), (a2, .inl (ka2, 8, .inl (slF (-6) 0 2)))] := hD
  refine lv_aload_n hx hb dX7_fitInto_20 rfl (lv_at hl 0 rfl) ?_
  refine va_get (D := (dC, dI)) (ci := 6) (v := .ref a1) (C := RX7) (T := TX7) (N := 5) hx hb hts inB_7 hown hK hP 0 rfl rfl 1 (by decide) (hts _ mw_1_128) (fun _ h9 => h9) rfl dX7_fitInto_21 ?_
  refine lv_iload_n hx hb dX7_fitInto_24 rfl (lv_at hl 2 rfl) ?_
  refine va_iald hx hb hK hP 1 0 rfl rfl (show vp_in 1 8 by unfold vp_in; decide) dX7_fitInto_25 ?_
  refine hx_top (y := 0) rfl ?_
  refine lv_if_ne (tgt := 39) hx hb dX7_fitInto_26 (by decide) (fun h => absurd h (by decide)) (fun _ => ?_)
  refine lv_aload_n hx hb dX7_fitInto_29 rfl (lv_at hl 0 rfl) ?_
  refine lv_iload_n hx hb dX7_fitInto_30 rfl (lv_at hl 1 rfl) ?_
  refine lv_iload_n hx hb dX7_fitInto_31 rfl (lv_at hl 2 rfl) ?_
  refine lv_iconst (v := 1) hx hb dX7_fitInto_32 (by decide) ?_
  refine lv_iadd hx hb dX7_fitInto_33 ?_
  refine hx_top (y := 2) (by decide) ?_
  refine lv_iload_n hx hb dX7_fitInto_34 rfl (lv_at hl 3 rfl) ?_
  have hPc := hP.sub (ws' := [(h0, .inr (6, [w0, .ref a1, .ref a2, w3, w4])), (a1, .inl (ka1, 8, .inl (fun _ => 0))), (a2, .inl (ka2, 8, .inl (slF (-6) 0 2)))]) [0, 1, 2] rfl
  have hDc := hD.sub (ws' := [(h0, .inr (6, [w0, .ref a1, .ref a2, w3, w4])), (a1, .inl (ka1, 8, .inl (fun _ => 0))), (a2, .inl (ka2, 8, .inl (slF (-6) 0 2)))]) [0, 1, 2] (by decide) rfl
  have hKc := hK.sub (tys' := [(ka1, .int), (ka2, .int)]) [0, 1] rfl
  have hFc := va_free (wc := [(h0, .inr (6, [w0, .ref a1, .ref a2, w3, w4])), (a1, .inl (ka1, 8, .inl (fun _ => 0))), (a2, .inl (ka2, 8, .inl (slF (-6) 0 2)))]) hD hS hA [0, 1, 2] rfl
  refine va_calli (va_runV (As := [.int 0, .int 2, .int 0]) (rest := []) ⟨hx, hb, hml, hown, hts⟩ (c_fit2 l dC dI H.size h0 (w0) a1 a2 (w3) (w4) ka1 ka2) (cwV 3 hts (gV mw_3_26 mw_3_28 mw_0_7 mw_1_7 mw_3_29) rfl rfl rfl (by decide +kernel) ⟨Nat.le_of_ble_eq_true rfl, Nat.le_of_ble_eq_true rfl⟩) ⟨pcW_blind, va_recv hKc hPc (ci := 6) (q0 := 0) rfl rfl, pcW_at hPc hKc hDc hN⟩ rfl rfl hl.1 rfl (lv_room (Nat.le_of_ble_eq_true rfl)) dX7_fitInto_35 ⟨Nat.le_of_ble_eq_true rfl, Nat.le_of_ble_eq_true rfl⟩) hS (fun q _ h => hFc q h) hFc (fun r_1 u t H1 locs ht hvm hw_1 hB hz1 hk1 hS => ?_)
  obtain ⟨hP1, hK1, hD1⟩ := hB
  rw [ht] at hP1
  have hK1 := va_K.moved hvm.symm hK1
  obtain ⟨hP, hD⟩ := va_join (wr := []) (w1 := [(h0, .inr (6, [w0, .ref a1, .ref a2, w3, w4])), (a1, .inl (ka1, 8, .inl (fun _ => 0))), (a2, .inl (ka2, 8, .inl (slF (-6) 0 8)))]) hP hD [0, 1, 2] [] rfl rfl (by decide) (by decide) hk1 hFc hP1 hD1
  have hK := (hK.sub (tys' := []) [] rfl).app hK1
  clear hz1 hk1 hPc hDc hKc hFc
  generalize H1 = H at hP hS ⊢
  have hK : va_K (dC, dI) vwCl [(ka1, .int), (ka2, .int)] s := hK
  have hP : va_P (dC, dI) vwCl [(h0, .inr (6, [w0, .ref a1, .ref a2, w3, w4])), (a1, .inl (ka1, 8, .inl (fun _ => 0))), (a2, .inl (ka2, 8, .inl (slF (-6) 0 8)))] H := hP
  have hD : va_D A [(h0, .inr (6, [w0, .ref a1, .ref a2, w3, w4])), (a1, .inl (ka1, 8, .inl (fun _ => 0))), (a2, .inl (ka2, 8, .inl (slF (-6) 0 8)))] := hD
  obtain rfl : r_1 = 1 := hw_1
  exact W.zret (v := 1) hx hb hr (by decide) (fun t ht hW => ⟨⟨1, (), rfl, rfl, by rw [ht]; exact hP, va_K.moved hW.alike hK, hD⟩, hS.F ht⟩) hS.2.2 dX7_fitInto_38
set_option maxHeartbeats 4000000 in
set_option maxRecDepth 100000 in
theorem c_fit0 (l : Launch) (dC : Nat → ClassId) (dI : Nat → Nat → Nat) (sz : Nat) (h0 : Nat) (w0 : Value) (a1 : Nat) (a2 : Nat) (w3 : Value) (w4 : Value) (ka1 : ClassId) (ka2 : ClassId)  : Met l yX7_fitInto (wq yX7_fitInto cX7_fitInto 5 (some .boolean)) ({ frames := 8, cells := 0, slots := 0, locals := 192 }) (va_Pc [.ref h0, .int 0, .int 0, .int 0] (pcW dC dI [(ka1, .int), (ka2, .int)] [(h0, .inr (6, [w0, .ref a1, .ref a2, w3, w4])), (a1, .inl (ka1, 8, .inl (fun _ => 0))), (a2, .inl (ka2, 8, .inl (fun _ => 0)))] sz)) (va_Qi (fun (r : Int32) (_ : Unit) => r = 1) (fun _ t => va_P (dC, dI) vwCl [(h0, .inr (6, [w0, .ref a1, .ref a2, w3, w4])), (a1, .inl (ka1, 8, .inl (fun _ => 0))), (a2, .inl (ka2, 8, .inl (slF (-6) 0 8)))] t.heap ∧ va_K (dC, dI) vwCl [(ka1, .int), (ka2, .int)] t ∧ va_D (va_A [(h0, .inr (6, [w0, .ref a1, .ref a2, w3, w4])), (a1, .inl (ka1, 8, .inl (fun _ => 0))), (a2, .inl (ka2, 8, .inl (fun _ => 0)))] sz) [(h0, .inr (6, [w0, .ref a1, .ref a2, w3, w4])), (a1, .inl (ka1, 8, .inl (fun _ => 0))), (a2, .inl (ka2, 8, .inl (slF (-6) 0 8)))]) (va_A [(h0, .inr (6, [w0, .ref a1, .ref a2, w3, w4])), (a1, .inl (ka1, 8, .inl (fun _ => 0))), (a2, .inl (ka2, 8, .inl (fun _ => 0)))] sz)) 0 0 (va_A [(h0, .inr (6, [w0, .ref a1, .ref a2, w3, w4])), (a1, .inl (ka1, 8, .inl (fun _ => 0))), (a2, .inl (ka2, 8, .inl (fun _ => 0)))] sz) := by
  refine Met.ofW (cc := cX7_fitInto) (maxL := 5) (ret := (some .boolean)) (by decide) rfl ?_
  intro p e s m args below meth c s₁ B hml hv
  obtain ⟨rfl, hsz, hN, hP, hK, hD0⟩ := hv
  have hx := B.exec
  have hb := B.bytes
  have hr := B.returns
  have hts0 := atoms_spec (ws := (wq yX7_fitInto cX7_fitInto 5 (some .boolean))) B.pre
  have hts : ∀ w ∈ BG, w.before _ s = true := fun w h => hts0 w (List.mem_cons_of_mem _ h)
  have hown : s.vm.findClass RX7 = some m.cls := findClass_of_methodNamed B.named
  have hlocks := B.notSynchronized
  subst hsz
  have hD := hD0.self (sz := s.heap.size)
  generalize hAe : va_A [(h0, .inr (6, [w0, .ref a1, .ref a2, w3, w4])), (a1, .inl (ka1, 8, .inl (fun _ => 0))), (a2, .inl (ka2, 8, .inl (fun _ => 0)))] s.heap.size = A at hD ⊢
  have hA : ∀ q : Nat, s.heap.size ≤ q → A q := fun q h => by rw [← hAe]; exact Or.inr h
  have hS : va_S A s.heap s.heap [] := va_S.rf
  have hP : va_P (dC, dI) vwCl [(h0, .inr (6, [w0, .ref a1, .ref a2, w3, w4])), (a1, .inl (ka1, 8, .inl (fun _ => 0))), (a2, .inl (ka2, 8, .inl (fun _ => 0)))] s.heap := hP
  have hl := lv_entry ([.ref h0, .int 0, .int 0, .int 0]) (n := 5) (Nat.le_of_ble_eq_true rfl)
  rw [lg_entry_eq]
  generalize (lg_sl ([.ref h0, .int 0, .int 0, .int 0]) ++ List.replicate (5 - (lg_sl ([.ref h0, .int 0, .int 0, .int 0])).length) Slot.unset).toArray = ls at hl ⊢
  have hl : lv_has ls 5 [(0, .ref h0), (1, .int 0), (2, .int 0), (3, .int 0)] := hl
  skip
  refine lv_iload_n hx hb dX7_fitInto_0 rfl (lv_at hl 2 rfl) ?_
  refine lv_if_lt (tgt := 10) hx hb dX7_fitInto_1 (by decide) (fun h => absurd h (by decide)) (fun _ => ?_)
  refine lv_iload_n hx hb dX7_fitInto_4 rfl (lv_at hl 2 rfl) ?_
  refine lv_bipush (v := 8) hx hb dX7_fitInto_5 (by decide) ?_
  refine lv_icmp_lt (tgt := 12) hx hb dX7_fitInto_7 (by decide) (fun _ => ?_) (fun h => absurd (by decide) h)
  refine lv_aload_n hx hb dX7_fitInto_12 rfl (lv_at hl 0 rfl) ?_
  refine va_get (D := (dC, dI)) (ci := 6) (v := .ref a2) (C := RX7) (T := TX7) (N := 5) hx hb hts inB_7 hown hK hP 0 rfl rfl 2 (by decide) (hts _ mw_1_129) (fun _ h9 => h9) rfl dX7_fitInto_13 ?_
  refine lv_iload_n hx hb dX7_fitInto_16 rfl (lv_at hl 2 rfl) ?_
  refine lv_bipush (v := (-6)) hx hb dX7_fitInto_17 (by decide) ?_
  refine va_iast hx hb hK hP hD hS 2 1 rfl rfl (show vp_in 0 8 by unfold vp_in; decide) dX7_fitInto_19 (fun H locs hP hD hS => ?_)
  rw [show upd (fun _ => 0) (Int32.toNatClampNeg 0) (-6) = (slF (-6) 0 1) from slF_u0 _ _] at hP hD
  have hP : va_P (dC, dI) vwCl [(h0, .inr (6, [w0, .ref a1, .ref a2, w3, w4])), (a1, .inl (ka1, 8, .inl (fun _ => 0))), (a2, .inl (ka2, 8, .inl (slF (-6) 0 1)))] H := hP
  have hD : va_D A [(h0, .inr (6, [w0, .ref a1, .ref a2, w3, w4])), (a1, .inl (ka1, 8, .inl (fun _ => 0))), (a2, .inl (ka2, 8, .inl (slF (-6) 0 1)))] := hD
  refine lv_aload_n hx hb dX7_fitInto_20 rfl (lv_at hl 0 rfl) ?_
  refine va_get (D := (dC, dI)) (ci := 6) (v := .ref a1) (C := RX7) (T := TX7) (N := 5) hx hb hts inB_7 hown hK hP 0 rfl rfl 1 (by decide) (hts _ mw_1_128) (fun _ h9 => h9) rfl dX7_fitInto_21 ?_
  refine lv_iload_n hx hb dX7_fitInto_24 rfl (lv_at hl 2 rfl) ?_
  refine va_iald hx hb hK hP 1 0 rfl rfl (show vp_in 0 8 by unfold vp_in; decide) dX7_fitInto_25 ?_
  refine hx_top (y := 0) rfl ?_
  refine lv_if_ne (tgt := 39) hx hb dX7_fitInto_26 (by decide) (fun h => absurd h (by decide)) (fun _ => ?_)
  refine lv_aload_n hx hb dX7_fitInto_29 rfl (lv_at hl 0 rfl) ?_
  refine lv_iload_n hx hb dX7_fitInto_30 rfl (lv_at hl 1 rfl) ?_
  refine lv_iload_n hx hb dX7_fitInto_31 rfl (lv_at hl 2 rfl) ?_
  refine lv_iconst (v := 1) hx hb dX7_fitInto_32 (by decide) ?_
  refine lv_iadd hx hb dX7_fitInto_33 ?_
  refine hx_top (y := 1) (by decide) ?_
  refine lv_iload_n hx hb dX7_fitInto_34 rfl (lv_at hl 3 rfl) ?_
  have hPc := hP.sub (ws' := [(h0, .inr (6, [w0, .ref a1, .ref a2, w3, w4])), (a1, .inl (ka1, 8, .inl (fun _ => 0))), (a2, .inl (ka2, 8, .inl (slF (-6) 0 1)))]) [0, 1, 2] rfl
  have hDc := hD.sub (ws' := [(h0, .inr (6, [w0, .ref a1, .ref a2, w3, w4])), (a1, .inl (ka1, 8, .inl (fun _ => 0))), (a2, .inl (ka2, 8, .inl (slF (-6) 0 1)))]) [0, 1, 2] (by decide) rfl
  have hKc := hK.sub (tys' := [(ka1, .int), (ka2, .int)]) [0, 1] rfl
  have hFc := va_free (wc := [(h0, .inr (6, [w0, .ref a1, .ref a2, w3, w4])), (a1, .inl (ka1, 8, .inl (fun _ => 0))), (a2, .inl (ka2, 8, .inl (slF (-6) 0 1)))]) hD hS hA [0, 1, 2] rfl
  refine va_calli (va_runV (As := [.int 0, .int 1, .int 0]) (rest := []) ⟨hx, hb, hml, hown, hts⟩ (c_fit1 l dC dI H.size h0 (w0) a1 a2 (w3) (w4) ka1 ka2) (cwV 3 hts (gV mw_3_26 mw_3_28 mw_0_7 mw_1_7 mw_3_29) rfl rfl rfl (by decide +kernel) ⟨Nat.le_of_ble_eq_true rfl, Nat.le_of_ble_eq_true rfl⟩) ⟨pcW_blind, va_recv hKc hPc (ci := 6) (q0 := 0) rfl rfl, pcW_at hPc hKc hDc hN⟩ rfl rfl hl.1 rfl (lv_room (Nat.le_of_ble_eq_true rfl)) dX7_fitInto_35 ⟨Nat.le_of_ble_eq_true rfl, Nat.le_of_ble_eq_true rfl⟩) hS (fun q _ h => hFc q h) hFc (fun r_1 u t H1 locs ht hvm hw_1 hB hz1 hk1 hS => ?_)
  obtain ⟨hP1, hK1, hD1⟩ := hB
  rw [ht] at hP1
  have hK1 := va_K.moved hvm.symm hK1
  obtain ⟨hP, hD⟩ := va_join (wr := []) (w1 := [(h0, .inr (6, [w0, .ref a1, .ref a2, w3, w4])), (a1, .inl (ka1, 8, .inl (fun _ => 0))), (a2, .inl (ka2, 8, .inl (slF (-6) 0 8)))]) hP hD [0, 1, 2] [] rfl rfl (by decide) (by decide) hk1 hFc hP1 hD1
  have hK := (hK.sub (tys' := []) [] rfl).app hK1
  clear hz1 hk1 hPc hDc hKc hFc
  generalize H1 = H at hP hS ⊢
  have hK : va_K (dC, dI) vwCl [(ka1, .int), (ka2, .int)] s := hK
  have hP : va_P (dC, dI) vwCl [(h0, .inr (6, [w0, .ref a1, .ref a2, w3, w4])), (a1, .inl (ka1, 8, .inl (fun _ => 0))), (a2, .inl (ka2, 8, .inl (slF (-6) 0 8)))] H := hP
  have hD : va_D A [(h0, .inr (6, [w0, .ref a1, .ref a2, w3, w4])), (a1, .inl (ka1, 8, .inl (fun _ => 0))), (a2, .inl (ka2, 8, .inl (slF (-6) 0 8)))] := hD
  obtain rfl : r_1 = 1 := hw_1
  exact W.zret (v := 1) hx hb hr (by decide) (fun t ht hW => ⟨⟨1, (), rfl, rfl, by rw [ht]; exact hP, va_K.moved hW.alike hK, hD⟩, hS.F ht⟩) hS.2.2 dX7_fitInto_38
set_option maxHeartbeats 4000000 in
set_option maxRecDepth 100000 in
theorem c_spread (l : Launch) (dC : Nat → ClassId) (dI : Nat → Nat → Nat) (sz : Nat) (h0 : Nat) (a0 : Nat) (a1 : Nat) (a2 : Nat) (w3 : Value) (w4 : Value) (ka0 : ClassId) (ka1 : ClassId) (ka2 : ClassId)  : Met l yX7_spread (wq yX7_spread cX7_spread 2 (some .int)) ({ frames := 9, cells := 0, slots := 0, locals := 216 }) (va_Pc [.ref h0] (pcW dC dI [(ka0, .int), (ka1, .int), (ka2, .int)] [(h0, .inr (6, [.ref a0, .ref a1, .ref a2, w3, w4])), (a0, .inl (ka0, 10, .inl (fun _ => 0))), (a1, .inl (ka1, 8, .inl (fun _ => 0))), (a2, .inl (ka2, 8, .inl (fun _ => 0)))] sz)) (va_Qi (fun (r : Int32) (_ : Unit) => r = 0) (fun _ t => va_P (dC, dI) vwCl [(a0, .inl (ka0, 10, .inl (fun _ => 0))), (h0, .inr (6, [.ref a0, .ref a1, .ref a2, w3, w4])), (a1, .inl (ka1, 8, .inl (fun _ => 0))), (a2, .inl (ka2, 8, .inl (slF (-6) 0 8)))] t.heap ∧ va_K (dC, dI) vwCl [(ka0, .int), (ka1, .int), (ka2, .int)] t ∧ va_D (va_A [(h0, .inr (6, [.ref a0, .ref a1, .ref a2, w3, w4])), (a0, .inl (ka0, 10, .inl (fun _ => 0))), (a1, .inl (ka1, 8, .inl (fun _ => 0))), (a2, .inl (ka2, 8, .inl (fun _ => 0)))] sz) [(a0, .inl (ka0, 10, .inl (fun _ => 0))), (h0, .inr (6, [.ref a0, .ref a1, .ref a2, w3, w4])), (a1, .inl (ka1, 8, .inl (fun _ => 0))), (a2, .inl (ka2, 8, .inl (slF (-6) 0 8)))]) (va_A [(h0, .inr (6, [.ref a0, .ref a1, .ref a2, w3, w4])), (a0, .inl (ka0, 10, .inl (fun _ => 0))), (a1, .inl (ka1, 8, .inl (fun _ => 0))), (a2, .inl (ka2, 8, .inl (fun _ => 0)))] sz)) 0 0 (va_A [(h0, .inr (6, [.ref a0, .ref a1, .ref a2, w3, w4])), (a0, .inl (ka0, 10, .inl (fun _ => 0))), (a1, .inl (ka1, 8, .inl (fun _ => 0))), (a2, .inl (ka2, 8, .inl (fun _ => 0)))] sz) := by
  refine Met.ofW (cc := cX7_spread) (maxL := 2) (ret := (some .int)) (by decide) rfl ?_
  intro p e s m args below meth c s₁ B hml hv
  obtain ⟨rfl, hsz, hN, hP, hK, hD0⟩ := hv
  have hx := B.exec
  have hb := B.bytes
  have hr := B.returns
  have hts0 := atoms_spec (ws := (wq yX7_spread cX7_spread 2 (some .int))) B.pre
  have hts : ∀ w ∈ BG, w.before _ s = true := fun w h => hts0 w (List.mem_cons_of_mem _ h)
  have hown : s.vm.findClass RX7 = some m.cls := findClass_of_methodNamed B.named
  have hlocks := B.notSynchronized
  subst hsz
  have hD := hD0.self (sz := s.heap.size)
  generalize hAe : va_A [(h0, .inr (6, [.ref a0, .ref a1, .ref a2, w3, w4])), (a0, .inl (ka0, 10, .inl (fun _ => 0))), (a1, .inl (ka1, 8, .inl (fun _ => 0))), (a2, .inl (ka2, 8, .inl (fun _ => 0)))] s.heap.size = A at hD ⊢
  have hA : ∀ q : Nat, s.heap.size ≤ q → A q := fun q h => by rw [← hAe]; exact Or.inr h
  have hS : va_S A s.heap s.heap [] := va_S.rf
  have hP : va_P (dC, dI) vwCl [(h0, .inr (6, [.ref a0, .ref a1, .ref a2, w3, w4])), (a0, .inl (ka0, 10, .inl (fun _ => 0))), (a1, .inl (ka1, 8, .inl (fun _ => 0))), (a2, .inl (ka2, 8, .inl (fun _ => 0)))] s.heap := hP
  have hl := lv_entry ([.ref h0]) (n := 2) (Nat.le_of_ble_eq_true rfl)
  rw [lg_entry_eq]
  generalize (lg_sl ([.ref h0]) ++ List.replicate (2 - (lg_sl ([.ref h0])).length) Slot.unset).toArray = ls at hl ⊢
  have hl : lv_has ls 2 [(0, .ref h0)] := hl
  skip
  refine lv_aload_n hx hb dX7_spread_0 rfl (lv_at hl 0 rfl) ?_
  have hPc := hP.sub (ws' := [(h0, .inr (6, [.ref a0, .ref a1, .ref a2, w3, w4])), (a0, .inl (ka0, 10, .inl (fun _ => 0))), (a1, .inl (ka1, 8, .inl (fun _ => 0)))]) [0, 1, 2] rfl
  have hDc := hD.sub (ws' := [(h0, .inr (6, [.ref a0, .ref a1, .ref a2, w3, w4])), (a0, .inl (ka0, 10, .inl (fun _ => 0))), (a1, .inl (ka1, 8, .inl (fun _ => 0)))]) [0, 1, 2] (by decide) rfl
  have hKc := hK.sub (tys' := [(ka0, .int), (ka1, .int)]) [0, 1] rfl
  have hFc := va_free (wc := [(h0, .inr (6, [.ref a0, .ref a1, .ref a2, w3, w4])), (a0, .inl (ka0, 10, .inl (fun _ => 0))), (a1, .inl (ka1, 8, .inl (fun _ => 0)))]) hD hS hA [0, 1, 2] rfl
  refine va_callv (va_runV (As := []) (rest := []) ⟨hx, hb, hml, hown, hts⟩ (c_findT l dC dI s.heap.size h0 a0 a1 (.ref a2) (w3) (w4) ka0 ka1) (cwV 0 hts (gV mw_3_21 mw_3_23 mw_0_6 mw_1_7 mw_3_24) rfl rfl rfl (by decide +kernel) ⟨Nat.le_of_ble_eq_true rfl, Nat.le_of_ble_eq_true rfl⟩) ⟨pcW_blind, va_recv hKc hPc (ci := 6) (q0 := 0) rfl rfl, pcW_at hPc hKc hDc hN⟩ rfl rfl hl.1 rfl (lv_room (Nat.le_of_ble_eq_true rfl)) dX7_spread_1 ⟨Nat.le_of_ble_eq_true rfl, Nat.le_of_ble_eq_true rfl⟩) hS (fun q _ h => hFc q h) hFc (fun u t H1 locs ht hvm hw_1 hB hz1 hk1 hS => ?_)
  obtain ⟨hP1, hK1, hD1⟩ := hB
  rw [ht] at hP1
  have hK1 := va_K.moved hvm.symm hK1
  obtain ⟨hP, hD⟩ := va_join (wr := [(a2, .inl (ka2, 8, .inl (fun _ => 0)))]) (w1 := [(h0, .inr (6, [.ref a0, .ref a1, .ref a2, w3, w4])), (a0, .inl (ka0, 10, .inl (fun _ => 0))), (a1, .inl (ka1, 8, .inl (fun _ => 0)))]) hP hD [0, 1, 2] [3] rfl rfl (by decide) (by decide) hk1 hFc hP1 hD1
  have hK := (hK.sub (tys' := [(ka2, .int)]) [2] rfl).app hK1
  clear hz1 hk1 hPc hDc hKc hFc
  generalize H1 = H at hP hS ⊢
  have hK : va_K (dC, dI) vwCl [(ka2, .int), (ka0, .int), (ka1, .int)] s := hK
  have hP : va_P (dC, dI) vwCl [(a2, .inl (ka2, 8, .inl (fun _ => 0))), (h0, .inr (6, [.ref a0, .ref a1, .ref a2, w3, w4])), (a0, .inl (ka0, 10, .inl (fun _ => 0))), (a1, .inl (ka1, 8, .inl (fun _ => 0)))] H := hP
  have hD : va_D A [(a2, .inl (ka2, 8, .inl (fun _ => 0))), (h0, .inr (6, [.ref a0, .ref a1, .ref a2, w3, w4])), (a0, .inl (ka0, 10, .inl (fun _ => 0))), (a1, .inl (ka1, 8, .inl (fun _ => 0)))] := hD
  refine lv_iconst (v := 0) hx hb dX7_spread_4 (by decide) ?_
  refine lv_istore_n (lv' := [(1, .int 0), (0, .ref h0)]) hx hb dX7_spread_5 rfl hl (by decide) rfl (fun ls hl => ?_)
  refine lv_iload_n hx hb dX7_spread_6 rfl (lv_at hl 0 rfl) ?_
  refine lv_bipush (v := 8) hx hb dX7_spread_7 (by decide) ?_
  refine lv_icmp_gt (tgt := 30) hx hb dX7_spread_9 (by decide) (fun h => absurd h (by decide)) (fun _ => ?_)
  refine lv_aload_n hx hb dX7_spread_12 rfl (lv_at hl 1 rfl) ?_
  refine lv_iload_n hx hb dX7_spread_13 rfl (lv_at hl 0 rfl) ?_
  refine lv_iconst (v := 0) hx hb dX7_spread_14 (by decide) ?_
  refine lv_iconst (v := 0) hx hb dX7_spread_15 (by decide) ?_
  have hPc := hP.sub (ws' := [(h0, .inr (6, [.ref a0, .ref a1, .ref a2, w3, w4])), (a1, .inl (ka1, 8, .inl (fun _ => 0))), (a2, .inl (ka2, 8, .inl (fun _ => 0)))]) [1, 3, 0] rfl
  have hDc := hD.sub (ws' := [(h0, .inr (6, [.ref a0, .ref a1, .ref a2, w3, w4])), (a1, .inl (ka1, 8, .inl (fun _ => 0))), (a2, .inl (ka2, 8, .inl (fun _ => 0)))]) [1, 3, 0] (by decide) rfl
  have hKc := hK.sub (tys' := [(ka1, .int), (ka2, .int)]) [2, 0] rfl
  have hFc := va_free (wc := [(h0, .inr (6, [.ref a0, .ref a1, .ref a2, w3, w4])), (a1, .inl (ka1, 8, .inl (fun _ => 0))), (a2, .inl (ka2, 8, .inl (fun _ => 0)))]) hD hS hA [1, 3, 0] rfl
  refine va_calli (va_runV (As := [.int 0, .int 0, .int 0]) (rest := []) ⟨hx, hb, hml, hown, hts⟩ (c_fit0 l dC dI H.size h0 (.ref a0) a1 a2 (w3) (w4) ka1 ka2) (cwV 3 hts (gV mw_3_26 mw_3_28 mw_0_7 mw_1_7 mw_3_29) rfl rfl rfl (by decide +kernel) ⟨Nat.le_of_ble_eq_true rfl, Nat.le_of_ble_eq_true rfl⟩) ⟨pcW_blind, va_recv hKc hPc (ci := 6) (q0 := 0) rfl rfl, pcW_at hPc hKc hDc hN⟩ rfl rfl hl.1 rfl (lv_room (Nat.le_of_ble_eq_true rfl)) dX7_spread_16 ⟨Nat.le_of_ble_eq_true rfl, Nat.le_of_ble_eq_true rfl⟩) hS (fun q _ h => hFc q h) hFc (fun r_2 u t H1 locs ht hvm hw_2 hB hz1 hk1 hS => ?_)
  obtain ⟨hP1, hK1, hD1⟩ := hB
  rw [ht] at hP1
  have hK1 := va_K.moved hvm.symm hK1
  obtain ⟨hP, hD⟩ := va_join (wr := [(a0, .inl (ka0, 10, .inl (fun _ => 0)))]) (w1 := [(h0, .inr (6, [.ref a0, .ref a1, .ref a2, w3, w4])), (a1, .inl (ka1, 8, .inl (fun _ => 0))), (a2, .inl (ka2, 8, .inl (slF (-6) 0 8)))]) hP hD [1, 3, 0] [2] rfl rfl (by decide) (by decide) hk1 hFc hP1 hD1
  have hK := (hK.sub (tys' := [(ka0, .int)]) [1] rfl).app hK1
  clear hz1 hk1 hPc hDc hKc hFc
  generalize H1 = H at hP hS ⊢
  have hK : va_K (dC, dI) vwCl [(ka0, .int), (ka1, .int), (ka2, .int)] s := hK
  have hP : va_P (dC, dI) vwCl [(a0, .inl (ka0, 10, .inl (fun _ => 0))), (h0, .inr (6, [.ref a0, .ref a1, .ref a2, w3, w4])), (a1, .inl (ka1, 8, .inl (fun _ => 0))), (a2, .inl (ka2, 8, .inl (slF (-6) 0 8)))] H := hP
  have hD : va_D A [(a0, .inl (ka0, 10, .inl (fun _ => 0))), (h0, .inr (6, [.ref a0, .ref a1, .ref a2, w3, w4])), (a1, .inl (ka1, 8, .inl (fun _ => 0))), (a2, .inl (ka2, 8, .inl (slF (-6) 0 8)))] := hD
  obtain rfl : r_2 = 1 := hw_2
  refine lv_if_eq (tgt := 24) hx hb dX7_spread_19 (by decide) (fun h => absurd h (by decide)) (fun _ => ?_)
  refine lv_iload_n hx hb dX7_spread_22 rfl (lv_at hl 0 rfl) ?_
  exact W.iret (v := 0) hx hb hr (fun t ht hW => ⟨⟨0, (), rfl, rfl, by rw [ht]; exact hP, va_K.moved hW.alike hK, hD⟩, hS.F ht⟩) hS.2.2 dX7_spread_23
set_option maxHeartbeats 4000000 in
set_option maxRecDepth 100000 in
theorem c_colOf (l : Launch) (dC : Nat → ClassId) (dI : Nat → Nat → Nat) (sz : Nat) (h0 : Nat) (w0 : Value) (w1 : Value) (a2 : Nat) (w3 : Value) (w4 : Value) (ka2 : ClassId) (n : Int32)  : Met l yX7_columnOf (wq yX7_columnOf cX7_columnOf 2 (some .int)) ({ frames := 1, cells := 0, slots := 0, locals := 20 }) (va_Pc [.ref h0, .int n] (pcW dC dI [(ka2, .int)] [(h0, .inr (6, [w0, w1, .ref a2, w3, w4])), (a2, .inl (ka2, 8, .inl (slF (-6) 0 8)))] sz)) (va_Qi (fun (r : Int32) (_ : Unit) => r = (-6)) (fun _ _ => True) (fun q : Nat => sz ≤ q)) 0 0 (fun q : Nat => sz ≤ q) := by
  refine Met.ofW (cc := cX7_columnOf) (maxL := 2) (ret := (some .int)) (by decide) rfl ?_
  intro p e s m args below meth c s₁ B hml hv
  obtain ⟨rfl, hsz, hN, hP, hK, hD0⟩ := hv
  have hx := B.exec
  have hb := B.bytes
  have hr := B.returns
  have hts0 := atoms_spec (ws := (wq yX7_columnOf cX7_columnOf 2 (some .int))) B.pre
  have hts : ∀ w ∈ BG, w.before _ s = true := fun w h => hts0 w (List.mem_cons_of_mem _ h)
  have hown : s.vm.findClass RX7 = some m.cls := findClass_of_methodNamed B.named
  have hlocks := B.notSynchronized
  subst hsz
  have hA : ∀ q : Nat, s.heap.size ≤ q → (fun q : Nat => s.heap.size ≤ q) q := fun _ h => h
  have hD := hD0
  have hS : va_S (fun q : Nat => s.heap.size ≤ q) s.heap s.heap [] := va_S.rf
  have hP : va_P (dC, dI) vwCl [(h0, .inr (6, [w0, w1, .ref a2, w3, w4])), (a2, .inl (ka2, 8, .inl (slF (-6) 0 8)))] s.heap := hP
  have hl := lv_entry ([.ref h0, .int n]) (n := 2) (Nat.le_of_ble_eq_true rfl)
  rw [lg_entry_eq]
  generalize (lg_sl ([.ref h0, .int n]) ++ List.replicate (2 - (lg_sl ([.ref h0, .int n])).length) Slot.unset).toArray = ls at hl ⊢
  have hl : lv_has ls 2 [(0, .ref h0), (1, .int n)] := hl
  skip
  refine lv_iload_n hx hb dX7_columnOf_0 rfl (lv_at hl 1 rfl) ?_
  have hPc := hP.sub (ws' := []) [] rfl
  have hDc := hD.sub (ws' := []) [] (by decide) rfl
  have hKc := hK.sub (tys' := []) [] rfl
  refine va_calli (va_runSN (As := [.int n]) (rest := []) ⟨hx, hb, hml, hown, hts⟩ (c_isName l dC dI s.heap.size n) ⟨va_cnB 1 hts (gN mw_2_99) rfl rfl rfl (hN (RX7, 50, yX8_isName, RX8) (List.mem_of_getElem? (i := 12) rfl)) (hts _ mw_1_1) (by decide +kernel) ⟨Nat.le_of_ble_eq_true rfl, Nat.le_of_ble_eq_true rfl⟩, (hts _ mw_2_98), trivial⟩ ⟨pcW_blind, pcW_at hPc hKc hDc hN⟩ rfl rfl hl.1 rfl (lv_room (Nat.le_of_ble_eq_true rfl)) dX7_columnOf_1 ⟨Nat.le_of_ble_eq_true rfl, Nat.le_of_ble_eq_true rfl⟩) hS (fun q h1 h2 => absurd h2 (Nat.not_le.mpr h1)) (fun q h => hA q (Nat.le_trans hS.1 h)) (fun r_1 u t H1 locs ht hvm hw_1 hB hz1 hk1 hS => ?_)
  have hP := keepP hP hk1
  clear hz1 hk1 hB ht hvm hPc hDc hKc
  generalize H1 = H at hP hS ⊢
  rcases fx_bool hw_1 with ⟨rfl, b_2⟩ | ⟨rfl, b_2⟩
  · skip
    refine lv_if_eq (tgt := 16) hx hb dX7_columnOf_4 (by decide) (fun h => absurd h (by decide)) (fun _ => ?_)
    refine lv_aload_n hx hb dX7_columnOf_7 rfl (lv_at hl 0 rfl) ?_
    refine va_get (D := (dC, dI)) (ci := 6) (v := .ref a2) (C := RX7) (T := TX7) (N := 5) hx hb hts inB_7 hown hK hP 0 rfl rfl 2 (by decide) (hts _ mw_1_129) (fun _ h9 => h9) rfl dX7_columnOf_8 ?_
    refine lv_iload_n hx hb dX7_columnOf_11 rfl (lv_at hl 1 rfl) ?_
    refine va_iald hx hb hK hP 1 0 rfl rfl (show vp_in n 8 from fx_in (by omega) (by omega)) dX7_columnOf_12 ?_
    refine hx_top (y := (-6)) (slF_in (fx_cl (by omega) (by omega))) ?_
    refine lv_goto (tgt := 18) hx hb dX7_columnOf_13 (by decide) ?_
    exact W.iret (v := (-6)) hx hb hr (fun t ht hW => ⟨⟨(-6), (), rfl, rfl, trivial⟩, hS.F ht⟩) hS.2.2 dX7_columnOf_18
  · skip
    refine lv_if_eq (tgt := 16) hx hb dX7_columnOf_4 (by decide) (fun _ => ?_) (fun h => absurd (by decide) h)
    refine lv_bipush (v := (-6)) hx hb dX7_columnOf_16 (by decide) ?_
    exact W.iret (v := (-6)) hx hb hr (fun t ht hW => ⟨⟨(-6), (), rfl, rfl, trivial⟩, hS.F ht⟩) hS.2.2 dX7_columnOf_18
end
section
theorem mw_1_130 : Cond.fieldLink RX7 21 "AnswerLines$Table" "pushedTo" "[I" ∈ BG := mB (t1 (i := 130) (by decide +kernel)) (by decide +kernel)
theorem mw_1_131 : Cond.fieldLink RX7 24 "AnswerLines$Table" "slots" "[I" ∈ BG := mB (t1 (i := 131) (by decide +kernel)) (by decide +kernel)
theorem dX7_push_0 : decode cX7_push 0 = .ok (.iconst 0, 1) := by decide +kernel
theorem dX7_push_1 : decode cX7_push 1 = .ok (.istore_n 1, 1) := by decide +kernel
theorem dX7_push_2 : decode cX7_push 2 = .ok (.iload_n 1, 1) := by decide +kernel
theorem dX7_push_3 : decode cX7_push 3 = .ok (.bipush 100, 2) := by decide +kernel
theorem dX7_push_5 : decode cX7_push 5 = .ok (.if_icmp .ge 17, 3) := by decide +kernel
theorem dX7_push_22 : decode cX7_push 22 = .ok (.iconst 0, 1) := by decide +kernel
theorem dX7_push_23 : decode cX7_push 23 = .ok (.istore_n 1, 1) := by decide +kernel
theorem dX7_push_24 : decode cX7_push 24 = .ok (.iconst 0, 1) := by decide +kernel
theorem dX7_push_25 : decode cX7_push 25 = .ok (.istore_n 2, 1) := by decide +kernel
theorem dX7_push_26 : decode cX7_push 26 = .ok (.iload_n 2, 1) := by decide +kernel
theorem dX7_push_27 : decode cX7_push 27 = .ok (.bipush 10, 2) := by decide +kernel
theorem dX7_push_29 : decode cX7_push 29 = .ok (.if_icmp .ge 36, 3) := by decide +kernel
theorem dX7_push_32 : decode cX7_push 32 = .ok (.aload_n 0, 1) := by decide +kernel
theorem dX7_push_33 : decode cX7_push 33 = .ok (.getfield 21, 3) := by decide +kernel
theorem dX7_push_36 : decode cX7_push 36 = .ok (.iload_n 2, 1) := by decide +kernel
theorem dX7_push_37 : decode cX7_push 37 = .ok (.bipush (-6), 2) := by decide +kernel
theorem dX7_push_39 : decode cX7_push 39 = .ok (.iastore, 1) := by decide +kernel
theorem dX7_push_40 : decode cX7_push 40 = .ok (.aload_n 0, 1) := by decide +kernel
theorem dX7_push_41 : decode cX7_push 41 = .ok (.getfield 9, 3) := by decide +kernel
theorem dX7_push_44 : decode cX7_push 44 = .ok (.iload_n 2, 1) := by decide +kernel
theorem dX7_push_45 : decode cX7_push 45 = .ok (.iaload, 1) := by decide +kernel
theorem dX7_push_46 : decode cX7_push 46 = .ok (.ifCond .eq 13, 3) := by decide +kernel
theorem dX7_push_59 : decode cX7_push 59 = .ok (.iinc 2 1, 3) := by decide +kernel
theorem dX7_push_62 : decode cX7_push 62 = .ok (.goto (-36), 3) := by decide +kernel
theorem dX7_push_65 : decode cX7_push 65 = .ok (.iload_n 1, 1) := by decide +kernel
theorem dX7_push_66 : decode cX7_push 66 = .ok (.ireturn, 1) := by decide +kernel
theorem dX7_push_8 : decode cX7_push 8 = .ok (.aload_n 0, 1) := by decide +kernel
theorem dX7_push_9 : decode cX7_push 9 = .ok (.getfield 24, 3) := by decide +kernel
theorem dX7_push_12 : decode cX7_push 12 = .ok (.iload_n 1, 1) := by decide +kernel
theorem dX7_push_13 : decode cX7_push 13 = .ok (.bipush (-6), 2) := by decide +kernel
theorem dX7_push_15 : decode cX7_push 15 = .ok (.iastore, 1) := by decide +kernel
theorem dX7_push_16 : decode cX7_push 16 = .ok (.iinc 1 1, 3) := by decide +kernel
theorem dX7_push_19 : decode cX7_push 19 = .ok (.goto (-17), 3) := by decide +kernel
theorem dX7_standsAt_0 : decode cX7_standsAt 0 = .ok (.iload_n 1, 1) := by decide +kernel
theorem dX7_standsAt_1 : decode cX7_standsAt 1 = .ok (.ifCond .lt 18, 3) := by decide +kernel
theorem dX7_standsAt_19 : decode cX7_standsAt 19 = .ok (.bipush (-6), 2) := by decide +kernel
theorem dX7_standsAt_21 : decode cX7_standsAt 21 = .ok (.ireturn, 1) := by decide +kernel
theorem dX7_standsAt_4 : decode cX7_standsAt 4 = .ok (.iload_n 1, 1) := by decide +kernel
theorem dX7_standsAt_5 : decode cX7_standsAt 5 = .ok (.bipush 100, 2) := by decide +kernel
theorem dX7_standsAt_7 : decode cX7_standsAt 7 = .ok (.if_icmp .ge 12, 3) := by decide +kernel
theorem dX7_standsAt_10 : decode cX7_standsAt 10 = .ok (.aload_n 0, 1) := by decide +kernel
theorem dX7_standsAt_11 : decode cX7_standsAt 11 = .ok (.getfield 24, 3) := by decide +kernel
theorem dX7_standsAt_14 : decode cX7_standsAt 14 = .ok (.iload_n 1, 1) := by decide +kernel
theorem dX7_standsAt_15 : decode cX7_standsAt 15 = .ok (.iaload, 1) := by decide +kernel
theorem dX7_standsAt_16 : decode cX7_standsAt 16 = .ok (.goto 5, 3) := by decide +kernel
set_option maxHeartbeats 4000000 in
set_option maxRecDepth 100000 in
theorem c_push (l : Launch) (dC : Nat → ClassId) (dI : Nat → Nat → Nat) (sz : Nat) (h0 : Nat) (a0 : Nat) (w1 : Value) (w2 : Value) (a3 : Nat) (a4 : Nat) (ka0 : ClassId) (ka3 : ClassId) (ka4 : ClassId)  : Met l yX7_push (wq yX7_push cX7_push 3 (some .int)) ({ frames := 0, cells := 0, slots := 0, locals := 0 }) (va_Pc [.ref h0] (pcW dC dI [(ka0, .int), (ka3, .int), (ka4, .int)] [(h0, .inr (6, [.ref a0, w1, w2, .ref a3, .ref a4])), (a0, .inl (ka0, 10, .inl (fun _ => 0))), (a3, .inl (ka3, 10, .inl (fun _ => 0))), (a4, .inl (ka4, 100, .inl (fun _ => 0)))] sz)) (va_Qi (fun (r : Int32) (_ : Unit) => r = 0) (fun _ t => va_P (dC, dI) vwCl [(h0, .inr (6, [.ref a0, w1, w2, .ref a3, .ref a4])), (a0, .inl (ka0, 10, .inl (fun _ => 0))), (a3, .inl (ka3, 10, .inl (slF (-6) 0 10))), (a4, .inl (ka4, 100, .inl (slF (-6) 0 100)))] t.heap ∧ va_K (dC, dI) vwCl [(ka0, .int), (ka3, .int), (ka4, .int)] t ∧ va_D (va_A [(h0, .inr (6, [.ref a0, w1, w2, .ref a3, .ref a4])), (a0, .inl (ka0, 10, .inl (fun _ => 0))), (a3, .inl (ka3, 10, .inl (fun _ => 0))), (a4, .inl (ka4, 100, .inl (fun _ => 0)))] sz) [(h0, .inr (6, [.ref a0, w1, w2, .ref a3, .ref a4])), (a0, .inl (ka0, 10, .inl (fun _ => 0))), (a3, .inl (ka3, 10, .inl (slF (-6) 0 10))), (a4, .inl (ka4, 100, .inl (slF (-6) 0 100)))]) (va_A [(h0, .inr (6, [.ref a0, w1, w2, .ref a3, .ref a4])), (a0, .inl (ka0, 10, .inl (fun _ => 0))), (a3, .inl (ka3, 10, .inl (fun _ => 0))), (a4, .inl (ka4, 100, .inl (fun _ => 0)))] sz)) 0 0 (va_A [(h0, .inr (6, [.ref a0, w1, w2, .ref a3, .ref a4])), (a0, .inl (ka0, 10, .inl (fun _ => 0))), (a3, .inl (ka3, 10, .inl (fun _ => 0))), (a4, .inl (ka4, 100, .inl (fun _ => 0)))] sz) := by
  refine Met.ofW (cc := cX7_push) (maxL := 3) (ret := (some .int)) (by decide) rfl ?_
  intro p e s m args below meth c s₁ B hml hv
  obtain ⟨rfl, hsz, hN, hP, hK, hD0⟩ := hv
  have hx := B.exec
  have hb := B.bytes
  have hr := B.returns
  have hts0 := atoms_spec (ws := (wq yX7_push cX7_push 3 (some .int))) B.pre
  have hts : ∀ w ∈ BG, w.before _ s = true := fun w h => hts0 w (List.mem_cons_of_mem _ h)
  have hown : s.vm.findClass RX7 = some m.cls := findClass_of_methodNamed B.named
  have hlocks := B.notSynchronized
  subst hsz
  have hD := hD0.self (sz := s.heap.size)
  generalize hAe : va_A [(h0, .inr (6, [.ref a0, w1, w2, .ref a3, .ref a4])), (a0, .inl (ka0, 10, .inl (fun _ => 0))), (a3, .inl (ka3, 10, .inl (fun _ => 0))), (a4, .inl (ka4, 100, .inl (fun _ => 0)))] s.heap.size = A at hD ⊢
  have hA : ∀ q : Nat, s.heap.size ≤ q → A q := fun q h => by rw [← hAe]; exact Or.inr h
  have hS : va_S A s.heap s.heap [] := va_S.rf
  have hP : va_P (dC, dI) vwCl [(h0, .inr (6, [.ref a0, w1, w2, .ref a3, .ref a4])), (a0, .inl (ka0, 10, .inl (fun _ => 0))), (a3, .inl (ka3, 10, .inl (fun _ => 0))), (a4, .inl (ka4, 100, .inl (fun _ => 0)))] s.heap := hP
  have hl := lv_entry ([.ref h0]) (n := 3) (Nat.le_of_ble_eq_true rfl)
  rw [lg_entry_eq]
  generalize (lg_sl ([.ref h0]) ++ List.replicate (3 - (lg_sl ([.ref h0])).length) Slot.unset).toArray = ls at hl ⊢
  have hl : lv_has ls 3 [(0, .ref h0)] := hl
  skip
  refine lv_iconst (v := 0) hx hb dX7_push_0 (by decide) ?_
  refine lv_istore_n (lv' := [(1, .int 0), (0, .ref h0)]) hx hb dX7_push_1 rfl hl (by decide) rfl (fun ls hl => ?_)
  have key_1 : ∀ (n : Nat) (k : Nat), k ≤ 100 → 100 - k < n → ∀ (H : Heap) (locs : List Loc), va_P (dC, dI) vwCl [(h0, .inr (6, [.ref a0, w1, w2, .ref a3, .ref a4])), (a0, .inl (ka0, 10, .inl (fun _ => 0))), (a3, .inl (ka3, 10, .inl (fun _ => 0))), (a4, .inl (ka4, 100, .inl (slF (-6) 0 k)))] H → va_D A [(h0, .inr (6, [.ref a0, w1, w2, .ref a3, .ref a4])), (a0, .inl (ka0, 10, .inl (fun _ => 0))), (a3, .inl (ka3, 10, .inl (fun _ => 0))), (a4, .inl (ka4, 100, .inl (slF (-6) 0 k)))] → va_S A s.heap H locs → ∀ (ls : Array Slot), lv_has ls 3 [(1, .int (nI k)), (0, .ref h0)] → W p l e (headSpec (wq yX7_push cX7_push 3 (some .int)) ({ frames := 0, cells := 0, slots := 0, locals := 0 })).room s m (([.ref h0] : List Value)).toArray below meth c H locs 0 0 (MQ below (va_Qi (fun (r : Int32) (_ : Unit) => r = 0) (fun _ t => va_P (dC, dI) vwCl [(h0, .inr (6, [.ref a0, w1, w2, .ref a3, .ref a4])), (a0, .inl (ka0, 10, .inl (fun _ => 0))), (a3, .inl (ka3, 10, .inl (slF (-6) 0 10))), (a4, .inl (ka4, 100, .inl (slF (-6) 0 100)))] t.heap ∧ va_K (dC, dI) vwCl [(ka0, .int), (ka3, .int), (ka4, .int)] t ∧ va_D A [(h0, .inr (6, [.ref a0, w1, w2, .ref a3, .ref a4])), (a0, .inl (ka0, 10, .inl (fun _ => 0))), (a3, .inl (ka3, 10, .inl (slF (-6) 0 10))), (a4, .inl (ka4, 100, .inl (slF (-6) 0 100)))]) A) (([.ref h0] : List Value)).toArray s 0 0 A) (F0 m 2 ls []) := by
    intro n
    induction n with
    | zero => intro k hk hme; exact absurd hme (Nat.not_lt_zero _)
    | succ n ih_2 =>
      intro k hk hme H locs hP hD hS ls hl
      refine lv_iload_n hx hb dX7_push_2 rfl (lv_at hl 0 rfl) ?_
      refine lv_bipush (v := 100) hx hb dX7_push_3 (by decide) ?_
      refine lv_icmp_ge (tgt := 22) hx hb dX7_push_5 (by decide) (fun c_3 => ?_) (fun c_3 => ?_)
      · have b_4 : k ≥ 100 := nz_ge (by omega) (by omega) c_3
        obtain rfl : k = 100 := by omega
        refine lv_iconst (v := 0) hx hb dX7_push_22 (by decide) ?_
        refine lv_istore_n (lv' := [(1, .int 0), (0, .ref h0)]) hx hb dX7_push_23 rfl hl (by decide) rfl (fun ls hl => ?_)
        refine lv_iconst (v := 0) hx hb dX7_push_24 (by decide) ?_
        refine lv_istore_n (lv' := [(2, .int 0), (1, .int 0), (0, .ref h0)]) hx hb dX7_push_25 rfl hl (by decide) rfl (fun ls hl => ?_)
        refine lv_iload_n hx hb dX7_push_26 rfl (lv_at hl 0 rfl) ?_
        refine lv_bipush (v := 10) hx hb dX7_push_27 (by decide) ?_
        refine lv_icmp_ge (tgt := 65) hx hb dX7_push_29 (by decide) (fun h => absurd h (by decide)) (fun _ => ?_)
        refine lv_aload_n hx hb dX7_push_32 rfl (lv_at hl 2 rfl) ?_
        refine va_get (D := (dC, dI)) (ci := 6) (v := .ref a3) (C := RX7) (T := TX7) (N := 5) hx hb hts inB_7 hown hK hP 0 rfl rfl 3 (by decide) (hts _ mw_1_130) (fun _ h9 => h9) rfl dX7_push_33 ?_
        refine lv_iload_n hx hb dX7_push_36 rfl (lv_at hl 0 rfl) ?_
        refine lv_bipush (v := (-6)) hx hb dX7_push_37 (by decide) ?_
        refine va_iast hx hb hK hP hD hS 2 1 rfl rfl (show vp_in 0 10 by unfold vp_in; decide) dX7_push_39 (fun H locs hP hD hS => ?_)
        rw [show upd (fun _ => 0) (Int32.toNatClampNeg 0) (-6) = (slF (-6) 0 1) from slF_u0 _ _] at hP hD
        have hP : va_P (dC, dI) vwCl [(h0, .inr (6, [.ref a0, w1, w2, .ref a3, .ref a4])), (a0, .inl (ka0, 10, .inl (fun _ => 0))), (a3, .inl (ka3, 10, .inl (slF (-6) 0 1))), (a4, .inl (ka4, 100, .inl (slF (-6) 0 100)))] H := hP
        have hD : va_D A [(h0, .inr (6, [.ref a0, w1, w2, .ref a3, .ref a4])), (a0, .inl (ka0, 10, .inl (fun _ => 0))), (a3, .inl (ka3, 10, .inl (slF (-6) 0 1))), (a4, .inl (ka4, 100, .inl (slF (-6) 0 100)))] := hD
        refine lv_aload_n hx hb dX7_push_40 rfl (lv_at hl 2 rfl) ?_
        refine va_get (D := (dC, dI)) (ci := 6) (v := .ref a0) (C := RX7) (T := TX7) (N := 5) hx hb hts inB_7 hown hK hP 0 rfl rfl 0 (by decide) (hts _ mw_1_127) (fun _ h9 => h9) rfl dX7_push_41 ?_
        refine lv_iload_n hx hb dX7_push_44 rfl (lv_at hl 0 rfl) ?_
        refine va_iald hx hb hK hP 1 0 rfl rfl (show vp_in 0 10 by unfold vp_in; decide) dX7_push_45 ?_
        refine hx_top (y := 0) rfl ?_
        refine lv_if_eq (tgt := 59) hx hb dX7_push_46 (by decide) (fun _ => ?_) (fun h => absurd (by decide) h)
        refine lv_iinc (v := 1) (lv' := [(2, .int 1), (1, .int 0), (0, .ref h0)]) hx hb dX7_push_59 hl (k := 0) rfl (by decide) (by decide) rfl (fun ls hl => ?_)
        refine lv_goto (tgt := 26) hx hb dX7_push_62 (by decide) ?_
        refine lv_iload_n hx hb dX7_push_26 rfl (lv_at hl 0 rfl) ?_
        refine lv_bipush (v := 10) hx hb dX7_push_27 (by decide) ?_
        refine lv_icmp_ge (tgt := 65) hx hb dX7_push_29 (by decide) (fun h => absurd h (by decide)) (fun _ => ?_)
        refine lv_aload_n hx hb dX7_push_32 rfl (lv_at hl 2 rfl) ?_
        refine va_get (D := (dC, dI)) (ci := 6) (v := .ref a3) (C := RX7) (T := TX7) (N := 5) hx hb hts inB_7 hown hK hP 0 rfl rfl 3 (by decide) (hts _ mw_1_130) (fun _ h9 => h9) rfl dX7_push_33 ?_
        refine lv_iload_n hx hb dX7_push_36 rfl (lv_at hl 0 rfl) ?_
        refine lv_bipush (v := (-6)) hx hb dX7_push_37 (by decide) ?_
        refine va_iast hx hb hK hP hD hS 2 1 rfl rfl (show vp_in 1 10 by unfold vp_in; decide) dX7_push_39 (fun H locs hP hD hS => ?_)
        rw [show upd (slF (-6) 0 1) (Int32.toNatClampNeg 1) (-6) = (slF (-6) 0 2) from slF_u _ _ 1] at hP hD
        have hP : va_P (dC, dI) vwCl [(h0, .inr (6, [.ref a0, w1, w2, .ref a3, .ref a4])), (a0, .inl (ka0, 10, .inl (fun _ => 0))), (a3, .inl (ka3, 10, .inl (slF (-6) 0 2))), (a4, .inl (ka4, 100, .inl (slF (-6) 0 100)))] H := hP
        have hD : va_D A [(h0, .inr (6, [.ref a0, w1, w2, .ref a3, .ref a4])), (a0, .inl (ka0, 10, .inl (fun _ => 0))), (a3, .inl (ka3, 10, .inl (slF (-6) 0 2))), (a4, .inl (ka4, 100, .inl (slF (-6) 0 100)))] := hD
        refine lv_aload_n hx hb dX7_push_40 rfl (lv_at hl 2 rfl) ?_
        refine va_get (D := (dC, dI)) (ci := 6) (v := .ref a0) (C := RX7) (T := TX7) (N := 5) hx hb hts inB_7 hown hK hP 0 rfl rfl 0 (by decide) (hts _ mw_1_127) (fun _ h9 => h9) rfl dX7_push_41 ?_
        refine lv_iload_n hx hb dX7_push_44 rfl (lv_at hl 0 rfl) ?_
        refine va_iald hx hb hK hP 1 0 rfl rfl (show vp_in 1 10 by unfold vp_in; decide) dX7_push_45 ?_
        refine hx_top (y := 0) rfl ?_
        refine lv_if_eq (tgt := 59) hx hb dX7_push_46 (by decide) (fun _ => ?_) (fun h => absurd (by decide) h)
        refine lv_iinc (v := 2) (lv' := [(2, .int 2), (1, .int 0), (0, .ref h0)]) hx hb dX7_push_59 hl (k := 0) rfl (by decide) (by decide) rfl (fun ls hl => ?_)
        refine lv_goto (tgt := 26) hx hb dX7_push_62 (by decide) ?_
        refine lv_iload_n hx hb dX7_push_26 rfl (lv_at hl 0 rfl) ?_
        refine lv_bipush (v := 10) hx hb dX7_push_27 (by decide) ?_
        refine lv_icmp_ge (tgt := 65) hx hb dX7_push_29 (by decide) (fun h => absurd h (by decide)) (fun _ => ?_)
        refine lv_aload_n hx hb dX7_push_32 rfl (lv_at hl 2 rfl) ?_
        refine va_get (D := (dC, dI)) (ci := 6) (v := .ref a3) (C := RX7) (T := TX7) (N := 5) hx hb hts inB_7 hown hK hP 0 rfl rfl 3 (by decide) (hts _ mw_1_130) (fun _ h9 => h9) rfl dX7_push_33 ?_
        refine lv_iload_n hx hb dX7_push_36 rfl (lv_at hl 0 rfl) ?_
        refine lv_bipush (v := (-6)) hx hb dX7_push_37 (by decide) ?_
        refine va_iast hx hb hK hP hD hS 2 1 rfl rfl (show vp_in 2 10 by unfold vp_in; decide) dX7_push_39 (fun H locs hP hD hS => ?_)
        rw [show upd (slF (-6) 0 2) (Int32.toNatClampNeg 2) (-6) = (slF (-6) 0 3) from slF_u _ _ 2] at hP hD
        have hP : va_P (dC, dI) vwCl [(h0, .inr (6, [.ref a0, w1, w2, .ref a3, .ref a4])), (a0, .inl (ka0, 10, .inl (fun _ => 0))), (a3, .inl (ka3, 10, .inl (slF (-6) 0 3))), (a4, .inl (ka4, 100, .inl (slF (-6) 0 100)))] H := hP
        have hD : va_D A [(h0, .inr (6, [.ref a0, w1, w2, .ref a3, .ref a4])), (a0, .inl (ka0, 10, .inl (fun _ => 0))), (a3, .inl (ka3, 10, .inl (slF (-6) 0 3))), (a4, .inl (ka4, 100, .inl (slF (-6) 0 100)))] := hD
        refine lv_aload_n hx hb dX7_push_40 rfl (lv_at hl 2 rfl) ?_
        refine va_get (D := (dC, dI)) (ci := 6) (v := .ref a0) (C := RX7) (T := TX7) (N := 5) hx hb hts inB_7 hown hK hP 0 rfl rfl 0 (by decide) (hts _ mw_1_127) (fun _ h9 => h9) rfl dX7_push_41 ?_
        refine lv_iload_n hx hb dX7_push_44 rfl (lv_at hl 0 rfl) ?_
        refine va_iald hx hb hK hP 1 0 rfl rfl (show vp_in 2 10 by unfold vp_in; decide) dX7_push_45 ?_
        refine hx_top (y := 0) rfl ?_
        refine lv_if_eq (tgt := 59) hx hb dX7_push_46 (by decide) (fun _ => ?_) (fun h => absurd (by decide) h)
        refine lv_iinc (v := 3) (lv' := [(2, .int 3), (1, .int 0), (0, .ref h0)]) hx hb dX7_push_59 hl (k := 0) rfl (by decide) (by decide) rfl (fun ls hl => ?_)
        refine lv_goto (tgt := 26) hx hb dX7_push_62 (by decide) ?_
        refine lv_iload_n hx hb dX7_push_26 rfl (lv_at hl 0 rfl) ?_
        refine lv_bipush (v := 10) hx hb dX7_push_27 (by decide) ?_
        refine lv_icmp_ge (tgt := 65) hx hb dX7_push_29 (by decide) (fun h => absurd h (by decide)) (fun _ => ?_)
        refine lv_aload_n hx hb dX7_push_32 rfl (lv_at hl 2 rfl) ?_
        refine va_get (D := (dC, dI)) (ci := 6) (v := .ref a3) (C := RX7) (T := TX7) (N := 5) hx hb hts inB_7 hown hK hP 0 rfl rfl 3 (by decide) (hts _ mw_1_130) (fun _ h9 => h9) rfl dX7_push_33 ?_
        refine lv_iload_n hx hb dX7_push_36 rfl (lv_at hl 0 rfl) ?_
        refine lv_bipush (v := (-6)) hx hb dX7_push_37 (by decide) ?_
        refine va_iast hx hb hK hP hD hS 2 1 rfl rfl (show vp_in 3 10 by unfold vp_in; decide) dX7_push_39 (fun H locs hP hD hS => ?_)
        rw [show upd (slF (-6) 0 3) (Int32.toNatClampNeg 3) (-6) = (slF (-6) 0 4) from slF_u _ _ 3] at hP hD
        have hP : va_P (dC, dI) vwCl [(h0, .inr (6, [.ref a0, w1, w2, .ref a3, .ref a4])), (a0, .inl (ka0, 10, .inl (fun _ => 0))), (a3, .inl (ka3, 10, .inl (slF (-6) 0 4))), (a4, .inl (ka4, 100, .inl (slF (-6) 0 100)))] H := hP
        have hD : va_D A [(h0, .inr (6, [.ref a0, w1, w2, .ref a3, .ref a4])), (a0, .inl (ka0, 10, .inl (fun _ => 0))), (a3, .inl (ka3, 10, .inl (slF (-6) 0 4))), (a4, .inl (ka4, 100, .inl (slF (-6) 0 100)))] := hD
        refine lv_aload_n hx hb dX7_push_40 rfl (lv_at hl 2 rfl) ?_
        refine va_get (D := (dC, dI)) (ci := 6) (v := .ref a0) (C := RX7) (T := TX7) (N := 5) hx hb hts inB_7 hown hK hP 0 rfl rfl 0 (by decide) (hts _ mw_1_127) (fun _ h9 => h9) rfl dX7_push_41 ?_
        refine lv_iload_n hx hb dX7_push_44 rfl (lv_at hl 0 rfl) ?_
        refine va_iald hx hb hK hP 1 0 rfl rfl (show vp_in 3 10 by unfold vp_in; decide) dX7_push_45 ?_
        refine hx_top (y := 0) rfl ?_
        refine lv_if_eq (tgt := 59) hx hb dX7_push_46 (by decide) (fun _ => ?_) (fun h => absurd (by decide) h)
        refine lv_iinc (v := 4) (lv' := [(2, .int 4), (1, .int 0), (0, .ref h0)]) hx hb dX7_push_59 hl (k := 0) rfl (by decide) (by decide) rfl (fun ls hl => ?_)
        refine lv_goto (tgt := 26) hx hb dX7_push_62 (by decide) ?_
        refine lv_iload_n hx hb dX7_push_26 rfl (lv_at hl 0 rfl) ?_
        refine lv_bipush (v := 10) hx hb dX7_push_27 (by decide) ?_
        refine lv_icmp_ge (tgt := 65) hx hb dX7_push_29 (by decide) (fun h => absurd h (by decide)) (fun _ => ?_)
        refine lv_aload_n hx hb dX7_push_32 rfl (lv_at hl 2 rfl) ?_
        refine va_get (D := (dC, dI)) (ci := 6) (v := .ref a3) (C := RX7) (T := TX7) (N := 5) hx hb hts inB_7 hown hK hP 0 rfl rfl 3 (by decide) (hts _ mw_1_130) (fun _ h9 => h9) rfl dX7_push_33 ?_
        refine lv_iload_n hx hb dX7_push_36 rfl (lv_at hl 0 rfl) ?_
        refine lv_bipush (v := (-6)) hx hb dX7_push_37 (by decide) ?_
        refine va_iast hx hb hK hP hD hS 2 1 rfl rfl (show vp_in 4 10 by unfold vp_in; decide) dX7_push_39 (fun H locs hP hD hS => ?_)
        rw [show upd (slF (-6) 0 4) (Int32.toNatClampNeg 4) (-6) = (slF (-6) 0 5) from slF_u _ _ 4] at hP hD
        have hP : va_P (dC, dI) vwCl [(h0, .inr (6, [.ref a0, w1, w2, .ref a3, .ref a4])), (a0, .inl (ka0, 10, .inl (fun _ => 0))), (a3, .inl (ka3, 10, .inl (slF (-6) 0 5))), (a4, .inl (ka4, 100, .inl (slF (-6) 0 100)))] H := hP
        have hD : va_D A [(h0, .inr (6, [.ref a0, w1, w2, .ref a3, .ref a4])), (a0, .inl (ka0, 10, .inl (fun _ => 0))), (a3, .inl (ka3, 10, .inl (slF (-6) 0 5))), (a4, .inl (ka4, 100, .inl (slF (-6) 0 100)))] := hD
        refine lv_aload_n hx hb dX7_push_40 rfl (lv_at hl 2 rfl) ?_
        refine va_get (D := (dC, dI)) (ci := 6) (v := .ref a0) (C := RX7) (T := TX7) (N := 5) hx hb hts inB_7 hown hK hP 0 rfl rfl 0 (by decide) (hts _ mw_1_127) (fun _ h9 => h9) rfl dX7_push_41 ?_
        refine lv_iload_n hx hb dX7_push_44 rfl (lv_at hl 0 rfl) ?_
        refine va_iald hx hb hK hP 1 0 rfl rfl (show vp_in 4 10 by unfold vp_in; decide) dX7_push_45 ?_
        refine hx_top (y := 0) rfl ?_
        refine lv_if_eq (tgt := 59) hx hb dX7_push_46 (by decide) (fun _ => ?_) (fun h => absurd (by decide) h)
        refine lv_iinc (v := 5) (lv' := [(2, .int 5), (1, .int 0), (0, .ref h0)]) hx hb dX7_push_59 hl (k := 0) rfl (by decide) (by decide) rfl (fun ls hl => ?_)
        refine lv_goto (tgt := 26) hx hb dX7_push_62 (by decide) ?_
        refine lv_iload_n hx hb dX7_push_26 rfl (lv_at hl 0 rfl) ?_
        refine lv_bipush (v := 10) hx hb dX7_push_27 (by decide) ?_
        refine lv_icmp_ge (tgt := 65) hx hb dX7_push_29 (by decide) (fun h => absurd h (by decide)) (fun _ => ?_)
        refine lv_aload_n hx hb dX7_push_32 rfl (lv_at hl 2 rfl) ?_
        refine va_get (D := (dC, dI)) (ci := 6) (v := .ref a3) (C := RX7) (T := TX7) (N := 5) hx hb hts inB_7 hown hK hP 0 rfl rfl 3 (by decide) (hts _ mw_1_130) (fun _ h9 => h9) rfl dX7_push_33 ?_
        refine lv_iload_n hx hb dX7_push_36 rfl (lv_at hl 0 rfl) ?_
        refine lv_bipush (v := (-6)) hx hb dX7_push_37 (by decide) ?_
        refine va_iast hx hb hK hP hD hS 2 1 rfl rfl (show vp_in 5 10 by unfold vp_in; decide) dX7_push_39 (fun H locs hP hD hS => ?_)
        rw [show upd (slF (-6) 0 5) (Int32.toNatClampNeg 5) (-6) = (slF (-6) 0 6) from slF_u _ _ 5] at hP hD
        have hP : va_P (dC, dI) vwCl [(h0, .inr (6, [.ref a0, w1, w2, .ref a3, .ref a4])), (a0, .inl (ka0, 10, .inl (fun _ => 0))), (a3, .inl (ka3, 10, .inl (slF (-6) 0 6))), (a4, .inl (ka4, 100, .inl (slF (-6) 0 100)))] H := hP
        have hD : va_D A [(h0, .inr (6, [.ref a0, w1, w2, .ref a3, .ref a4])), (a0, .inl (ka0, 10, .inl (fun _ => 0))), (a3, .inl (ka3, 10, .inl (slF (-6) 0 6))), (a4, .inl (ka4, 100, .inl (slF (-6) 0 100)))] := hD
        refine lv_aload_n hx hb dX7_push_40 rfl (lv_at hl 2 rfl) ?_
        refine va_get (D := (dC, dI)) (ci := 6) (v := .ref a0) (C := RX7) (T := TX7) (N := 5) hx hb hts inB_7 hown hK hP 0 rfl rfl 0 (by decide) (hts _ mw_1_127) (fun _ h9 => h9) rfl dX7_push_41 ?_
        refine lv_iload_n hx hb dX7_push_44 rfl (lv_at hl 0 rfl) ?_
        refine va_iald hx hb hK hP 1 0 rfl rfl (show vp_in 5 10 by unfold vp_in; decide) dX7_push_45 ?_
        refine hx_top (y := 0) rfl ?_
        refine lv_if_eq (tgt := 59) hx hb dX7_push_46 (by decide) (fun _ => ?_) (fun h => absurd (by decide) h)
        refine lv_iinc (v := 6) (lv' := [(2, .int 6), (1, .int 0), (0, .ref h0)]) hx hb dX7_push_59 hl (k := 0) rfl (by decide) (by decide) rfl (fun ls hl => ?_)
        refine lv_goto (tgt := 26) hx hb dX7_push_62 (by decide) ?_
        refine lv_iload_n hx hb dX7_push_26 rfl (lv_at hl 0 rfl) ?_
        refine lv_bipush (v := 10) hx hb dX7_push_27 (by decide) ?_
        refine lv_icmp_ge (tgt := 65) hx hb dX7_push_29 (by decide) (fun h => absurd h (by decide)) (fun _ => ?_)
        refine lv_aload_n hx hb dX7_push_32 rfl (lv_at hl 2 rfl) ?_
        refine va_get (D := (dC, dI)) (ci := 6) (v := .ref a3) (C := RX7) (T := TX7) (N := 5) hx hb hts inB_7 hown hK hP 0 rfl rfl 3 (by decide) (hts _ mw_1_130) (fun _ h9 => h9) rfl dX7_push_33 ?_
        refine lv_iload_n hx hb dX7_push_36 rfl (lv_at hl 0 rfl) ?_
        refine lv_bipush (v := (-6)) hx hb dX7_push_37 (by decide) ?_
        refine va_iast hx hb hK hP hD hS 2 1 rfl rfl (show vp_in 6 10 by unfold vp_in; decide) dX7_push_39 (fun H locs hP hD hS => ?_)
        rw [show upd (slF (-6) 0 6) (Int32.toNatClampNeg 6) (-6) = (slF (-6) 0 7) from slF_u _ _ 6] at hP hD
        have hP : va_P (dC, dI) vwCl [(h0, .inr (6, [.ref a0, w1, w2, .ref a3, .ref a4])), (a0, .inl (ka0, 10, .inl (fun _ => 0))), (a3, .inl (ka3, 10, .inl (slF (-6) 0 7))), (a4, .inl (ka4, 100, .inl (slF (-6) 0 100)))] H := hP
        have hD : va_D A [(h0, .inr (6, [.ref a0, w1, w2, .ref a3, .ref a4])), (a0, .inl (ka0, 10, .inl (fun _ => 0))), (a3, .inl (ka3, 10, .inl (slF (-6) 0 7))), (a4, .inl (ka4, 100, .inl (slF (-6) 0 100)))] := hD
        refine lv_aload_n hx hb dX7_push_40 rfl (lv_at hl 2 rfl) ?_
        refine va_get (D := (dC, dI)) (ci := 6) (v := .ref a0) (C := RX7) (T := TX7) (N := 5) hx hb hts inB_7 hown hK hP 0 rfl rfl 0 (by decide) (hts _ mw_1_127) (fun _ h9 => h9) rfl dX7_push_41 ?_
        refine lv_iload_n hx hb dX7_push_44 rfl (lv_at hl 0 rfl) ?_
        refine va_iald hx hb hK hP 1 0 rfl rfl (show vp_in 6 10 by unfold vp_in; decide) dX7_push_45 ?_
        refine hx_top (y := 0) rfl ?_
        refine lv_if_eq (tgt := 59) hx hb dX7_push_46 (by decide) (fun _ => ?_) (fun h => absurd (by decide) h)
        refine lv_iinc (v := 7) (lv' := [(2, .int 7), (1, .int 0), (0, .ref h0)]) hx hb dX7_push_59 hl (k := 0) rfl (by decide) (by decide) rfl (fun ls hl => ?_)
        refine lv_goto (tgt := 26) hx hb dX7_push_62 (by decide) ?_
        refine lv_iload_n hx hb dX7_push_26 rfl (lv_at hl 0 rfl) ?_
        refine lv_bipush (v := 10) hx hb dX7_push_27 (by decide) ?_
        refine lv_icmp_ge (tgt := 65) hx hb dX7_push_29 (by decide) (fun h => absurd h (by decide)) (fun _ => ?_)
        refine lv_aload_n hx hb dX7_push_32 rfl (lv_at hl 2 rfl) ?_
        refine va_get (D := (dC, dI)) (ci := 6) (v := .ref a3) (C := RX7) (T := TX7) (N := 5) hx hb hts inB_7 hown hK hP 0 rfl rfl 3 (by decide) (hts _ mw_1_130) (fun _ h9 => h9) rfl dX7_push_33 ?_
        refine lv_iload_n hx hb dX7_push_36 rfl (lv_at hl 0 rfl) ?_
        refine lv_bipush (v := (-6)) hx hb dX7_push_37 (by decide) ?_
        refine va_iast hx hb hK hP hD hS 2 1 rfl rfl (show vp_in 7 10 by unfold vp_in; decide) dX7_push_39 (fun H locs hP hD hS => ?_)
        rw [show upd (slF (-6) 0 7) (Int32.toNatClampNeg 7) (-6) = (slF (-6) 0 8) from slF_u _ _ 7] at hP hD
        have hP : va_P (dC, dI) vwCl [(h0, .inr (6, [.ref a0, w1, w2, .ref a3, .ref a4])), (a0, .inl (ka0, 10, .inl (fun _ => 0))), (a3, .inl (ka3, 10, .inl (slF (-6) 0 8))), (a4, .inl (ka4, 100, .inl (slF (-6) 0 100)))] H := hP
        have hD : va_D A [(h0, .inr (6, [.ref a0, w1, w2, .ref a3, .ref a4])), (a0, .inl (ka0, 10, .inl (fun _ => 0))), (a3, .inl (ka3, 10, .inl (slF (-6) 0 8))), (a4, .inl (ka4, 100, .inl (slF (-6) 0 100)))] := hD
        refine lv_aload_n hx hb dX7_push_40 rfl (lv_at hl 2 rfl) ?_
        refine va_get (D := (dC, dI)) (ci := 6) (v := .ref a0) (C := RX7) (T := TX7) (N := 5) hx hb hts inB_7 hown hK hP 0 rfl rfl 0 (by decide) (hts _ mw_1_127) (fun _ h9 => h9) rfl dX7_push_41 ?_
        refine lv_iload_n hx hb dX7_push_44 rfl (lv_at hl 0 rfl) ?_
        refine va_iald hx hb hK hP 1 0 rfl rfl (show vp_in 7 10 by unfold vp_in; decide) dX7_push_45 ?_
        refine hx_top (y := 0) rfl ?_
        refine lv_if_eq (tgt := 59) hx hb dX7_push_46 (by decide) (fun _ => ?_) (fun h => absurd (by decide) h)
        refine lv_iinc (v := 8) (lv' := [(2, .int 8), (1, .int 0), (0, .ref h0)]) hx hb dX7_push_59 hl (k := 0) rfl (by decide) (by decide) rfl (fun ls hl => ?_)
        refine lv_goto (tgt := 26) hx hb dX7_push_62 (by decide) ?_
        refine lv_iload_n hx hb dX7_push_26 rfl (lv_at hl 0 rfl) ?_
        refine lv_bipush (v := 10) hx hb dX7_push_27 (by decide) ?_
        refine lv_icmp_ge (tgt := 65) hx hb dX7_push_29 (by decide) (fun h => absurd h (by decide)) (fun _ => ?_)
        refine lv_aload_n hx hb dX7_push_32 rfl (lv_at hl 2 rfl) ?_
        refine va_get (D := (dC, dI)) (ci := 6) (v := .ref a3) (C := RX7) (T := TX7) (N := 5) hx hb hts inB_7 hown hK hP 0 rfl rfl 3 (by decide) (hts _ mw_1_130) (fun _ h9 => h9) rfl dX7_push_33 ?_
        refine lv_iload_n hx hb dX7_push_36 rfl (lv_at hl 0 rfl) ?_
        refine lv_bipush (v := (-6)) hx hb dX7_push_37 (by decide) ?_
        refine va_iast hx hb hK hP hD hS 2 1 rfl rfl (show vp_in 8 10 by unfold vp_in; decide) dX7_push_39 (fun H locs hP hD hS => ?_)
        rw [show upd (slF (-6) 0 8) (Int32.toNatClampNeg 8) (-6) = (slF (-6) 0 9) from slF_u _ _ 8] at hP hD
        have hP : va_P (dC, dI) vwCl [(h0, .inr (6, [.ref a0, w1, w2, .ref a3, .ref a4])), (a0, .inl (ka0, 10, .inl (fun _ => 0))), (a3, .inl (ka3, 10, .inl (slF (-6) 0 9))), (a4, .inl (ka4, 100, .inl (slF (-6) 0 100)))] H := hP
        have hD : va_D A [(h0, .inr (6, [.ref a0, w1, w2, .ref a3, .ref a4])), (a0, .inl (ka0, 10, .inl (fun _ => 0))), (a3, .inl (ka3, 10, .inl (slF (-6) 0 9))), (a4, .inl (ka4, 100, .inl (slF (-6) 0 100)))] := hD
        refine lv_aload_n hx hb dX7_push_40 rfl (lv_at hl 2 rfl) ?_
        refine va_get (D := (dC, dI)) (ci := 6) (v := .ref a0) (C := RX7) (T := TX7) (N := 5) hx hb hts inB_7 hown hK hP 0 rfl rfl 0 (by decide) (hts _ mw_1_127) (fun _ h9 => h9) rfl dX7_push_41 ?_
        refine lv_iload_n hx hb dX7_push_44 rfl (lv_at hl 0 rfl) ?_
        refine va_iald hx hb hK hP 1 0 rfl rfl (show vp_in 8 10 by unfold vp_in; decide) dX7_push_45 ?_
        refine hx_top (y := 0) rfl ?_
        refine lv_if_eq (tgt := 59) hx hb dX7_push_46 (by decide) (fun _ => ?_) (fun h => absurd (by decide) h)
        refine lv_iinc (v := 9) (lv' := [(2, .int 9), (1, .int 0), (0, .ref h0)]) hx hb dX7_push_59 hl (k := 0) rfl (by decide) (by decide) rfl (fun ls hl => ?_)
        refine lv_goto (tgt := 26) hx hb dX7_push_62 (by decide) ?_
        refine lv_iload_n hx hb dX7_push_26 rfl (lv_at hl 0 rfl) ?_
        refine lv_bipush (v := 10) hx hb dX7_push_27 (by decide) ?_
        refine lv_icmp_ge (tgt := 65) hx hb dX7_push_29 (by decide) (fun h => absurd h (by decide)) (fun _ => ?_)
        refine lv_aload_n hx hb dX7_push_32 rfl (lv_at hl 2 rfl) ?_
        refine va_get (D := (dC, dI)) (ci := 6) (v := .ref a3) (C := RX7) (T := TX7) (N := 5) hx hb hts inB_7 hown hK hP 0 rfl rfl 3 (by decide) (hts _ mw_1_130) (fun _ h9 => h9) rfl dX7_push_33 ?_
        refine lv_iload_n hx hb dX7_push_36 rfl (lv_at hl 0 rfl) ?_
        refine lv_bipush (v := (-6)) hx hb dX7_push_37 (by decide) ?_
        refine va_iast hx hb hK hP hD hS 2 1 rfl rfl (show vp_in 9 10 by unfold vp_in; decide) dX7_push_39 (fun H locs hP hD hS => ?_)
        rw [show upd (slF (-6) 0 9) (Int32.toNatClampNeg 9) (-6) = (slF (-6) 0 10) from slF_u _ _ 9] at hP hD
        have hP : va_P (dC, dI) vwCl [(h0, .inr (6, [.ref a0, w1, w2, .ref a3, .ref a4])), (a0, .inl (ka0, 10, .inl (fun _ => 0))), (a3, .inl (ka3, 10, .inl (slF (-6) 0 10))), (a4, .inl (ka4, 100, .inl (slF (-6) 0 100)))] H := hP
        have hD : va_D A [(h0, .inr (6, [.ref a0, w1, w2, .ref a3, .ref a4])), (a0, .inl (ka0, 10, .inl (fun _ => 0))), (a3, .inl (ka3, 10, .inl (slF (-6) 0 10))), (a4, .inl (ka4, 100, .inl (slF (-6) 0 100)))] := hD
        refine lv_aload_n hx hb dX7_push_40 rfl (lv_at hl 2 rfl) ?_
        refine va_get (D := (dC, dI)) (ci := 6) (v := .ref a0) (C := RX7) (T := TX7) (N := 5) hx hb hts inB_7 hown hK hP 0 rfl rfl 0 (by decide) (hts _ mw_1_127) (fun _ h9 => h9) rfl dX7_push_41 ?_
        refine lv_iload_n hx hb dX7_push_44 rfl (lv_at hl 0 rfl) ?_
        refine va_iald hx hb hK hP 1 0 rfl rfl (show vp_in 9 10 by unfold vp_in; decide) dX7_push_45 ?_
        refine hx_top (y := 0) rfl ?_
        refine lv_if_eq (tgt := 59) hx hb dX7_push_46 (by decide) (fun _ => ?_) (fun h => absurd (by decide) h)
        refine lv_iinc (v := 10) (lv' := [(2, .int 10), (1, .int 0), (0, .ref h0)]) hx hb dX7_push_59 hl (k := 0) rfl (by decide) (by decide) rfl (fun ls hl => ?_)
        refine lv_goto (tgt := 26) hx hb dX7_push_62 (by decide) ?_
        refine lv_iload_n hx hb dX7_push_26 rfl (lv_at hl 0 rfl) ?_
        refine lv_bipush (v := 10) hx hb dX7_push_27 (by decide) ?_
        refine lv_icmp_ge (tgt := 65) hx hb dX7_push_29 (by decide) (fun _ => ?_) (fun h => absurd (by decide) h)
        refine lv_iload_n hx hb dX7_push_65 rfl (lv_at hl 1 rfl) ?_
        exact W.iret (v := 0) hx hb hr (fun t ht hW => ⟨⟨0, (), rfl, rfl, by rw [ht]; exact hP, va_K.moved hW.alike hK, hD⟩, hS.F ht⟩) hS.2.2 dX7_push_66
      · have b_4 : ¬ (k ≥ 100) := nz_gen (by omega) (by omega) c_3
        refine lv_aload_n hx hb dX7_push_8 rfl (lv_at hl 1 rfl) ?_
        refine va_get (D := (dC, dI)) (ci := 6) (v := .ref a4) (C := RX7) (T := TX7) (N := 5) hx hb hts inB_7 hown hK hP 0 rfl rfl 4 (by decide) (hts _ mw_1_131) (fun _ h9 => h9) rfl dX7_push_9 ?_
        refine lv_iload_n hx hb dX7_push_12 rfl (lv_at hl 0 rfl) ?_
        refine lv_bipush (v := (-6)) hx hb dX7_push_13 (by decide) ?_
        refine va_iast hx hb hK hP hD hS 3 2 rfl rfl (show vp_in (nI k) 100 from vp_in_nI (by omega) (by omega)) dX7_push_15 (fun H locs hP hD hS => ?_)
        rw [show upd (slF (-6) 0 k) (Int32.toNatClampNeg (nI k)) (-6) = (slF (-6) 0 (k + 1)) from slF_n (by omega)] at hP hD
        have hP : va_P (dC, dI) vwCl [(h0, .inr (6, [.ref a0, w1, w2, .ref a3, .ref a4])), (a0, .inl (ka0, 10, .inl (fun _ => 0))), (a3, .inl (ka3, 10, .inl (fun _ => 0))), (a4, .inl (ka4, 100, .inl (slF (-6) 0 (k + 1))))] H := hP
        have hD : va_D A [(h0, .inr (6, [.ref a0, w1, w2, .ref a3, .ref a4])), (a0, .inl (ka0, 10, .inl (fun _ => 0))), (a3, .inl (ka3, 10, .inl (fun _ => 0))), (a4, .inl (ka4, 100, .inl (slF (-6) 0 (k + 1))))] := hD
        refine lv_iinc (v := (nI (k + 1))) (lv' := [(1, .int (nI (k + 1))), (0, .ref h0)]) hx hb dX7_push_16 hl (k := 0) rfl (nI_1 _) (by decide) rfl (fun ls hl => ?_)
        refine lv_goto (tgt := 2) hx hb dX7_push_19 (by decide) ?_
        exact ih_2 (k + 1) (by omega) (by omega) _ _ (by exact hP) (by exact hD) hS ls (by exact lv_sub hl [0, 1] rfl)
  exact key_1 ((100 - 0) + 1) (0) (by omega) (Nat.lt_succ_self _) _ _ (by rw [slF_0]; exact hP) (by rw [slF_0]; exact hD) hS ls (lv_sub hl [0, 1] rfl)
set_option maxHeartbeats 4000000 in
set_option maxRecDepth 100000 in
theorem c_stands (l : Launch) (dC : Nat → ClassId) (dI : Nat → Nat → Nat) (sz : Nat) (h0 : Nat) (w0 : Value) (w1 : Value) (w2 : Value) (w3 : Value) (a4 : Nat) (ka4 : ClassId) (n : Int32)  : Met l yX7_standsAt (wq yX7_standsAt cX7_standsAt 2 (some .int)) ({ frames := 0, cells := 0, slots := 0, locals := 0 }) (va_Pc [.ref h0, .int n] (pcW dC dI [(ka4, .int)] [(h0, .inr (6, [w0, w1, w2, w3, .ref a4])), (a4, .inl (ka4, 100, .inl (slF (-6) 0 100)))] sz)) (va_Qi (fun (r : Int32) (_ : Unit) => r = (-6)) (fun _ _ => True) (fun q : Nat => sz ≤ q)) 0 0 (fun q : Nat => sz ≤ q) := by
  refine Met.ofW (cc := cX7_standsAt) (maxL := 2) (ret := (some .int)) (by decide) rfl ?_
  intro p e s m args below meth c s₁ B hml hv
  obtain ⟨rfl, hsz, hN, hP, hK, hD0⟩ := hv
  have hx := B.exec
  have hb := B.bytes
  have hr := B.returns
  have hts0 := atoms_spec (ws := (wq yX7_standsAt cX7_standsAt 2 (some .int))) B.pre
  have hts : ∀ w ∈ BG, w.before _ s = true := fun w h => hts0 w (List.mem_cons_of_mem _ h)
  have hown : s.vm.findClass RX7 = some m.cls := findClass_of_methodNamed B.named
  have hlocks := B.notSynchronized
  subst hsz
  have hA : ∀ q : Nat, s.heap.size ≤ q → (fun q : Nat => s.heap.size ≤ q) q := fun _ h => h
  have hD := hD0
  have hS : va_S (fun q : Nat => s.heap.size ≤ q) s.heap s.heap [] := va_S.rf
  have hP : va_P (dC, dI) vwCl [(h0, .inr (6, [w0, w1, w2, w3, .ref a4])), (a4, .inl (ka4, 100, .inl (slF (-6) 0 100)))] s.heap := hP
  have hl := lv_entry ([.ref h0, .int n]) (n := 2) (Nat.le_of_ble_eq_true rfl)
  rw [lg_entry_eq]
  generalize (lg_sl ([.ref h0, .int n]) ++ List.replicate (2 - (lg_sl ([.ref h0, .int n])).length) Slot.unset).toArray = ls at hl ⊢
  have hl : lv_has ls 2 [(0, .ref h0), (1, .int n)] := hl
  skip
  refine lv_iload_n hx hb dX7_standsAt_0 rfl (lv_at hl 1 rfl) ?_
  refine lv_if_lt (tgt := 19) hx hb dX7_standsAt_1 (by decide) (fun c_1 => ?_) (fun c_1 => ?_)
  · have b_2 := fx_lt (x := n) (C := 0) (by decide) c_1
    refine lv_bipush (v := (-6)) hx hb dX7_standsAt_19 (by decide) ?_
    exact W.iret (v := (-6)) hx hb hr (fun t ht hW => ⟨⟨(-6), (), rfl, rfl, trivial⟩, hS.F ht⟩) hS.2.2 dX7_standsAt_21
  · have b_2 := fn_lt (x := n) (C := 0) (by decide) c_1
    refine lv_iload_n hx hb dX7_standsAt_4 rfl (lv_at hl 1 rfl) ?_
    refine lv_bipush (v := 100) hx hb dX7_standsAt_5 (by decide) ?_
    refine lv_icmp_ge (tgt := 19) hx hb dX7_standsAt_7 (by decide) (fun c_3 => ?_) (fun c_3 => ?_)
    · have b_4 := fx_ge (x := n) (C := 100) (by decide) c_3
      refine lv_bipush (v := (-6)) hx hb dX7_standsAt_19 (by decide) ?_
      exact W.iret (v := (-6)) hx hb hr (fun t ht hW => ⟨⟨(-6), (), rfl, rfl, trivial⟩, hS.F ht⟩) hS.2.2 dX7_standsAt_21
    · have b_4 := fn_ge (x := n) (C := 100) (by decide) c_3
      refine lv_aload_n hx hb dX7_standsAt_10 rfl (lv_at hl 0 rfl) ?_
      refine va_get (D := (dC, dI)) (ci := 6) (v := .ref a4) (C := RX7) (T := TX7) (N := 5) hx hb hts inB_7 hown hK hP 0 rfl rfl 4 (by decide) (hts _ mw_1_131) (fun _ h9 => h9) rfl dX7_standsAt_11 ?_
      refine lv_iload_n hx hb dX7_standsAt_14 rfl (lv_at hl 1 rfl) ?_
      refine va_iald hx hb hK hP 1 0 rfl rfl (show vp_in n 100 from fx_in (by omega) (by omega)) dX7_standsAt_15 ?_
      refine hx_top (y := (-6)) (slF_in (fx_cl (by omega) (by omega))) ?_
      refine lv_goto (tgt := 21) hx hb dX7_standsAt_16 (by decide) ?_
      exact W.iret (v := (-6)) hx hb hr (fun t ht hW => ⟨⟨(-6), (), rfl, rfl, trivial⟩, hS.F ht⟩) hS.2.2 dX7_standsAt_21
end
section
theorem mw_3_87 : Cond.code yX8_isPlace cX8_isPlace 1 (some .boolean) ∈ BG := mB (t3 (i := 87) rfl) (by decide +kernel)
theorem mw_3_86 : Cond.static yX8_isPlace ∈ BG := mB (t3 (i := 86) (by decide +kernel)) (by decide +kernel)
theorem mw_1_155 : Cond.laysFinal RX3 "AnswerLines$Places" "sizes" "[I" ∈ BG := mB (t1 (i := 155) (by decide +kernel)) (by decide +kernel)
theorem mw_1_157 : Cond.laysFinal RX3 "AnswerLines$Places" "calledPlaces" "[I" ∈ BG := mB (t1 (i := 157) (by decide +kernel)) (by decide +kernel)
theorem mw_1_159 : Cond.laysFinal RX3 "AnswerLines$Places" "calledKinds" "[I" ∈ BG := mB (t1 (i := 159) (by decide +kernel)) (by decide +kernel)
theorem mw_1_161 : Cond.laysFinal RX3 "AnswerLines$Places" "recent" "[I" ∈ BG := mB (t1 (i := 161) (by decide +kernel)) (by decide +kernel)
theorem mw_1_163 : Cond.lays RX3 "AnswerLines$Places" "count" "I" ∈ BG := mB (t1 (i := 163) (by decide +kernel)) (by decide +kernel)
theorem mw_1_165 : Cond.lays RX3 "AnswerLines$Places" "remembered" "I" ∈ BG := mB (t1 (i := 165) (by decide +kernel)) (by decide +kernel)
theorem inB_3 : ∀ w ∈ u_ws RX3 TX3 6, w ∈ BG := fun w hw => by
  obtain ⟨k, hk, rfl⟩ := List.mem_map.mp hw
  have hk := List.mem_range.mp hk
  rcases (by omega : k = 0 ∨ k = 1 ∨ k = 2 ∨ k = 3 ∨ k = 4 ∨ k = 5) with rfl | rfl | rfl | rfl | rfl | rfl
  · exact mw_1_155
  · exact mw_1_157
  · exact mw_1_159
  · exact mw_1_161
  · exact mw_1_163
  · exact mw_1_165
theorem mw_1_149 : Cond.fieldLink RX3 9 "AnswerLines$Places" "sizes" "[I" ∈ BG := mB (t1 (i := 149) (by decide +kernel)) (by decide +kernel)
theorem mw_3_116 : Cond.code yX3_sizeOf cX3_sizeOf 2 (some .int) ∈ BG := mB (t3 (i := 116) rfl) (by decide +kernel)
theorem mw_3_113 : Cond.methodLink RX3 36 yX3_sizeOf ∈ BG := mB (t3 (i := 113) (by decide +kernel)) (by decide +kernel)
theorem mw_3_114 : Cond.instanceMethod yX3_sizeOf ∈ BG := mB (t3 (i := 114) (by decide +kernel)) (by decide +kernel)
theorem mw_3_115 : Cond.selects RX3 yX3_sizeOf yX3_sizeOf ∈ BG := mB (t3 (i := 115) (by decide +kernel)) (by decide +kernel)
theorem mw_1_8 : Cond.initialized RX3 ∈ BG := mB (t1 (i := 8) (by decide +kernel)) (by decide +kernel)
theorem mw_1_153 : Cond.fieldLink RX3 24 "AnswerLines$Places" "count" "I" ∈ BG := mB (t1 (i := 153) (by decide +kernel)) (by decide +kernel)
theorem mw_1_154 : Cond.fieldLink RX3 40 "AnswerLines$Places" "remembered" "I" ∈ BG := mB (t1 (i := 154) (by decide +kernel)) (by decide +kernel)
theorem dX3_sizeOf_0 : decode cX3_sizeOf 0 = .ok (.iload_n 1, 1) := by decide +kernel
theorem dX3_sizeOf_1 : decode cX3_sizeOf 1 = .ok (.invokestatic 32, 3) := by decide +kernel
theorem dX3_sizeOf_4 : decode cX3_sizeOf 4 = .ok (.ifCond .eq 12, 3) := by decide +kernel
theorem dX3_sizeOf_7 : decode cX3_sizeOf 7 = .ok (.aload_n 0, 1) := by decide +kernel
theorem dX3_sizeOf_8 : decode cX3_sizeOf 8 = .ok (.getfield 9, 3) := by decide +kernel
theorem dX3_sizeOf_11 : decode cX3_sizeOf 11 = .ok (.iload_n 1, 1) := by decide +kernel
theorem dX3_sizeOf_12 : decode cX3_sizeOf 12 = .ok (.iaload, 1) := by decide +kernel
theorem dX3_sizeOf_13 : decode cX3_sizeOf 13 = .ok (.goto 4, 3) := by decide +kernel
theorem dX3_sizeOf_17 : decode cX3_sizeOf 17 = .ok (.ireturn, 1) := by decide +kernel
theorem dX3_sizeOf_16 : decode cX3_sizeOf 16 = .ok (.iconst 1, 1) := by decide +kernel
theorem dX3_resize_0 : decode cX3_resize 0 = .ok (.aload_n 0, 1) := by decide +kernel
theorem dX3_resize_1 : decode cX3_resize 1 = .ok (.iload_n 1, 1) := by decide +kernel
theorem dX3_resize_2 : decode cX3_resize 2 = .ok (.invokevirtual 36, 3) := by decide +kernel
theorem dX3_resize_5 : decode cX3_resize 5 = .ok (.istore_n 3, 1) := by decide +kernel
theorem dX3_resize_6 : decode cX3_resize 6 = .ok (.iload_n 1, 1) := by decide +kernel
theorem dX3_resize_7 : decode cX3_resize 7 = .ok (.invokestatic 32, 3) := by decide +kernel
theorem dX3_resize_10 : decode cX3_resize 10 = .ok (.ifCond .eq 10, 3) := by decide +kernel
theorem dX3_resize_13 : decode cX3_resize 13 = .ok (.aload_n 0, 1) := by decide +kernel
theorem dX3_resize_14 : decode cX3_resize 14 = .ok (.getfield 9, 3) := by decide +kernel
theorem dX3_resize_17 : decode cX3_resize 17 = .ok (.iload_n 1, 1) := by decide +kernel
theorem dX3_resize_18 : decode cX3_resize 18 = .ok (.iload_n 2, 1) := by decide +kernel
theorem dX3_resize_19 : decode cX3_resize 19 = .ok (.iastore, 1) := by decide +kernel
theorem dX3_resize_20 : decode cX3_resize 20 = .ok (.iload_n 3, 1) := by decide +kernel
theorem dX3_resize_21 : decode cX3_resize 21 = .ok (.ireturn, 1) := by decide +kernel
theorem dX3_callsAt_0 : decode cX3_callsAt 0 = .ok (.iconst 0, 1) := by decide +kernel
theorem dX3_callsAt_1 : decode cX3_callsAt 1 = .ok (.istore_n 2, 1) := by decide +kernel
theorem dX3_callsAt_2 : decode cX3_callsAt 2 = .ok (.iconst 0, 1) := by decide +kernel
theorem dX3_callsAt_3 : decode cX3_callsAt 3 = .ok (.istore_n 3, 1) := by decide +kernel
theorem dX3_callsAt_4 : decode cX3_callsAt 4 = .ok (.iload_n 3, 1) := by decide +kernel
theorem dX3_callsAt_5 : decode cX3_callsAt 5 = .ok (.aload_n 0, 1) := by decide +kernel
theorem dX3_callsAt_6 : decode cX3_callsAt 6 = .ok (.getfield 24, 3) := by decide +kernel
theorem dX3_callsAt_9 : decode cX3_callsAt 9 = .ok (.if_icmp .ge 22, 3) := by decide +kernel
theorem dX3_callsAt_31 : decode cX3_callsAt 31 = .ok (.iload_n 2, 1) := by decide +kernel
theorem dX3_callsAt_32 : decode cX3_callsAt 32 = .ok (.ireturn, 1) := by decide +kernel
theorem dX3_hitsBySize_0 : decode cX3_hitsBySize 0 = .ok (.aload_n 0, 1) := by decide +kernel
theorem dX3_hitsBySize_1 : decode cX3_hitsBySize 1 = .ok (.iconst 0, 1) := by decide +kernel
theorem dX3_hitsBySize_2 : decode cX3_hitsBySize 2 = .ok (.putfield 40, 3) := by decide +kernel
theorem dX3_hitsBySize_5 : decode cX3_hitsBySize 5 = .ok (.iconst 0, 1) := by decide +kernel
theorem dX3_hitsBySize_6 : decode cX3_hitsBySize 6 = .ok (.istore_n 3, 1) := by decide +kernel
theorem dX3_hitsBySize_7 : decode cX3_hitsBySize 7 = .ok (.iconst 0, 1) := by decide +kernel
theorem dX3_hitsBySize_8 : decode cX3_hitsBySize 8 = .ok (.istore 4, 2) := by decide +kernel
theorem dX3_hitsBySize_10 : decode cX3_hitsBySize 10 = .ok (.iload 4, 2) := by decide +kernel
theorem dX3_hitsBySize_12 : decode cX3_hitsBySize 12 = .ok (.aload_n 0, 1) := by decide +kernel
theorem dX3_hitsBySize_13 : decode cX3_hitsBySize 13 = .ok (.getfield 24, 3) := by decide +kernel
theorem dX3_hitsBySize_16 : decode cX3_hitsBySize 16 = .ok (.if_icmp .ge 102, 3) := by decide +kernel
theorem dX3_hitsBySize_118 : decode cX3_hitsBySize 118 = .ok (.iload_n 3, 1) := by decide +kernel
theorem dX3_hitsBySize_119 : decode cX3_hitsBySize 119 = .ok (.ireturn, 1) := by decide +kernel
theorem dX3_bestHits_0 : decode cX3_bestHits 0 = .ok (.aload_n 0, 1) := by decide +kernel
theorem dX3_bestHits_1 : decode cX3_bestHits 1 = .ok (.iload_n 1, 1) := by decide +kernel
theorem dX3_bestHits_2 : decode cX3_bestHits 2 = .ok (.invokevirtual 36, 3) := by decide +kernel
theorem dX3_bestHits_5 : decode cX3_bestHits 5 = .ok (.istore_n 2, 1) := by decide +kernel
theorem dX3_bestHits_6 : decode cX3_bestHits 6 = .ok (.iconst 0, 1) := by decide +kernel
theorem dX3_bestHits_7 : decode cX3_bestHits 7 = .ok (.istore_n 3, 1) := by decide +kernel
theorem dX3_bestHits_8 : decode cX3_bestHits 8 = .ok (.iconst 0, 1) := by decide +kernel
theorem dX3_bestHits_9 : decode cX3_bestHits 9 = .ok (.istore 4, 2) := by decide +kernel
theorem dX3_bestHits_11 : decode cX3_bestHits 11 = .ok (.iconst 0, 1) := by decide +kernel
theorem dX3_bestHits_12 : decode cX3_bestHits 12 = .ok (.istore 5, 2) := by decide +kernel
theorem dX3_bestHits_14 : decode cX3_bestHits 14 = .ok (.iload 5, 2) := by decide +kernel
theorem dX3_bestHits_16 : decode cX3_bestHits 16 = .ok (.aload_n 0, 1) := by decide +kernel
theorem dX3_bestHits_17 : decode cX3_bestHits 17 = .ok (.getfield 24, 3) := by decide +kernel
theorem dX3_bestHits_20 : decode cX3_bestHits 20 = .ok (.if_icmp .ge 78, 3) := by decide +kernel
theorem dX3_bestHits_98 : decode cX3_bestHits 98 = .ok (.iload 4, 2) := by decide +kernel
theorem dX3_bestHits_100 : decode cX3_bestHits 100 = .ok (.ireturn, 1) := by decide +kernel
theorem dX3_latest_0 : decode cX3_latest 0 = .ok (.iload_n 1, 1) := by decide +kernel
theorem dX3_latest_1 : decode cX3_latest 1 = .ok (.ifCond .lt 25, 3) := by decide +kernel
theorem dX3_latest_26 : decode cX3_latest 26 = .ok (.bipush (-6), 2) := by decide +kernel
theorem dX3_latest_28 : decode cX3_latest 28 = .ok (.ireturn, 1) := by decide +kernel
theorem dX3_latest_4 : decode cX3_latest 4 = .ok (.iload_n 1, 1) := by decide +kernel
theorem dX3_latest_5 : decode cX3_latest 5 = .ok (.aload_n 0, 1) := by decide +kernel
theorem dX3_latest_6 : decode cX3_latest 6 = .ok (.getfield 40, 3) := by decide +kernel
theorem dX3_latest_9 : decode cX3_latest 9 = .ok (.if_icmp .ge 17, 3) := by decide +kernel
theorem dX3_howMany_0 : decode cX3_howMany 0 = .ok (.aload_n 0, 1) := by decide +kernel
theorem dX3_howMany_1 : decode cX3_howMany 1 = .ok (.getfield 24, 3) := by decide +kernel
theorem dX3_howMany_4 : decode cX3_howMany 4 = .ok (.ireturn, 1) := by decide +kernel
theorem dX3_clear_0 : decode cX3_clear 0 = .ok (.aload_n 0, 1) := by decide +kernel
theorem dX3_clear_1 : decode cX3_clear 1 = .ok (.getfield 24, 3) := by decide +kernel
theorem dX3_clear_4 : decode cX3_clear 4 = .ok (.istore_n 1, 1) := by decide +kernel
theorem dX3_clear_5 : decode cX3_clear 5 = .ok (.aload_n 0, 1) := by decide +kernel
theorem dX3_clear_6 : decode cX3_clear 6 = .ok (.iconst 0, 1) := by decide +kernel
theorem dX3_clear_7 : decode cX3_clear 7 = .ok (.putfield 24, 3) := by decide +kernel
theorem dX3_clear_10 : decode cX3_clear 10 = .ok (.iload_n 1, 1) := by decide +kernel
theorem dX3_clear_11 : decode cX3_clear 11 = .ok (.ireturn, 1) := by decide +kernel
set_option maxHeartbeats 4000000 in
set_option maxRecDepth 100000 in
theorem c_sizeOf (l : Launch) (dC : Nat → ClassId) (dI : Nat → Nat → Nat) (sz : Nat) (h0 : Nat) (a0 : Nat) (w1 : Value) (w2 : Value) (w3 : Value) (ka0 : ClassId) (n : Int32)  : Met l yX3_sizeOf (wq yX3_sizeOf cX3_sizeOf 2 (some .int)) ({ frames := 1, cells := 0, slots := 0, locals := 20 }) (va_Pc [.ref h0, .int n] (pcW dC dI [(ka0, .int)] [(h0, .inr (3, [.ref a0, w1, w2, w3, .int 0, .int 0])), (a0, .inl (ka0, 4, .inl (slF 1 0 4)))] sz)) (va_Qi (fun (r : Int32) (_ : Unit) => r = 1) (fun _ _ => True) (fun q : Nat => sz ≤ q)) 0 0 (fun q : Nat => sz ≤ q) := by
  refine Met.ofW (cc := cX3_sizeOf) (maxL := 2) (ret := (some .int)) (by decide) rfl ?_
  intro p e s m args below meth c s₁ B hml hv
  obtain ⟨rfl, hsz, hN, hP, hK, hD0⟩ := hv
  have hx := B.exec
  have hb := B.bytes
  have hr := B.returns
  have hts0 := atoms_spec (ws := (wq yX3_sizeOf cX3_sizeOf 2 (some .int))) B.pre
  have hts : ∀ w ∈ BG, w.before _ s = true := fun w h => hts0 w (List.mem_cons_of_mem _ h)
  have hown : s.vm.findClass RX3 = some m.cls := findClass_of_methodNamed B.named
  have hlocks := B.notSynchronized
  subst hsz
  have hA : ∀ q : Nat, s.heap.size ≤ q → (fun q : Nat => s.heap.size ≤ q) q := fun _ h => h
  have hD := hD0
  have hS : va_S (fun q : Nat => s.heap.size ≤ q) s.heap s.heap [] := va_S.rf
  have hP : va_P (dC, dI) vwCl [(h0, .inr (3, [.ref a0, w1, w2, w3, .int 0, .int 0])), (a0, .inl (ka0, 4, .inl (slF 1 0 4)))] s.heap := hP
  have hl := lv_entry ([.ref h0, .int n]) (n := 2) (Nat.le_of_ble_eq_true rfl)
  rw [lg_entry_eq]
  generalize (lg_sl ([.ref h0, .int n]) ++ List.replicate (2 - (lg_sl ([.ref h0, .int n])).length) Slot.unset).toArray = ls at hl ⊢
  have hl : lv_has ls 2 [(0, .ref h0), (1, .int n)] := hl
  skip
  refine lv_iload_n hx hb dX3_sizeOf_0 rfl (lv_at hl 1 rfl) ?_
  have hPc := hP.sub (ws' := []) [] rfl
  have hDc := hD.sub (ws' := []) [] (by decide) rfl
  have hKc := hK.sub (tys' := []) [] rfl
  refine va_calli (va_runSN (As := [.int n]) (rest := []) ⟨hx, hb, hml, hown, hts⟩ (c_isPlace l dC dI s.heap.size n) ⟨va_cnB 1 hts (gN mw_3_87) rfl rfl rfl (hN (RX3, 32, yX8_isPlace, RX8) (List.mem_of_getElem? (i := 13) rfl)) (hts _ mw_1_1) (by decide +kernel) ⟨Nat.le_of_ble_eq_true rfl, Nat.le_of_ble_eq_true rfl⟩, (hts _ mw_3_86), trivial⟩ ⟨pcW_blind, pcW_at hPc hKc hDc hN⟩ rfl rfl hl.1 rfl (lv_room (Nat.le_of_ble_eq_true rfl)) dX3_sizeOf_1 ⟨Nat.le_of_ble_eq_true rfl, Nat.le_of_ble_eq_true rfl⟩) hS (fun q h1 h2 => absurd h2 (Nat.not_le.mpr h1)) (fun q h => hA q (Nat.le_trans hS.1 h)) (fun r_1 u t H1 locs ht hvm hw_1 hB hz1 hk1 hS => ?_)
  have hP := keepP hP hk1
  clear hz1 hk1 hB ht hvm hPc hDc hKc
  generalize H1 = H at hP hS ⊢
  rcases fx_bool hw_1 with ⟨rfl, b_2⟩ | ⟨rfl, b_2⟩
  · skip
    refine lv_if_eq (tgt := 16) hx hb dX3_sizeOf_4 (by decide) (fun h => absurd h (by decide)) (fun _ => ?_)
    refine lv_aload_n hx hb dX3_sizeOf_7 rfl (lv_at hl 0 rfl) ?_
    refine va_get (D := (dC, dI)) (ci := 3) (v := .ref a0) (C := RX3) (T := TX3) (N := 6) hx hb hts inB_3 hown hK hP 0 rfl rfl 0 (by decide) (hts _ mw_1_149) (fun _ h9 => h9) rfl dX3_sizeOf_8 ?_
    refine lv_iload_n hx hb dX3_sizeOf_11 rfl (lv_at hl 1 rfl) ?_
    refine va_iald hx hb hK hP 1 0 rfl rfl (show vp_in n 4 from fx_in (by omega) (by omega)) dX3_sizeOf_12 ?_
    refine hx_top (y := 1) (slF_in (fx_cl (by omega) (by omega))) ?_
    refine lv_goto (tgt := 17) hx hb dX3_sizeOf_13 (by decide) ?_
    exact W.iret (v := 1) hx hb hr (fun t ht hW => ⟨⟨1, (), rfl, rfl, trivial⟩, hS.F ht⟩) hS.2.2 dX3_sizeOf_17
  · skip
    refine lv_if_eq (tgt := 16) hx hb dX3_sizeOf_4 (by decide) (fun _ => ?_) (fun h => absurd (by decide) h)
    refine lv_iconst (v := 1) hx hb dX3_sizeOf_16 (by decide) ?_
    exact W.iret (v := 1) hx hb hr (fun t ht hW => ⟨⟨1, (), rfl, rfl, trivial⟩, hS.F ht⟩) hS.2.2 dX3_sizeOf_17
set_option maxHeartbeats 4000000 in
set_option maxRecDepth 100000 in
theorem c_resize (l : Launch) (dC : Nat → ClassId) (dI : Nat → Nat → Nat) (sz : Nat) (h0 : Nat) (a0 : Nat) (w1 : Value) (w2 : Value) (w3 : Value) (ka0 : ClassId) (n : Int32) (v : Int32)  : Met l yX3_resize (wq yX3_resize cX3_resize 4 (some .int)) ({ frames := 2, cells := 0, slots := 0, locals := 41 }) (va_Pc [.ref h0, .int n, .int v] (pcW dC dI [(ka0, .int)] [(h0, .inr (3, [.ref a0, w1, w2, w3, .int 0, .int 0])), (a0, .inl (ka0, 4, .inl (slF 1 0 4)))] sz)) (va_Qi (fun (r : Int32) (_ : Unit) => r = 1) (fun _ _ => True) (va_A [(h0, .inr (3, [.ref a0, w1, w2, w3, .int 0, .int 0])), (a0, .inl (ka0, 4, .inl (slF 1 0 4)))] sz)) 0 0 (va_A [(h0, .inr (3, [.ref a0, w1, w2, w3, .int 0, .int 0])), (a0, .inl (ka0, 4, .inl (slF 1 0 4)))] sz) := by
  refine Met.ofW (cc := cX3_resize) (maxL := 4) (ret := (some .int)) (by decide) rfl ?_
  intro p e s m args below meth c s₁ B hml hv
  obtain ⟨rfl, hsz, hN, hP, hK, hD0⟩ := hv
  have hx := B.exec
  have hb := B.bytes
  have hr := B.returns
  have hts0 := atoms_spec (ws := (wq yX3_resize cX3_resize 4 (some .int))) B.pre
  have hts : ∀ w ∈ BG, w.before _ s = true := fun w h => hts0 w (List.mem_cons_of_mem _ h)
  have hown : s.vm.findClass RX3 = some m.cls := findClass_of_methodNamed B.named
  have hlocks := B.notSynchronized
  subst hsz
  have hD := hD0.self (sz := s.heap.size)
  generalize hAe : va_A [(h0, .inr (3, [.ref a0, w1, w2, w3, .int 0, .int 0])), (a0, .inl (ka0, 4, .inl (slF 1 0 4)))] s.heap.size = A at hD ⊢
  have hA : ∀ q : Nat, s.heap.size ≤ q → A q := fun q h => by rw [← hAe]; exact Or.inr h
  have hS : va_S A s.heap s.heap [] := va_S.rf
  have hP : va_P (dC, dI) vwCl [(h0, .inr (3, [.ref a0, w1, w2, w3, .int 0, .int 0])), (a0, .inl (ka0, 4, .inl (slF 1 0 4)))] s.heap := hP
  have hl := lv_entry ([.ref h0, .int n, .int v]) (n := 4) (Nat.le_of_ble_eq_true rfl)
  rw [lg_entry_eq]
  generalize (lg_sl ([.ref h0, .int n, .int v]) ++ List.replicate (4 - (lg_sl ([.ref h0, .int n, .int v])).length) Slot.unset).toArray = ls at hl ⊢
  have hl : lv_has ls 4 [(0, .ref h0), (1, .int n), (2, .int v)] := hl
  skip
  refine lv_aload_n hx hb dX3_resize_0 rfl (lv_at hl 0 rfl) ?_
  refine lv_iload_n hx hb dX3_resize_1 rfl (lv_at hl 1 rfl) ?_
  have hPc := hP.sub (ws' := [(h0, .inr (3, [.ref a0, w1, w2, w3, .int 0, .int 0])), (a0, .inl (ka0, 4, .inl (slF 1 0 4)))]) [0, 1] rfl
  have hDc := hD.sub (ws' := [(h0, .inr (3, [.ref a0, w1, w2, w3, .int 0, .int 0])), (a0, .inl (ka0, 4, .inl (slF 1 0 4)))]) [0, 1] (by decide) rfl
  have hKc := hK.sub (tys' := [(ka0, .int)]) [0] rfl
  refine va_calli (va_runV (As := [.int n]) (rest := []) ⟨hx, hb, hml, hown, hts⟩ (c_sizeOf l dC dI s.heap.size h0 a0 (w1) (w2) (w3) ka0 n) (cwV 1 hts (gV mw_3_113 mw_3_114 mw_3_115 mw_1_8 mw_3_116) rfl rfl rfl (by decide +kernel) ⟨Nat.le_of_ble_eq_true rfl, Nat.le_of_ble_eq_true rfl⟩) ⟨pcW_blind, va_recv hKc hPc (ci := 3) (q0 := 0) rfl rfl, pcW_at hPc hKc hDc hN⟩ rfl rfl hl.1 rfl (lv_room (Nat.le_of_ble_eq_true rfl)) dX3_resize_2 ⟨Nat.le_of_ble_eq_true rfl, Nat.le_of_ble_eq_true rfl⟩) hS (fun q h1 h2 => absurd h2 (Nat.not_le.mpr h1)) (fun q h => hA q (Nat.le_trans hS.1 h)) (fun r_1 u t H1 locs ht hvm hw_1 hB hz1 hk1 hS => ?_)
  have hP := keepP hP hk1
  clear hz1 hk1 hB ht hvm hPc hDc hKc
  generalize H1 = H at hP hS ⊢
  obtain rfl : r_1 = 1 := hw_1
  refine lv_istore_n (lv' := [(3, .int 1), (0, .ref h0), (1, .int n), (2, .int v)]) hx hb dX3_resize_5 rfl hl (by decide) rfl (fun ls hl => ?_)
  refine lv_iload_n hx hb dX3_resize_6 rfl (lv_at hl 2 rfl) ?_
  have hPc := hP.sub (ws' := []) [] rfl
  have hDc := hD.sub (ws' := []) [] (by decide) rfl
  have hKc := hK.sub (tys' := []) [] rfl
  refine va_calli (va_runSN (As := [.int n]) (rest := []) ⟨hx, hb, hml, hown, hts⟩ (c_isPlace l dC dI H.size n) ⟨va_cnB 1 hts (gN mw_3_87) rfl rfl rfl (hN (RX3, 32, yX8_isPlace, RX8) (List.mem_of_getElem? (i := 13) rfl)) (hts _ mw_1_1) (by decide +kernel) ⟨Nat.le_of_ble_eq_true rfl, Nat.le_of_ble_eq_true rfl⟩, (hts _ mw_3_86), trivial⟩ ⟨pcW_blind, pcW_at hPc hKc hDc hN⟩ rfl rfl hl.1 rfl (lv_room (Nat.le_of_ble_eq_true rfl)) dX3_resize_7 ⟨Nat.le_of_ble_eq_true rfl, Nat.le_of_ble_eq_true rfl⟩) hS (fun q h1 h2 => absurd h2 (Nat.not_le.mpr h1)) (fun q h => hA q (Nat.le_trans hS.1 h)) (fun r_2 u t H1 locs ht hvm hw_2 hB hz1 hk1 hS => ?_)
  have hP := keepP hP hk1
  clear hz1 hk1 hB ht hvm hPc hDc hKc
  generalize H1 = H at hP hS ⊢
  rcases fx_bool hw_2 with ⟨rfl, b_3⟩ | ⟨rfl, b_3⟩
  · skip
    refine lv_if_eq (tgt := 20) hx hb dX3_resize_10 (by decide) (fun h => absurd h (by decide)) (fun _ => ?_)
    refine lv_aload_n hx hb dX3_resize_13 rfl (lv_at hl 1 rfl) ?_
    refine va_get (D := (dC, dI)) (ci := 3) (v := .ref a0) (C := RX3) (T := TX3) (N := 6) hx hb hts inB_3 hown hK hP 0 rfl rfl 0 (by decide) (hts _ mw_1_149) (fun _ h9 => h9) rfl dX3_resize_14 ?_
    refine lv_iload_n hx hb dX3_resize_17 rfl (lv_at hl 2 rfl) ?_
    refine lv_iload_n hx hb dX3_resize_18 rfl (lv_at hl 3 rfl) ?_
    refine va_iast hx hb hK hP hD hS 1 0 rfl rfl (show vp_in n 4 from fx_in (by omega) (by omega)) dX3_resize_19 (fun H locs hP hD hS => ?_)
    have hP : va_P (dC, dI) vwCl [(h0, .inr (3, [.ref a0, w1, w2, w3, .int 0, .int 0])), (a0, .inl (ka0, 4, .inl (upd (slF 1 0 4) (Int32.toNatClampNeg n) v)))] H := hP
    have hD : va_D A [(h0, .inr (3, [.ref a0, w1, w2, w3, .int 0, .int 0])), (a0, .inl (ka0, 4, .inl (upd (slF 1 0 4) (Int32.toNatClampNeg n) v)))] := hD
    refine lv_iload_n hx hb dX3_resize_20 rfl (lv_at hl 0 rfl) ?_
    exact W.iret (v := 1) hx hb hr (fun t ht hW => ⟨⟨1, (), rfl, rfl, trivial⟩, hS.F ht⟩) hS.2.2 dX3_resize_21
  · skip
    refine lv_if_eq (tgt := 20) hx hb dX3_resize_10 (by decide) (fun _ => ?_) (fun h => absurd (by decide) h)
    refine lv_iload_n hx hb dX3_resize_20 rfl (lv_at hl 0 rfl) ?_
    exact W.iret (v := 1) hx hb hr (fun t ht hW => ⟨⟨1, (), rfl, rfl, trivial⟩, hS.F ht⟩) hS.2.2 dX3_resize_21
set_option maxHeartbeats 4000000 in
set_option maxRecDepth 100000 in
theorem c_callsAt (l : Launch) (dC : Nat → ClassId) (dI : Nat → Nat → Nat) (sz : Nat) (h0 : Nat) (w0 : Value) (w1 : Value) (w2 : Value) (w3 : Value) (n : Int32)  : Met l yX3_callsAt (wq yX3_callsAt cX3_callsAt 4 (some .int)) ({ frames := 0, cells := 0, slots := 0, locals := 0 }) (va_Pc [.ref h0, .int n] (pcW dC dI [] [(h0, .inr (3, [w0, w1, w2, w3, .int 0, .int 0]))] sz)) (va_Qi (fun (r : Int32) (_ : Unit) => r = 0) (fun _ _ => True) (fun q : Nat => sz ≤ q)) 0 0 (fun q : Nat => sz ≤ q) := by
  refine Met.ofW (cc := cX3_callsAt) (maxL := 4) (ret := (some .int)) (by decide) rfl ?_
  intro p e s m args below meth c s₁ B hml hv
  obtain ⟨rfl, hsz, hN, hP, hK, hD0⟩ := hv
  have hx := B.exec
  have hb := B.bytes
  have hr := B.returns
  have hts0 := atoms_spec (ws := (wq yX3_callsAt cX3_callsAt 4 (some .int))) B.pre
  have hts : ∀ w ∈ BG, w.before _ s = true := fun w h => hts0 w (List.mem_cons_of_mem _ h)
  have hown : s.vm.findClass RX3 = some m.cls := findClass_of_methodNamed B.named
  have hlocks := B.notSynchronized
  subst hsz
  have hA : ∀ q : Nat, s.heap.size ≤ q → (fun q : Nat => s.heap.size ≤ q) q := fun _ h => h
  have hD := hD0
  have hS : va_S (fun q : Nat => s.heap.size ≤ q) s.heap s.heap [] := va_S.rf
  have hP : va_P (dC, dI) vwCl [(h0, .inr (3, [w0, w1, w2, w3, .int 0, .int 0]))] s.heap := hP
  have hl := lv_entry ([.ref h0, .int n]) (n := 4) (Nat.le_of_ble_eq_true rfl)
  rw [lg_entry_eq]
  generalize (lg_sl ([.ref h0, .int n]) ++ List.replicate (4 - (lg_sl ([.ref h0, .int n])).length) Slot.unset).toArray = ls at hl ⊢
  have hl : lv_has ls 4 [(0, .ref h0), (1, .int n)] := hl
  skip
  refine lv_iconst (v := 0) hx hb dX3_callsAt_0 (by decide) ?_
  refine lv_istore_n (lv' := [(2, .int 0), (0, .ref h0), (1, .int n)]) hx hb dX3_callsAt_1 rfl hl (by decide) rfl (fun ls hl => ?_)
  refine lv_iconst (v := 0) hx hb dX3_callsAt_2 (by decide) ?_
  refine lv_istore_n (lv' := [(3, .int 0), (2, .int 0), (0, .ref h0), (1, .int n)]) hx hb dX3_callsAt_3 rfl hl (by decide) rfl (fun ls hl => ?_)
  refine lv_iload_n hx hb dX3_callsAt_4 rfl (lv_at hl 0 rfl) ?_
  refine lv_aload_n hx hb dX3_callsAt_5 rfl (lv_at hl 2 rfl) ?_
  refine va_get (D := (dC, dI)) (ci := 3) (v := .int 0) (C := RX3) (T := TX3) (N := 6) hx hb hts inB_3 hown hK hP 0 rfl rfl 4 (by decide) (hts _ mw_1_153) (fun _ h9 => h9) rfl dX3_callsAt_6 ?_
  refine lv_icmp_ge (tgt := 31) hx hb dX3_callsAt_9 (by decide) (fun _ => ?_) (fun h => absurd (by decide) h)
  refine lv_iload_n hx hb dX3_callsAt_31 rfl (lv_at hl 1 rfl) ?_
  exact W.iret (v := 0) hx hb hr (fun t ht hW => ⟨⟨0, (), rfl, rfl, trivial⟩, hS.F ht⟩) hS.2.2 dX3_callsAt_32
set_option maxHeartbeats 4000000 in
set_option maxRecDepth 100000 in
theorem c_hbs (l : Launch) (dC : Nat → ClassId) (dI : Nat → Nat → Nat) (sz : Nat) (h0 : Nat) (w0 : Value) (w1 : Value) (w2 : Value) (w3 : Value) (n : Int32) (v : Int32)  : Met l yX3_hitsBySize (wq yX3_hitsBySize cX3_hitsBySize 6 (some .int)) ({ frames := 0, cells := 0, slots := 0, locals := 0 }) (va_Pc [.ref h0, .int n, .int v] (pcW dC dI [] [(h0, .inr (3, [w0, w1, w2, w3, .int 0, .int 0]))] sz)) (va_Qi (fun (r : Int32) (_ : Unit) => r = 0) (fun _ t => va_P (dC, dI) vwCl [(h0, .inr (3, [w0, w1, w2, w3, .int 0, .int 0]))] t.heap ∧ va_K (dC, dI) vwCl [] t ∧ va_D (va_A [(h0, .inr (3, [w0, w1, w2, w3, .int 0, .int 0]))] sz) [(h0, .inr (3, [w0, w1, w2, w3, .int 0, .int 0]))]) (va_A [(h0, .inr (3, [w0, w1, w2, w3, .int 0, .int 0]))] sz)) 0 0 (va_A [(h0, .inr (3, [w0, w1, w2, w3, .int 0, .int 0]))] sz) := by
  refine Met.ofW (cc := cX3_hitsBySize) (maxL := 6) (ret := (some .int)) (by decide) rfl ?_
  intro p e s m args below meth c s₁ B hml hv
  obtain ⟨rfl, hsz, hN, hP, hK, hD0⟩ := hv
  have hx := B.exec
  have hb := B.bytes
  have hr := B.returns
  have hts0 := atoms_spec (ws := (wq yX3_hitsBySize cX3_hitsBySize 6 (some .int))) B.pre
  have hts : ∀ w ∈ BG, w.before _ s = true := fun w h => hts0 w (List.mem_cons_of_mem _ h)
  have hown : s.vm.findClass RX3 = some m.cls := findClass_of_methodNamed B.named
  have hlocks := B.notSynchronized
  subst hsz
  have hD := hD0.self (sz := s.heap.size)
  generalize hAe : va_A [(h0, .inr (3, [w0, w1, w2, w3, .int 0, .int 0]))] s.heap.size = A at hD ⊢
  have hA : ∀ q : Nat, s.heap.size ≤ q → A q := fun q h => by rw [← hAe]; exact Or.inr h
  have hS : va_S A s.heap s.heap [] := va_S.rf
  have hP : va_P (dC, dI) vwCl [(h0, .inr (3, [w0, w1, w2, w3, .int 0, .int 0]))] s.heap := hP
  have hl := lv_entry ([.ref h0, .int n, .int v]) (n := 6) (Nat.le_of_ble_eq_true rfl)
  rw [lg_entry_eq]
  generalize (lg_sl ([.ref h0, .int n, .int v]) ++ List.replicate (6 - (lg_sl ([.ref h0, .int n, .int v])).length) Slot.unset).toArray = ls at hl ⊢
  have hl : lv_has ls 6 [(0, .ref h0), (1, .int n), (2, .int v)] := hl
  skip
  refine lv_aload_n hx hb dX3_hitsBySize_0 rfl (lv_at hl 0 rfl) ?_
  refine lv_iconst (v := 0) hx hb dX3_hitsBySize_1 (by decide) ?_
  refine va_put (D := (dC, dI)) (ci := 3) (v := .int 0) (ty := .int) (C := RX3) (T := TX3) (N := 6) hx hb hts inB_3 tyX3 tyX3_ok nmX3 hown hK hP hD hS 0 rfl rfl 5 (by decide) (hts _ mw_1_154) (fun _ h9 => h9) rfl (by decide +kernel) rfl rfl (Nat.le_of_ble_eq_true rfl) dX3_hitsBySize_2 (fun H locs hP hD hS => ?_)
  have hP : va_P (dC, dI) vwCl [(h0, .inr (3, [w0, w1, w2, w3, .int 0, .int 0]))] H := hP
  have hD : va_D A [(h0, .inr (3, [w0, w1, w2, w3, .int 0, .int 0]))] := hD
  refine lv_iconst (v := 0) hx hb dX3_hitsBySize_5 (by decide) ?_
  refine lv_istore_n (lv' := [(3, .int 0), (0, .ref h0), (1, .int n), (2, .int v)]) hx hb dX3_hitsBySize_6 rfl hl (by decide) rfl (fun ls hl => ?_)
  refine lv_iconst (v := 0) hx hb dX3_hitsBySize_7 (by decide) ?_
  refine lv_istore (lv' := [(4, .int 0), (3, .int 0), (0, .ref h0), (1, .int n), (2, .int v)]) hx hb dX3_hitsBySize_8 hl (by decide) rfl (fun ls hl => ?_)
  refine lv_iload hx hb dX3_hitsBySize_10 (lv_at hl 0 rfl) ?_
  refine lv_aload_n hx hb dX3_hitsBySize_12 rfl (lv_at hl 2 rfl) ?_
  refine va_get (D := (dC, dI)) (ci := 3) (v := .int 0) (C := RX3) (T := TX3) (N := 6) hx hb hts inB_3 hown hK hP 0 rfl rfl 4 (by decide) (hts _ mw_1_153) (fun _ h9 => h9) rfl dX3_hitsBySize_13 ?_
  refine lv_icmp_ge (tgt := 118) hx hb dX3_hitsBySize_16 (by decide) (fun _ => ?_) (fun h => absurd (by decide) h)
  refine lv_iload_n hx hb dX3_hitsBySize_118 rfl (lv_at hl 1 rfl) ?_
  exact W.iret (v := 0) hx hb hr (fun t ht hW => ⟨⟨0, (), rfl, rfl, by rw [ht]; exact hP, va_K.moved hW.alike hK, hD⟩, hS.F ht⟩) hS.2.2 dX3_hitsBySize_119
set_option maxHeartbeats 4000000 in
set_option maxRecDepth 100000 in
theorem c_best (l : Launch) (dC : Nat → ClassId) (dI : Nat → Nat → Nat) (sz : Nat) (h0 : Nat) (a0 : Nat) (w1 : Value) (w2 : Value) (w3 : Value) (ka0 : ClassId) (n : Int32)  : Met l yX3_bestHits (wq yX3_bestHits cX3_bestHits 6 (some .int)) ({ frames := 2, cells := 0, slots := 0, locals := 41 }) (va_Pc [.ref h0, .int n] (pcW dC dI [(ka0, .int)] [(h0, .inr (3, [.ref a0, w1, w2, w3, .int 0, .int 0])), (a0, .inl (ka0, 4, .inl (slF 1 0 4)))] sz)) (va_Qi (fun (r : Int32) (_ : Unit) => r = 0) (fun _ _ => True) (fun q : Nat => sz ≤ q)) 0 0 (fun q : Nat => sz ≤ q) := by
  refine Met.ofW (cc := cX3_bestHits) (maxL := 6) (ret := (some .int)) (by decide) rfl ?_
  intro p e s m args below meth c s₁ B hml hv
  obtain ⟨rfl, hsz, hN, hP, hK, hD0⟩ := hv
  have hx := B.exec
  have hb := B.bytes
  have hr := B.returns
  have hts0 := atoms_spec (ws := (wq yX3_bestHits cX3_bestHits 6 (some .int))) B.pre
  have hts : ∀ w ∈ BG, w.before _ s = true := fun w h => hts0 w (List.mem_cons_of_mem _ h)
  have hown : s.vm.findClass RX3 = some m.cls := findClass_of_methodNamed B.named
  have hlocks := B.notSynchronized
  subst hsz
  have hA : ∀ q : Nat, s.heap.size ≤ q → (fun q : Nat => s.heap.size ≤ q) q := fun _ h => h
  have hD := hD0
  have hS : va_S (fun q : Nat => s.heap.size ≤ q) s.heap s.heap [] := va_S.rf
  have hP : va_P (dC, dI) vwCl [(h0, .inr (3, [.ref a0, w1, w2, w3, .int 0, .int 0])), (a0, .inl (ka0, 4, .inl (slF 1 0 4)))] s.heap := hP
  have hl := lv_entry ([.ref h0, .int n]) (n := 6) (Nat.le_of_ble_eq_true rfl)
  rw [lg_entry_eq]
  generalize (lg_sl ([.ref h0, .int n]) ++ List.replicate (6 - (lg_sl ([.ref h0, .int n])).length) Slot.unset).toArray = ls at hl ⊢
  have hl : lv_has ls 6 [(0, .ref h0), (1, .int n)] := hl
  skip
  refine lv_aload_n hx hb dX3_bestHits_0 rfl (lv_at hl 0 rfl) ?_
  refine lv_iload_n hx hb dX3_bestHits_1 rfl (lv_at hl 1 rfl) ?_
  have hPc := hP.sub (ws' := [(h0, .inr (3, [.ref a0, w1, w2, w3, .int 0, .int 0])), (a0, .inl (ka0, 4, .inl (slF 1 0 4)))]) [0, 1] rfl
  have hDc := hD.sub (ws' := [(h0, .inr (3, [.ref a0, w1, w2, w3, .int 0, .int 0])), (a0, .inl (ka0, 4, .inl (slF 1 0 4)))]) [0, 1] (by decide) rfl
  have hKc := hK.sub (tys' := [(ka0, .int)]) [0] rfl
  refine va_calli (va_runV (As := [.int n]) (rest := []) ⟨hx, hb, hml, hown, hts⟩ (c_sizeOf l dC dI s.heap.size h0 a0 (w1) (w2) (w3) ka0 n) (cwV 1 hts (gV mw_3_113 mw_3_114 mw_3_115 mw_1_8 mw_3_116) rfl rfl rfl (by decide +kernel) ⟨Nat.le_of_ble_eq_true rfl, Nat.le_of_ble_eq_true rfl⟩) ⟨pcW_blind, va_recv hKc hPc (ci := 3) (q0 := 0) rfl rfl, pcW_at hPc hKc hDc hN⟩ rfl rfl hl.1 rfl (lv_room (Nat.le_of_ble_eq_true rfl)) dX3_bestHits_2 ⟨Nat.le_of_ble_eq_true rfl, Nat.le_of_ble_eq_true rfl⟩) hS (fun q h1 h2 => absurd h2 (Nat.not_le.mpr h1)) (fun q h => hA q (Nat.le_trans hS.1 h)) (fun r_1 u t H1 locs ht hvm hw_1 hB hz1 hk1 hS => ?_)
  have hP := keepP hP hk1
  clear hz1 hk1 hB ht hvm hPc hDc hKc
  generalize H1 = H at hP hS ⊢
  obtain rfl : r_1 = 1 := hw_1
  refine lv_istore_n (lv' := [(2, .int 1), (0, .ref h0), (1, .int n)]) hx hb dX3_bestHits_5 rfl hl (by decide) rfl (fun ls hl => ?_)
  refine lv_iconst (v := 0) hx hb dX3_bestHits_6 (by decide) ?_
  refine lv_istore_n (lv' := [(3, .int 0), (2, .int 1), (0, .ref h0), (1, .int n)]) hx hb dX3_bestHits_7 rfl hl (by decide) rfl (fun ls hl => ?_)
  refine lv_iconst (v := 0) hx hb dX3_bestHits_8 (by decide) ?_
  refine lv_istore (lv' := [(4, .int 0), (3, .int 0), (2, .int 1), (0, .ref h0), (1, .int n)]) hx hb dX3_bestHits_9 hl (by decide) rfl (fun ls hl => ?_)
  refine lv_iconst (v := 0) hx hb dX3_bestHits_11 (by decide) ?_
  refine lv_istore (lv' := [(5, .int 0), (4, .int 0), (3, .int 0), (2, .int 1), (0, .ref h0), (1, .int n)]) hx hb dX3_bestHits_12 hl (by decide) rfl (fun ls hl => ?_)
  refine lv_iload hx hb dX3_bestHits_14 (lv_at hl 0 rfl) ?_
  refine lv_aload_n hx hb dX3_bestHits_16 rfl (lv_at hl 4 rfl) ?_
  refine va_get (D := (dC, dI)) (ci := 3) (v := .int 0) (C := RX3) (T := TX3) (N := 6) hx hb hts inB_3 hown hK hP 0 rfl rfl 4 (by decide) (hts _ mw_1_153) (fun _ h9 => h9) rfl dX3_bestHits_17 ?_
  refine lv_icmp_ge (tgt := 98) hx hb dX3_bestHits_20 (by decide) (fun _ => ?_) (fun h => absurd (by decide) h)
  refine lv_iload hx hb dX3_bestHits_98 (lv_at hl 1 rfl) ?_
  exact W.iret (v := 0) hx hb hr (fun t ht hW => ⟨⟨0, (), rfl, rfl, trivial⟩, hS.F ht⟩) hS.2.2 dX3_bestHits_100
set_option maxHeartbeats 4000000 in
set_option maxRecDepth 100000 in
theorem c_latest (l : Launch) (dC : Nat → ClassId) (dI : Nat → Nat → Nat) (sz : Nat) (h0 : Nat) (w0 : Value) (w1 : Value) (w2 : Value) (w3 : Value) (n : Int32)  : Met l yX3_latest (wq yX3_latest cX3_latest 2 (some .int)) ({ frames := 0, cells := 0, slots := 0, locals := 0 }) (va_Pc [.ref h0, .int n] (pcW dC dI [] [(h0, .inr (3, [w0, w1, w2, w3, .int 0, .int 0]))] sz)) (va_Qi (fun (r : Int32) (_ : Unit) => r = (-6)) (fun _ _ => True) (fun q : Nat => sz ≤ q)) 0 0 (fun q : Nat => sz ≤ q) := by
  refine Met.ofW (cc := cX3_latest) (maxL := 2) (ret := (some .int)) (by decide) rfl ?_
  intro p e s m args below meth c s₁ B hml hv
  obtain ⟨rfl, hsz, hN, hP, hK, hD0⟩ := hv
  have hx := B.exec
  have hb := B.bytes
  have hr := B.returns
  have hts0 := atoms_spec (ws := (wq yX3_latest cX3_latest 2 (some .int))) B.pre
  have hts : ∀ w ∈ BG, w.before _ s = true := fun w h => hts0 w (List.mem_cons_of_mem _ h)
  have hown : s.vm.findClass RX3 = some m.cls := findClass_of_methodNamed B.named
  have hlocks := B.notSynchronized
  subst hsz
  have hA : ∀ q : Nat, s.heap.size ≤ q → (fun q : Nat => s.heap.size ≤ q) q := fun _ h => h
  have hD := hD0
  have hS : va_S (fun q : Nat => s.heap.size ≤ q) s.heap s.heap [] := va_S.rf
  have hP : va_P (dC, dI) vwCl [(h0, .inr (3, [w0, w1, w2, w3, .int 0, .int 0]))] s.heap := hP
  have hl := lv_entry ([.ref h0, .int n]) (n := 2) (Nat.le_of_ble_eq_true rfl)
  rw [lg_entry_eq]
  generalize (lg_sl ([.ref h0, .int n]) ++ List.replicate (2 - (lg_sl ([.ref h0, .int n])).length) Slot.unset).toArray = ls at hl ⊢
  have hl : lv_has ls 2 [(0, .ref h0), (1, .int n)] := hl
  skip
  refine lv_iload_n hx hb dX3_latest_0 rfl (lv_at hl 1 rfl) ?_
  refine lv_if_lt (tgt := 26) hx hb dX3_latest_1 (by decide) (fun c_1 => ?_) (fun c_1 => ?_)
  · have b_2 := fx_lt (x := n) (C := 0) (by decide) c_1
    refine lv_bipush (v := (-6)) hx hb dX3_latest_26 (by decide) ?_
    exact W.iret (v := (-6)) hx hb hr (fun t ht hW => ⟨⟨(-6), (), rfl, rfl, trivial⟩, hS.F ht⟩) hS.2.2 dX3_latest_28
  · have b_2 := fn_lt (x := n) (C := 0) (by decide) c_1
    refine lv_iload_n hx hb dX3_latest_4 rfl (lv_at hl 1 rfl) ?_
    refine lv_aload_n hx hb dX3_latest_5 rfl (lv_at hl 0 rfl) ?_
    refine va_get (D := (dC, dI)) (ci := 3) (v := .int 0) (C := RX3) (T := TX3) (N := 6) hx hb hts inB_3 hown hK hP 0 rfl rfl 5 (by decide) (hts _ mw_1_154) (fun _ h9 => h9) rfl dX3_latest_6 ?_
    refine lv_icmp_ge (tgt := 26) hx hb dX3_latest_9 (by decide) (fun _ => ?_) (fun h => absurd (fn_ge (x := n) (C := 0) (by decide) h) (by omega))
    refine lv_bipush (v := (-6)) hx hb dX3_latest_26 (by decide) ?_
    exact W.iret (v := (-6)) hx hb hr (fun t ht hW => ⟨⟨(-6), (), rfl, rfl, trivial⟩, hS.F ht⟩) hS.2.2 dX3_latest_28
set_option maxHeartbeats 4000000 in
set_option maxRecDepth 100000 in
theorem c_plHow (l : Launch) (dC : Nat → ClassId) (dI : Nat → Nat → Nat) (sz : Nat) (h0 : Nat) (w0 : Value) (w1 : Value) (w2 : Value) (w3 : Value)  : Met l yX3_howMany (wq yX3_howMany cX3_howMany 1 (some .int)) ({ frames := 0, cells := 0, slots := 0, locals := 0 }) (va_Pc [.ref h0] (pcW dC dI [] [(h0, .inr (3, [w0, w1, w2, w3, .int 0, .int 0]))] sz)) (va_Qi (fun (r : Int32) (_ : Unit) => r = 0) (fun _ _ => True) (fun q : Nat => sz ≤ q)) 0 0 (fun q : Nat => sz ≤ q) := by
  refine Met.ofW (cc := cX3_howMany) (maxL := 1) (ret := (some .int)) (by decide) rfl ?_
  intro p e s m args below meth c s₁ B hml hv
  obtain ⟨rfl, hsz, hN, hP, hK, hD0⟩ := hv
  have hx := B.exec
  have hb := B.bytes
  have hr := B.returns
  have hts0 := atoms_spec (ws := (wq yX3_howMany cX3_howMany 1 (some .int))) B.pre
  have hts : ∀ w ∈ BG, w.before _ s = true := fun w h => hts0 w (List.mem_cons_of_mem _ h)
  have hown : s.vm.findClass RX3 = some m.cls := findClass_of_methodNamed B.named
  have hlocks := B.notSynchronized
  subst hsz
  have hA : ∀ q : Nat, s.heap.size ≤ q → (fun q : Nat => s.heap.size ≤ q) q := fun _ h => h
  have hD := hD0
  have hS : va_S (fun q : Nat => s.heap.size ≤ q) s.heap s.heap [] := va_S.rf
  have hP : va_P (dC, dI) vwCl [(h0, .inr (3, [w0, w1, w2, w3, .int 0, .int 0]))] s.heap := hP
  have hl := lv_entry ([.ref h0]) (n := 1) (Nat.le_of_ble_eq_true rfl)
  rw [lg_entry_eq]
  generalize (lg_sl ([.ref h0]) ++ List.replicate (1 - (lg_sl ([.ref h0])).length) Slot.unset).toArray = ls at hl ⊢
  have hl : lv_has ls 1 [(0, .ref h0)] := hl
  skip
  refine lv_aload_n hx hb dX3_howMany_0 rfl (lv_at hl 0 rfl) ?_
  refine va_get (D := (dC, dI)) (ci := 3) (v := .int 0) (C := RX3) (T := TX3) (N := 6) hx hb hts inB_3 hown hK hP 0 rfl rfl 4 (by decide) (hts _ mw_1_153) (fun _ h9 => h9) rfl dX3_howMany_1 ?_
  exact W.iret (v := 0) hx hb hr (fun t ht hW => ⟨⟨0, (), rfl, rfl, trivial⟩, hS.F ht⟩) hS.2.2 dX3_howMany_4
set_option maxHeartbeats 4000000 in
set_option maxRecDepth 100000 in
theorem c_plClear (l : Launch) (dC : Nat → ClassId) (dI : Nat → Nat → Nat) (sz : Nat) (h0 : Nat) (w0 : Value) (w1 : Value) (w2 : Value) (w3 : Value)  : Met l yX3_clear (wq yX3_clear cX3_clear 2 (some .int)) ({ frames := 0, cells := 0, slots := 0, locals := 0 }) (va_Pc [.ref h0] (pcW dC dI [] [(h0, .inr (3, [w0, w1, w2, w3, .int 0, .int 0]))] sz)) (va_Qi (fun (r : Int32) (_ : Unit) => r = 0) (fun _ _ => True) (va_A [(h0, .inr (3, [w0, w1, w2, w3, .int 0, .int 0]))] sz)) 0 0 (va_A [(h0, .inr (3, [w0, w1, w2, w3, .int 0, .int 0]))] sz) := by
  refine Met.ofW (cc := cX3_clear) (maxL := 2) (ret := (some .int)) (by decide) rfl ?_
  intro p e s m args below meth c s₁ B hml hv
  obtain ⟨rfl, hsz, hN, hP, hK, hD0⟩ := hv
  have hx := B.exec
  have hb := B.bytes
  have hr := B.returns
  have hts0 := atoms_spec (ws := (wq yX3_clear cX3_clear 2 (some .int))) B.pre
  have hts : ∀ w ∈ BG, w.before _ s = true := fun w h => hts0 w (List.mem_cons_of_mem _ h)
  have hown : s.vm.findClass RX3 = some m.cls := findClass_of_methodNamed B.named
  have hlocks := B.notSynchronized
  subst hsz
  have hD := hD0.self (sz := s.heap.size)
  generalize hAe : va_A [(h0, .inr (3, [w0, w1, w2, w3, .int 0, .int 0]))] s.heap.size = A at hD ⊢
  have hA : ∀ q : Nat, s.heap.size ≤ q → A q := fun q h => by rw [← hAe]; exact Or.inr h
  have hS : va_S A s.heap s.heap [] := va_S.rf
  have hP : va_P (dC, dI) vwCl [(h0, .inr (3, [w0, w1, w2, w3, .int 0, .int 0]))] s.heap := hP
  have hl := lv_entry ([.ref h0]) (n := 2) (Nat.le_of_ble_eq_true rfl)
  rw [lg_entry_eq]
  generalize (lg_sl ([.ref h0]) ++ List.replicate (2 - (lg_sl ([.ref h0])).length) Slot.unset).toArray = ls at hl ⊢
  have hl : lv_has ls 2 [(0, .ref h0)] := hl
  skip
  refine lv_aload_n hx hb dX3_clear_0 rfl (lv_at hl 0 rfl) ?_
  refine va_get (D := (dC, dI)) (ci := 3) (v := .int 0) (C := RX3) (T := TX3) (N := 6) hx hb hts inB_3 hown hK hP 0 rfl rfl 4 (by decide) (hts _ mw_1_153) (fun _ h9 => h9) rfl dX3_clear_1 ?_
  refine lv_istore_n (lv' := [(1, .int 0), (0, .ref h0)]) hx hb dX3_clear_4 rfl hl (by decide) rfl (fun ls hl => ?_)
  refine lv_aload_n hx hb dX3_clear_5 rfl (lv_at hl 1 rfl) ?_
  refine lv_iconst (v := 0) hx hb dX3_clear_6 (by decide) ?_
  refine va_put (D := (dC, dI)) (ci := 3) (v := .int 0) (ty := .int) (C := RX3) (T := TX3) (N := 6) hx hb hts inB_3 tyX3 tyX3_ok nmX3 hown hK hP hD hS 0 rfl rfl 4 (by decide) (hts _ mw_1_153) (fun _ h9 => h9) rfl (by decide +kernel) rfl rfl (Nat.le_of_ble_eq_true rfl) dX3_clear_7 (fun H locs hP hD hS => ?_)
  have hP : va_P (dC, dI) vwCl [(h0, .inr (3, [w0, w1, w2, w3, .int 0, .int 0]))] H := hP
  have hD : va_D A [(h0, .inr (3, [w0, w1, w2, w3, .int 0, .int 0]))] := hD
  refine lv_iload_n hx hb dX3_clear_10 rfl (lv_at hl 0 rfl) ?_
  exact W.iret (v := 0) hx hb hr (fun t ht hW => ⟨⟨0, (), rfl, rfl, trivial⟩, hS.F ht⟩) hS.2.2 dX3_clear_11
end
section
theorem mw_1_37 : Cond.laysFinal RX4 "AnswerLines$Rows" "cells" "[I" ∈ BG := mB (t1 (i := 37) (by decide +kernel)) (by decide +kernel)
theorem mw_1_39 : Cond.laysFinal RX4 "AnswerLines$Rows" "heads" "[I" ∈ BG := mB (t1 (i := 39) (by decide +kernel)) (by decide +kernel)
theorem mw_1_41 : Cond.laysFinal RX4 "AnswerLines$Rows" "lengths" "[I" ∈ BG := mB (t1 (i := 41) (by decide +kernel)) (by decide +kernel)
theorem mw_1_43 : Cond.lays RX4 "AnswerLines$Rows" "count" "I" ∈ BG := mB (t1 (i := 43) (by decide +kernel)) (by decide +kernel)
theorem inB_4 : ∀ w ∈ u_ws RX4 TX4 4, w ∈ BG := fun w hw => by
  obtain ⟨k, hk, rfl⟩ := List.mem_map.mp hw
  have hk := List.mem_range.mp hk
  rcases (by omega : k = 0 ∨ k = 1 ∨ k = 2 ∨ k = 3) with rfl | rfl | rfl | rfl
  · exact mw_1_37
  · exact mw_1_39
  · exact mw_1_41
  · exact mw_1_43
theorem mw_1_36 : Cond.fieldLink RX4 21 "AnswerLines$Rows" "count" "I" ∈ BG := mB (t1 (i := 36) (by decide +kernel)) (by decide +kernel)
theorem mw_1_34 : Cond.fieldLink RX4 15 "AnswerLines$Rows" "heads" "[I" ∈ BG := mB (t1 (i := 34) (by decide +kernel)) (by decide +kernel)
theorem mw_1_35 : Cond.fieldLink RX4 18 "AnswerLines$Rows" "lengths" "[I" ∈ BG := mB (t1 (i := 35) (by decide +kernel)) (by decide +kernel)
theorem mw_2_8 : Cond.code yX4_tail cX4_tail 4 (some .int) ∈ BG := mB (t2 (i := 8) rfl) (by decide +kernel)
theorem mw_2_5 : Cond.methodLink RX4 29 yX4_tail ∈ BG := mB (t2 (i := 5) (by decide +kernel)) (by decide +kernel)
theorem mw_2_7 : Cond.instanceMethod yX4_tail ∈ BG := mB (t2 (i := 7) (by decide +kernel)) (by decide +kernel)
theorem mw_0_2 : Cond.selects RX4 yX4_tail yX4_tail ∈ BG := mB (t0 (i := 2) (by decide +kernel)) (by decide +kernel)
theorem mw_1_3 : Cond.initialized RX4 ∈ BG := mB (t1 (i := 3) (by decide +kernel)) (by decide +kernel)
theorem mw_2_12 : Cond.code yX4_head cX4_head 2 (some .int) ∈ BG := mB (t2 (i := 12) rfl) (by decide +kernel)
theorem mw_2_9 : Cond.methodLink RX4 25 yX4_head ∈ BG := mB (t2 (i := 9) (by decide +kernel)) (by decide +kernel)
theorem mw_2_11 : Cond.instanceMethod yX4_head ∈ BG := mB (t2 (i := 11) (by decide +kernel)) (by decide +kernel)
theorem mw_0_3 : Cond.selects RX4 yX4_head yX4_head ∈ BG := mB (t0 (i := 3) (by decide +kernel)) (by decide +kernel)
theorem mw_1_52 : Cond.fieldLink RX1 30 "AnswerLines$Kinds" "rows" "LAnswerLines$Rows;" ∈ BG := mB (t1 (i := 52) (by decide +kernel)) (by decide +kernel)
theorem mw_1_228 : Cond.code yX4_clear cX4_clear 1 none ∈ BG := mB (t1 (i := 228) rfl) (by decide +kernel)
theorem mw_1_225 : Cond.methodLink RX1 97 yX4_clear ∈ BG := mB (t1 (i := 225) (by decide +kernel)) (by decide +kernel)
theorem mw_1_226 : Cond.instanceMethod yX4_clear ∈ BG := mB (t1 (i := 226) (by decide +kernel)) (by decide +kernel)
theorem mw_1_227 : Cond.selects RX4 yX4_clear yX4_clear ∈ BG := mB (t1 (i := 227) (by decide +kernel)) (by decide +kernel)
theorem mw_1_232 : Cond.code yX4_begin cX4_begin 1 none ∈ BG := mB (t1 (i := 232) rfl) (by decide +kernel)
theorem mw_1_229 : Cond.methodLink RX1 100 yX4_begin ∈ BG := mB (t1 (i := 229) (by decide +kernel)) (by decide +kernel)
theorem mw_1_230 : Cond.instanceMethod yX4_begin ∈ BG := mB (t1 (i := 230) (by decide +kernel)) (by decide +kernel)
theorem mw_1_231 : Cond.selects RX4 yX4_begin yX4_begin ∈ BG := mB (t1 (i := 231) (by decide +kernel)) (by decide +kernel)
theorem mw_1_224 : Cond.code yX1_layRows cX1_layRows 5 none ∈ BG := mB (t1 (i := 224) rfl) (by decide +kernel)
theorem mw_1_221 : Cond.methodLink RX1 83 yX1_layRows ∈ BG := mB (t1 (i := 221) (by decide +kernel)) (by decide +kernel)
theorem mw_1_223 : Cond.instanceMethod yX1_layRows ∈ BG := mB (t1 (i := 223) (by decide +kernel)) (by decide +kernel)
theorem mw_0_1 : Cond.selects RX1 yX1_layRows yX1_layRows ∈ BG := mB (t0 (i := 1) (by decide +kernel)) (by decide +kernel)
theorem mw_1_50 : Cond.fieldLink RX1 21 "AnswerLines$Kinds" "lines" "[I" ∈ BG := mB (t1 (i := 50) (by decide +kernel)) (by decide +kernel)
theorem mw_2_4 : Cond.code yX4_firstFree cX4_firstFree 4 (some .int) ∈ BG := mB (t2 (i := 4) rfl) (by decide +kernel)
theorem mw_2_1 : Cond.methodLink RX1 87 yX4_firstFree ∈ BG := mB (t2 (i := 1) (by decide +kernel)) (by decide +kernel)
theorem mw_2_2 : Cond.instanceMethod yX4_firstFree ∈ BG := mB (t2 (i := 2) (by decide +kernel)) (by decide +kernel)
theorem mw_2_3 : Cond.selects RX4 yX4_firstFree yX4_firstFree ∈ BG := mB (t2 (i := 3) (by decide +kernel)) (by decide +kernel)
theorem mw_2_23 : Cond.code yX4_beginnings cX4_beginnings 4 (some .int) ∈ BG := mB (t2 (i := 23) rfl) (by decide +kernel)
theorem mw_2_20 : Cond.methodLink RX1 94 yX4_beginnings ∈ BG := mB (t2 (i := 20) (by decide +kernel)) (by decide +kernel)
theorem mw_2_21 : Cond.instanceMethod yX4_beginnings ∈ BG := mB (t2 (i := 21) (by decide +kernel)) (by decide +kernel)
theorem mw_2_22 : Cond.selects RX4 yX4_beginnings yX4_beginnings ∈ BG := mB (t2 (i := 22) (by decide +kernel)) (by decide +kernel)
theorem mw_1_49 : Cond.fieldLink RX1 18 "AnswerLines$Kinds" "quarrels" "[I" ∈ BG := mB (t1 (i := 49) (by decide +kernel)) (by decide +kernel)
theorem mw_1_48 : Cond.fieldLink RX1 15 "AnswerLines$Kinds" "lengths" "[I" ∈ BG := mB (t1 (i := 48) (by decide +kernel)) (by decide +kernel)
theorem mw_1_198 : Cond.code yX1_isFull cX1_isFull 1 (some .boolean) ∈ BG := mB (t1 (i := 198) rfl) (by decide +kernel)
theorem mw_1_203 : Cond.methodLink RX1 72 yX1_isFull ∈ BG := mB (t1 (i := 203) (by decide +kernel)) (by decide +kernel)
theorem mw_1_196 : Cond.instanceMethod yX1_isFull ∈ BG := mB (t1 (i := 196) (by decide +kernel)) (by decide +kernel)
theorem mw_1_197 : Cond.selects RX1 yX1_isFull yX1_isFull ∈ BG := mB (t1 (i := 197) (by decide +kernel)) (by decide +kernel)
theorem mw_1_51 : Cond.fieldLink RX1 24 "AnswerLines$Kinds" "parents" "[I" ∈ BG := mB (t1 (i := 51) (by decide +kernel)) (by decide +kernel)
theorem mw_1_47 : Cond.fieldLink RX1 9 "AnswerLines$Kinds" "above" "[I" ∈ BG := mB (t1 (i := 47) (by decide +kernel)) (by decide +kernel)
theorem mw_1_220 : Cond.code yX1_layLine cX1_layLine 6 none ∈ BG := mB (t1 (i := 220) rfl) (by decide +kernel)
theorem mw_1_217 : Cond.methodLink RX1 79 yX1_layLine ∈ BG := mB (t1 (i := 217) (by decide +kernel)) (by decide +kernel)
theorem mw_1_219 : Cond.instanceMethod yX1_layLine ∈ BG := mB (t1 (i := 219) (by decide +kernel)) (by decide +kernel)
theorem mw_0_0 : Cond.selects RX1 yX1_layLine yX1_layLine ∈ BG := mB (t0 (i := 0) (by decide +kernel)) (by decide +kernel)
theorem dX4_clear_0 : decode cX4_clear 0 = .ok (.aload_n 0, 1) := by decide +kernel
theorem dX4_clear_1 : decode cX4_clear 1 = .ok (.iconst 0, 1) := by decide +kernel
theorem dX4_clear_2 : decode cX4_clear 2 = .ok (.putfield 21, 3) := by decide +kernel
theorem dX4_clear_5 : decode cX4_clear 5 = .ok (.return_, 1) := by decide +kernel
theorem dX4_begin_0 : decode cX4_begin 0 = .ok (.aload_n 0, 1) := by decide +kernel
theorem dX4_begin_1 : decode cX4_begin 1 = .ok (.getfield 21, 3) := by decide +kernel
theorem dX4_begin_4 : decode cX4_begin 4 = .ok (.iconst 4, 1) := by decide +kernel
theorem dX4_begin_5 : decode cX4_begin 5 = .ok (.if_icmp .lt 4, 3) := by decide +kernel
theorem dX4_begin_9 : decode cX4_begin 9 = .ok (.aload_n 0, 1) := by decide +kernel
theorem dX4_begin_10 : decode cX4_begin 10 = .ok (.getfield 15, 3) := by decide +kernel
theorem dX4_begin_13 : decode cX4_begin 13 = .ok (.aload_n 0, 1) := by decide +kernel
theorem dX4_begin_14 : decode cX4_begin 14 = .ok (.getfield 21, 3) := by decide +kernel
theorem dX4_begin_17 : decode cX4_begin 17 = .ok (.iconst 0, 1) := by decide +kernel
theorem dX4_begin_18 : decode cX4_begin 18 = .ok (.iastore, 1) := by decide +kernel
theorem dX4_begin_19 : decode cX4_begin 19 = .ok (.aload_n 0, 1) := by decide +kernel
theorem dX4_begin_20 : decode cX4_begin 20 = .ok (.getfield 18, 3) := by decide +kernel
theorem dX4_begin_23 : decode cX4_begin 23 = .ok (.aload_n 0, 1) := by decide +kernel
theorem dX4_begin_24 : decode cX4_begin 24 = .ok (.getfield 21, 3) := by decide +kernel
theorem dX4_begin_27 : decode cX4_begin 27 = .ok (.iconst 0, 1) := by decide +kernel
theorem dX4_begin_28 : decode cX4_begin 28 = .ok (.iastore, 1) := by decide +kernel
theorem dX4_begin_29 : decode cX4_begin 29 = .ok (.aload_n 0, 1) := by decide +kernel
theorem dX4_begin_30 : decode cX4_begin 30 = .ok (.dup, 1) := by decide +kernel
theorem dX4_begin_31 : decode cX4_begin 31 = .ok (.getfield 21, 3) := by decide +kernel
theorem dX4_begin_34 : decode cX4_begin 34 = .ok (.iconst 1, 1) := by decide +kernel
theorem dX4_begin_35 : decode cX4_begin 35 = .ok (.iadd, 1) := by decide +kernel
theorem dX4_begin_36 : decode cX4_begin 36 = .ok (.putfield 21, 3) := by decide +kernel
theorem dX4_begin_39 : decode cX4_begin 39 = .ok (.return_, 1) := by decide +kernel
theorem dX4_head_0 : decode cX4_head 0 = .ok (.aload_n 0, 1) := by decide +kernel
theorem dX4_head_1 : decode cX4_head 1 = .ok (.getfield 15, 3) := by decide +kernel
theorem dX4_head_4 : decode cX4_head 4 = .ok (.iload_n 1, 1) := by decide +kernel
theorem dX4_head_5 : decode cX4_head 5 = .ok (.iaload, 1) := by decide +kernel
theorem dX4_head_6 : decode cX4_head 6 = .ok (.aload_n 0, 1) := by decide +kernel
theorem dX4_head_7 : decode cX4_head 7 = .ok (.getfield 18, 3) := by decide +kernel
theorem dX4_head_10 : decode cX4_head 10 = .ok (.iload_n 1, 1) := by decide +kernel
theorem dX4_head_11 : decode cX4_head 11 = .ok (.iaload, 1) := by decide +kernel
theorem dX4_head_12 : decode cX4_head 12 = .ok (.if_icmp .ge 22, 3) := by decide +kernel
theorem dX4_head_34 : decode cX4_head 34 = .ok (.bipush (-6), 2) := by decide +kernel
theorem dX4_head_36 : decode cX4_head 36 = .ok (.ireturn, 1) := by decide +kernel
theorem dX4_tail_0 : decode cX4_tail 0 = .ok (.iconst 0, 1) := by decide +kernel
theorem dX4_tail_1 : decode cX4_tail 1 = .ok (.istore_n 2, 1) := by decide +kernel
theorem dX4_tail_2 : decode cX4_tail 2 = .ok (.aload_n 0, 1) := by decide +kernel
theorem dX4_tail_3 : decode cX4_tail 3 = .ok (.getfield 15, 3) := by decide +kernel
theorem dX4_tail_6 : decode cX4_tail 6 = .ok (.iload_n 1, 1) := by decide +kernel
theorem dX4_tail_7 : decode cX4_tail 7 = .ok (.iaload, 1) := by decide +kernel
theorem dX4_tail_8 : decode cX4_tail 8 = .ok (.iconst 1, 1) := by decide +kernel
theorem dX4_tail_9 : decode cX4_tail 9 = .ok (.iadd, 1) := by decide +kernel
theorem dX4_tail_10 : decode cX4_tail 10 = .ok (.istore_n 3, 1) := by decide +kernel
theorem dX4_tail_11 : decode cX4_tail 11 = .ok (.iload_n 3, 1) := by decide +kernel
theorem dX4_tail_12 : decode cX4_tail 12 = .ok (.aload_n 0, 1) := by decide +kernel
theorem dX4_tail_13 : decode cX4_tail 13 = .ok (.getfield 18, 3) := by decide +kernel
theorem dX4_tail_16 : decode cX4_tail 16 = .ok (.iload_n 1, 1) := by decide +kernel
theorem dX4_tail_17 : decode cX4_tail 17 = .ok (.iaload, 1) := by decide +kernel
theorem dX4_tail_18 : decode cX4_tail 18 = .ok (.if_icmp .ge 25, 3) := by decide +kernel
theorem dX4_tail_43 : decode cX4_tail 43 = .ok (.iload_n 2, 1) := by decide +kernel
theorem dX4_tail_44 : decode cX4_tail 44 = .ok (.ireturn, 1) := by decide +kernel
theorem dX4_firstFree_0 : decode cX4_firstFree 0 = .ok (.iconst 0, 1) := by decide +kernel
theorem dX4_firstFree_1 : decode cX4_firstFree 1 = .ok (.istore_n 1, 1) := by decide +kernel
theorem dX4_firstFree_2 : decode cX4_firstFree 2 = .ok (.iconst 0, 1) := by decide +kernel
theorem dX4_firstFree_3 : decode cX4_firstFree 3 = .ok (.istore_n 2, 1) := by decide +kernel
theorem dX4_firstFree_4 : decode cX4_firstFree 4 = .ok (.iload_n 2, 1) := by decide +kernel
theorem dX4_firstFree_5 : decode cX4_firstFree 5 = .ok (.aload_n 0, 1) := by decide +kernel
theorem dX4_firstFree_6 : decode cX4_firstFree 6 = .ok (.getfield 21, 3) := by decide +kernel
theorem dX4_firstFree_9 : decode cX4_firstFree 9 = .ok (.if_icmp .ge 17, 3) := by decide +kernel
theorem dX4_firstFree_12 : decode cX4_firstFree 12 = .ok (.iload_n 1, 1) := by decide +kernel
theorem dX4_firstFree_13 : decode cX4_firstFree 13 = .ok (.aload_n 0, 1) := by decide +kernel
theorem dX4_firstFree_14 : decode cX4_firstFree 14 = .ok (.iload_n 2, 1) := by decide +kernel
theorem dX4_firstFree_15 : decode cX4_firstFree 15 = .ok (.invokevirtual 29, 3) := by decide +kernel
theorem dX4_firstFree_18 : decode cX4_firstFree 18 = .ok (.ior, 1) := by decide +kernel
theorem dX4_firstFree_19 : decode cX4_firstFree 19 = .ok (.istore_n 1, 1) := by decide +kernel
theorem dX4_firstFree_20 : decode cX4_firstFree 20 = .ok (.iinc 2 1, 3) := by decide +kernel
theorem dX4_firstFree_23 : decode cX4_firstFree 23 = .ok (.goto (-19), 3) := by decide +kernel
theorem dX4_firstFree_26 : decode cX4_firstFree 26 = .ok (.iconst 0, 1) := by decide +kernel
theorem dX4_firstFree_27 : decode cX4_firstFree 27 = .ok (.istore_n 2, 1) := by decide +kernel
theorem dX4_firstFree_28 : decode cX4_firstFree 28 = .ok (.iload_n 2, 1) := by decide +kernel
theorem dX4_firstFree_29 : decode cX4_firstFree 29 = .ok (.aload_n 0, 1) := by decide +kernel
theorem dX4_firstFree_30 : decode cX4_firstFree 30 = .ok (.getfield 21, 3) := by decide +kernel
theorem dX4_firstFree_33 : decode cX4_firstFree 33 = .ok (.if_icmp .ge 31, 3) := by decide +kernel
theorem dX4_firstFree_36 : decode cX4_firstFree 36 = .ok (.aload_n 0, 1) := by decide +kernel
theorem dX4_firstFree_37 : decode cX4_firstFree 37 = .ok (.iload_n 2, 1) := by decide +kernel
theorem dX4_firstFree_38 : decode cX4_firstFree 38 = .ok (.invokevirtual 25, 3) := by decide +kernel
theorem dX4_firstFree_41 : decode cX4_firstFree 41 = .ok (.istore_n 3, 1) := by decide +kernel
theorem dX4_firstFree_42 : decode cX4_firstFree 42 = .ok (.iload_n 3, 1) := by decide +kernel
theorem dX4_firstFree_43 : decode cX4_firstFree 43 = .ok (.bipush (-6), 2) := by decide +kernel
theorem dX4_firstFree_45 : decode cX4_firstFree 45 = .ok (.if_icmp .eq 13, 3) := by decide +kernel
theorem dX4_firstFree_58 : decode cX4_firstFree 58 = .ok (.iinc 2 1, 3) := by decide +kernel
theorem dX4_firstFree_61 : decode cX4_firstFree 61 = .ok (.goto (-33), 3) := by decide +kernel
theorem dX4_firstFree_64 : decode cX4_firstFree 64 = .ok (.bipush (-6), 2) := by decide +kernel
theorem dX4_firstFree_66 : decode cX4_firstFree 66 = .ok (.ireturn, 1) := by decide +kernel
theorem dX4_beginnings_0 : decode cX4_beginnings 0 = .ok (.iconst 0, 1) := by decide +kernel
theorem dX4_beginnings_1 : decode cX4_beginnings 1 = .ok (.istore_n 1, 1) := by decide +kernel
theorem dX4_beginnings_2 : decode cX4_beginnings 2 = .ok (.iconst 0, 1) := by decide +kernel
theorem dX4_beginnings_3 : decode cX4_beginnings 3 = .ok (.istore_n 2, 1) := by decide +kernel
theorem dX4_beginnings_4 : decode cX4_beginnings 4 = .ok (.iload_n 2, 1) := by decide +kernel
theorem dX4_beginnings_5 : decode cX4_beginnings 5 = .ok (.aload_n 0, 1) := by decide +kernel
theorem dX4_beginnings_6 : decode cX4_beginnings 6 = .ok (.getfield 21, 3) := by decide +kernel
theorem dX4_beginnings_9 : decode cX4_beginnings 9 = .ok (.if_icmp .ge 27, 3) := by decide +kernel
theorem dX4_beginnings_12 : decode cX4_beginnings 12 = .ok (.aload_n 0, 1) := by decide +kernel
theorem dX4_beginnings_13 : decode cX4_beginnings 13 = .ok (.iload_n 2, 1) := by decide +kernel
theorem dX4_beginnings_14 : decode cX4_beginnings 14 = .ok (.invokevirtual 25, 3) := by decide +kernel
theorem dX4_beginnings_17 : decode cX4_beginnings 17 = .ok (.istore_n 3, 1) := by decide +kernel
theorem dX4_beginnings_18 : decode cX4_beginnings 18 = .ok (.iload_n 3, 1) := by decide +kernel
theorem dX4_beginnings_19 : decode cX4_beginnings 19 = .ok (.bipush (-6), 2) := by decide +kernel
theorem dX4_beginnings_21 : decode cX4_beginnings 21 = .ok (.if_icmp .eq 9, 3) := by decide +kernel
theorem dX4_beginnings_30 : decode cX4_beginnings 30 = .ok (.iinc 2 1, 3) := by decide +kernel
theorem dX4_beginnings_33 : decode cX4_beginnings 33 = .ok (.goto (-29), 3) := by decide +kernel
theorem dX4_beginnings_36 : decode cX4_beginnings 36 = .ok (.iload_n 1, 1) := by decide +kernel
theorem dX4_beginnings_37 : decode cX4_beginnings 37 = .ok (.ireturn, 1) := by decide +kernel
theorem dX1_layRows_0 : decode cX1_layRows 0 = .ok (.aload_n 0, 1) := by decide +kernel
theorem dX1_layRows_1 : decode cX1_layRows 1 = .ok (.getfield 30, 3) := by decide +kernel
theorem dX1_layRows_4 : decode cX1_layRows 4 = .ok (.invokevirtual 97, 3) := by decide +kernel
theorem dX1_layRows_7 : decode cX1_layRows 7 = .ok (.iconst 0, 1) := by decide +kernel
theorem dX1_layRows_8 : decode cX1_layRows 8 = .ok (.istore_n 2, 1) := by decide +kernel
theorem dX1_layRows_9 : decode cX1_layRows 9 = .ok (.iload_n 2, 1) := by decide +kernel
theorem dX1_layRows_10 : decode cX1_layRows 10 = .ok (.iload_n 1, 1) := by decide +kernel
theorem dX1_layRows_11 : decode cX1_layRows 11 = .ok (.if_icmp .ge 61, 3) := by decide +kernel
theorem dX1_layRows_72 : decode cX1_layRows 72 = .ok (.aload_n 0, 1) := by decide +kernel
theorem dX1_layRows_73 : decode cX1_layRows 73 = .ok (.getfield 30, 3) := by decide +kernel
theorem dX1_layRows_76 : decode cX1_layRows 76 = .ok (.invokevirtual 100, 3) := by decide +kernel
theorem dX1_layRows_79 : decode cX1_layRows 79 = .ok (.iconst 0, 1) := by decide +kernel
theorem dX1_layRows_80 : decode cX1_layRows 80 = .ok (.istore_n 2, 1) := by decide +kernel
theorem dX1_layRows_81 : decode cX1_layRows 81 = .ok (.iload_n 2, 1) := by decide +kernel
theorem dX1_layRows_82 : decode cX1_layRows 82 = .ok (.iload_n 1, 1) := by decide +kernel
theorem dX1_layRows_83 : decode cX1_layRows 83 = .ok (.if_icmp .ge 22, 3) := by decide +kernel
theorem dX1_layRows_105 : decode cX1_layRows 105 = .ok (.return_, 1) := by decide +kernel
theorem dX1_layLine_0 : decode cX1_layLine 0 = .ok (.aload_n 0, 1) := by decide +kernel
theorem dX1_layLine_1 : decode cX1_layLine 1 = .ok (.iload_n 2, 1) := by decide +kernel
theorem dX1_layLine_2 : decode cX1_layLine 2 = .ok (.invokevirtual 83, 3) := by decide +kernel
theorem dX1_layLine_5 : decode cX1_layLine 5 = .ok (.aload_n 0, 1) := by decide +kernel
theorem dX1_layLine_6 : decode cX1_layLine 6 = .ok (.getfield 21, 3) := by decide +kernel
theorem dX1_layLine_9 : decode cX1_layLine 9 = .ok (.iload_n 1, 1) := by decide +kernel
theorem dX1_layLine_10 : decode cX1_layLine 10 = .ok (.bipush 10, 2) := by decide +kernel
theorem dX1_layLine_12 : decode cX1_layLine 12 = .ok (.imul, 1) := by decide +kernel
theorem dX1_layLine_13 : decode cX1_layLine 13 = .ok (.iload_n 1, 1) := by decide +kernel
theorem dX1_layLine_14 : decode cX1_layLine 14 = .ok (.iastore, 1) := by decide +kernel
theorem dX1_layLine_15 : decode cX1_layLine 15 = .ok (.iconst 1, 1) := by decide +kernel
theorem dX1_layLine_16 : decode cX1_layLine 16 = .ok (.istore_n 3, 1) := by decide +kernel
theorem dX1_layLine_17 : decode cX1_layLine 17 = .ok (.aload_n 0, 1) := by decide +kernel
theorem dX1_layLine_18 : decode cX1_layLine 18 = .ok (.getfield 30, 3) := by decide +kernel
theorem dX1_layLine_21 : decode cX1_layLine 21 = .ok (.invokevirtual 87, 3) := by decide +kernel
theorem dX1_layLine_24 : decode cX1_layLine 24 = .ok (.istore 4, 2) := by decide +kernel
theorem dX1_layLine_26 : decode cX1_layLine 26 = .ok (.iload 4, 2) := by decide +kernel
theorem dX1_layLine_28 : decode cX1_layLine 28 = .ok (.bipush (-6), 2) := by decide +kernel
theorem dX1_layLine_30 : decode cX1_layLine 30 = .ok (.if_icmp .eq 46, 3) := by decide +kernel
theorem dX1_layLine_76 : decode cX1_layLine 76 = .ok (.aload_n 0, 1) := by decide +kernel
theorem dX1_layLine_77 : decode cX1_layLine 77 = .ok (.getfield 30, 3) := by decide +kernel
theorem dX1_layLine_80 : decode cX1_layLine 80 = .ok (.invokevirtual 94, 3) := by decide +kernel
theorem dX1_layLine_83 : decode cX1_layLine 83 = .ok (.istore 5, 2) := by decide +kernel
theorem dX1_layLine_85 : decode cX1_layLine 85 = .ok (.aload_n 0, 1) := by decide +kernel
theorem dX1_layLine_86 : decode cX1_layLine 86 = .ok (.getfield 18, 3) := by decide +kernel
theorem dX1_layLine_89 : decode cX1_layLine 89 = .ok (.iload_n 1, 1) := by decide +kernel
theorem dX1_layLine_90 : decode cX1_layLine 90 = .ok (.iload 5, 2) := by decide +kernel
theorem dX1_layLine_92 : decode cX1_layLine 92 = .ok (.ifCond .ne 8, 3) := by decide +kernel
theorem dX1_layLine_95 : decode cX1_layLine 95 = .ok (.bipush (-6), 2) := by decide +kernel
theorem dX1_layLine_97 : decode cX1_layLine 97 = .ok (.goto 5, 3) := by decide +kernel
theorem dX1_layLine_102 : decode cX1_layLine 102 = .ok (.iastore, 1) := by decide +kernel
theorem dX1_layLine_103 : decode cX1_layLine 103 = .ok (.aload_n 0, 1) := by decide +kernel
theorem dX1_layLine_104 : decode cX1_layLine 104 = .ok (.getfield 15, 3) := by decide +kernel
theorem dX1_layLine_107 : decode cX1_layLine 107 = .ok (.iload_n 1, 1) := by decide +kernel
theorem dX1_layLine_108 : decode cX1_layLine 108 = .ok (.iload 5, 2) := by decide +kernel
theorem dX1_layLine_110 : decode cX1_layLine 110 = .ok (.ifCond .ne 7, 3) := by decide +kernel
theorem dX1_layLine_113 : decode cX1_layLine 113 = .ok (.iload_n 3, 1) := by decide +kernel
theorem dX1_layLine_114 : decode cX1_layLine 114 = .ok (.goto 4, 3) := by decide +kernel
theorem dX1_layLine_118 : decode cX1_layLine 118 = .ok (.iastore, 1) := by decide +kernel
theorem dX1_layLine_119 : decode cX1_layLine 119 = .ok (.return_, 1) := by decide +kernel
theorem dX1_add_0 : decode cX1_add 0 = .ok (.aload_n 0, 1) := by decide +kernel
theorem dX1_add_1 : decode cX1_add 1 = .ok (.invokevirtual 72, 3) := by decide +kernel
theorem dX1_add_4 : decode cX1_add 4 = .ok (.ifCond .ne 12, 3) := by decide +kernel
theorem dX1_add_7 : decode cX1_add 7 = .ok (.iload_n 1, 1) := by decide +kernel
theorem dX1_add_8 : decode cX1_add 8 = .ok (.ifCond .lt 8, 3) := by decide +kernel
theorem dX1_add_11 : decode cX1_add 11 = .ok (.iload_n 1, 1) := by decide +kernel
theorem dX1_add_12 : decode cX1_add 12 = .ok (.iconst 3, 1) := by decide +kernel
theorem dX1_add_13 : decode cX1_add 13 = .ok (.if_icmp .le 6, 3) := by decide +kernel
theorem dX1_add_19 : decode cX1_add 19 = .ok (.aload_n 0, 1) := by decide +kernel
theorem dX1_add_20 : decode cX1_add 20 = .ok (.getfield 34, 3) := by decide +kernel
theorem dX1_add_23 : decode cX1_add 23 = .ok (.istore 5, 2) := by decide +kernel
theorem dX1_add_25 : decode cX1_add 25 = .ok (.aload_n 0, 1) := by decide +kernel
theorem dX1_add_26 : decode cX1_add 26 = .ok (.getfield 24, 3) := by decide +kernel
theorem dX1_add_29 : decode cX1_add 29 = .ok (.iconst 0, 1) := by decide +kernel
theorem dX1_add_30 : decode cX1_add 30 = .ok (.iload_n 2, 1) := by decide +kernel
theorem dX1_add_31 : decode cX1_add 31 = .ok (.iastore, 1) := by decide +kernel
theorem dX1_add_32 : decode cX1_add 32 = .ok (.aload_n 0, 1) := by decide +kernel
theorem dX1_add_33 : decode cX1_add 33 = .ok (.getfield 24, 3) := by decide +kernel
theorem dX1_add_36 : decode cX1_add 36 = .ok (.iconst 1, 1) := by decide +kernel
theorem dX1_add_37 : decode cX1_add 37 = .ok (.iload_n 3, 1) := by decide +kernel
theorem dX1_add_38 : decode cX1_add 38 = .ok (.iastore, 1) := by decide +kernel
theorem dX1_add_39 : decode cX1_add 39 = .ok (.aload_n 0, 1) := by decide +kernel
theorem dX1_add_40 : decode cX1_add 40 = .ok (.getfield 24, 3) := by decide +kernel
theorem dX1_add_43 : decode cX1_add 43 = .ok (.iconst 2, 1) := by decide +kernel
theorem dX1_add_44 : decode cX1_add 44 = .ok (.iload 4, 2) := by decide +kernel
theorem dX1_add_46 : decode cX1_add 46 = .ok (.iastore, 1) := by decide +kernel
theorem dX1_add_47 : decode cX1_add 47 = .ok (.aload_n 0, 1) := by decide +kernel
theorem dX1_add_48 : decode cX1_add 48 = .ok (.getfield 9, 3) := by decide +kernel
theorem dX1_add_51 : decode cX1_add 51 = .ok (.iload 5, 2) := by decide +kernel
theorem dX1_add_53 : decode cX1_add 53 = .ok (.iconst 0, 1) := by decide +kernel
theorem dX1_add_54 : decode cX1_add 54 = .ok (.iastore, 1) := by decide +kernel
theorem dX1_add_55 : decode cX1_add 55 = .ok (.iconst 1, 1) := by decide +kernel
theorem dX1_add_56 : decode cX1_add 56 = .ok (.istore 6, 2) := by decide +kernel
theorem dX1_add_58 : decode cX1_add 58 = .ok (.iconst 0, 1) := by decide +kernel
theorem dX1_add_59 : decode cX1_add 59 = .ok (.istore 7, 2) := by decide +kernel
theorem dX1_add_61 : decode cX1_add 61 = .ok (.iload 7, 2) := by decide +kernel
theorem dX1_add_63 : decode cX1_add 63 = .ok (.iload_n 1, 1) := by decide +kernel
theorem dX1_add_64 : decode cX1_add 64 = .ok (.if_icmp .ge 57, 3) := by decide +kernel
theorem dX1_add_121 : decode cX1_add 121 = .ok (.aload_n 0, 1) := by decide +kernel
theorem dX1_add_122 : decode cX1_add 122 = .ok (.getfield 15, 3) := by decide +kernel
theorem dX1_add_125 : decode cX1_add 125 = .ok (.iload 5, 2) := by decide +kernel
theorem dX1_add_127 : decode cX1_add 127 = .ok (.iconst 0, 1) := by decide +kernel
theorem dX1_add_128 : decode cX1_add 128 = .ok (.iastore, 1) := by decide +kernel
theorem dX1_add_129 : decode cX1_add 129 = .ok (.aload_n 0, 1) := by decide +kernel
theorem dX1_add_130 : decode cX1_add 130 = .ok (.getfield 18, 3) := by decide +kernel
theorem dX1_add_133 : decode cX1_add 133 = .ok (.iload 5, 2) := by decide +kernel
theorem dX1_add_135 : decode cX1_add 135 = .ok (.bipush (-5), 2) := by decide +kernel
theorem dX1_add_137 : decode cX1_add 137 = .ok (.iastore, 1) := by decide +kernel
theorem dX1_add_138 : decode cX1_add 138 = .ok (.iload 6, 2) := by decide +kernel
theorem dX1_add_140 : decode cX1_add 140 = .ok (.ifCond .eq 10, 3) := by decide +kernel
theorem dX1_add_143 : decode cX1_add 143 = .ok (.aload_n 0, 1) := by decide +kernel
theorem dX1_add_144 : decode cX1_add 144 = .ok (.iload 5, 2) := by decide +kernel
theorem dX1_add_146 : decode cX1_add 146 = .ok (.iload_n 1, 1) := by decide +kernel
theorem dX1_add_147 : decode cX1_add 147 = .ok (.invokevirtual 79, 3) := by decide +kernel
theorem dX1_add_150 : decode cX1_add 150 = .ok (.aload_n 0, 1) := by decide +kernel
theorem dX1_add_151 : decode cX1_add 151 = .ok (.dup, 1) := by decide +kernel
theorem dX1_add_152 : decode cX1_add 152 = .ok (.getfield 34, 3) := by decide +kernel
theorem dX1_add_155 : decode cX1_add 155 = .ok (.iconst 1, 1) := by decide +kernel
theorem dX1_add_156 : decode cX1_add 156 = .ok (.iadd, 1) := by decide +kernel
theorem dX1_add_157 : decode cX1_add 157 = .ok (.putfield 34, 3) := by decide +kernel
theorem dX1_add_160 : decode cX1_add 160 = .ok (.iload 5, 2) := by decide +kernel
theorem dX1_add_162 : decode cX1_add 162 = .ok (.ireturn, 1) := by decide +kernel
set_option maxHeartbeats 4000000 in
set_option maxRecDepth 100000 in
theorem c_rClear (l : Launch) (dC : Nat → ClassId) (dI : Nat → Nat → Nat) (sz : Nat) (h0 : Nat) (w0 : Value) (w1 : Value) (w2 : Value)  : Met l yX4_clear (wq yX4_clear cX4_clear 1 none) ({ frames := 0, cells := 0, slots := 0, locals := 0 }) (va_Pc [.ref h0] (pcW dC dI [] [(h0, .inr (4, [w0, w1, w2, .int 0]))] sz)) (va_Qv (fun _ : Unit => True) (fun _ t => va_P (dC, dI) vwCl [(h0, .inr (4, [w0, w1, w2, .int 0]))] t.heap ∧ va_K (dC, dI) vwCl [] t ∧ va_D (va_A [(h0, .inr (4, [w0, w1, w2, .int 0]))] sz) [(h0, .inr (4, [w0, w1, w2, .int 0]))]) (va_A [(h0, .inr (4, [w0, w1, w2, .int 0]))] sz)) 0 0 (va_A [(h0, .inr (4, [w0, w1, w2, .int 0]))] sz) := by
  refine Met.ofW (cc := cX4_clear) (maxL := 1) (ret := none) (by decide) rfl ?_
  intro p e s m args below meth c s₁ B hml hv
  obtain ⟨rfl, hsz, hN, hP, hK, hD0⟩ := hv
  have hx := B.exec
  have hb := B.bytes
  have hr := B.returns
  have hts0 := atoms_spec (ws := (wq yX4_clear cX4_clear 1 none)) B.pre
  have hts : ∀ w ∈ BG, w.before _ s = true := fun w h => hts0 w (List.mem_cons_of_mem _ h)
  have hown : s.vm.findClass RX4 = some m.cls := findClass_of_methodNamed B.named
  have hlocks := B.notSynchronized
  subst hsz
  have hD := hD0.self (sz := s.heap.size)
  generalize hAe : va_A [(h0, .inr (4, [w0, w1, w2, .int 0]))] s.heap.size = A at hD ⊢
  have hA : ∀ q : Nat, s.heap.size ≤ q → A q := fun q h => by rw [← hAe]; exact Or.inr h
  have hS : va_S A s.heap s.heap [] := va_S.rf
  have hP : va_P (dC, dI) vwCl [(h0, .inr (4, [w0, w1, w2, .int 0]))] s.heap := hP
  have hl := lv_entry ([.ref h0]) (n := 1) (Nat.le_of_ble_eq_true rfl)
  rw [lg_entry_eq]
  generalize (lg_sl ([.ref h0]) ++ List.replicate (1 - (lg_sl ([.ref h0])).length) Slot.unset).toArray = ls at hl ⊢
  have hl : lv_has ls 1 [(0, .ref h0)] := hl
  skip
  refine lv_aload_n hx hb dX4_clear_0 rfl (lv_at hl 0 rfl) ?_
  refine lv_iconst (v := 0) hx hb dX4_clear_1 (by decide) ?_
  refine va_put (D := (dC, dI)) (ci := 4) (v := .int 0) (ty := .int) (C := RX4) (T := TX4) (N := 4) hx hb hts inB_4 tyX4 tyX4_ok nmX4 hown hK hP hD hS 0 rfl rfl 3 (by decide) (hts _ mw_1_36) (fun _ h9 => h9) rfl (by decide +kernel) rfl rfl (Nat.le_of_ble_eq_true rfl) dX4_clear_2 (fun H locs hP hD hS => ?_)
  have hP : va_P (dC, dI) vwCl [(h0, .inr (4, [w0, w1, w2, .int 0]))] H := hP
  have hD : va_D A [(h0, .inr (4, [w0, w1, w2, .int 0]))] := hD
  exact W.vret hx hb hr (fun t ht hW => ⟨⟨(), rfl, trivial, by rw [ht]; exact hP, va_K.moved hW.alike hK, hD⟩, hS.F ht⟩) hS.2.2 dX4_clear_5
set_option maxHeartbeats 4000000 in
set_option maxRecDepth 100000 in
theorem c_rBegin (l : Launch) (dC : Nat → ClassId) (dI : Nat → Nat → Nat) (sz : Nat) (h0 : Nat) (w0 : Value) (a1 : Nat) (a2 : Nat) (ka1 : ClassId) (ka2 : ClassId)  : Met l yX4_begin (wq yX4_begin cX4_begin 1 none) ({ frames := 0, cells := 0, slots := 0, locals := 0 }) (va_Pc [.ref h0] (pcW dC dI [(ka1, .int), (ka2, .int)] [(h0, .inr (4, [w0, .ref a1, .ref a2, .int 0])), (a1, .inl (ka1, 4, .inl (fun _ => 0))), (a2, .inl (ka2, 4, .inl (fun _ => 0)))] sz)) (va_Qv (fun _ : Unit => True) (fun _ t => va_P (dC, dI) vwCl [(h0, .inr (4, [w0, .ref a1, .ref a2, .int 1])), (a1, .inl (ka1, 4, .inl (fun _ => 0))), (a2, .inl (ka2, 4, .inl (fun _ => 0)))] t.heap ∧ va_K (dC, dI) vwCl [(ka1, .int), (ka2, .int)] t ∧ va_D (va_A [(h0, .inr (4, [w0, .ref a1, .ref a2, .int 0])), (a1, .inl (ka1, 4, .inl (fun _ => 0))), (a2, .inl (ka2, 4, .inl (fun _ => 0)))] sz) [(h0, .inr (4, [w0, .ref a1, .ref a2, .int 1])), (a1, .inl (ka1, 4, .inl (fun _ => 0))), (a2, .inl (ka2, 4, .inl (fun _ => 0)))]) (va_A [(h0, .inr (4, [w0, .ref a1, .ref a2, .int 0])), (a1, .inl (ka1, 4, .inl (fun _ => 0))), (a2, .inl (ka2, 4, .inl (fun _ => 0)))] sz)) 0 0 (va_A [(h0, .inr (4, [w0, .ref a1, .ref a2, .int 0])), (a1, .inl (ka1, 4, .inl (fun _ => 0))), (a2, .inl (ka2, 4, .inl (fun _ => 0)))] sz) := by
  refine Met.ofW (cc := cX4_begin) (maxL := 1) (ret := none) (by decide) rfl ?_
  intro p e s m args below meth c s₁ B hml hv
  obtain ⟨rfl, hsz, hN, hP, hK, hD0⟩ := hv
  have hx := B.exec
  have hb := B.bytes
  have hr := B.returns
  have hts0 := atoms_spec (ws := (wq yX4_begin cX4_begin 1 none)) B.pre
  have hts : ∀ w ∈ BG, w.before _ s = true := fun w h => hts0 w (List.mem_cons_of_mem _ h)
  have hown : s.vm.findClass RX4 = some m.cls := findClass_of_methodNamed B.named
  have hlocks := B.notSynchronized
  subst hsz
  have hD := hD0.self (sz := s.heap.size)
  generalize hAe : va_A [(h0, .inr (4, [w0, .ref a1, .ref a2, .int 0])), (a1, .inl (ka1, 4, .inl (fun _ => 0))), (a2, .inl (ka2, 4, .inl (fun _ => 0)))] s.heap.size = A at hD ⊢
  have hA : ∀ q : Nat, s.heap.size ≤ q → A q := fun q h => by rw [← hAe]; exact Or.inr h
  have hS : va_S A s.heap s.heap [] := va_S.rf
  have hP : va_P (dC, dI) vwCl [(h0, .inr (4, [w0, .ref a1, .ref a2, .int 0])), (a1, .inl (ka1, 4, .inl (fun _ => 0))), (a2, .inl (ka2, 4, .inl (fun _ => 0)))] s.heap := hP
  have hl := lv_entry ([.ref h0]) (n := 1) (Nat.le_of_ble_eq_true rfl)
  rw [lg_entry_eq]
  generalize (lg_sl ([.ref h0]) ++ List.replicate (1 - (lg_sl ([.ref h0])).length) Slot.unset).toArray = ls at hl ⊢
  have hl : lv_has ls 1 [(0, .ref h0)] := hl
  skip
  refine lv_aload_n hx hb dX4_begin_0 rfl (lv_at hl 0 rfl) ?_
  refine va_get (D := (dC, dI)) (ci := 4) (v := .int 0) (C := RX4) (T := TX4) (N := 4) hx hb hts inB_4 hown hK hP 0 rfl rfl 3 (by decide) (hts _ mw_1_36) (fun _ h9 => h9) rfl dX4_begin_1 ?_
  refine lv_iconst (v := 4) hx hb dX4_begin_4 (by decide) ?_
  refine lv_icmp_lt (tgt := 9) hx hb dX4_begin_5 (by decide) (fun _ => ?_) (fun h => absurd (by decide) h)
  refine lv_aload_n hx hb dX4_begin_9 rfl (lv_at hl 0 rfl) ?_
  refine va_get (D := (dC, dI)) (ci := 4) (v := .ref a1) (C := RX4) (T := TX4) (N := 4) hx hb hts inB_4 hown hK hP 0 rfl rfl 1 (by decide) (hts _ mw_1_34) (fun _ h9 => h9) rfl dX4_begin_10 ?_
  refine lv_aload_n hx hb dX4_begin_13 rfl (lv_at hl 0 rfl) ?_
  refine va_get (D := (dC, dI)) (ci := 4) (v := .int 0) (C := RX4) (T := TX4) (N := 4) hx hb hts inB_4 hown hK hP 0 rfl rfl 3 (by decide) (hts _ mw_1_36) (fun _ h9 => h9) rfl dX4_begin_14 ?_
  refine lv_iconst (v := 0) hx hb dX4_begin_17 (by decide) ?_
  refine va_iast hx hb hK hP hD hS 1 0 rfl rfl (show vp_in 0 4 by unfold vp_in; decide) dX4_begin_18 (fun H locs hP hD hS => ?_)
  rw [show upd (fun _ => 0) (Int32.toNatClampNeg 0) 0 = (fun _ => 0) from upd_const _ _] at hP hD
  have hP : va_P (dC, dI) vwCl [(h0, .inr (4, [w0, .ref a1, .ref a2, .int 0])), (a1, .inl (ka1, 4, .inl (fun _ => 0))), (a2, .inl (ka2, 4, .inl (fun _ => 0)))] H := hP
  have hD : va_D A [(h0, .inr (4, [w0, .ref a1, .ref a2, .int 0])), (a1, .inl (ka1, 4, .inl (fun _ => 0))), (a2, .inl (ka2, 4, .inl (fun _ => 0)))] := hD
  refine lv_aload_n hx hb dX4_begin_19 rfl (lv_at hl 0 rfl) ?_
  refine va_get (D := (dC, dI)) (ci := 4) (v := .ref a2) (C := RX4) (T := TX4) (N := 4) hx hb hts inB_4 hown hK hP 0 rfl rfl 2 (by decide) (hts _ mw_1_35) (fun _ h9 => h9) rfl dX4_begin_20 ?_
  refine lv_aload_n hx hb dX4_begin_23 rfl (lv_at hl 0 rfl) ?_
  refine va_get (D := (dC, dI)) (ci := 4) (v := .int 0) (C := RX4) (T := TX4) (N := 4) hx hb hts inB_4 hown hK hP 0 rfl rfl 3 (by decide) (hts _ mw_1_36) (fun _ h9 => h9) rfl dX4_begin_24 ?_
  refine lv_iconst (v := 0) hx hb dX4_begin_27 (by decide) ?_
  refine va_iast hx hb hK hP hD hS 2 1 rfl rfl (show vp_in 0 4 by unfold vp_in; decide) dX4_begin_28 (fun H locs hP hD hS => ?_)
  rw [show upd (fun _ => 0) (Int32.toNatClampNeg 0) 0 = (fun _ => 0) from upd_const _ _] at hP hD
  have hP : va_P (dC, dI) vwCl [(h0, .inr (4, [w0, .ref a1, .ref a2, .int 0])), (a1, .inl (ka1, 4, .inl (fun _ => 0))), (a2, .inl (ka2, 4, .inl (fun _ => 0)))] H := hP
  have hD : va_D A [(h0, .inr (4, [w0, .ref a1, .ref a2, .int 0])), (a1, .inl (ka1, 4, .inl (fun _ => 0))), (a2, .inl (ka2, 4, .inl (fun _ => 0)))] := hD
  refine lv_aload_n hx hb dX4_begin_29 rfl (lv_at hl 0 rfl) ?_
  refine lv_dup hx hb dX4_begin_30 rfl ?_
  refine va_get (D := (dC, dI)) (ci := 4) (v := .int 0) (C := RX4) (T := TX4) (N := 4) hx hb hts inB_4 hown hK hP 0 rfl rfl 3 (by decide) (hts _ mw_1_36) (fun _ h9 => h9) rfl dX4_begin_31 ?_
  refine lv_iconst (v := 1) hx hb dX4_begin_34 (by decide) ?_
  refine lv_iadd hx hb dX4_begin_35 ?_
  refine hx_top (y := 1) (by decide) ?_
  refine va_put (D := (dC, dI)) (ci := 4) (v := .int 1) (ty := .int) (C := RX4) (T := TX4) (N := 4) hx hb hts inB_4 tyX4 tyX4_ok nmX4 hown hK hP hD hS 0 rfl rfl 3 (by decide) (hts _ mw_1_36) (fun _ h9 => h9) rfl (by decide +kernel) rfl rfl (Nat.le_of_ble_eq_true rfl) dX4_begin_36 (fun H locs hP hD hS => ?_)
  have hP : va_P (dC, dI) vwCl [(h0, .inr (4, [w0, .ref a1, .ref a2, .int 1])), (a1, .inl (ka1, 4, .inl (fun _ => 0))), (a2, .inl (ka2, 4, .inl (fun _ => 0)))] H := hP
  have hD : va_D A [(h0, .inr (4, [w0, .ref a1, .ref a2, .int 1])), (a1, .inl (ka1, 4, .inl (fun _ => 0))), (a2, .inl (ka2, 4, .inl (fun _ => 0)))] := hD
  exact W.vret hx hb hr (fun t ht hW => ⟨⟨(), rfl, trivial, by rw [ht]; exact hP, va_K.moved hW.alike hK, hD⟩, hS.F ht⟩) hS.2.2 dX4_begin_39
set_option maxHeartbeats 4000000 in
set_option maxRecDepth 100000 in
theorem c_rHead (l : Launch) (dC : Nat → ClassId) (dI : Nat → Nat → Nat) (sz : Nat) (h0 : Nat) (w0 : Value) (a1 : Nat) (a2 : Nat) (c1 : Int32) (ka1 : ClassId) (ka2 : ClassId)  : Met l yX4_head (wq yX4_head cX4_head 2 (some .int)) ({ frames := 0, cells := 0, slots := 0, locals := 0 }) (va_Pc [.ref h0, .int 0] (pcW dC dI [(ka1, .int), (ka2, .int)] [(h0, .inr (4, [w0, .ref a1, .ref a2, .int c1])), (a1, .inl (ka1, 4, .inl (fun _ => 0))), (a2, .inl (ka2, 4, .inl (fun _ => 0)))] sz)) (va_Qi (fun (r : Int32) (_ : Unit) => r = (-6)) (fun _ _ => True) (fun q : Nat => sz ≤ q)) 0 0 (fun q : Nat => sz ≤ q) := by
  refine Met.ofW (cc := cX4_head) (maxL := 2) (ret := (some .int)) (by decide) rfl ?_
  intro p e s m args below meth c s₁ B hml hv
  obtain ⟨rfl, hsz, hN, hP, hK, hD0⟩ := hv
  have hx := B.exec
  have hb := B.bytes
  have hr := B.returns
  have hts0 := atoms_spec (ws := (wq yX4_head cX4_head 2 (some .int))) B.pre
  have hts : ∀ w ∈ BG, w.before _ s = true := fun w h => hts0 w (List.mem_cons_of_mem _ h)
  have hown : s.vm.findClass RX4 = some m.cls := findClass_of_methodNamed B.named
  have hlocks := B.notSynchronized
  subst hsz
  have hA : ∀ q : Nat, s.heap.size ≤ q → (fun q : Nat => s.heap.size ≤ q) q := fun _ h => h
  have hD := hD0
  have hS : va_S (fun q : Nat => s.heap.size ≤ q) s.heap s.heap [] := va_S.rf
  have hP : va_P (dC, dI) vwCl [(h0, .inr (4, [w0, .ref a1, .ref a2, .int c1])), (a1, .inl (ka1, 4, .inl (fun _ => 0))), (a2, .inl (ka2, 4, .inl (fun _ => 0)))] s.heap := hP
  have hl := lv_entry ([.ref h0, .int 0]) (n := 2) (Nat.le_of_ble_eq_true rfl)
  rw [lg_entry_eq]
  generalize (lg_sl ([.ref h0, .int 0]) ++ List.replicate (2 - (lg_sl ([.ref h0, .int 0])).length) Slot.unset).toArray = ls at hl ⊢
  have hl : lv_has ls 2 [(0, .ref h0), (1, .int 0)] := hl
  skip
  refine lv_aload_n hx hb dX4_head_0 rfl (lv_at hl 0 rfl) ?_
  refine va_get (D := (dC, dI)) (ci := 4) (v := .ref a1) (C := RX4) (T := TX4) (N := 4) hx hb hts inB_4 hown hK hP 0 rfl rfl 1 (by decide) (hts _ mw_1_34) (fun _ h9 => h9) rfl dX4_head_1 ?_
  refine lv_iload_n hx hb dX4_head_4 rfl (lv_at hl 1 rfl) ?_
  refine va_iald hx hb hK hP 1 0 rfl rfl (show vp_in 0 4 by unfold vp_in; decide) dX4_head_5 ?_
  refine hx_top (y := 0) rfl ?_
  refine lv_aload_n hx hb dX4_head_6 rfl (lv_at hl 0 rfl) ?_
  refine va_get (D := (dC, dI)) (ci := 4) (v := .ref a2) (C := RX4) (T := TX4) (N := 4) hx hb hts inB_4 hown hK hP 0 rfl rfl 2 (by decide) (hts _ mw_1_35) (fun _ h9 => h9) rfl dX4_head_7 ?_
  refine lv_iload_n hx hb dX4_head_10 rfl (lv_at hl 1 rfl) ?_
  refine va_iald hx hb hK hP 2 1 rfl rfl (show vp_in 0 4 by unfold vp_in; decide) dX4_head_11 ?_
  refine hx_top (y := 0) rfl ?_
  refine lv_icmp_ge (tgt := 34) hx hb dX4_head_12 (by decide) (fun _ => ?_) (fun h => absurd (by decide) h)
  refine lv_bipush (v := (-6)) hx hb dX4_head_34 (by decide) ?_
  exact W.iret (v := (-6)) hx hb hr (fun t ht hW => ⟨⟨(-6), (), rfl, rfl, trivial⟩, hS.F ht⟩) hS.2.2 dX4_head_36
set_option maxHeartbeats 4000000 in
set_option maxRecDepth 100000 in
theorem c_rTail (l : Launch) (dC : Nat → ClassId) (dI : Nat → Nat → Nat) (sz : Nat) (h0 : Nat) (w0 : Value) (a1 : Nat) (a2 : Nat) (c1 : Int32) (ka1 : ClassId) (ka2 : ClassId)  : Met l yX4_tail (wq yX4_tail cX4_tail 4 (some .int)) ({ frames := 0, cells := 0, slots := 0, locals := 0 }) (va_Pc [.ref h0, .int 0] (pcW dC dI [(ka1, .int), (ka2, .int)] [(h0, .inr (4, [w0, .ref a1, .ref a2, .int c1])), (a1, .inl (ka1, 4, .inl (fun _ => 0))), (a2, .inl (ka2, 4, .inl (fun _ => 0)))] sz)) (va_Qi (fun (r : Int32) (_ : Unit) => r = 0) (fun _ _ => True) (fun q : Nat => sz ≤ q)) 0 0 (fun q : Nat => sz ≤ q) := by
  refine Met.ofW (cc := cX4_tail) (maxL := 4) (ret := (some .int)) (by decide) rfl ?_
  intro p e s m args below meth c s₁ B hml hv
  obtain ⟨rfl, hsz, hN, hP, hK, hD0⟩ := hv
  have hx := B.exec
  have hb := B.bytes
  have hr := B.returns
  have hts0 := atoms_spec (ws := (wq yX4_tail cX4_tail 4 (some .int))) B.pre
  have hts : ∀ w ∈ BG, w.before _ s = true := fun w h => hts0 w (List.mem_cons_of_mem _ h)
  have hown : s.vm.findClass RX4 = some m.cls := findClass_of_methodNamed B.named
  have hlocks := B.notSynchronized
  subst hsz
  have hA : ∀ q : Nat, s.heap.size ≤ q → (fun q : Nat => s.heap.size ≤ q) q := fun _ h => h
  have hD := hD0
  have hS : va_S (fun q : Nat => s.heap.size ≤ q) s.heap s.heap [] := va_S.rf
  have hP : va_P (dC, dI) vwCl [(h0, .inr (4, [w0, .ref a1, .ref a2, .int c1])), (a1, .inl (ka1, 4, .inl (fun _ => 0))), (a2, .inl (ka2, 4, .inl (fun _ => 0)))] s.heap := hP
  have hl := lv_entry ([.ref h0, .int 0]) (n := 4) (Nat.le_of_ble_eq_true rfl)
  rw [lg_entry_eq]
  generalize (lg_sl ([.ref h0, .int 0]) ++ List.replicate (4 - (lg_sl ([.ref h0, .int 0])).length) Slot.unset).toArray = ls at hl ⊢
  have hl : lv_has ls 4 [(0, .ref h0), (1, .int 0)] := hl
  skip
  refine lv_iconst (v := 0) hx hb dX4_tail_0 (by decide) ?_
  refine lv_istore_n (lv' := [(2, .int 0), (0, .ref h0), (1, .int 0)]) hx hb dX4_tail_1 rfl hl (by decide) rfl (fun ls hl => ?_)
  refine lv_aload_n hx hb dX4_tail_2 rfl (lv_at hl 1 rfl) ?_
  refine va_get (D := (dC, dI)) (ci := 4) (v := .ref a1) (C := RX4) (T := TX4) (N := 4) hx hb hts inB_4 hown hK hP 0 rfl rfl 1 (by decide) (hts _ mw_1_34) (fun _ h9 => h9) rfl dX4_tail_3 ?_
  refine lv_iload_n hx hb dX4_tail_6 rfl (lv_at hl 2 rfl) ?_
  refine va_iald hx hb hK hP 1 0 rfl rfl (show vp_in 0 4 by unfold vp_in; decide) dX4_tail_7 ?_
  refine hx_top (y := 0) rfl ?_
  refine lv_iconst (v := 1) hx hb dX4_tail_8 (by decide) ?_
  refine lv_iadd hx hb dX4_tail_9 ?_
  refine hx_top (y := 1) (by decide) ?_
  refine lv_istore_n (lv' := [(3, .int 1), (2, .int 0), (0, .ref h0), (1, .int 0)]) hx hb dX4_tail_10 rfl hl (by decide) rfl (fun ls hl => ?_)
  refine lv_iload_n hx hb dX4_tail_11 rfl (lv_at hl 0 rfl) ?_
  refine lv_aload_n hx hb dX4_tail_12 rfl (lv_at hl 2 rfl) ?_
  refine va_get (D := (dC, dI)) (ci := 4) (v := .ref a2) (C := RX4) (T := TX4) (N := 4) hx hb hts inB_4 hown hK hP 0 rfl rfl 2 (by decide) (hts _ mw_1_35) (fun _ h9 => h9) rfl dX4_tail_13 ?_
  refine lv_iload_n hx hb dX4_tail_16 rfl (lv_at hl 3 rfl) ?_
  refine va_iald hx hb hK hP 2 1 rfl rfl (show vp_in 0 4 by unfold vp_in; decide) dX4_tail_17 ?_
  refine hx_top (y := 0) rfl ?_
  refine lv_icmp_ge (tgt := 43) hx hb dX4_tail_18 (by decide) (fun _ => ?_) (fun h => absurd (by decide) h)
  refine lv_iload_n hx hb dX4_tail_43 rfl (lv_at hl 1 rfl) ?_
  exact W.iret (v := 0) hx hb hr (fun t ht hW => ⟨⟨0, (), rfl, rfl, trivial⟩, hS.F ht⟩) hS.2.2 dX4_tail_44
set_option maxHeartbeats 4000000 in
set_option maxRecDepth 100000 in
theorem c_rFree (l : Launch) (dC : Nat → ClassId) (dI : Nat → Nat → Nat) (sz : Nat) (h0 : Nat) (w0 : Value) (a1 : Nat) (a2 : Nat) (ka1 : ClassId) (ka2 : ClassId)  : Met l yX4_firstFree (wq yX4_firstFree cX4_firstFree 4 (some .int)) ({ frames := 1, cells := 0, slots := 0, locals := 23 }) (va_Pc [.ref h0] (pcW dC dI [(ka1, .int), (ka2, .int)] [(h0, .inr (4, [w0, .ref a1, .ref a2, .int 1])), (a1, .inl (ka1, 4, .inl (fun _ => 0))), (a2, .inl (ka2, 4, .inl (fun _ => 0)))] sz)) (va_Qi (fun (r : Int32) (_ : Unit) => r = (-6)) (fun _ _ => True) (fun q : Nat => sz ≤ q)) 0 0 (fun q : Nat => sz ≤ q) := by
  refine Met.ofW (cc := cX4_firstFree) (maxL := 4) (ret := (some .int)) (by decide) rfl ?_
  intro p e s m args below meth c s₁ B hml hv
  obtain ⟨rfl, hsz, hN, hP, hK, hD0⟩ := hv
  have hx := B.exec
  have hb := B.bytes
  have hr := B.returns
  have hts0 := atoms_spec (ws := (wq yX4_firstFree cX4_firstFree 4 (some .int))) B.pre
  have hts : ∀ w ∈ BG, w.before _ s = true := fun w h => hts0 w (List.mem_cons_of_mem _ h)
  have hown : s.vm.findClass RX4 = some m.cls := findClass_of_methodNamed B.named
  have hlocks := B.notSynchronized
  subst hsz
  have hA : ∀ q : Nat, s.heap.size ≤ q → (fun q : Nat => s.heap.size ≤ q) q := fun _ h => h
  have hD := hD0
  have hS : va_S (fun q : Nat => s.heap.size ≤ q) s.heap s.heap [] := va_S.rf
  have hP : va_P (dC, dI) vwCl [(h0, .inr (4, [w0, .ref a1, .ref a2, .int 1])), (a1, .inl (ka1, 4, .inl (fun _ => 0))), (a2, .inl (ka2, 4, .inl (fun _ => 0)))] s.heap := hP
  have hl := lv_entry ([.ref h0]) (n := 4) (Nat.le_of_ble_eq_true rfl)
  rw [lg_entry_eq]
  generalize (lg_sl ([.ref h0]) ++ List.replicate (4 - (lg_sl ([.ref h0])).length) Slot.unset).toArray = ls at hl ⊢
  have hl : lv_has ls 4 [(0, .ref h0)] := hl
  skip
  refine lv_iconst (v := 0) hx hb dX4_firstFree_0 (by decide) ?_
  refine lv_istore_n (lv' := [(1, .int 0), (0, .ref h0)]) hx hb dX4_firstFree_1 rfl hl (by decide) rfl (fun ls hl => ?_)
  refine lv_iconst (v := 0) hx hb dX4_firstFree_2 (by decide) ?_
  refine lv_istore_n (lv' := [(2, .int 0), (1, .int 0), (0, .ref h0)]) hx hb dX4_firstFree_3 rfl hl (by decide) rfl (fun ls hl => ?_)
  refine lv_iload_n hx hb dX4_firstFree_4 rfl (lv_at hl 0 rfl) ?_
  refine lv_aload_n hx hb dX4_firstFree_5 rfl (lv_at hl 2 rfl) ?_
  refine va_get (D := (dC, dI)) (ci := 4) (v := .int 1) (C := RX4) (T := TX4) (N := 4) hx hb hts inB_4 hown hK hP 0 rfl rfl 3 (by decide) (hts _ mw_1_36) (fun _ h9 => h9) rfl dX4_firstFree_6 ?_
  refine lv_icmp_ge (tgt := 26) hx hb dX4_firstFree_9 (by decide) (fun h => absurd h (by decide)) (fun _ => ?_)
  refine lv_iload_n hx hb dX4_firstFree_12 rfl (lv_at hl 1 rfl) ?_
  refine lv_aload_n hx hb dX4_firstFree_13 rfl (lv_at hl 2 rfl) ?_
  refine lv_iload_n hx hb dX4_firstFree_14 rfl (lv_at hl 0 rfl) ?_
  have hPc := hP.sub (ws' := [(h0, .inr (4, [w0, .ref a1, .ref a2, .int 1])), (a1, .inl (ka1, 4, .inl (fun _ => 0))), (a2, .inl (ka2, 4, .inl (fun _ => 0)))]) [0, 1, 2] rfl
  have hDc := hD.sub (ws' := [(h0, .inr (4, [w0, .ref a1, .ref a2, .int 1])), (a1, .inl (ka1, 4, .inl (fun _ => 0))), (a2, .inl (ka2, 4, .inl (fun _ => 0)))]) [0, 1, 2] (by decide) rfl
  have hKc := hK.sub (tys' := [(ka1, .int), (ka2, .int)]) [0, 1] rfl
  refine va_calli (va_runV (As := [.int 0]) (rest := [.int 0]) ⟨hx, hb, hml, hown, hts⟩ (c_rTail l dC dI s.heap.size h0 (w0) a1 a2 1 ka1 ka2) (cwV 1 hts (gV mw_2_5 mw_2_7 mw_0_2 mw_1_3 mw_2_8) rfl rfl rfl (by decide +kernel) ⟨Nat.le_of_ble_eq_true rfl, Nat.le_of_ble_eq_true rfl⟩) ⟨pcW_blind, va_recv hKc hPc (ci := 4) (q0 := 0) rfl rfl, pcW_at hPc hKc hDc hN⟩ rfl rfl hl.1 rfl (lv_room (Nat.le_of_ble_eq_true rfl)) dX4_firstFree_15 ⟨Nat.le_of_ble_eq_true rfl, Nat.le_of_ble_eq_true rfl⟩) hS (fun q h1 h2 => absurd h2 (Nat.not_le.mpr h1)) (fun q h => hA q (Nat.le_trans hS.1 h)) (fun r_1 u t H1 locs ht hvm hw_1 hB hz1 hk1 hS => ?_)
  have hP := keepP hP hk1
  clear hz1 hk1 hB ht hvm hPc hDc hKc
  generalize H1 = H at hP hS ⊢
  obtain rfl : r_1 = 0 := hw_1
  refine lv_ior hx hb dX4_firstFree_18 ?_
  refine hx_top (y := 0) (by decide) ?_
  refine lv_istore_n (lv' := [(1, .int 0), (2, .int 0), (0, .ref h0)]) hx hb dX4_firstFree_19 rfl hl (by decide) rfl (fun ls hl => ?_)
  refine lv_iinc (v := 1) (lv' := [(2, .int 1), (1, .int 0), (0, .ref h0)]) hx hb dX4_firstFree_20 hl (k := 1) rfl (by decide) (by decide) rfl (fun ls hl => ?_)
  refine lv_goto (tgt := 4) hx hb dX4_firstFree_23 (by decide) ?_
  refine lv_iload_n hx hb dX4_firstFree_4 rfl (lv_at hl 0 rfl) ?_
  refine lv_aload_n hx hb dX4_firstFree_5 rfl (lv_at hl 2 rfl) ?_
  refine va_get (D := (dC, dI)) (ci := 4) (v := .int 1) (C := RX4) (T := TX4) (N := 4) hx hb hts inB_4 hown hK hP 0 rfl rfl 3 (by decide) (hts _ mw_1_36) (fun _ h9 => h9) rfl dX4_firstFree_6 ?_
  refine lv_icmp_ge (tgt := 26) hx hb dX4_firstFree_9 (by decide) (fun _ => ?_) (fun h => absurd (by decide) h)
  refine lv_iconst (v := 0) hx hb dX4_firstFree_26 (by decide) ?_
  refine lv_istore_n (lv' := [(2, .int 0), (1, .int 0), (0, .ref h0)]) hx hb dX4_firstFree_27 rfl hl (by decide) rfl (fun ls hl => ?_)
  refine lv_iload_n hx hb dX4_firstFree_28 rfl (lv_at hl 0 rfl) ?_
  refine lv_aload_n hx hb dX4_firstFree_29 rfl (lv_at hl 2 rfl) ?_
  refine va_get (D := (dC, dI)) (ci := 4) (v := .int 1) (C := RX4) (T := TX4) (N := 4) hx hb hts inB_4 hown hK hP 0 rfl rfl 3 (by decide) (hts _ mw_1_36) (fun _ h9 => h9) rfl dX4_firstFree_30 ?_
  refine lv_icmp_ge (tgt := 64) hx hb dX4_firstFree_33 (by decide) (fun h => absurd h (by decide)) (fun _ => ?_)
  refine lv_aload_n hx hb dX4_firstFree_36 rfl (lv_at hl 2 rfl) ?_
  refine lv_iload_n hx hb dX4_firstFree_37 rfl (lv_at hl 0 rfl) ?_
  have hPc := hP.sub (ws' := [(h0, .inr (4, [w0, .ref a1, .ref a2, .int 1])), (a1, .inl (ka1, 4, .inl (fun _ => 0))), (a2, .inl (ka2, 4, .inl (fun _ => 0)))]) [0, 1, 2] rfl
  have hDc := hD.sub (ws' := [(h0, .inr (4, [w0, .ref a1, .ref a2, .int 1])), (a1, .inl (ka1, 4, .inl (fun _ => 0))), (a2, .inl (ka2, 4, .inl (fun _ => 0)))]) [0, 1, 2] (by decide) rfl
  have hKc := hK.sub (tys' := [(ka1, .int), (ka2, .int)]) [0, 1] rfl
  refine va_calli (va_runV (As := [.int 0]) (rest := []) ⟨hx, hb, hml, hown, hts⟩ (c_rHead l dC dI H.size h0 (w0) a1 a2 1 ka1 ka2) (cwV 1 hts (gV mw_2_9 mw_2_11 mw_0_3 mw_1_3 mw_2_12) rfl rfl rfl (by decide +kernel) ⟨Nat.le_of_ble_eq_true rfl, Nat.le_of_ble_eq_true rfl⟩) ⟨pcW_blind, va_recv hKc hPc (ci := 4) (q0 := 0) rfl rfl, pcW_at hPc hKc hDc hN⟩ rfl rfl hl.1 rfl (lv_room (Nat.le_of_ble_eq_true rfl)) dX4_firstFree_38 ⟨Nat.le_of_ble_eq_true rfl, Nat.le_of_ble_eq_true rfl⟩) hS (fun q h1 h2 => absurd h2 (Nat.not_le.mpr h1)) (fun q h => hA q (Nat.le_trans hS.1 h)) (fun r_2 u t H1 locs ht hvm hw_2 hB hz1 hk1 hS => ?_)
  have hP := keepP hP hk1
  clear hz1 hk1 hB ht hvm hPc hDc hKc
  generalize H1 = H at hP hS ⊢
  obtain rfl : r_2 = (-6) := hw_2
  refine lv_istore_n (lv' := [(3, .int (-6)), (2, .int 0), (1, .int 0), (0, .ref h0)]) hx hb dX4_firstFree_41 rfl hl (by decide) rfl (fun ls hl => ?_)
  refine lv_iload_n hx hb dX4_firstFree_42 rfl (lv_at hl 0 rfl) ?_
  refine lv_bipush (v := (-6)) hx hb dX4_firstFree_43 (by decide) ?_
  refine lv_icmp_eq (tgt := 58) hx hb dX4_firstFree_45 (by decide) (fun _ => ?_) (fun h => absurd (by decide) h)
  refine lv_iinc (v := 1) (lv' := [(2, .int 1), (3, .int (-6)), (1, .int 0), (0, .ref h0)]) hx hb dX4_firstFree_58 hl (k := 1) rfl (by decide) (by decide) rfl (fun ls hl => ?_)
  refine lv_goto (tgt := 28) hx hb dX4_firstFree_61 (by decide) ?_
  refine lv_iload_n hx hb dX4_firstFree_28 rfl (lv_at hl 0 rfl) ?_
  refine lv_aload_n hx hb dX4_firstFree_29 rfl (lv_at hl 3 rfl) ?_
  refine va_get (D := (dC, dI)) (ci := 4) (v := .int 1) (C := RX4) (T := TX4) (N := 4) hx hb hts inB_4 hown hK hP 0 rfl rfl 3 (by decide) (hts _ mw_1_36) (fun _ h9 => h9) rfl dX4_firstFree_30 ?_
  refine lv_icmp_ge (tgt := 64) hx hb dX4_firstFree_33 (by decide) (fun _ => ?_) (fun h => absurd (by decide) h)
  refine lv_bipush (v := (-6)) hx hb dX4_firstFree_64 (by decide) ?_
  exact W.iret (v := (-6)) hx hb hr (fun t ht hW => ⟨⟨(-6), (), rfl, rfl, trivial⟩, hS.F ht⟩) hS.2.2 dX4_firstFree_66
set_option maxHeartbeats 4000000 in
set_option maxRecDepth 100000 in
theorem c_rBegs (l : Launch) (dC : Nat → ClassId) (dI : Nat → Nat → Nat) (sz : Nat) (h0 : Nat) (w0 : Value) (a1 : Nat) (a2 : Nat) (ka1 : ClassId) (ka2 : ClassId)  : Met l yX4_beginnings (wq yX4_beginnings cX4_beginnings 4 (some .int)) ({ frames := 1, cells := 0, slots := 0, locals := 21 }) (va_Pc [.ref h0] (pcW dC dI [(ka1, .int), (ka2, .int)] [(h0, .inr (4, [w0, .ref a1, .ref a2, .int 1])), (a1, .inl (ka1, 4, .inl (fun _ => 0))), (a2, .inl (ka2, 4, .inl (fun _ => 0)))] sz)) (va_Qi (fun (r : Int32) (_ : Unit) => r = 0) (fun _ _ => True) (fun q : Nat => sz ≤ q)) 0 0 (fun q : Nat => sz ≤ q) := by
  refine Met.ofW (cc := cX4_beginnings) (maxL := 4) (ret := (some .int)) (by decide) rfl ?_
  intro p e s m args below meth c s₁ B hml hv
  obtain ⟨rfl, hsz, hN, hP, hK, hD0⟩ := hv
  have hx := B.exec
  have hb := B.bytes
  have hr := B.returns
  have hts0 := atoms_spec (ws := (wq yX4_beginnings cX4_beginnings 4 (some .int))) B.pre
  have hts : ∀ w ∈ BG, w.before _ s = true := fun w h => hts0 w (List.mem_cons_of_mem _ h)
  have hown : s.vm.findClass RX4 = some m.cls := findClass_of_methodNamed B.named
  have hlocks := B.notSynchronized
  subst hsz
  have hA : ∀ q : Nat, s.heap.size ≤ q → (fun q : Nat => s.heap.size ≤ q) q := fun _ h => h
  have hD := hD0
  have hS : va_S (fun q : Nat => s.heap.size ≤ q) s.heap s.heap [] := va_S.rf
  have hP : va_P (dC, dI) vwCl [(h0, .inr (4, [w0, .ref a1, .ref a2, .int 1])), (a1, .inl (ka1, 4, .inl (fun _ => 0))), (a2, .inl (ka2, 4, .inl (fun _ => 0)))] s.heap := hP
  have hl := lv_entry ([.ref h0]) (n := 4) (Nat.le_of_ble_eq_true rfl)
  rw [lg_entry_eq]
  generalize (lg_sl ([.ref h0]) ++ List.replicate (4 - (lg_sl ([.ref h0])).length) Slot.unset).toArray = ls at hl ⊢
  have hl : lv_has ls 4 [(0, .ref h0)] := hl
  skip
  refine lv_iconst (v := 0) hx hb dX4_beginnings_0 (by decide) ?_
  refine lv_istore_n (lv' := [(1, .int 0), (0, .ref h0)]) hx hb dX4_beginnings_1 rfl hl (by decide) rfl (fun ls hl => ?_)
  refine lv_iconst (v := 0) hx hb dX4_beginnings_2 (by decide) ?_
  refine lv_istore_n (lv' := [(2, .int 0), (1, .int 0), (0, .ref h0)]) hx hb dX4_beginnings_3 rfl hl (by decide) rfl (fun ls hl => ?_)
  refine lv_iload_n hx hb dX4_beginnings_4 rfl (lv_at hl 0 rfl) ?_
  refine lv_aload_n hx hb dX4_beginnings_5 rfl (lv_at hl 2 rfl) ?_
  refine va_get (D := (dC, dI)) (ci := 4) (v := .int 1) (C := RX4) (T := TX4) (N := 4) hx hb hts inB_4 hown hK hP 0 rfl rfl 3 (by decide) (hts _ mw_1_36) (fun _ h9 => h9) rfl dX4_beginnings_6 ?_
  refine lv_icmp_ge (tgt := 36) hx hb dX4_beginnings_9 (by decide) (fun h => absurd h (by decide)) (fun _ => ?_)
  refine lv_aload_n hx hb dX4_beginnings_12 rfl (lv_at hl 2 rfl) ?_
  refine lv_iload_n hx hb dX4_beginnings_13 rfl (lv_at hl 0 rfl) ?_
  have hPc := hP.sub (ws' := [(h0, .inr (4, [w0, .ref a1, .ref a2, .int 1])), (a1, .inl (ka1, 4, .inl (fun _ => 0))), (a2, .inl (ka2, 4, .inl (fun _ => 0)))]) [0, 1, 2] rfl
  have hDc := hD.sub (ws' := [(h0, .inr (4, [w0, .ref a1, .ref a2, .int 1])), (a1, .inl (ka1, 4, .inl (fun _ => 0))), (a2, .inl (ka2, 4, .inl (fun _ => 0)))]) [0, 1, 2] (by decide) rfl
  have hKc := hK.sub (tys' := [(ka1, .int), (ka2, .int)]) [0, 1] rfl
  refine va_calli (va_runV (As := [.int 0]) (rest := []) ⟨hx, hb, hml, hown, hts⟩ (c_rHead l dC dI s.heap.size h0 (w0) a1 a2 1 ka1 ka2) (cwV 1 hts (gV mw_2_9 mw_2_11 mw_0_3 mw_1_3 mw_2_12) rfl rfl rfl (by decide +kernel) ⟨Nat.le_of_ble_eq_true rfl, Nat.le_of_ble_eq_true rfl⟩) ⟨pcW_blind, va_recv hKc hPc (ci := 4) (q0 := 0) rfl rfl, pcW_at hPc hKc hDc hN⟩ rfl rfl hl.1 rfl (lv_room (Nat.le_of_ble_eq_true rfl)) dX4_beginnings_14 ⟨Nat.le_of_ble_eq_true rfl, Nat.le_of_ble_eq_true rfl⟩) hS (fun q h1 h2 => absurd h2 (Nat.not_le.mpr h1)) (fun q h => hA q (Nat.le_trans hS.1 h)) (fun r_1 u t H1 locs ht hvm hw_1 hB hz1 hk1 hS => ?_)
  have hP := keepP hP hk1
  clear hz1 hk1 hB ht hvm hPc hDc hKc
  generalize H1 = H at hP hS ⊢
  obtain rfl : r_1 = (-6) := hw_1
  refine lv_istore_n (lv' := [(3, .int (-6)), (2, .int 0), (1, .int 0), (0, .ref h0)]) hx hb dX4_beginnings_17 rfl hl (by decide) rfl (fun ls hl => ?_)
  refine lv_iload_n hx hb dX4_beginnings_18 rfl (lv_at hl 0 rfl) ?_
  refine lv_bipush (v := (-6)) hx hb dX4_beginnings_19 (by decide) ?_
  refine lv_icmp_eq (tgt := 30) hx hb dX4_beginnings_21 (by decide) (fun _ => ?_) (fun h => absurd (by decide) h)
  refine lv_iinc (v := 1) (lv' := [(2, .int 1), (3, .int (-6)), (1, .int 0), (0, .ref h0)]) hx hb dX4_beginnings_30 hl (k := 1) rfl (by decide) (by decide) rfl (fun ls hl => ?_)
  refine lv_goto (tgt := 4) hx hb dX4_beginnings_33 (by decide) ?_
  refine lv_iload_n hx hb dX4_beginnings_4 rfl (lv_at hl 0 rfl) ?_
  refine lv_aload_n hx hb dX4_beginnings_5 rfl (lv_at hl 3 rfl) ?_
  refine va_get (D := (dC, dI)) (ci := 4) (v := .int 1) (C := RX4) (T := TX4) (N := 4) hx hb hts inB_4 hown hK hP 0 rfl rfl 3 (by decide) (hts _ mw_1_36) (fun _ h9 => h9) rfl dX4_beginnings_6 ?_
  refine lv_icmp_ge (tgt := 36) hx hb dX4_beginnings_9 (by decide) (fun _ => ?_) (fun h => absurd (by decide) h)
  refine lv_iload_n hx hb dX4_beginnings_36 rfl (lv_at hl 2 rfl) ?_
  exact W.iret (v := 0) hx hb hr (fun t ht hW => ⟨⟨0, (), rfl, rfl, trivial⟩, hS.F ht⟩) hS.2.2 dX4_beginnings_37
set_option maxHeartbeats 4000000 in
set_option maxRecDepth 100000 in
theorem c_layRows (l : Launch) (dC : Nat → ClassId) (dI : Nat → Nat → Nat) (sz : Nat) (h0 : Nat) (w0 : Value) (w1 : Value) (w2 : Value) (w3 : Value) (w4 : Value) (r0 : Nat) (w6 : Value) (w7 : Value) (y0 : Value) (a1 : Nat) (a2 : Nat) (ka1 : ClassId) (ka2 : ClassId)  : Met l yX1_layRows (wq yX1_layRows cX1_layRows 5 none) ({ frames := 1, cells := 0, slots := 0, locals := 20 }) (va_Pc [.ref h0, .int 0] (pcW dC dI [(ka1, .int), (ka2, .int)] [(h0, .inr (1, [w0, w1, w2, w3, w4, .ref r0, w6, w7])), (r0, .inr (4, [y0, .ref a1, .ref a2, .int 0])), (a1, .inl (ka1, 4, .inl (fun _ => 0))), (a2, .inl (ka2, 4, .inl (fun _ => 0)))] sz)) (va_Qv (fun _ : Unit => True) (fun _ t => va_P (dC, dI) vwCl [(h0, .inr (1, [w0, w1, w2, w3, w4, .ref r0, w6, w7])), (r0, .inr (4, [y0, .ref a1, .ref a2, .int 1])), (a1, .inl (ka1, 4, .inl (fun _ => 0))), (a2, .inl (ka2, 4, .inl (fun _ => 0)))] t.heap ∧ va_K (dC, dI) vwCl [(ka1, .int), (ka2, .int)] t ∧ va_D (va_A [(h0, .inr (1, [w0, w1, w2, w3, w4, .ref r0, w6, w7])), (r0, .inr (4, [y0, .ref a1, .ref a2, .int 0])), (a1, .inl (ka1, 4, .inl (fun _ => 0))), (a2, .inl (ka2, 4, .inl (fun _ => 0)))] sz) [(h0, .inr (1, [w0, w1, w2, w3, w4, .ref r0, w6, w7])), (r0, .inr (4, [y0, .ref a1, .ref a2, .int 1])), (a1, .inl (ka1, 4, .inl (fun _ => 0))), (a2, .inl (ka2, 4, .inl (fun _ => 0)))]) (va_A [(h0, .inr (1, [w0, w1, w2, w3, w4, .ref r0, w6, w7])), (r0, .inr (4, [y0, .ref a1, .ref a2, .int 0])), (a1, .inl (ka1, 4, .inl (fun _ => 0))), (a2, .inl (ka2, 4, .inl (fun _ => 0)))] sz)) 0 0 (va_A [(h0, .inr (1, [w0, w1, w2, w3, w4, .ref r0, w6, w7])), (r0, .inr (4, [y0, .ref a1, .ref a2, .int 0])), (a1, .inl (ka1, 4, .inl (fun _ => 0))), (a2, .inl (ka2, 4, .inl (fun _ => 0)))] sz) := by
  refine Met.ofW (cc := cX1_layRows) (maxL := 5) (ret := none) (by decide) rfl ?_
  intro p e s m args below meth c s₁ B hml hv
  obtain ⟨rfl, hsz, hN, hP, hK, hD0⟩ := hv
  have hx := B.exec
  have hb := B.bytes
  have hr := B.returns
  have hts0 := atoms_spec (ws := (wq yX1_layRows cX1_layRows 5 none)) B.pre
  have hts : ∀ w ∈ BG, w.before _ s = true := fun w h => hts0 w (List.mem_cons_of_mem _ h)
  have hown : s.vm.findClass RX1 = some m.cls := findClass_of_methodNamed B.named
  have hlocks := B.notSynchronized
  subst hsz
  have hD := hD0.self (sz := s.heap.size)
  generalize hAe : va_A [(h0, .inr (1, [w0, w1, w2, w3, w4, .ref r0, w6, w7])), (r0, .inr (4, [y0, .ref a1, .ref a2, .int 0])), (a1, .inl (ka1, 4, .inl (fun _ => 0))), (a2, .inl (ka2, 4, .inl (fun _ => 0)))] s.heap.size = A at hD ⊢
  have hA : ∀ q : Nat, s.heap.size ≤ q → A q := fun q h => by rw [← hAe]; exact Or.inr h
  have hS : va_S A s.heap s.heap [] := va_S.rf
  have hP : va_P (dC, dI) vwCl [(h0, .inr (1, [w0, w1, w2, w3, w4, .ref r0, w6, w7])), (r0, .inr (4, [y0, .ref a1, .ref a2, .int 0])), (a1, .inl (ka1, 4, .inl (fun _ => 0))), (a2, .inl (ka2, 4, .inl (fun _ => 0)))] s.heap := hP
  have hl := lv_entry ([.ref h0, .int 0]) (n := 5) (Nat.le_of_ble_eq_true rfl)
  rw [lg_entry_eq]
  generalize (lg_sl ([.ref h0, .int 0]) ++ List.replicate (5 - (lg_sl ([.ref h0, .int 0])).length) Slot.unset).toArray = ls at hl ⊢
  have hl : lv_has ls 5 [(0, .ref h0), (1, .int 0)] := hl
  skip
  refine lv_aload_n hx hb dX1_layRows_0 rfl (lv_at hl 0 rfl) ?_
  refine va_get (D := (dC, dI)) (ci := 1) (v := .ref r0) (C := RX1) (T := TX1) (N := 8) hx hb hts inB_1 hown hK hP 0 rfl rfl 5 (by decide) (hts _ mw_1_52) (fun _ h9 => h9) rfl dX1_layRows_1 ?_
  have hPc := hP.sub (ws' := [(r0, .inr (4, [y0, .ref a1, .ref a2, .int 0]))]) [1] rfl
  have hDc := hD.sub (ws' := [(r0, .inr (4, [y0, .ref a1, .ref a2, .int 0]))]) [1] (by decide) rfl
  have hKc := hK.sub (tys' := []) [] rfl
  have hFc := va_free (wc := [(r0, .inr (4, [y0, .ref a1, .ref a2, .int 0]))]) hD hS hA [1] rfl
  refine va_callv (va_runV (As := []) (rest := []) ⟨hx, hb, hml, hown, hts⟩ (c_rClear l dC dI s.heap.size r0 (y0) (.ref a1) (.ref a2)) (cwV 0 hts (gV mw_1_225 mw_1_226 mw_1_227 mw_1_3 mw_1_228) rfl rfl rfl (by decide +kernel) ⟨Nat.le_of_ble_eq_true rfl, Nat.le_of_ble_eq_true rfl⟩) ⟨pcW_blind, va_recv hKc hPc (ci := 4) (q0 := 0) rfl rfl, pcW_at hPc hKc hDc hN⟩ rfl rfl hl.1 rfl (lv_room (Nat.le_of_ble_eq_true rfl)) dX1_layRows_4 ⟨Nat.le_of_ble_eq_true rfl, Nat.le_of_ble_eq_true rfl⟩) hS (fun q _ h => hFc q h) hFc (fun u t H1 locs ht hvm hw_1 hB hz1 hk1 hS => ?_)
  obtain ⟨hP1, hK1, hD1⟩ := hB
  rw [ht] at hP1
  have hK1 := va_K.moved hvm.symm hK1
  obtain ⟨hP, hD⟩ := va_join (wr := [(h0, .inr (1, [w0, w1, w2, w3, w4, .ref r0, w6, w7])), (a1, .inl (ka1, 4, .inl (fun _ => 0))), (a2, .inl (ka2, 4, .inl (fun _ => 0)))]) (w1 := [(r0, .inr (4, [y0, .ref a1, .ref a2, .int 0]))]) hP hD [1] [0, 2, 3] rfl rfl (by decide) (by decide) hk1 hFc hP1 hD1
  have hK := (hK.sub (tys' := [(ka1, .int), (ka2, .int)]) [0, 1] rfl).app hK1
  clear hz1 hk1 hPc hDc hKc hFc
  generalize H1 = H at hP hS ⊢
  have hK : va_K (dC, dI) vwCl [(ka1, .int), (ka2, .int)] s := hK
  have hP : va_P (dC, dI) vwCl [(h0, .inr (1, [w0, w1, w2, w3, w4, .ref r0, w6, w7])), (a1, .inl (ka1, 4, .inl (fun _ => 0))), (a2, .inl (ka2, 4, .inl (fun _ => 0))), (r0, .inr (4, [y0, .ref a1, .ref a2, .int 0]))] H := hP
  have hD : va_D A [(h0, .inr (1, [w0, w1, w2, w3, w4, .ref r0, w6, w7])), (a1, .inl (ka1, 4, .inl (fun _ => 0))), (a2, .inl (ka2, 4, .inl (fun _ => 0))), (r0, .inr (4, [y0, .ref a1, .ref a2, .int 0]))] := hD
  refine lv_iconst (v := 0) hx hb dX1_layRows_7 (by decide) ?_
  refine lv_istore_n (lv' := [(2, .int 0), (0, .ref h0), (1, .int 0)]) hx hb dX1_layRows_8 rfl hl (by decide) rfl (fun ls hl => ?_)
  refine lv_iload_n hx hb dX1_layRows_9 rfl (lv_at hl 0 rfl) ?_
  refine lv_iload_n hx hb dX1_layRows_10 rfl (lv_at hl 2 rfl) ?_
  refine lv_icmp_ge (tgt := 72) hx hb dX1_layRows_11 (by decide) (fun _ => ?_) (fun h => absurd (by decide) h)
  refine lv_aload_n hx hb dX1_layRows_72 rfl (lv_at hl 1 rfl) ?_
  refine va_get (D := (dC, dI)) (ci := 1) (v := .ref r0) (C := RX1) (T := TX1) (N := 8) hx hb hts inB_1 hown hK hP 0 rfl rfl 5 (by decide) (hts _ mw_1_52) (fun _ h9 => h9) rfl dX1_layRows_73 ?_
  have hPc := hP.sub (ws' := [(r0, .inr (4, [y0, .ref a1, .ref a2, .int 0])), (a1, .inl (ka1, 4, .inl (fun _ => 0))), (a2, .inl (ka2, 4, .inl (fun _ => 0)))]) [3, 1, 2] rfl
  have hDc := hD.sub (ws' := [(r0, .inr (4, [y0, .ref a1, .ref a2, .int 0])), (a1, .inl (ka1, 4, .inl (fun _ => 0))), (a2, .inl (ka2, 4, .inl (fun _ => 0)))]) [3, 1, 2] (by decide) rfl
  have hKc := hK.sub (tys' := [(ka1, .int), (ka2, .int)]) [0, 1] rfl
  have hFc := va_free (wc := [(r0, .inr (4, [y0, .ref a1, .ref a2, .int 0])), (a1, .inl (ka1, 4, .inl (fun _ => 0))), (a2, .inl (ka2, 4, .inl (fun _ => 0)))]) hD hS hA [3, 1, 2] rfl
  refine va_callv (va_runV (As := []) (rest := []) ⟨hx, hb, hml, hown, hts⟩ (c_rBegin l dC dI H.size r0 (y0) a1 a2 ka1 ka2) (cwV 0 hts (gV mw_1_229 mw_1_230 mw_1_231 mw_1_3 mw_1_232) rfl rfl rfl (by decide +kernel) ⟨Nat.le_of_ble_eq_true rfl, Nat.le_of_ble_eq_true rfl⟩) ⟨pcW_blind, va_recv hKc hPc (ci := 4) (q0 := 0) rfl rfl, pcW_at hPc hKc hDc hN⟩ rfl rfl hl.1 rfl (lv_room (Nat.le_of_ble_eq_true rfl)) dX1_layRows_76 ⟨Nat.le_of_ble_eq_true rfl, Nat.le_of_ble_eq_true rfl⟩) hS (fun q _ h => hFc q h) hFc (fun u t H1 locs ht hvm hw_2 hB hz1 hk1 hS => ?_)
  obtain ⟨hP1, hK1, hD1⟩ := hB
  rw [ht] at hP1
  have hK1 := va_K.moved hvm.symm hK1
  obtain ⟨hP, hD⟩ := va_join (wr := [(h0, .inr (1, [w0, w1, w2, w3, w4, .ref r0, w6, w7]))]) (w1 := [(r0, .inr (4, [y0, .ref a1, .ref a2, .int 1])), (a1, .inl (ka1, 4, .inl (fun _ => 0))), (a2, .inl (ka2, 4, .inl (fun _ => 0)))]) hP hD [3, 1, 2] [0] rfl rfl (by decide) (by decide) hk1 hFc hP1 hD1
  have hK := (hK.sub (tys' := []) [] rfl).app hK1
  clear hz1 hk1 hPc hDc hKc hFc
  generalize H1 = H at hP hS ⊢
  have hK : va_K (dC, dI) vwCl [(ka1, .int), (ka2, .int)] s := hK
  have hP : va_P (dC, dI) vwCl [(h0, .inr (1, [w0, w1, w2, w3, w4, .ref r0, w6, w7])), (r0, .inr (4, [y0, .ref a1, .ref a2, .int 1])), (a1, .inl (ka1, 4, .inl (fun _ => 0))), (a2, .inl (ka2, 4, .inl (fun _ => 0)))] H := hP
  have hD : va_D A [(h0, .inr (1, [w0, w1, w2, w3, w4, .ref r0, w6, w7])), (r0, .inr (4, [y0, .ref a1, .ref a2, .int 1])), (a1, .inl (ka1, 4, .inl (fun _ => 0))), (a2, .inl (ka2, 4, .inl (fun _ => 0)))] := hD
  refine lv_iconst (v := 0) hx hb dX1_layRows_79 (by decide) ?_
  refine lv_istore_n (lv' := [(2, .int 0), (0, .ref h0), (1, .int 0)]) hx hb dX1_layRows_80 rfl hl (by decide) rfl (fun ls hl => ?_)
  refine lv_iload_n hx hb dX1_layRows_81 rfl (lv_at hl 0 rfl) ?_
  refine lv_iload_n hx hb dX1_layRows_82 rfl (lv_at hl 2 rfl) ?_
  refine lv_icmp_ge (tgt := 105) hx hb dX1_layRows_83 (by decide) (fun _ => ?_) (fun h => absurd (by decide) h)
  exact W.vret hx hb hr (fun t ht hW => ⟨⟨(), rfl, trivial, by rw [ht]; exact hP, va_K.moved hW.alike hK, hD⟩, hS.F ht⟩) hS.2.2 dX1_layRows_105
set_option maxHeartbeats 4000000 in
set_option maxRecDepth 100000 in
theorem c_layLine (l : Launch) (dC : Nat → ClassId) (dI : Nat → Nat → Nat) (sz : Nat) (h0 : Nat) (w0 : Value) (b1 : Nat) (b2 : Nat) (b3 : Nat) (w4 : Value) (r0 : Nat) (w6 : Value) (w7 : Value) (kb1 : ClassId) (kb2 : ClassId) (fq : Nat → Int32) (kb3 : ClassId) (y0 : Value) (a1 : Nat) (a2 : Nat) (ka1 : ClassId) (ka2 : ClassId)  : Met l yX1_layLine (wq yX1_layLine cX1_layLine 6 none) ({ frames := 2, cells := 0, slots := 0, locals := 46 }) (va_Pc [.ref h0, .int 0, .int 0] (pcW dC dI [(kb1, .int), (kb2, .int), (kb3, .int), (ka1, .int), (ka2, .int)] [(h0, .inr (1, [w0, .ref b1, .ref b2, .ref b3, w4, .ref r0, w6, w7])), (b1, .inl (kb1, 10, .inl (fun _ => 0))), (b2, .inl (kb2, 10, .inl fq)), (b3, .inl (kb3, 100, .inl (fun _ => 0))), (r0, .inr (4, [y0, .ref a1, .ref a2, .int 0])), (a1, .inl (ka1, 4, .inl (fun _ => 0))), (a2, .inl (ka2, 4, .inl (fun _ => 0)))] sz)) (va_Qv (fun _ : Unit => True) (fun _ t => va_P (dC, dI) vwCl [(b1, .inl (kb1, 10, .inl (slF 1 0 1))), (b2, .inl (kb2, 10, .inl (upd fq 0 (-6)))), (b3, .inl (kb3, 100, .inl (fun _ => 0))), (h0, .inr (1, [w0, .ref b1, .ref b2, .ref b3, w4, .ref r0, w6, w7])), (r0, .inr (4, [y0, .ref a1, .ref a2, .int 1])), (a1, .inl (ka1, 4, .inl (fun _ => 0))), (a2, .inl (ka2, 4, .inl (fun _ => 0)))] t.heap ∧ va_K (dC, dI) vwCl [(kb1, .int), (kb2, .int), (kb3, .int), (ka1, .int), (ka2, .int)] t ∧ va_D (va_A [(h0, .inr (1, [w0, .ref b1, .ref b2, .ref b3, w4, .ref r0, w6, w7])), (b1, .inl (kb1, 10, .inl (fun _ => 0))), (b2, .inl (kb2, 10, .inl fq)), (b3, .inl (kb3, 100, .inl (fun _ => 0))), (r0, .inr (4, [y0, .ref a1, .ref a2, .int 0])), (a1, .inl (ka1, 4, .inl (fun _ => 0))), (a2, .inl (ka2, 4, .inl (fun _ => 0)))] sz) [(b1, .inl (kb1, 10, .inl (slF 1 0 1))), (b2, .inl (kb2, 10, .inl (upd fq 0 (-6)))), (b3, .inl (kb3, 100, .inl (fun _ => 0))), (h0, .inr (1, [w0, .ref b1, .ref b2, .ref b3, w4, .ref r0, w6, w7])), (r0, .inr (4, [y0, .ref a1, .ref a2, .int 1])), (a1, .inl (ka1, 4, .inl (fun _ => 0))), (a2, .inl (ka2, 4, .inl (fun _ => 0)))]) (va_A [(h0, .inr (1, [w0, .ref b1, .ref b2, .ref b3, w4, .ref r0, w6, w7])), (b1, .inl (kb1, 10, .inl (fun _ => 0))), (b2, .inl (kb2, 10, .inl fq)), (b3, .inl (kb3, 100, .inl (fun _ => 0))), (r0, .inr (4, [y0, .ref a1, .ref a2, .int 0])), (a1, .inl (ka1, 4, .inl (fun _ => 0))), (a2, .inl (ka2, 4, .inl (fun _ => 0)))] sz)) 0 0 (va_A [(h0, .inr (1, [w0, .ref b1, .ref b2, .ref b3, w4, .ref r0, w6, w7])), (b1, .inl (kb1, 10, .inl (fun _ => 0))), (b2, .inl (kb2, 10, .inl fq)), (b3, .inl (kb3, 100, .inl (fun _ => 0))), (r0, .inr (4, [y0, .ref a1, .ref a2, .int 0])), (a1, .inl (ka1, 4, .inl (fun _ => 0))), (a2, .inl (ka2, 4, .inl (fun _ => 0)))] sz) := by
  refine Met.ofW (cc := cX1_layLine) (maxL := 6) (ret := none) (by decide) rfl ?_
  intro p e s m args below meth c s₁ B hml hv
  obtain ⟨rfl, hsz, hN, hP, hK, hD0⟩ := hv
  have hx := B.exec
  have hb := B.bytes
  have hr := B.returns
  have hts0 := atoms_spec (ws := (wq yX1_layLine cX1_layLine 6 none)) B.pre
  have hts : ∀ w ∈ BG, w.before _ s = true := fun w h => hts0 w (List.mem_cons_of_mem _ h)
  have hown : s.vm.findClass RX1 = some m.cls := findClass_of_methodNamed B.named
  have hlocks := B.notSynchronized
  subst hsz
  have hD := hD0.self (sz := s.heap.size)
  generalize hAe : va_A [(h0, .inr (1, [w0, .ref b1, .ref b2, .ref b3, w4, .ref r0, w6, w7])), (b1, .inl (kb1, 10, .inl (fun _ => 0))), (b2, .inl (kb2, 10, .inl fq)), (b3, .inl (kb3, 100, .inl (fun _ => 0))), (r0, .inr (4, [y0, .ref a1, .ref a2, .int 0])), (a1, .inl (ka1, 4, .inl (fun _ => 0))), (a2, .inl (ka2, 4, .inl (fun _ => 0)))] s.heap.size = A at hD ⊢
  have hA : ∀ q : Nat, s.heap.size ≤ q → A q := fun q h => by rw [← hAe]; exact Or.inr h
  have hS : va_S A s.heap s.heap [] := va_S.rf
  have hP : va_P (dC, dI) vwCl [(h0, .inr (1, [w0, .ref b1, .ref b2, .ref b3, w4, .ref r0, w6, w7])), (b1, .inl (kb1, 10, .inl (fun _ => 0))), (b2, .inl (kb2, 10, .inl fq)), (b3, .inl (kb3, 100, .inl (fun _ => 0))), (r0, .inr (4, [y0, .ref a1, .ref a2, .int 0])), (a1, .inl (ka1, 4, .inl (fun _ => 0))), (a2, .inl (ka2, 4, .inl (fun _ => 0)))] s.heap := hP
  have hl := lv_entry ([.ref h0, .int 0, .int 0]) (n := 6) (Nat.le_of_ble_eq_true rfl)
  rw [lg_entry_eq]
  generalize (lg_sl ([.ref h0, .int 0, .int 0]) ++ List.replicate (6 - (lg_sl ([.ref h0, .int 0, .int 0])).length) Slot.unset).toArray = ls at hl ⊢
  have hl : lv_has ls 6 [(0, .ref h0), (1, .int 0), (2, .int 0)] := hl
  skip
  refine lv_aload_n hx hb dX1_layLine_0 rfl (lv_at hl 0 rfl) ?_
  refine lv_iload_n hx hb dX1_layLine_1 rfl (lv_at hl 2 rfl) ?_
  have hPc := hP.sub (ws' := [(h0, .inr (1, [w0, .ref b1, .ref b2, .ref b3, w4, .ref r0, w6, w7])), (r0, .inr (4, [y0, .ref a1, .ref a2, .int 0])), (a1, .inl (ka1, 4, .inl (fun _ => 0))), (a2, .inl (ka2, 4, .inl (fun _ => 0)))]) [0, 4, 5, 6] rfl
  have hDc := hD.sub (ws' := [(h0, .inr (1, [w0, .ref b1, .ref b2, .ref b3, w4, .ref r0, w6, w7])), (r0, .inr (4, [y0, .ref a1, .ref a2, .int 0])), (a1, .inl (ka1, 4, .inl (fun _ => 0))), (a2, .inl (ka2, 4, .inl (fun _ => 0)))]) [0, 4, 5, 6] (by decide) rfl
  have hKc := hK.sub (tys' := [(ka1, .int), (ka2, .int)]) [3, 4] rfl
  have hFc := va_free (wc := [(h0, .inr (1, [w0, .ref b1, .ref b2, .ref b3, w4, .ref r0, w6, w7])), (r0, .inr (4, [y0, .ref a1, .ref a2, .int 0])), (a1, .inl (ka1, 4, .inl (fun _ => 0))), (a2, .inl (ka2, 4, .inl (fun _ => 0)))]) hD hS hA [0, 4, 5, 6] rfl
  refine va_callv (va_runV (As := [.int 0]) (rest := []) ⟨hx, hb, hml, hown, hts⟩ (c_layRows l dC dI s.heap.size h0 (w0) (.ref b1) (.ref b2) (.ref b3) (w4) r0 (w6) (w7) (y0) a1 a2 ka1 ka2) (cwV 1 hts (gV mw_1_221 mw_1_223 mw_0_1 mw_1_2 mw_1_224) rfl rfl rfl (by decide +kernel) ⟨Nat.le_of_ble_eq_true rfl, Nat.le_of_ble_eq_true rfl⟩) ⟨pcW_blind, va_recv hKc hPc (ci := 1) (q0 := 0) rfl rfl, pcW_at hPc hKc hDc hN⟩ rfl rfl hl.1 rfl (lv_room (Nat.le_of_ble_eq_true rfl)) dX1_layLine_2 ⟨Nat.le_of_ble_eq_true rfl, Nat.le_of_ble_eq_true rfl⟩) hS (fun q _ h => hFc q h) hFc (fun u t H1 locs ht hvm hw_1 hB hz1 hk1 hS => ?_)
  obtain ⟨hP1, hK1, hD1⟩ := hB
  rw [ht] at hP1
  have hK1 := va_K.moved hvm.symm hK1
  obtain ⟨hP, hD⟩ := va_join (wr := [(b1, .inl (kb1, 10, .inl (fun _ => 0))), (b2, .inl (kb2, 10, .inl fq)), (b3, .inl (kb3, 100, .inl (fun _ => 0)))]) (w1 := [(h0, .inr (1, [w0, .ref b1, .ref b2, .ref b3, w4, .ref r0, w6, w7])), (r0, .inr (4, [y0, .ref a1, .ref a2, .int 1])), (a1, .inl (ka1, 4, .inl (fun _ => 0))), (a2, .inl (ka2, 4, .inl (fun _ => 0)))]) hP hD [0, 4, 5, 6] [1, 2, 3] rfl rfl (by decide) (by decide) hk1 hFc hP1 hD1
  have hK := (hK.sub (tys' := [(kb1, .int), (kb2, .int), (kb3, .int)]) [0, 1, 2] rfl).app hK1
  clear hz1 hk1 hPc hDc hKc hFc
  generalize H1 = H at hP hS ⊢
  have hK : va_K (dC, dI) vwCl [(kb1, .int), (kb2, .int), (kb3, .int), (ka1, .int), (ka2, .int)] s := hK
  have hP : va_P (dC, dI) vwCl [(b1, .inl (kb1, 10, .inl (fun _ => 0))), (b2, .inl (kb2, 10, .inl fq)), (b3, .inl (kb3, 100, .inl (fun _ => 0))), (h0, .inr (1, [w0, .ref b1, .ref b2, .ref b3, w4, .ref r0, w6, w7])), (r0, .inr (4, [y0, .ref a1, .ref a2, .int 1])), (a1, .inl (ka1, 4, .inl (fun _ => 0))), (a2, .inl (ka2, 4, .inl (fun _ => 0)))] H := hP
  have hD : va_D A [(b1, .inl (kb1, 10, .inl (fun _ => 0))), (b2, .inl (kb2, 10, .inl fq)), (b3, .inl (kb3, 100, .inl (fun _ => 0))), (h0, .inr (1, [w0, .ref b1, .ref b2, .ref b3, w4, .ref r0, w6, w7])), (r0, .inr (4, [y0, .ref a1, .ref a2, .int 1])), (a1, .inl (ka1, 4, .inl (fun _ => 0))), (a2, .inl (ka2, 4, .inl (fun _ => 0)))] := hD
  refine lv_aload_n hx hb dX1_layLine_5 rfl (lv_at hl 0 rfl) ?_
  refine va_get (D := (dC, dI)) (ci := 1) (v := .ref b3) (C := RX1) (T := TX1) (N := 8) hx hb hts inB_1 hown hK hP 3 rfl rfl 3 (by decide) (hts _ mw_1_50) (fun _ h9 => h9) rfl dX1_layLine_6 ?_
  refine lv_iload_n hx hb dX1_layLine_9 rfl (lv_at hl 1 rfl) ?_
  refine lv_bipush (v := 10) hx hb dX1_layLine_10 (by decide) ?_
  refine lv_imul hx hb dX1_layLine_12 ?_
  refine hx_top (y := 0) (by decide) ?_
  refine lv_iload_n hx hb dX1_layLine_13 rfl (lv_at hl 1 rfl) ?_
  refine va_iast hx hb hK hP hD hS 2 2 rfl rfl (show vp_in 0 100 by unfold vp_in; decide) dX1_layLine_14 (fun H locs hP hD hS => ?_)
  rw [show upd (fun _ => 0) (Int32.toNatClampNeg 0) 0 = (fun _ => 0) from upd_const _ _] at hP hD
  have hP : va_P (dC, dI) vwCl [(b1, .inl (kb1, 10, .inl (fun _ => 0))), (b2, .inl (kb2, 10, .inl fq)), (b3, .inl (kb3, 100, .inl (fun _ => 0))), (h0, .inr (1, [w0, .ref b1, .ref b2, .ref b3, w4, .ref r0, w6, w7])), (r0, .inr (4, [y0, .ref a1, .ref a2, .int 1])), (a1, .inl (ka1, 4, .inl (fun _ => 0))), (a2, .inl (ka2, 4, .inl (fun _ => 0)))] H := hP
  have hD : va_D A [(b1, .inl (kb1, 10, .inl (fun _ => 0))), (b2, .inl (kb2, 10, .inl fq)), (b3, .inl (kb3, 100, .inl (fun _ => 0))), (h0, .inr (1, [w0, .ref b1, .ref b2, .ref b3, w4, .ref r0, w6, w7])), (r0, .inr (4, [y0, .ref a1, .ref a2, .int 1])), (a1, .inl (ka1, 4, .inl (fun _ => 0))), (a2, .inl (ka2, 4, .inl (fun _ => 0)))] := hD
  refine lv_iconst (v := 1) hx hb dX1_layLine_15 (by decide) ?_
  refine lv_istore_n (lv' := [(3, .int 1), (0, .ref h0), (1, .int 0), (2, .int 0)]) hx hb dX1_layLine_16 rfl hl (by decide) rfl (fun ls hl => ?_)
  refine lv_aload_n hx hb dX1_layLine_17 rfl (lv_at hl 1 rfl) ?_
  refine va_get (D := (dC, dI)) (ci := 1) (v := .ref r0) (C := RX1) (T := TX1) (N := 8) hx hb hts inB_1 hown hK hP 3 rfl rfl 5 (by decide) (hts _ mw_1_52) (fun _ h9 => h9) rfl dX1_layLine_18 ?_
  have hPc := hP.sub (ws' := [(r0, .inr (4, [y0, .ref a1, .ref a2, .int 1])), (a1, .inl (ka1, 4, .inl (fun _ => 0))), (a2, .inl (ka2, 4, .inl (fun _ => 0)))]) [4, 5, 6] rfl
  have hDc := hD.sub (ws' := [(r0, .inr (4, [y0, .ref a1, .ref a2, .int 1])), (a1, .inl (ka1, 4, .inl (fun _ => 0))), (a2, .inl (ka2, 4, .inl (fun _ => 0)))]) [4, 5, 6] (by decide) rfl
  have hKc := hK.sub (tys' := [(ka1, .int), (ka2, .int)]) [3, 4] rfl
  refine va_calli (va_runV (As := []) (rest := []) ⟨hx, hb, hml, hown, hts⟩ (c_rFree l dC dI H.size r0 (y0) a1 a2 ka1 ka2) (cwV 0 hts (gV mw_2_1 mw_2_2 mw_2_3 mw_1_3 mw_2_4) rfl rfl rfl (by decide +kernel) ⟨Nat.le_of_ble_eq_true rfl, Nat.le_of_ble_eq_true rfl⟩) ⟨pcW_blind, va_recv hKc hPc (ci := 4) (q0 := 0) rfl rfl, pcW_at hPc hKc hDc hN⟩ rfl rfl hl.1 rfl (lv_room (Nat.le_of_ble_eq_true rfl)) dX1_layLine_21 ⟨Nat.le_of_ble_eq_true rfl, Nat.le_of_ble_eq_true rfl⟩) hS (fun q h1 h2 => absurd h2 (Nat.not_le.mpr h1)) (fun q h => hA q (Nat.le_trans hS.1 h)) (fun r_2 u t H1 locs ht hvm hw_2 hB hz1 hk1 hS => ?_)
  have hP := keepP hP hk1
  clear hz1 hk1 hB ht hvm hPc hDc hKc
  generalize H1 = H at hP hS ⊢
  obtain rfl : r_2 = (-6) := hw_2
  refine lv_istore (lv' := [(4, .int (-6)), (3, .int 1), (0, .ref h0), (1, .int 0), (2, .int 0)]) hx hb dX1_layLine_24 hl (by decide) rfl (fun ls hl => ?_)
  refine lv_iload hx hb dX1_layLine_26 (lv_at hl 0 rfl) ?_
  refine lv_bipush (v := (-6)) hx hb dX1_layLine_28 (by decide) ?_
  refine lv_icmp_eq (tgt := 76) hx hb dX1_layLine_30 (by decide) (fun _ => ?_) (fun h => absurd (by decide) h)
  refine lv_aload_n hx hb dX1_layLine_76 rfl (lv_at hl 2 rfl) ?_
  refine va_get (D := (dC, dI)) (ci := 1) (v := .ref r0) (C := RX1) (T := TX1) (N := 8) hx hb hts inB_1 hown hK hP 3 rfl rfl 5 (by decide) (hts _ mw_1_52) (fun _ h9 => h9) rfl dX1_layLine_77 ?_
  have hPc := hP.sub (ws' := [(r0, .inr (4, [y0, .ref a1, .ref a2, .int 1])), (a1, .inl (ka1, 4, .inl (fun _ => 0))), (a2, .inl (ka2, 4, .inl (fun _ => 0)))]) [4, 5, 6] rfl
  have hDc := hD.sub (ws' := [(r0, .inr (4, [y0, .ref a1, .ref a2, .int 1])), (a1, .inl (ka1, 4, .inl (fun _ => 0))), (a2, .inl (ka2, 4, .inl (fun _ => 0)))]) [4, 5, 6] (by decide) rfl
  have hKc := hK.sub (tys' := [(ka1, .int), (ka2, .int)]) [3, 4] rfl
  refine va_calli (va_runV (As := []) (rest := []) ⟨hx, hb, hml, hown, hts⟩ (c_rBegs l dC dI H.size r0 (y0) a1 a2 ka1 ka2) (cwV 0 hts (gV mw_2_20 mw_2_21 mw_2_22 mw_1_3 mw_2_23) rfl rfl rfl (by decide +kernel) ⟨Nat.le_of_ble_eq_true rfl, Nat.le_of_ble_eq_true rfl⟩) ⟨pcW_blind, va_recv hKc hPc (ci := 4) (q0 := 0) rfl rfl, pcW_at hPc hKc hDc hN⟩ rfl rfl hl.1 rfl (lv_room (Nat.le_of_ble_eq_true rfl)) dX1_layLine_80 ⟨Nat.le_of_ble_eq_true rfl, Nat.le_of_ble_eq_true rfl⟩) hS (fun q h1 h2 => absurd h2 (Nat.not_le.mpr h1)) (fun q h => hA q (Nat.le_trans hS.1 h)) (fun r_3 u t H1 locs ht hvm hw_3 hB hz1 hk1 hS => ?_)
  have hP := keepP hP hk1
  clear hz1 hk1 hB ht hvm hPc hDc hKc
  generalize H1 = H at hP hS ⊢
  obtain rfl : r_3 = 0 := hw_3
  refine lv_istore (lv' := [(5, .int 0), (4, .int (-6)), (3, .int 1), (0, .ref h0), (1, .int 0), (2, .int 0)]) hx hb dX1_layLine_83 hl (by decide) rfl (fun ls hl => ?_)
  refine lv_aload_n hx hb dX1_layLine_85 rfl (lv_at hl 3 rfl) ?_
  refine va_get (D := (dC, dI)) (ci := 1) (v := .ref b2) (C := RX1) (T := TX1) (N := 8) hx hb hts inB_1 hown hK hP 3 rfl rfl 2 (by decide) (hts _ mw_1_49) (fun _ h9 => h9) rfl dX1_layLine_86 ?_
  refine lv_iload_n hx hb dX1_layLine_89 rfl (lv_at hl 4 rfl) ?_
  refine lv_iload hx hb dX1_layLine_90 (lv_at hl 0 rfl) ?_
  refine lv_if_ne (tgt := 100) hx hb dX1_layLine_92 (by decide) (fun h => absurd h (by decide)) (fun _ => ?_)
  refine lv_bipush (v := (-6)) hx hb dX1_layLine_95 (by decide) ?_
  refine lv_goto (tgt := 102) hx hb dX1_layLine_97 (by decide) ?_
  refine va_iast hx hb hK hP hD hS 1 1 rfl rfl (show vp_in 0 10 by unfold vp_in; decide) dX1_layLine_102 (fun H locs hP hD hS => ?_)
  have hP : va_P (dC, dI) vwCl [(b1, .inl (kb1, 10, .inl (fun _ => 0))), (b2, .inl (kb2, 10, .inl (upd fq 0 (-6)))), (b3, .inl (kb3, 100, .inl (fun _ => 0))), (h0, .inr (1, [w0, .ref b1, .ref b2, .ref b3, w4, .ref r0, w6, w7])), (r0, .inr (4, [y0, .ref a1, .ref a2, .int 1])), (a1, .inl (ka1, 4, .inl (fun _ => 0))), (a2, .inl (ka2, 4, .inl (fun _ => 0)))] H := hP
  have hD : va_D A [(b1, .inl (kb1, 10, .inl (fun _ => 0))), (b2, .inl (kb2, 10, .inl (upd fq 0 (-6)))), (b3, .inl (kb3, 100, .inl (fun _ => 0))), (h0, .inr (1, [w0, .ref b1, .ref b2, .ref b3, w4, .ref r0, w6, w7])), (r0, .inr (4, [y0, .ref a1, .ref a2, .int 1])), (a1, .inl (ka1, 4, .inl (fun _ => 0))), (a2, .inl (ka2, 4, .inl (fun _ => 0)))] := hD
  refine lv_aload_n hx hb dX1_layLine_103 rfl (lv_at hl 3 rfl) ?_
  refine va_get (D := (dC, dI)) (ci := 1) (v := .ref b1) (C := RX1) (T := TX1) (N := 8) hx hb hts inB_1 hown hK hP 3 rfl rfl 1 (by decide) (hts _ mw_1_48) (fun _ h9 => h9) rfl dX1_layLine_104 ?_
  refine lv_iload_n hx hb dX1_layLine_107 rfl (lv_at hl 4 rfl) ?_
  refine lv_iload hx hb dX1_layLine_108 (lv_at hl 0 rfl) ?_
  refine lv_if_ne (tgt := 117) hx hb dX1_layLine_110 (by decide) (fun h => absurd h (by decide)) (fun _ => ?_)
  refine lv_iload_n hx hb dX1_layLine_113 rfl (lv_at hl 2 rfl) ?_
  refine lv_goto (tgt := 118) hx hb dX1_layLine_114 (by decide) ?_
  refine va_iast hx hb hK hP hD hS 0 0 rfl rfl (show vp_in 0 10 by unfold vp_in; decide) dX1_layLine_118 (fun H locs hP hD hS => ?_)
  rw [show upd (fun _ => 0) (Int32.toNatClampNeg 0) 1 = (slF 1 0 1) from slF_u0 _ _] at hP hD
  have hP : va_P (dC, dI) vwCl [(b1, .inl (kb1, 10, .inl (slF 1 0 1))), (b2, .inl (kb2, 10, .inl (upd fq 0 (-6)))), (b3, .inl (kb3, 100, .inl (fun _ => 0))), (h0, .inr (1, [w0, .ref b1, .ref b2, .ref b3, w4, .ref r0, w6, w7])), (r0, .inr (4, [y0, .ref a1, .ref a2, .int 1])), (a1, .inl (ka1, 4, .inl (fun _ => 0))), (a2, .inl (ka2, 4, .inl (fun _ => 0)))] H := hP
  have hD : va_D A [(b1, .inl (kb1, 10, .inl (slF 1 0 1))), (b2, .inl (kb2, 10, .inl (upd fq 0 (-6)))), (b3, .inl (kb3, 100, .inl (fun _ => 0))), (h0, .inr (1, [w0, .ref b1, .ref b2, .ref b3, w4, .ref r0, w6, w7])), (r0, .inr (4, [y0, .ref a1, .ref a2, .int 1])), (a1, .inl (ka1, 4, .inl (fun _ => 0))), (a2, .inl (ka2, 4, .inl (fun _ => 0)))] := hD
  exact W.vret hx hb hr (fun t ht hW => ⟨⟨(), rfl, trivial, by rw [ht]; exact hP, va_K.moved hW.alike hK, hD⟩, hS.F ht⟩) hS.2.2 dX1_layLine_119
set_option maxHeartbeats 4000000 in
set_option maxRecDepth 100000 in
theorem c_add (l : Launch) (dC : Nat → ClassId) (dI : Nat → Nat → Nat) (sz : Nat) (h0 : Nat) (b0 : Nat) (b1 : Nat) (b2 : Nat) (b3 : Nat) (b4 : Nat) (r0 : Nat) (w7 : Value) (kb0 : ClassId) (kb1 : ClassId) (kb2 : ClassId) (kb3 : ClassId) (kb4 : ClassId) (y0 : Value) (a1 : Nat) (a2 : Nat) (ka1 : ClassId) (ka2 : ClassId) (n1 : Int32) (n2 : Int32) (n3 : Int32)  : Met l yX1_add (wq yX1_add cX1_add 8 (some .int)) ({ frames := 3, cells := 0, slots := 0, locals := 71 }) (va_Pc [.ref h0, .int 0, .int n1, .int n2, .int n3] (pcW dC dI [(kb0, .int), (kb1, .int), (kb2, .int), (kb3, .int), (kb4, .int), (ka1, .int), (ka2, .int)] [(h0, .inr (1, [.ref b0, .ref b1, .ref b2, .ref b3, .ref b4, .ref r0, .int 0, w7])), (b0, .inl (kb0, 10, .inl (fun _ => 0))), (b1, .inl (kb1, 10, .inl (fun _ => 0))), (b2, .inl (kb2, 10, .inl (fun _ => 0))), (b3, .inl (kb3, 100, .inl (fun _ => 0))), (b4, .inl (kb4, 3, .inl (fun _ => 0))), (r0, .inr (4, [y0, .ref a1, .ref a2, .int 0])), (a1, .inl (ka1, 4, .inl (fun _ => 0))), (a2, .inl (ka2, 4, .inl (fun _ => 0)))] sz)) (va_Qi (fun (r : Int32) (_ : Unit) => r = 0) (fun _ _ => True) (va_A [(h0, .inr (1, [.ref b0, .ref b1, .ref b2, .ref b3, .ref b4, .ref r0, .int 0, w7])), (b0, .inl (kb0, 10, .inl (fun _ => 0))), (b1, .inl (kb1, 10, .inl (fun _ => 0))), (b2, .inl (kb2, 10, .inl (fun _ => 0))), (b3, .inl (kb3, 100, .inl (fun _ => 0))), (b4, .inl (kb4, 3, .inl (fun _ => 0))), (r0, .inr (4, [y0, .ref a1, .ref a2, .int 0])), (a1, .inl (ka1, 4, .inl (fun _ => 0))), (a2, .inl (ka2, 4, .inl (fun _ => 0)))] sz)) 0 0 (va_A [(h0, .inr (1, [.ref b0, .ref b1, .ref b2, .ref b3, .ref b4, .ref r0, .int 0, w7])), (b0, .inl (kb0, 10, .inl (fun _ => 0))), (b1, .inl (kb1, 10, .inl (fun _ => 0))), (b2, .inl (kb2, 10, .inl (fun _ => 0))), (b3, .inl (kb3, 100, .inl (fun _ => 0))), (b4, .inl (kb4, 3, .inl (fun _ => 0))), (r0, .inr (4, [y0, .ref a1, .ref a2, .int 0])), (a1, .inl (ka1, 4, .inl (fun _ => 0))), (a2, .inl (ka2, 4, .inl (fun _ => 0)))] sz) := by
  refine Met.ofW (cc := cX1_add) (maxL := 8) (ret := (some .int)) (by decide) rfl ?_
  intro p e s m args below meth c s₁ B hml hv
  obtain ⟨rfl, hsz, hN, hP, hK, hD0⟩ := hv
  have hx := B.exec
  have hb := B.bytes
  have hr := B.returns
  have hts0 := atoms_spec (ws := (wq yX1_add cX1_add 8 (some .int))) B.pre
  have hts : ∀ w ∈ BG, w.before _ s = true := fun w h => hts0 w (List.mem_cons_of_mem _ h)
  have hown : s.vm.findClass RX1 = some m.cls := findClass_of_methodNamed B.named
  have hlocks := B.notSynchronized
  subst hsz
  have hD := hD0.self (sz := s.heap.size)
  generalize hAe : va_A [(h0, .inr (1, [.ref b0, .ref b1, .ref b2, .ref b3, .ref b4, .ref r0, .int 0, w7])), (b0, .inl (kb0, 10, .inl (fun _ => 0))), (b1, .inl (kb1, 10, .inl (fun _ => 0))), (b2, .inl (kb2, 10, .inl (fun _ => 0))), (b3, .inl (kb3, 100, .inl (fun _ => 0))), (b4, .inl (kb4, 3, .inl (fun _ => 0))), (r0, .inr (4, [y0, .ref a1, .ref a2, .int 0])), (a1, .inl (ka1, 4, .inl (fun _ => 0))), (a2, .inl (ka2, 4, .inl (fun _ => 0)))] s.heap.size = A at hD ⊢
  have hA : ∀ q : Nat, s.heap.size ≤ q → A q := fun q h => by rw [← hAe]; exact Or.inr h
  have hS : va_S A s.heap s.heap [] := va_S.rf
  have hP : va_P (dC, dI) vwCl [(h0, .inr (1, [.ref b0, .ref b1, .ref b2, .ref b3, .ref b4, .ref r0, .int 0, w7])), (b0, .inl (kb0, 10, .inl (fun _ => 0))), (b1, .inl (kb1, 10, .inl (fun _ => 0))), (b2, .inl (kb2, 10, .inl (fun _ => 0))), (b3, .inl (kb3, 100, .inl (fun _ => 0))), (b4, .inl (kb4, 3, .inl (fun _ => 0))), (r0, .inr (4, [y0, .ref a1, .ref a2, .int 0])), (a1, .inl (ka1, 4, .inl (fun _ => 0))), (a2, .inl (ka2, 4, .inl (fun _ => 0)))] s.heap := hP
  have hl := lv_entry ([.ref h0, .int 0, .int n1, .int n2, .int n3]) (n := 8) (Nat.le_of_ble_eq_true rfl)
  rw [lg_entry_eq]
  generalize (lg_sl ([.ref h0, .int 0, .int n1, .int n2, .int n3]) ++ List.replicate (8 - (lg_sl ([.ref h0, .int 0, .int n1, .int n2, .int n3])).length) Slot.unset).toArray = ls at hl ⊢
  have hl : lv_has ls 8 [(0, .ref h0), (1, .int 0), (2, .int n1), (3, .int n2), (4, .int n3)] := hl
  skip
  refine lv_aload_n hx hb dX1_add_0 rfl (lv_at hl 0 rfl) ?_
  have hPc := hP.sub (ws' := [(h0, .inr (1, [.ref b0, .ref b1, .ref b2, .ref b3, .ref b4, .ref r0, .int 0, w7]))]) [0] rfl
  have hDc := hD.sub (ws' := [(h0, .inr (1, [.ref b0, .ref b1, .ref b2, .ref b3, .ref b4, .ref r0, .int 0, w7]))]) [0] (by decide) rfl
  have hKc := hK.sub (tys' := []) [] rfl
  refine va_calli (va_runV (As := []) (rest := []) ⟨hx, hb, hml, hown, hts⟩ (c_isFull l dC dI s.heap.size h0 (.ref b0) (.ref b1) (.ref b2) (.ref b3) (.ref b4) (.ref r0) (w7)) (cwV 0 hts (gV mw_1_203 mw_1_196 mw_1_197 mw_1_2 mw_1_198) rfl rfl rfl (by decide +kernel) ⟨Nat.le_of_ble_eq_true rfl, Nat.le_of_ble_eq_true rfl⟩) ⟨pcW_blind, va_recv hKc hPc (ci := 1) (q0 := 0) rfl rfl, pcW_at hPc hKc hDc hN⟩ rfl rfl hl.1 rfl (lv_room (Nat.le_of_ble_eq_true rfl)) dX1_add_1 ⟨Nat.le_of_ble_eq_true rfl, Nat.le_of_ble_eq_true rfl⟩) hS (fun q h1 h2 => absurd h2 (Nat.not_le.mpr h1)) (fun q h => hA q (Nat.le_trans hS.1 h)) (fun r_1 u t H1 locs ht hvm hw_1 hB hz1 hk1 hS => ?_)
  have hP := keepP hP hk1
  clear hz1 hk1 hB ht hvm hPc hDc hKc
  generalize H1 = H at hP hS ⊢
  obtain rfl : r_1 = 0 := hw_1
  refine lv_if_ne (tgt := 16) hx hb dX1_add_4 (by decide) (fun h => absurd h (by decide)) (fun _ => ?_)
  refine lv_iload_n hx hb dX1_add_7 rfl (lv_at hl 1 rfl) ?_
  refine lv_if_lt (tgt := 16) hx hb dX1_add_8 (by decide) (fun h => absurd h (by decide)) (fun _ => ?_)
  refine lv_iload_n hx hb dX1_add_11 rfl (lv_at hl 1 rfl) ?_
  refine lv_iconst (v := 3) hx hb dX1_add_12 (by decide) ?_
  refine lv_icmp_le (tgt := 19) hx hb dX1_add_13 (by decide) (fun _ => ?_) (fun h => absurd (by decide) h)
  refine lv_aload_n hx hb dX1_add_19 rfl (lv_at hl 0 rfl) ?_
  refine va_get (D := (dC, dI)) (ci := 1) (v := .int 0) (C := RX1) (T := TX1) (N := 8) hx hb hts inB_1 hown hK hP 0 rfl rfl 6 (by decide) (hts _ mw_1_53) (fun _ h9 => h9) rfl dX1_add_20 ?_
  refine lv_istore (lv' := [(5, .int 0), (0, .ref h0), (1, .int 0), (2, .int n1), (3, .int n2), (4, .int n3)]) hx hb dX1_add_23 hl (by decide) rfl (fun ls hl => ?_)
  refine lv_aload_n hx hb dX1_add_25 rfl (lv_at hl 1 rfl) ?_
  refine va_get (D := (dC, dI)) (ci := 1) (v := .ref b4) (C := RX1) (T := TX1) (N := 8) hx hb hts inB_1 hown hK hP 0 rfl rfl 4 (by decide) (hts _ mw_1_51) (fun _ h9 => h9) rfl dX1_add_26 ?_
  refine lv_iconst (v := 0) hx hb dX1_add_29 (by decide) ?_
  refine lv_iload_n hx hb dX1_add_30 rfl (lv_at hl 3 rfl) ?_
  refine va_iast hx hb hK hP hD hS 5 4 rfl rfl (show vp_in 0 3 by unfold vp_in; decide) dX1_add_31 (fun H locs hP hD hS => ?_)
  have hP : va_P (dC, dI) vwCl [(h0, .inr (1, [.ref b0, .ref b1, .ref b2, .ref b3, .ref b4, .ref r0, .int 0, w7])), (b0, .inl (kb0, 10, .inl (fun _ => 0))), (b1, .inl (kb1, 10, .inl (fun _ => 0))), (b2, .inl (kb2, 10, .inl (fun _ => 0))), (b3, .inl (kb3, 100, .inl (fun _ => 0))), (b4, .inl (kb4, 3, .inl (upd (fun _ => 0) 0 n1))), (r0, .inr (4, [y0, .ref a1, .ref a2, .int 0])), (a1, .inl (ka1, 4, .inl (fun _ => 0))), (a2, .inl (ka2, 4, .inl (fun _ => 0)))] H := hP
  have hD : va_D A [(h0, .inr (1, [.ref b0, .ref b1, .ref b2, .ref b3, .ref b4, .ref r0, .int 0, w7])), (b0, .inl (kb0, 10, .inl (fun _ => 0))), (b1, .inl (kb1, 10, .inl (fun _ => 0))), (b2, .inl (kb2, 10, .inl (fun _ => 0))), (b3, .inl (kb3, 100, .inl (fun _ => 0))), (b4, .inl (kb4, 3, .inl (upd (fun _ => 0) 0 n1))), (r0, .inr (4, [y0, .ref a1, .ref a2, .int 0])), (a1, .inl (ka1, 4, .inl (fun _ => 0))), (a2, .inl (ka2, 4, .inl (fun _ => 0)))] := hD
  refine lv_aload_n hx hb dX1_add_32 rfl (lv_at hl 1 rfl) ?_
  refine va_get (D := (dC, dI)) (ci := 1) (v := .ref b4) (C := RX1) (T := TX1) (N := 8) hx hb hts inB_1 hown hK hP 0 rfl rfl 4 (by decide) (hts _ mw_1_51) (fun _ h9 => h9) rfl dX1_add_33 ?_
  refine lv_iconst (v := 1) hx hb dX1_add_36 (by decide) ?_
  refine lv_iload_n hx hb dX1_add_37 rfl (lv_at hl 4 rfl) ?_
  refine va_iast hx hb hK hP hD hS 5 4 rfl rfl (show vp_in 1 3 by unfold vp_in; decide) dX1_add_38 (fun H locs hP hD hS => ?_)
  have hP : va_P (dC, dI) vwCl [(h0, .inr (1, [.ref b0, .ref b1, .ref b2, .ref b3, .ref b4, .ref r0, .int 0, w7])), (b0, .inl (kb0, 10, .inl (fun _ => 0))), (b1, .inl (kb1, 10, .inl (fun _ => 0))), (b2, .inl (kb2, 10, .inl (fun _ => 0))), (b3, .inl (kb3, 100, .inl (fun _ => 0))), (b4, .inl (kb4, 3, .inl (upd (upd (fun _ => 0) 0 n1) 1 n2))), (r0, .inr (4, [y0, .ref a1, .ref a2, .int 0])), (a1, .inl (ka1, 4, .inl (fun _ => 0))), (a2, .inl (ka2, 4, .inl (fun _ => 0)))] H := hP
  have hD : va_D A [(h0, .inr (1, [.ref b0, .ref b1, .ref b2, .ref b3, .ref b4, .ref r0, .int 0, w7])), (b0, .inl (kb0, 10, .inl (fun _ => 0))), (b1, .inl (kb1, 10, .inl (fun _ => 0))), (b2, .inl (kb2, 10, .inl (fun _ => 0))), (b3, .inl (kb3, 100, .inl (fun _ => 0))), (b4, .inl (kb4, 3, .inl (upd (upd (fun _ => 0) 0 n1) 1 n2))), (r0, .inr (4, [y0, .ref a1, .ref a2, .int 0])), (a1, .inl (ka1, 4, .inl (fun _ => 0))), (a2, .inl (ka2, 4, .inl (fun _ => 0)))] := hD
  refine lv_aload_n hx hb dX1_add_39 rfl (lv_at hl 1 rfl) ?_
  refine va_get (D := (dC, dI)) (ci := 1) (v := .ref b4) (C := RX1) (T := TX1) (N := 8) hx hb hts inB_1 hown hK hP 0 rfl rfl 4 (by decide) (hts _ mw_1_51) (fun _ h9 => h9) rfl dX1_add_40 ?_
  refine lv_iconst (v := 2) hx hb dX1_add_43 (by decide) ?_
  refine lv_iload hx hb dX1_add_44 (lv_at hl 5 rfl) ?_
  refine va_iast hx hb hK hP hD hS 5 4 rfl rfl (show vp_in 2 3 by unfold vp_in; decide) dX1_add_46 (fun H locs hP hD hS => ?_)
  have hP : va_P (dC, dI) vwCl [(h0, .inr (1, [.ref b0, .ref b1, .ref b2, .ref b3, .ref b4, .ref r0, .int 0, w7])), (b0, .inl (kb0, 10, .inl (fun _ => 0))), (b1, .inl (kb1, 10, .inl (fun _ => 0))), (b2, .inl (kb2, 10, .inl (fun _ => 0))), (b3, .inl (kb3, 100, .inl (fun _ => 0))), (b4, .inl (kb4, 3, .inl (upd (upd (upd (fun _ => 0) 0 n1) 1 n2) 2 n3))), (r0, .inr (4, [y0, .ref a1, .ref a2, .int 0])), (a1, .inl (ka1, 4, .inl (fun _ => 0))), (a2, .inl (ka2, 4, .inl (fun _ => 0)))] H := hP
  have hD : va_D A [(h0, .inr (1, [.ref b0, .ref b1, .ref b2, .ref b3, .ref b4, .ref r0, .int 0, w7])), (b0, .inl (kb0, 10, .inl (fun _ => 0))), (b1, .inl (kb1, 10, .inl (fun _ => 0))), (b2, .inl (kb2, 10, .inl (fun _ => 0))), (b3, .inl (kb3, 100, .inl (fun _ => 0))), (b4, .inl (kb4, 3, .inl (upd (upd (upd (fun _ => 0) 0 n1) 1 n2) 2 n3))), (r0, .inr (4, [y0, .ref a1, .ref a2, .int 0])), (a1, .inl (ka1, 4, .inl (fun _ => 0))), (a2, .inl (ka2, 4, .inl (fun _ => 0)))] := hD
  refine lv_aload_n hx hb dX1_add_47 rfl (lv_at hl 1 rfl) ?_
  refine va_get (D := (dC, dI)) (ci := 1) (v := .ref b0) (C := RX1) (T := TX1) (N := 8) hx hb hts inB_1 hown hK hP 0 rfl rfl 0 (by decide) (hts _ mw_1_47) (fun _ h9 => h9) rfl dX1_add_48 ?_
  refine lv_iload hx hb dX1_add_51 (lv_at hl 0 rfl) ?_
  refine lv_iconst (v := 0) hx hb dX1_add_53 (by decide) ?_
  refine va_iast hx hb hK hP hD hS 1 0 rfl rfl (show vp_in 0 10 by unfold vp_in; decide) dX1_add_54 (fun H locs hP hD hS => ?_)
  rw [show upd (fun _ => 0) (Int32.toNatClampNeg 0) 0 = (fun _ => 0) from upd_const _ _] at hP hD
  have hP : va_P (dC, dI) vwCl [(h0, .inr (1, [.ref b0, .ref b1, .ref b2, .ref b3, .ref b4, .ref r0, .int 0, w7])), (b0, .inl (kb0, 10, .inl (fun _ => 0))), (b1, .inl (kb1, 10, .inl (fun _ => 0))), (b2, .inl (kb2, 10, .inl (fun _ => 0))), (b3, .inl (kb3, 100, .inl (fun _ => 0))), (b4, .inl (kb4, 3, .inl (upd (upd (upd (fun _ => 0) 0 n1) 1 n2) 2 n3))), (r0, .inr (4, [y0, .ref a1, .ref a2, .int 0])), (a1, .inl (ka1, 4, .inl (fun _ => 0))), (a2, .inl (ka2, 4, .inl (fun _ => 0)))] H := hP
  have hD : va_D A [(h0, .inr (1, [.ref b0, .ref b1, .ref b2, .ref b3, .ref b4, .ref r0, .int 0, w7])), (b0, .inl (kb0, 10, .inl (fun _ => 0))), (b1, .inl (kb1, 10, .inl (fun _ => 0))), (b2, .inl (kb2, 10, .inl (fun _ => 0))), (b3, .inl (kb3, 100, .inl (fun _ => 0))), (b4, .inl (kb4, 3, .inl (upd (upd (upd (fun _ => 0) 0 n1) 1 n2) 2 n3))), (r0, .inr (4, [y0, .ref a1, .ref a2, .int 0])), (a1, .inl (ka1, 4, .inl (fun _ => 0))), (a2, .inl (ka2, 4, .inl (fun _ => 0)))] := hD
  refine lv_iconst (v := 1) hx hb dX1_add_55 (by decide) ?_
  refine lv_istore (lv' := [(6, .int 1), (5, .int 0), (0, .ref h0), (1, .int 0), (2, .int n1), (3, .int n2), (4, .int n3)]) hx hb dX1_add_56 hl (by decide) rfl (fun ls hl => ?_)
  refine lv_iconst (v := 0) hx hb dX1_add_58 (by decide) ?_
  refine lv_istore (lv' := [(7, .int 0), (6, .int 1), (5, .int 0), (0, .ref h0), (1, .int 0), (2, .int n1), (3, .int n2), (4, .int n3)]) hx hb dX1_add_59 hl (by decide) rfl (fun ls hl => ?_)
  refine lv_iload hx hb dX1_add_61 (lv_at hl 0 rfl) ?_
  refine lv_iload_n hx hb dX1_add_63 rfl (lv_at hl 4 rfl) ?_
  refine lv_icmp_ge (tgt := 121) hx hb dX1_add_64 (by decide) (fun _ => ?_) (fun h => absurd (by decide) h)
  refine lv_aload_n hx hb dX1_add_121 rfl (lv_at hl 3 rfl) ?_
  refine va_get (D := (dC, dI)) (ci := 1) (v := .ref b1) (C := RX1) (T := TX1) (N := 8) hx hb hts inB_1 hown hK hP 0 rfl rfl 1 (by decide) (hts _ mw_1_48) (fun _ h9 => h9) rfl dX1_add_122 ?_
  refine lv_iload hx hb dX1_add_125 (lv_at hl 2 rfl) ?_
  refine lv_iconst (v := 0) hx hb dX1_add_127 (by decide) ?_
  refine va_iast hx hb hK hP hD hS 2 1 rfl rfl (show vp_in 0 10 by unfold vp_in; decide) dX1_add_128 (fun H locs hP hD hS => ?_)
  rw [show upd (fun _ => 0) (Int32.toNatClampNeg 0) 0 = (fun _ => 0) from upd_const _ _] at hP hD
  have hP : va_P (dC, dI) vwCl [(h0, .inr (1, [.ref b0, .ref b1, .ref b2, .ref b3, .ref b4, .ref r0, .int 0, w7])), (b0, .inl (kb0, 10, .inl (fun _ => 0))), (b1, .inl (kb1, 10, .inl (fun _ => 0))), (b2, .inl (kb2, 10, .inl (fun _ => 0))), (b3, .inl (kb3, 100, .inl (fun _ => 0))), (b4, .inl (kb4, 3, .inl (upd (upd (upd (fun _ => 0) 0 n1) 1 n2) 2 n3))), (r0, .inr (4, [y0, .ref a1, .ref a2, .int 0])), (a1, .inl (ka1, 4, .inl (fun _ => 0))), (a2, .inl (ka2, 4, .inl (fun _ => 0)))] H := hP
  have hD : va_D A [(h0, .inr (1, [.ref b0, .ref b1, .ref b2, .ref b3, .ref b4, .ref r0, .int 0, w7])), (b0, .inl (kb0, 10, .inl (fun _ => 0))), (b1, .inl (kb1, 10, .inl (fun _ => 0))), (b2, .inl (kb2, 10, .inl (fun _ => 0))), (b3, .inl (kb3, 100, .inl (fun _ => 0))), (b4, .inl (kb4, 3, .inl (upd (upd (upd (fun _ => 0) 0 n1) 1 n2) 2 n3))), (r0, .inr (4, [y0, .ref a1, .ref a2, .int 0])), (a1, .inl (ka1, 4, .inl (fun _ => 0))), (a2, .inl (ka2, 4, .inl (fun _ => 0)))] := hD
  refine lv_aload_n hx hb dX1_add_129 rfl (lv_at hl 3 rfl) ?_
  refine va_get (D := (dC, dI)) (ci := 1) (v := .ref b2) (C := RX1) (T := TX1) (N := 8) hx hb hts inB_1 hown hK hP 0 rfl rfl 2 (by decide) (hts _ mw_1_49) (fun _ h9 => h9) rfl dX1_add_130 ?_
  refine lv_iload hx hb dX1_add_133 (lv_at hl 2 rfl) ?_
  refine lv_bipush (v := (-5)) hx hb dX1_add_135 (by decide) ?_
  refine va_iast hx hb hK hP hD hS 3 2 rfl rfl (show vp_in 0 10 by unfold vp_in; decide) dX1_add_137 (fun H locs hP hD hS => ?_)
  rw [show upd (fun _ => 0) (Int32.toNatClampNeg 0) (-5) = (slF (-5) 0 1) from slF_u0 _ _] at hP hD
  have hP : va_P (dC, dI) vwCl [(h0, .inr (1, [.ref b0, .ref b1, .ref b2, .ref b3, .ref b4, .ref r0, .int 0, w7])), (b0, .inl (kb0, 10, .inl (fun _ => 0))), (b1, .inl (kb1, 10, .inl (fun _ => 0))), (b2, .inl (kb2, 10, .inl (slF (-5) 0 1))), (b3, .inl (kb3, 100, .inl (fun _ => 0))), (b4, .inl (kb4, 3, .inl (upd (upd (upd (fun _ => 0) 0 n1) 1 n2) 2 n3))), (r0, .inr (4, [y0, .ref a1, .ref a2, .int 0])), (a1, .inl (ka1, 4, .inl (fun _ => 0))), (a2, .inl (ka2, 4, .inl (fun _ => 0)))] H := hP
  have hD : va_D A [(h0, .inr (1, [.ref b0, .ref b1, .ref b2, .ref b3, .ref b4, .ref r0, .int 0, w7])), (b0, .inl (kb0, 10, .inl (fun _ => 0))), (b1, .inl (kb1, 10, .inl (fun _ => 0))), (b2, .inl (kb2, 10, .inl (slF (-5) 0 1))), (b3, .inl (kb3, 100, .inl (fun _ => 0))), (b4, .inl (kb4, 3, .inl (upd (upd (upd (fun _ => 0) 0 n1) 1 n2) 2 n3))), (r0, .inr (4, [y0, .ref a1, .ref a2, .int 0])), (a1, .inl (ka1, 4, .inl (fun _ => 0))), (a2, .inl (ka2, 4, .inl (fun _ => 0)))] := hD
  refine lv_iload hx hb dX1_add_138 (lv_at hl 1 rfl) ?_
  refine lv_if_eq (tgt := 150) hx hb dX1_add_140 (by decide) (fun h => absurd h (by decide)) (fun _ => ?_)
  refine lv_aload_n hx hb dX1_add_143 rfl (lv_at hl 3 rfl) ?_
  refine lv_iload hx hb dX1_add_144 (lv_at hl 2 rfl) ?_
  refine lv_iload_n hx hb dX1_add_146 rfl (lv_at hl 4 rfl) ?_
  have hPc := hP.sub (ws' := [(h0, .inr (1, [.ref b0, .ref b1, .ref b2, .ref b3, .ref b4, .ref r0, .int 0, w7])), (b1, .inl (kb1, 10, .inl (fun _ => 0))), (b2, .inl (kb2, 10, .inl (slF (-5) 0 1))), (b3, .inl (kb3, 100, .inl (fun _ => 0))), (r0, .inr (4, [y0, .ref a1, .ref a2, .int 0])), (a1, .inl (ka1, 4, .inl (fun _ => 0))), (a2, .inl (ka2, 4, .inl (fun _ => 0)))]) [0, 2, 3, 4, 6, 7, 8] rfl
  have hDc := hD.sub (ws' := [(h0, .inr (1, [.ref b0, .ref b1, .ref b2, .ref b3, .ref b4, .ref r0, .int 0, w7])), (b1, .inl (kb1, 10, .inl (fun _ => 0))), (b2, .inl (kb2, 10, .inl (slF (-5) 0 1))), (b3, .inl (kb3, 100, .inl (fun _ => 0))), (r0, .inr (4, [y0, .ref a1, .ref a2, .int 0])), (a1, .inl (ka1, 4, .inl (fun _ => 0))), (a2, .inl (ka2, 4, .inl (fun _ => 0)))]) [0, 2, 3, 4, 6, 7, 8] (by decide) rfl
  have hKc := hK.sub (tys' := [(kb1, .int), (kb2, .int), (kb3, .int), (ka1, .int), (ka2, .int)]) [1, 2, 3, 5, 6] rfl
  have hFc := va_free (wc := [(h0, .inr (1, [.ref b0, .ref b1, .ref b2, .ref b3, .ref b4, .ref r0, .int 0, w7])), (b1, .inl (kb1, 10, .inl (fun _ => 0))), (b2, .inl (kb2, 10, .inl (slF (-5) 0 1))), (b3, .inl (kb3, 100, .inl (fun _ => 0))), (r0, .inr (4, [y0, .ref a1, .ref a2, .int 0])), (a1, .inl (ka1, 4, .inl (fun _ => 0))), (a2, .inl (ka2, 4, .inl (fun _ => 0)))]) hD hS hA [0, 2, 3, 4, 6, 7, 8] rfl
  refine va_callv (va_runV (As := [.int 0, .int 0]) (rest := []) ⟨hx, hb, hml, hown, hts⟩ (c_layLine l dC dI H.size h0 (.ref b0) b1 b2 b3 (.ref b4) r0 (.int 0) (w7) kb1 kb2 (slF (-5) 0 1) kb3 (y0) a1 a2 ka1 ka2) (cwV 2 hts (gV mw_1_217 mw_1_219 mw_0_0 mw_1_2 mw_1_220) rfl rfl rfl (by decide +kernel) ⟨Nat.le_of_ble_eq_true rfl, Nat.le_of_ble_eq_true rfl⟩) ⟨pcW_blind, va_recv hKc hPc (ci := 1) (q0 := 0) rfl rfl, pcW_at hPc hKc hDc hN⟩ rfl rfl hl.1 rfl (lv_room (Nat.le_of_ble_eq_true rfl)) dX1_add_147 ⟨Nat.le_of_ble_eq_true rfl, Nat.le_of_ble_eq_true rfl⟩) hS (fun q _ h => hFc q h) hFc (fun u t H1 locs ht hvm hw_2 hB hz1 hk1 hS => ?_)
  obtain ⟨hP1, hK1, hD1⟩ := hB
  rw [ht] at hP1
  have hK1 := va_K.moved hvm.symm hK1
  obtain ⟨hP, hD⟩ := va_join (wr := [(b0, .inl (kb0, 10, .inl (fun _ => 0))), (b4, .inl (kb4, 3, .inl (upd (upd (upd (fun _ => 0) 0 n1) 1 n2) 2 n3)))]) (w1 := [(b1, .inl (kb1, 10, .inl (slF 1 0 1))), (b2, .inl (kb2, 10, .inl (upd (slF (-5) 0 1) 0 (-6)))), (b3, .inl (kb3, 100, .inl (fun _ => 0))), (h0, .inr (1, [.ref b0, .ref b1, .ref b2, .ref b3, .ref b4, .ref r0, .int 0, w7])), (r0, .inr (4, [y0, .ref a1, .ref a2, .int 1])), (a1, .inl (ka1, 4, .inl (fun _ => 0))), (a2, .inl (ka2, 4, .inl (fun _ => 0)))]) hP hD [0, 2, 3, 4, 6, 7, 8] [1, 5] rfl rfl (by decide) (by decide) hk1 hFc hP1 hD1
  have hK := (hK.sub (tys' := [(kb0, .int), (kb4, .int)]) [0, 4] rfl).app hK1
  clear hz1 hk1 hPc hDc hKc hFc
  generalize H1 = H at hP hS ⊢
  have hK : va_K (dC, dI) vwCl [(kb0, .int), (kb4, .int), (kb1, .int), (kb2, .int), (kb3, .int), (ka1, .int), (ka2, .int)] s := hK
  have hP : va_P (dC, dI) vwCl [(b0, .inl (kb0, 10, .inl (fun _ => 0))), (b4, .inl (kb4, 3, .inl (upd (upd (upd (fun _ => 0) 0 n1) 1 n2) 2 n3))), (b1, .inl (kb1, 10, .inl (slF 1 0 1))), (b2, .inl (kb2, 10, .inl (upd (slF (-5) 0 1) 0 (-6)))), (b3, .inl (kb3, 100, .inl (fun _ => 0))), (h0, .inr (1, [.ref b0, .ref b1, .ref b2, .ref b3, .ref b4, .ref r0, .int 0, w7])), (r0, .inr (4, [y0, .ref a1, .ref a2, .int 1])), (a1, .inl (ka1, 4, .inl (fun _ => 0))), (a2, .inl (ka2, 4, .inl (fun _ => 0)))] H := hP
  have hD : va_D A [(b0, .inl (kb0, 10, .inl (fun _ => 0))), (b4, .inl (kb4, 3, .inl (upd (upd (upd (fun _ => 0) 0 n1) 1 n2) 2 n3))), (b1, .inl (kb1, 10, .inl (slF 1 0 1))), (b2, .inl (kb2, 10, .inl (upd (slF (-5) 0 1) 0 (-6)))), (b3, .inl (kb3, 100, .inl (fun _ => 0))), (h0, .inr (1, [.ref b0, .ref b1, .ref b2, .ref b3, .ref b4, .ref r0, .int 0, w7])), (r0, .inr (4, [y0, .ref a1, .ref a2, .int 1])), (a1, .inl (ka1, 4, .inl (fun _ => 0))), (a2, .inl (ka2, 4, .inl (fun _ => 0)))] := hD
  refine lv_aload_n hx hb dX1_add_150 rfl (lv_at hl 3 rfl) ?_
  refine lv_dup hx hb dX1_add_151 rfl ?_
  refine va_get (D := (dC, dI)) (ci := 1) (v := .int 0) (C := RX1) (T := TX1) (N := 8) hx hb hts inB_1 hown hK hP 5 rfl rfl 6 (by decide) (hts _ mw_1_53) (fun _ h9 => h9) rfl dX1_add_152 ?_
  refine lv_iconst (v := 1) hx hb dX1_add_155 (by decide) ?_
  refine lv_iadd hx hb dX1_add_156 ?_
  refine hx_top (y := 1) (by decide) ?_
  refine va_put (D := (dC, dI)) (ci := 1) (v := .int 1) (ty := .int) (C := RX1) (T := TX1) (N := 8) hx hb hts inB_1 tyX1 tyX1_ok nmX1 hown hK hP hD hS 5 rfl rfl 6 (by decide) (hts _ mw_1_53) (fun _ h9 => h9) rfl (by decide +kernel) rfl rfl (Nat.le_of_ble_eq_true rfl) dX1_add_157 (fun H locs hP hD hS => ?_)
  have hP : va_P (dC, dI) vwCl [(b0, .inl (kb0, 10, .inl (fun _ => 0))), (b4, .inl (kb4, 3, .inl (upd (upd (upd (fun _ => 0) 0 n1) 1 n2) 2 n3))), (b1, .inl (kb1, 10, .inl (slF 1 0 1))), (b2, .inl (kb2, 10, .inl (upd (slF (-5) 0 1) 0 (-6)))), (b3, .inl (kb3, 100, .inl (fun _ => 0))), (h0, .inr (1, [.ref b0, .ref b1, .ref b2, .ref b3, .ref b4, .ref r0, .int 1, w7])), (r0, .inr (4, [y0, .ref a1, .ref a2, .int 1])), (a1, .inl (ka1, 4, .inl (fun _ => 0))), (a2, .inl (ka2, 4, .inl (fun _ => 0)))] H := hP
  have hD : va_D A [(b0, .inl (kb0, 10, .inl (fun _ => 0))), (b4, .inl (kb4, 3, .inl (upd (upd (upd (fun _ => 0) 0 n1) 1 n2) 2 n3))), (b1, .inl (kb1, 10, .inl (slF 1 0 1))), (b2, .inl (kb2, 10, .inl (upd (slF (-5) 0 1) 0 (-6)))), (b3, .inl (kb3, 100, .inl (fun _ => 0))), (h0, .inr (1, [.ref b0, .ref b1, .ref b2, .ref b3, .ref b4, .ref r0, .int 1, w7])), (r0, .inr (4, [y0, .ref a1, .ref a2, .int 1])), (a1, .inl (ka1, 4, .inl (fun _ => 0))), (a2, .inl (ka2, 4, .inl (fun _ => 0)))] := hD
  refine lv_iload hx hb dX1_add_160 (lv_at hl 2 rfl) ?_
  exact W.iret (v := 0) hx hb hr (fun t ht hW => ⟨⟨0, (), rfl, rfl, trivial⟩, hS.F ht⟩) hS.2.2 dX1_add_162
end
section
/-- what a fresh object answers to its first call -/
def F_kind (n : Int32) : Int32 := if 1 ≤ n.toInt then -1 else if n.toInt < 0 then -2 else 0
def F_say (n : Int32) : Int32 := if n.toInt < 33 then -2 else if 126 < n.toInt then -2 else 1
def F_name (n : Int32) : Int32 := if n.toInt < 0 then -1 else if 7 < n.toInt then -1 else 0
def F_settle (n w : Int32) : Int32 := if n.toInt < 0 then -1 else if 7 < n.toInt then -1 else if w.toInt < 0 then -2 else if 1 < w.toInt then -2 else 0
def F_column (n : Int32) : Int32 := if n.toInt = -1 then 0 else if n.toInt < 0 then -1 else if 7 < n.toInt then -1 else -6
def F_packed (n : Int32) : Int32 := if n.toInt = -1 then 0 else -1
def F_slot (n : Int32) : Int32 := if n.toInt < 0 then -2 else if 99 < n.toInt then -2 else -6
def F_size (n v : Int32) : Int32 := if n.toInt < 0 then -1 else if 3 < n.toInt then -1 else if v.toInt < 1 then -2 else if 4 < v.toInt then -2 else 1
def F_hits (n w : Int32) : Int32 := if n.toInt < 0 then -1 else if 3 < n.toInt then -1 else if w.toInt < 0 then -2 else if w.toInt ≤ 2 then 0 else if w.toInt < 10 then -2 else if 13 < w.toInt then -2 else -6
def F_need (n h : Int32) : Int32 := if n.toInt < 0 then -1 else if 3 < n.toInt then -1 else if h.toInt < 0 then -2 else if 40 < h.toInt then -2 else if h.toInt = 0 then 1 else -6
def F_told (w : Int32) : Int32 := if w.toInt < 0 then -2 else if w.toInt ≤ 2 then 0 else if w.toInt < 10 then -2 else if 29 < w.toInt then -2 else 0
theorem mw_1_174 : Cond.laysFinal RX8 "AnswerLines" "kinds" "LAnswerLines$Kinds;" ∈ BG := mB (t1 (i := 174) (by decide +kernel)) (by decide +kernel)
theorem mw_1_176 : Cond.laysFinal RX8 "AnswerLines" "pad" "LAnswerLines$Pad;" ∈ BG := mB (t1 (i := 176) (by decide +kernel)) (by decide +kernel)
theorem mw_1_178 : Cond.laysFinal RX8 "AnswerLines" "bodies" "LAnswerLines$Bodies;" ∈ BG := mB (t1 (i := 178) (by decide +kernel)) (by decide +kernel)
theorem mw_1_180 : Cond.laysFinal RX8 "AnswerLines" "runner" "LAnswerLines$Runner;" ∈ BG := mB (t1 (i := 180) (by decide +kernel)) (by decide +kernel)
theorem mw_1_182 : Cond.laysFinal RX8 "AnswerLines" "table" "LAnswerLines$Table;" ∈ BG := mB (t1 (i := 182) (by decide +kernel)) (by decide +kernel)
theorem mw_1_184 : Cond.laysFinal RX8 "AnswerLines" "places" "LAnswerLines$Places;" ∈ BG := mB (t1 (i := 184) (by decide +kernel)) (by decide +kernel)
theorem inB_8 : ∀ w ∈ u_ws RX8 TX8 6, w ∈ BG := fun w hw => by
  obtain ⟨k, hk, rfl⟩ := List.mem_map.mp hw
  have hk := List.mem_range.mp hk
  rcases (by omega : k = 0 ∨ k = 1 ∨ k = 2 ∨ k = 3 ∨ k = 4 ∨ k = 5) with rfl | rfl | rfl | rfl | rfl | rfl
  · exact mw_1_174
  · exact mw_1_176
  · exact mw_1_178
  · exact mw_1_180
  · exact mw_1_182
  · exact mw_1_184
theorem mw_1_168 : Cond.fieldLink RX8 10 "AnswerLines" "kinds" "LAnswerLines$Kinds;" ∈ BG := mB (t1 (i := 168) (by decide +kernel)) (by decide +kernel)
theorem mw_1_195 : Cond.methodLink RX8 55 yX1_isFull ∈ BG := mB (t1 (i := 195) (by decide +kernel)) (by decide +kernel)
theorem mw_1_202 : Cond.code yX1_add cX1_add 8 (some .int) ∈ BG := mB (t1 (i := 202) rfl) (by decide +kernel)
theorem mw_1_199 : Cond.methodLink RX8 59 yX1_add ∈ BG := mB (t1 (i := 199) (by decide +kernel)) (by decide +kernel)
theorem mw_1_200 : Cond.instanceMethod yX1_add ∈ BG := mB (t1 (i := 200) (by decide +kernel)) (by decide +kernel)
theorem mw_1_201 : Cond.selects RX1 yX1_add yX1_add ∈ BG := mB (t1 (i := 201) (by decide +kernel)) (by decide +kernel)
theorem mw_1_191 : Cond.methodLink RX8 51 yX1_knows ∈ BG := mB (t1 (i := 191) (by decide +kernel)) (by decide +kernel)
theorem mw_1_169 : Cond.fieldLink RX8 19 "AnswerLines" "pad" "LAnswerLines$Pad;" ∈ BG := mB (t1 (i := 169) (by decide +kernel)) (by decide +kernel)
theorem mw_2_65 : Cond.methodLink RX8 90 yX2_isFull ∈ BG := mB (t2 (i := 65) (by decide +kernel)) (by decide +kernel)
theorem mw_2_72 : Cond.code yX2_put cX2_put 2 (some .int) ∈ BG := mB (t2 (i := 72) rfl) (by decide +kernel)
theorem mw_2_69 : Cond.methodLink RX8 91 yX2_put ∈ BG := mB (t2 (i := 69) (by decide +kernel)) (by decide +kernel)
theorem mw_2_70 : Cond.instanceMethod yX2_put ∈ BG := mB (t2 (i := 70) (by decide +kernel)) (by decide +kernel)
theorem mw_2_71 : Cond.selects RX2 yX2_put yX2_put ∈ BG := mB (t2 (i := 71) (by decide +kernel)) (by decide +kernel)
theorem mw_2_81 : Cond.code yX2_empty cX2_empty 2 (some .int) ∈ BG := mB (t2 (i := 81) rfl) (by decide +kernel)
theorem mw_2_78 : Cond.methodLink RX8 94 yX2_empty ∈ BG := mB (t2 (i := 78) (by decide +kernel)) (by decide +kernel)
theorem mw_2_79 : Cond.instanceMethod yX2_empty ∈ BG := mB (t2 (i := 79) (by decide +kernel)) (by decide +kernel)
theorem mw_2_80 : Cond.selects RX2 yX2_empty yX2_empty ∈ BG := mB (t2 (i := 80) (by decide +kernel)) (by decide +kernel)
theorem mw_2_89 : Cond.code yX2_firstFault cX2_firstFault 2 (some .int) ∈ BG := mB (t2 (i := 89) rfl) (by decide +kernel)
theorem mw_2_86 : Cond.methodLink RX8 98 yX2_firstFault ∈ BG := mB (t2 (i := 86) (by decide +kernel)) (by decide +kernel)
theorem mw_2_87 : Cond.instanceMethod yX2_firstFault ∈ BG := mB (t2 (i := 87) (by decide +kernel)) (by decide +kernel)
theorem mw_2_88 : Cond.selects RX2 yX2_firstFault yX2_firstFault ∈ BG := mB (t2 (i := 88) (by decide +kernel)) (by decide +kernel)
theorem dX8_kind_0 : decode cX8_kind 0 = .ok (.iload_n 1, 1) := by decide +kernel
theorem dX8_kind_1 : decode cX8_kind 1 = .ok (.iconst 1, 1) := by decide +kernel
theorem dX8_kind_2 : decode cX8_kind 2 = .ok (.if_icmp .lt 16, 3) := by decide +kernel
theorem dX8_kind_18 : decode cX8_kind 18 = .ok (.iload_n 1, 1) := by decide +kernel
theorem dX8_kind_19 : decode cX8_kind 19 = .ok (.iconst 2, 1) := by decide +kernel
theorem dX8_kind_20 : decode cX8_kind 20 = .ok (.if_icmp .lt 21, 3) := by decide +kernel
theorem dX8_kind_41 : decode cX8_kind 41 = .ok (.iload_n 1, 1) := by decide +kernel
theorem dX8_kind_42 : decode cX8_kind 42 = .ok (.iconst 3, 1) := by decide +kernel
theorem dX8_kind_43 : decode cX8_kind 43 = .ok (.if_icmp .lt 29, 3) := by decide +kernel
theorem dX8_kind_72 : decode cX8_kind 72 = .ok (.iload_n 1, 1) := by decide +kernel
theorem dX8_kind_73 : decode cX8_kind 73 = .ok (.ifCond .lt 8, 3) := by decide +kernel
theorem dX8_kind_81 : decode cX8_kind 81 = .ok (.bipush (-2), 2) := by decide +kernel
theorem dX8_kind_83 : decode cX8_kind 83 = .ok (.ireturn, 1) := by decide +kernel
theorem dX8_kind_76 : decode cX8_kind 76 = .ok (.iload_n 1, 1) := by decide +kernel
theorem dX8_kind_77 : decode cX8_kind 77 = .ok (.iconst 3, 1) := by decide +kernel
theorem dX8_kind_78 : decode cX8_kind 78 = .ok (.if_icmp .le 6, 3) := by decide +kernel
theorem dX8_kind_84 : decode cX8_kind 84 = .ok (.aload_n 0, 1) := by decide +kernel
theorem dX8_kind_85 : decode cX8_kind 85 = .ok (.getfield 10, 3) := by decide +kernel
theorem dX8_kind_88 : decode cX8_kind 88 = .ok (.invokevirtual 55, 3) := by decide +kernel
theorem dX8_kind_91 : decode cX8_kind 91 = .ok (.ifCond .eq 6, 3) := by decide +kernel
theorem dX8_kind_97 : decode cX8_kind 97 = .ok (.aload_n 0, 1) := by decide +kernel
theorem dX8_kind_98 : decode cX8_kind 98 = .ok (.getfield 10, 3) := by decide +kernel
theorem dX8_kind_101 : decode cX8_kind 101 = .ok (.iload_n 1, 1) := by decide +kernel
theorem dX8_kind_102 : decode cX8_kind 102 = .ok (.iload_n 2, 1) := by decide +kernel
theorem dX8_kind_103 : decode cX8_kind 103 = .ok (.iload_n 3, 1) := by decide +kernel
theorem dX8_kind_104 : decode cX8_kind 104 = .ok (.iload 4, 2) := by decide +kernel
theorem dX8_kind_106 : decode cX8_kind 106 = .ok (.invokevirtual 59, 3) := by decide +kernel
theorem dX8_kind_109 : decode cX8_kind 109 = .ok (.ireturn, 1) := by decide +kernel
theorem dX8_kind_5 : decode cX8_kind 5 = .ok (.aload_n 0, 1) := by decide +kernel
theorem dX8_kind_6 : decode cX8_kind 6 = .ok (.getfield 10, 3) := by decide +kernel
theorem dX8_kind_9 : decode cX8_kind 9 = .ok (.iload_n 2, 1) := by decide +kernel
theorem dX8_kind_10 : decode cX8_kind 10 = .ok (.invokevirtual 51, 3) := by decide +kernel
theorem dX8_kind_13 : decode cX8_kind 13 = .ok (.ifCond .ne 5, 3) := by decide +kernel
theorem dX8_kind_16 : decode cX8_kind 16 = .ok (.iconst (-1), 1) := by decide +kernel
theorem dX8_kind_17 : decode cX8_kind 17 = .ok (.ireturn, 1) := by decide +kernel
theorem dX8_bare_0 : decode cX8_bare 0 = .ok (.aload_n 0, 1) := by decide +kernel
theorem dX8_bare_1 : decode cX8_bare 1 = .ok (.getfield 10, 3) := by decide +kernel
theorem dX8_bare_4 : decode cX8_bare 4 = .ok (.iload_n 1, 1) := by decide +kernel
theorem dX8_bare_5 : decode cX8_bare 5 = .ok (.invokevirtual 51, 3) := by decide +kernel
theorem dX8_bare_8 : decode cX8_bare 8 = .ok (.ifCond .ne 5, 3) := by decide +kernel
theorem dX8_bare_11 : decode cX8_bare 11 = .ok (.iconst (-1), 1) := by decide +kernel
theorem dX8_bare_12 : decode cX8_bare 12 = .ok (.ireturn, 1) := by decide +kernel
theorem dX8_of_0 : decode cX8_of 0 = .ok (.aload_n 0, 1) := by decide +kernel
theorem dX8_of_1 : decode cX8_of 1 = .ok (.getfield 10, 3) := by decide +kernel
theorem dX8_of_4 : decode cX8_of 4 = .ok (.iload_n 1, 1) := by decide +kernel
theorem dX8_of_5 : decode cX8_of 5 = .ok (.invokevirtual 51, 3) := by decide +kernel
theorem dX8_of_8 : decode cX8_of 8 = .ok (.ifCond .ne 5, 3) := by decide +kernel
theorem dX8_of_11 : decode cX8_of 11 = .ok (.iconst (-1), 1) := by decide +kernel
theorem dX8_of_12 : decode cX8_of 12 = .ok (.ireturn, 1) := by decide +kernel
theorem dX8_line_0 : decode cX8_line 0 = .ok (.aload_n 0, 1) := by decide +kernel
theorem dX8_line_1 : decode cX8_line 1 = .ok (.getfield 10, 3) := by decide +kernel
theorem dX8_line_4 : decode cX8_line 4 = .ok (.iload_n 1, 1) := by decide +kernel
theorem dX8_line_5 : decode cX8_line 5 = .ok (.invokevirtual 51, 3) := by decide +kernel
theorem dX8_line_8 : decode cX8_line 8 = .ok (.ifCond .ne 5, 3) := by decide +kernel
theorem dX8_line_11 : decode cX8_line 11 = .ok (.iconst (-1), 1) := by decide +kernel
theorem dX8_line_12 : decode cX8_line 12 = .ok (.ireturn, 1) := by decide +kernel
theorem dX8_quarrel_0 : decode cX8_quarrel 0 = .ok (.aload_n 0, 1) := by decide +kernel
theorem dX8_quarrel_1 : decode cX8_quarrel 1 = .ok (.getfield 10, 3) := by decide +kernel
theorem dX8_quarrel_4 : decode cX8_quarrel 4 = .ok (.iload_n 1, 1) := by decide +kernel
theorem dX8_quarrel_5 : decode cX8_quarrel 5 = .ok (.invokevirtual 51, 3) := by decide +kernel
theorem dX8_quarrel_8 : decode cX8_quarrel 8 = .ok (.ifCond .ne 5, 3) := by decide +kernel
theorem dX8_quarrel_11 : decode cX8_quarrel 11 = .ok (.iconst (-1), 1) := by decide +kernel
theorem dX8_quarrel_12 : decode cX8_quarrel 12 = .ok (.ireturn, 1) := by decide +kernel
theorem dX8_say_0 : decode cX8_say 0 = .ok (.iload_n 1, 1) := by decide +kernel
theorem dX8_say_1 : decode cX8_say 1 = .ok (.bipush 33, 2) := by decide +kernel
theorem dX8_say_3 : decode cX8_say 3 = .ok (.if_icmp .lt 9, 3) := by decide +kernel
theorem dX8_say_12 : decode cX8_say 12 = .ok (.bipush (-2), 2) := by decide +kernel
theorem dX8_say_14 : decode cX8_say 14 = .ok (.ireturn, 1) := by decide +kernel
theorem dX8_say_6 : decode cX8_say 6 = .ok (.iload_n 1, 1) := by decide +kernel
theorem dX8_say_7 : decode cX8_say 7 = .ok (.bipush 126, 2) := by decide +kernel
theorem dX8_say_9 : decode cX8_say 9 = .ok (.if_icmp .le 6, 3) := by decide +kernel
theorem dX8_say_15 : decode cX8_say 15 = .ok (.aload_n 0, 1) := by decide +kernel
theorem dX8_say_16 : decode cX8_say 16 = .ok (.getfield 19, 3) := by decide +kernel
theorem dX8_say_19 : decode cX8_say 19 = .ok (.invokevirtual 90, 3) := by decide +kernel
theorem dX8_say_22 : decode cX8_say 22 = .ok (.ifCond .eq 6, 3) := by decide +kernel
theorem dX8_say_28 : decode cX8_say 28 = .ok (.aload_n 0, 1) := by decide +kernel
theorem dX8_say_29 : decode cX8_say 29 = .ok (.getfield 19, 3) := by decide +kernel
theorem dX8_say_32 : decode cX8_say 32 = .ok (.iload_n 1, 1) := by decide +kernel
theorem dX8_say_33 : decode cX8_say 33 = .ok (.invokevirtual 91, 3) := by decide +kernel
theorem dX8_say_36 : decode cX8_say 36 = .ok (.ireturn, 1) := by decide +kernel
theorem dX8_wipe_0 : decode cX8_wipe 0 = .ok (.aload_n 0, 1) := by decide +kernel
theorem dX8_wipe_1 : decode cX8_wipe 1 = .ok (.getfield 19, 3) := by decide +kernel
theorem dX8_wipe_4 : decode cX8_wipe 4 = .ok (.invokevirtual 94, 3) := by decide +kernel
theorem dX8_wipe_7 : decode cX8_wipe 7 = .ok (.ireturn, 1) := by decide +kernel
theorem dX8_fault_0 : decode cX8_fault 0 = .ok (.aload_n 0, 1) := by decide +kernel
theorem dX8_fault_1 : decode cX8_fault 1 = .ok (.getfield 19, 3) := by decide +kernel
theorem dX8_fault_4 : decode cX8_fault 4 = .ok (.invokevirtual 98, 3) := by decide +kernel
theorem dX8_fault_7 : decode cX8_fault 7 = .ok (.ireturn, 1) := by decide +kernel
theorem dX8_has_0 : decode cX8_has 0 = .ok (.aload_n 0, 1) := by decide +kernel
theorem dX8_has_1 : decode cX8_has 1 = .ok (.getfield 10, 3) := by decide +kernel
theorem dX8_has_4 : decode cX8_has 4 = .ok (.iload_n 1, 1) := by decide +kernel
theorem dX8_has_5 : decode cX8_has 5 = .ok (.invokevirtual 51, 3) := by decide +kernel
theorem dX8_has_8 : decode cX8_has 8 = .ok (.ifCond .eq 10, 3) := by decide +kernel
theorem dX8_has_18 : decode cX8_has 18 = .ok (.iconst (-1), 1) := by decide +kernel
theorem dX8_has_19 : decode cX8_has 19 = .ok (.ireturn, 1) := by decide +kernel
theorem dX8_drop_0 : decode cX8_drop 0 = .ok (.aload_n 0, 1) := by decide +kernel
theorem dX8_drop_1 : decode cX8_drop 1 = .ok (.getfield 10, 3) := by decide +kernel
theorem dX8_drop_4 : decode cX8_drop 4 = .ok (.iload_n 1, 1) := by decide +kernel
theorem dX8_drop_5 : decode cX8_drop 5 = .ok (.invokevirtual 51, 3) := by decide +kernel
theorem dX8_drop_8 : decode cX8_drop 8 = .ok (.ifCond .eq 10, 3) := by decide +kernel
theorem dX8_drop_18 : decode cX8_drop 18 = .ok (.iconst (-1), 1) := by decide +kernel
theorem dX8_drop_19 : decode cX8_drop 19 = .ok (.ireturn, 1) := by decide +kernel
theorem dX8_answer_0 : decode cX8_answer 0 = .ok (.aload_n 0, 1) := by decide +kernel
theorem dX8_answer_1 : decode cX8_answer 1 = .ok (.getfield 10, 3) := by decide +kernel
theorem dX8_answer_4 : decode cX8_answer 4 = .ok (.iload_n 1, 1) := by decide +kernel
theorem dX8_answer_5 : decode cX8_answer 5 = .ok (.invokevirtual 51, 3) := by decide +kernel
theorem dX8_answer_8 : decode cX8_answer 8 = .ok (.ifCond .eq 10, 3) := by decide +kernel
theorem dX8_answer_18 : decode cX8_answer 18 = .ok (.iconst (-1), 1) := by decide +kernel
theorem dX8_answer_19 : decode cX8_answer 19 = .ok (.ireturn, 1) := by decide +kernel
theorem dX8_next_0 : decode cX8_next 0 = .ok (.aload_n 0, 1) := by decide +kernel
theorem dX8_next_1 : decode cX8_next 1 = .ok (.getfield 10, 3) := by decide +kernel
theorem dX8_next_4 : decode cX8_next 4 = .ok (.iload_n 1, 1) := by decide +kernel
theorem dX8_next_5 : decode cX8_next 5 = .ok (.invokevirtual 51, 3) := by decide +kernel
theorem dX8_next_8 : decode cX8_next 8 = .ok (.ifCond .eq 21, 3) := by decide +kernel
theorem dX8_next_29 : decode cX8_next 29 = .ok (.iconst (-1), 1) := by decide +kernel
theorem dX8_next_30 : decode cX8_next 30 = .ok (.ireturn, 1) := by decide +kernel
theorem dX8_run_0 : decode cX8_run 0 = .ok (.aload_n 0, 1) := by decide +kernel
theorem dX8_run_1 : decode cX8_run 1 = .ok (.getfield 10, 3) := by decide +kernel
theorem dX8_run_4 : decode cX8_run 4 = .ok (.iload_n 1, 1) := by decide +kernel
theorem dX8_run_5 : decode cX8_run 5 = .ok (.invokevirtual 51, 3) := by decide +kernel
theorem dX8_run_8 : decode cX8_run 8 = .ok (.ifCond .eq 10, 3) := by decide +kernel
theorem dX8_run_18 : decode cX8_run 18 = .ok (.iconst (-1), 1) := by decide +kernel
theorem dX8_run_19 : decode cX8_run 19 = .ok (.ireturn, 1) := by decide +kernel
theorem dX8_nearest_0 : decode cX8_nearest 0 = .ok (.aload_n 0, 1) := by decide +kernel
theorem dX8_nearest_1 : decode cX8_nearest 1 = .ok (.getfield 10, 3) := by decide +kernel
theorem dX8_nearest_4 : decode cX8_nearest 4 = .ok (.iload_n 1, 1) := by decide +kernel
theorem dX8_nearest_5 : decode cX8_nearest 5 = .ok (.invokevirtual 51, 3) := by decide +kernel
theorem dX8_nearest_8 : decode cX8_nearest 8 = .ok (.ifCond .eq 10, 3) := by decide +kernel
theorem dX8_nearest_18 : decode cX8_nearest 18 = .ok (.iconst (-1), 1) := by decide +kernel
theorem dX8_nearest_19 : decode cX8_nearest 19 = .ok (.ireturn, 1) := by decide +kernel
theorem dX8_shift_0 : decode cX8_shift 0 = .ok (.aload_n 0, 1) := by decide +kernel
theorem dX8_shift_1 : decode cX8_shift 1 = .ok (.getfield 10, 3) := by decide +kernel
theorem dX8_shift_4 : decode cX8_shift 4 = .ok (.iload_n 1, 1) := by decide +kernel
theorem dX8_shift_5 : decode cX8_shift 5 = .ok (.invokevirtual 51, 3) := by decide +kernel
theorem dX8_shift_8 : decode cX8_shift 8 = .ok (.ifCond .eq 10, 3) := by decide +kernel
theorem dX8_shift_18 : decode cX8_shift 18 = .ok (.iconst (-1), 1) := by decide +kernel
theorem dX8_shift_19 : decode cX8_shift 19 = .ok (.ireturn, 1) := by decide +kernel
theorem dX8_one_0 : decode cX8_one 0 = .ok (.aload_n 0, 1) := by decide +kernel
theorem dX8_one_1 : decode cX8_one 1 = .ok (.getfield 10, 3) := by decide +kernel
theorem dX8_one_4 : decode cX8_one 4 = .ok (.iload_n 1, 1) := by decide +kernel
theorem dX8_one_5 : decode cX8_one 5 = .ok (.invokevirtual 51, 3) := by decide +kernel
theorem dX8_one_8 : decode cX8_one 8 = .ok (.ifCond .eq 10, 3) := by decide +kernel
theorem dX8_one_18 : decode cX8_one 18 = .ok (.iconst (-1), 1) := by decide +kernel
theorem dX8_one_19 : decode cX8_one 19 = .ok (.ireturn, 1) := by decide +kernel
set_option maxHeartbeats 4000000 in
set_option maxRecDepth 100000 in
theorem x_kind (l : Launch) (dC : Nat → ClassId) (dI : Nat → Nat → Nat) (sz : Nat) (h0 : Nat) (p1 : Nat) (u1 : Value) (u2 : Value) (u3 : Value) (u4 : Value) (u5 : Value) (b0 : Nat) (b1 : Nat) (b2 : Nat) (b3 : Nat) (b4 : Nat) (r0 : Nat) (w7 : Value) (kb0 : ClassId) (kb1 : ClassId) (kb2 : ClassId) (kb3 : ClassId) (kb4 : ClassId) (y0 : Value) (a1 : Nat) (a2 : Nat) (ka1 : ClassId) (ka2 : ClassId) (n1 : Int32) (n2 : Int32) (n3 : Int32) (n4 : Int32)  : Met l yX8_kind (wq yX8_kind cX8_kind 5 (some .int)) ({ frames := 4, cells := 0, slots := 0, locals := 98 }) (va_Pc [.ref h0, .int n1, .int n2, .int n3, .int n4] (pcW dC dI [(kb0, .int), (kb1, .int), (kb2, .int), (kb3, .int), (kb4, .int), (ka1, .int), (ka2, .int)] [(h0, .inr (7, [.ref p1, u1, u2, u3, u4, u5])), (p1, .inr (1, [.ref b0, .ref b1, .ref b2, .ref b3, .ref b4, .ref r0, .int 0, w7])), (b0, .inl (kb0, 10, .inl (fun _ => 0))), (b1, .inl (kb1, 10, .inl (fun _ => 0))), (b2, .inl (kb2, 10, .inl (fun _ => 0))), (b3, .inl (kb3, 100, .inl (fun _ => 0))), (b4, .inl (kb4, 3, .inl (fun _ => 0))), (r0, .inr (4, [y0, .ref a1, .ref a2, .int 0])), (a1, .inl (ka1, 4, .inl (fun _ => 0))), (a2, .inl (ka2, 4, .inl (fun _ => 0)))] sz)) (va_Qi (fun (r : Int32) (_ : Unit) => r = F_kind n1) (fun _ _ => True) (va_A [(h0, .inr (7, [.ref p1, u1, u2, u3, u4, u5])), (p1, .inr (1, [.ref b0, .ref b1, .ref b2, .ref b3, .ref b4, .ref r0, .int 0, w7])), (b0, .inl (kb0, 10, .inl (fun _ => 0))), (b1, .inl (kb1, 10, .inl (fun _ => 0))), (b2, .inl (kb2, 10, .inl (fun _ => 0))), (b3, .inl (kb3, 100, .inl (fun _ => 0))), (b4, .inl (kb4, 3, .inl (fun _ => 0))), (r0, .inr (4, [y0, .ref a1, .ref a2, .int 0])), (a1, .inl (ka1, 4, .inl (fun _ => 0))), (a2, .inl (ka2, 4, .inl (fun _ => 0)))] sz)) 0 0 (va_A [(h0, .inr (7, [.ref p1, u1, u2, u3, u4, u5])), (p1, .inr (1, [.ref b0, .ref b1, .ref b2, .ref b3, .ref b4, .ref r0, .int 0, w7])), (b0, .inl (kb0, 10, .inl (fun _ => 0))), (b1, .inl (kb1, 10, .inl (fun _ => 0))), (b2, .inl (kb2, 10, .inl (fun _ => 0))), (b3, .inl (kb3, 100, .inl (fun _ => 0))), (b4, .inl (kb4, 3, .inl (fun _ => 0))), (r0, .inr (4, [y0, .ref a1, .ref a2, .int 0])), (a1, .inl (ka1, 4, .inl (fun _ => 0))), (a2, .inl (ka2, 4, .inl (fun _ => 0)))] sz) := by
  refine Met.ofW (cc := cX8_kind) (maxL := 5) (ret := (some .int)) (by decide) rfl ?_
  intro p e s m args below meth c s₁ B hml hv
  obtain ⟨rfl, hsz, hN, hP, hK, hD0⟩ := hv
  have hx := B.exec
  have hb := B.bytes
  have hr := B.returns
  have hts0 := atoms_spec (ws := (wq yX8_kind cX8_kind 5 (some .int))) B.pre
  have hts : ∀ w ∈ BG, w.before _ s = true := fun w h => hts0 w (List.mem_cons_of_mem _ h)
  have hown : s.vm.findClass RX8 = some m.cls := findClass_of_methodNamed B.named
  have hlocks := B.notSynchronized
  subst hsz
  have hD := hD0.self (sz := s.heap.size)
  generalize hAe : va_A [(h0, .inr (7, [.ref p1, u1, u2, u3, u4, u5])), (p1, .inr (1, [.ref b0, .ref b1, .ref b2, .ref b3, .ref b4, .ref r0, .int 0, w7])), (b0, .inl (kb0, 10, .inl (fun _ => 0))), (b1, .inl (kb1, 10, .inl (fun _ => 0))), (b2, .inl (kb2, 10, .inl (fun _ => 0))), (b3, .inl (kb3, 100, .inl (fun _ => 0))), (b4, .inl (kb4, 3, .inl (fun _ => 0))), (r0, .inr (4, [y0, .ref a1, .ref a2, .int 0])), (a1, .inl (ka1, 4, .inl (fun _ => 0))), (a2, .inl (ka2, 4, .inl (fun _ => 0)))] s.heap.size = A at hD ⊢
  have hA : ∀ q : Nat, s.heap.size ≤ q → A q := fun q h => by rw [← hAe]; exact Or.inr h
  have hS : va_S A s.heap s.heap [] := va_S.rf
  have hP : va_P (dC, dI) vwCl [(h0, .inr (7, [.ref p1, u1, u2, u3, u4, u5])), (p1, .inr (1, [.ref b0, .ref b1, .ref b2, .ref b3, .ref b4, .ref r0, .int 0, w7])), (b0, .inl (kb0, 10, .inl (fun _ => 0))), (b1, .inl (kb1, 10, .inl (fun _ => 0))), (b2, .inl (kb2, 10, .inl (fun _ => 0))), (b3, .inl (kb3, 100, .inl (fun _ => 0))), (b4, .inl (kb4, 3, .inl (fun _ => 0))), (r0, .inr (4, [y0, .ref a1, .ref a2, .int 0])), (a1, .inl (ka1, 4, .inl (fun _ => 0))), (a2, .inl (ka2, 4, .inl (fun _ => 0)))] s.heap := hP
  have hl := lv_entry ([.ref h0, .int n1, .int n2, .int n3, .int n4]) (n := 5) (Nat.le_of_ble_eq_true rfl)
  rw [lg_entry_eq]
  generalize (lg_sl ([.ref h0, .int n1, .int n2, .int n3, .int n4]) ++ List.replicate (5 - (lg_sl ([.ref h0, .int n1, .int n2, .int n3, .int n4])).length) Slot.unset).toArray = ls at hl ⊢
  have hl : lv_has ls 5 [(0, .ref h0), (1, .int n1), (2, .int n2), (3, .int n3), (4, .int n4)] := hl
  skip
  refine lv_iload_n hx hb dX8_kind_0 rfl (lv_at hl 1 rfl) ?_
  refine lv_iconst (v := 1) hx hb dX8_kind_1 (by decide) ?_
  refine lv_icmp_lt (tgt := 18) hx hb dX8_kind_2 (by decide) (fun c_1 => ?_) (fun c_1 => ?_)
  · have b_2 := fx_lt (x := n1) (C := 1) (by decide) c_1
    refine lv_iload_n hx hb dX8_kind_18 rfl (lv_at hl 1 rfl) ?_
    refine lv_iconst (v := 2) hx hb dX8_kind_19 (by decide) ?_
    refine lv_icmp_lt (tgt := 41) hx hb dX8_kind_20 (by decide) (fun _ => ?_) (fun h => absurd (fn_lt (x := n1) (C := 2) (by decide) h) (by omega))
    refine lv_iload_n hx hb dX8_kind_41 rfl (lv_at hl 1 rfl) ?_
    refine lv_iconst (v := 3) hx hb dX8_kind_42 (by decide) ?_
    refine lv_icmp_lt (tgt := 72) hx hb dX8_kind_43 (by decide) (fun _ => ?_) (fun h => absurd (fn_lt (x := n1) (C := 3) (by decide) h) (by omega))
    refine lv_iload_n hx hb dX8_kind_72 rfl (lv_at hl 1 rfl) ?_
    refine lv_if_lt (tgt := 81) hx hb dX8_kind_73 (by decide) (fun c_3 => ?_) (fun c_3 => ?_)
    · have b_4 := fx_lt (x := n1) (C := 0) (by decide) c_3
      refine lv_bipush (v := (-2)) hx hb dX8_kind_81 (by decide) ?_
      exact W.iret (v := (-2)) hx hb hr (fun t ht hW => ⟨⟨(-2), (), rfl, (by (unfold F_kind; repeat' split) <;> first | rfl | (exfalso; omega)), trivial⟩, hS.F ht⟩) hS.2.2 dX8_kind_83
    · have b_4 := fn_lt (x := n1) (C := 0) (by decide) c_3
      refine lv_iload_n hx hb dX8_kind_76 rfl (lv_at hl 1 rfl) ?_
      refine hx_top (y := 0) (fx_sing (C := 0) (by decide) (by omega)) ?_
      refine lv_iconst (v := 3) hx hb dX8_kind_77 (by decide) ?_
      refine lv_icmp_le (tgt := 84) hx hb dX8_kind_78 (by decide) (fun _ => ?_) (fun h => absurd (by decide) h)
      refine lv_aload_n hx hb dX8_kind_84 rfl (lv_at hl 0 rfl) ?_
      refine va_get (D := (dC, dI)) (ci := 7) (v := .ref p1) (C := RX8) (T := TX8) (N := 6) hx hb hts inB_8 hown hK hP 0 rfl rfl 0 (by decide) (hts _ mw_1_168) (fun _ h9 => h9) rfl dX8_kind_85 ?_
      have hPc := hP.sub (ws' := [(p1, .inr (1, [.ref b0, .ref b1, .ref b2, .ref b3, .ref b4, .ref r0, .int 0, w7]))]) [1] rfl
      have hDc := hD.sub (ws' := [(p1, .inr (1, [.ref b0, .ref b1, .ref b2, .ref b3, .ref b4, .ref r0, .int 0, w7]))]) [1] (by decide) rfl
      have hKc := hK.sub (tys' := []) [] rfl
      refine va_calli (va_runV (As := []) (rest := []) ⟨hx, hb, hml, hown, hts⟩ (c_isFull l dC dI s.heap.size p1 (.ref b0) (.ref b1) (.ref b2) (.ref b3) (.ref b4) (.ref r0) (w7)) (cwV 0 hts (gV mw_1_195 mw_1_196 mw_1_197 mw_1_2 mw_1_198) rfl rfl rfl (by decide +kernel) ⟨Nat.le_of_ble_eq_true rfl, Nat.le_of_ble_eq_true rfl⟩) ⟨pcW_blind, va_recv hKc hPc (ci := 1) (q0 := 0) rfl rfl, pcW_at hPc hKc hDc hN⟩ rfl rfl hl.1 rfl (lv_room (Nat.le_of_ble_eq_true rfl)) dX8_kind_88 ⟨Nat.le_of_ble_eq_true rfl, Nat.le_of_ble_eq_true rfl⟩) hS (fun q h1 h2 => absurd h2 (Nat.not_le.mpr h1)) (fun q h => hA q (Nat.le_trans hS.1 h)) (fun r_5 u t H1 locs ht hvm hw_5 hB hz1 hk1 hS => ?_)
      have hP := keepP hP hk1
      clear hz1 hk1 hB ht hvm hPc hDc hKc
      generalize H1 = H at hP hS ⊢
      obtain rfl : r_5 = 0 := hw_5
      refine lv_if_eq (tgt := 97) hx hb dX8_kind_91 (by decide) (fun _ => ?_) (fun h => absurd (by decide) h)
      refine lv_aload_n hx hb dX8_kind_97 rfl (lv_at hl 0 rfl) ?_
      refine va_get (D := (dC, dI)) (ci := 7) (v := .ref p1) (C := RX8) (T := TX8) (N := 6) hx hb hts inB_8 hown hK hP 0 rfl rfl 0 (by decide) (hts _ mw_1_168) (fun _ h9 => h9) rfl dX8_kind_98 ?_
      refine lv_iload_n hx hb dX8_kind_101 rfl (lv_at hl 1 rfl) ?_
      refine hx_top (y := 0) (fx_sing (C := 0) (by decide) (by omega)) ?_
      refine lv_iload_n hx hb dX8_kind_102 rfl (lv_at hl 2 rfl) ?_
      refine lv_iload_n hx hb dX8_kind_103 rfl (lv_at hl 3 rfl) ?_
      refine lv_iload hx hb dX8_kind_104 (lv_at hl 4 rfl) ?_
      have hPc := hP.sub (ws' := [(p1, .inr (1, [.ref b0, .ref b1, .ref b2, .ref b3, .ref b4, .ref r0, .int 0, w7])), (b0, .inl (kb0, 10, .inl (fun _ => 0))), (b1, .inl (kb1, 10, .inl (fun _ => 0))), (b2, .inl (kb2, 10, .inl (fun _ => 0))), (b3, .inl (kb3, 100, .inl (fun _ => 0))), (b4, .inl (kb4, 3, .inl (fun _ => 0))), (r0, .inr (4, [y0, .ref a1, .ref a2, .int 0])), (a1, .inl (ka1, 4, .inl (fun _ => 0))), (a2, .inl (ka2, 4, .inl (fun _ => 0)))]) [1, 2, 3, 4, 5, 6, 7, 8, 9] rfl
      have hDc := hD.sub (ws' := [(p1, .inr (1, [.ref b0, .ref b1, .ref b2, .ref b3, .ref b4, .ref r0, .int 0, w7])), (b0, .inl (kb0, 10, .inl (fun _ => 0))), (b1, .inl (kb1, 10, .inl (fun _ => 0))), (b2, .inl (kb2, 10, .inl (fun _ => 0))), (b3, .inl (kb3, 100, .inl (fun _ => 0))), (b4, .inl (kb4, 3, .inl (fun _ => 0))), (r0, .inr (4, [y0, .ref a1, .ref a2, .int 0])), (a1, .inl (ka1, 4, .inl (fun _ => 0))), (a2, .inl (ka2, 4, .inl (fun _ => 0)))]) [1, 2, 3, 4, 5, 6, 7, 8, 9] (by decide) rfl
      have hKc := hK.sub (tys' := [(kb0, .int), (kb1, .int), (kb2, .int), (kb3, .int), (kb4, .int), (ka1, .int), (ka2, .int)]) [0, 1, 2, 3, 4, 5, 6] rfl
      have hFc := va_free (wc := [(p1, .inr (1, [.ref b0, .ref b1, .ref b2, .ref b3, .ref b4, .ref r0, .int 0, w7])), (b0, .inl (kb0, 10, .inl (fun _ => 0))), (b1, .inl (kb1, 10, .inl (fun _ => 0))), (b2, .inl (kb2, 10, .inl (fun _ => 0))), (b3, .inl (kb3, 100, .inl (fun _ => 0))), (b4, .inl (kb4, 3, .inl (fun _ => 0))), (r0, .inr (4, [y0, .ref a1, .ref a2, .int 0])), (a1, .inl (ka1, 4, .inl (fun _ => 0))), (a2, .inl (ka2, 4, .inl (fun _ => 0)))]) hD hS hA [1, 2, 3, 4, 5, 6, 7, 8, 9] rfl
      refine va_calli (va_runV (As := [.int 0, .int n2, .int n3, .int n4]) (rest := []) ⟨hx, hb, hml, hown, hts⟩ (c_add l dC dI H.size p1 b0 b1 b2 b3 b4 r0 (w7) kb0 kb1 kb2 kb3 kb4 (y0) a1 a2 ka1 ka2 n2 n3 n4) (cwV 4 hts (gV mw_1_199 mw_1_200 mw_1_201 mw_1_2 mw_1_202) rfl rfl rfl (by decide +kernel) ⟨Nat.le_of_ble_eq_true rfl, Nat.le_of_ble_eq_true rfl⟩) ⟨pcW_blind, va_recv hKc hPc (ci := 1) (q0 := 0) rfl rfl, pcW_at hPc hKc hDc hN⟩ rfl rfl hl.1 rfl (lv_room (Nat.le_of_ble_eq_true rfl)) dX8_kind_106 ⟨Nat.le_of_ble_eq_true rfl, Nat.le_of_ble_eq_true rfl⟩) hS (fun q _ h => hFc q h) hFc (fun r_6 u t H1 locs ht hvm hw_6 hB hz1 hk1 hS => ?_)
      obtain ⟨hP, hD⟩ := va_join (wr := [(h0, .inr (7, [.ref p1, u1, u2, u3, u4, u5]))]) (w1 := []) hP hD [1, 2, 3, 4, 5, 6, 7, 8, 9] [0] rfl rfl (by decide) (by decide) hk1 hFc nilP nilD
      rw [List.append_nil] at hP hD
      clear hz1 hk1 hPc hDc hKc hFc
      generalize H1 = H at hP hS ⊢
      have hK : va_K (dC, dI) vwCl [(kb0, .int), (kb1, .int), (kb2, .int), (kb3, .int), (kb4, .int), (ka1, .int), (ka2, .int)] s := hK
      have hP : va_P (dC, dI) vwCl [(h0, .inr (7, [.ref p1, u1, u2, u3, u4, u5]))] H := hP
      have hD : va_D A [(h0, .inr (7, [.ref p1, u1, u2, u3, u4, u5]))] := hD
      obtain rfl : r_6 = 0 := hw_6
      exact W.iret (v := 0) hx hb hr (fun t ht hW => ⟨⟨0, (), rfl, (by (unfold F_kind; repeat' split) <;> first | rfl | (exfalso; omega)), trivial⟩, hS.F ht⟩) hS.2.2 dX8_kind_109
  · have b_2 := fn_lt (x := n1) (C := 1) (by decide) c_1
    refine lv_aload_n hx hb dX8_kind_5 rfl (lv_at hl 0 rfl) ?_
    refine va_get (D := (dC, dI)) (ci := 7) (v := .ref p1) (C := RX8) (T := TX8) (N := 6) hx hb hts inB_8 hown hK hP 0 rfl rfl 0 (by decide) (hts _ mw_1_168) (fun _ h9 => h9) rfl dX8_kind_6 ?_
    refine lv_iload_n hx hb dX8_kind_9 rfl (lv_at hl 2 rfl) ?_
    have hPc := hP.sub (ws' := [(p1, .inr (1, [.ref b0, .ref b1, .ref b2, .ref b3, .ref b4, .ref r0, .int 0, w7]))]) [1] rfl
    have hDc := hD.sub (ws' := [(p1, .inr (1, [.ref b0, .ref b1, .ref b2, .ref b3, .ref b4, .ref r0, .int 0, w7]))]) [1] (by decide) rfl
    have hKc := hK.sub (tys' := []) [] rfl
    refine va_calli (va_runV (As := [.int n2]) (rest := []) ⟨hx, hb, hml, hown, hts⟩ (c_knows0 l dC dI s.heap.size p1 (.ref b0) (.ref b1) (.ref b2) (.ref b3) (.ref b4) (.ref r0) (w7) n2) (cwV 1 hts (gV mw_1_191 mw_1_192 mw_1_193 mw_1_2 mw_1_194) rfl rfl rfl (by decide +kernel) ⟨Nat.le_of_ble_eq_true rfl, Nat.le_of_ble_eq_true rfl⟩) ⟨pcW_blind, va_recv hKc hPc (ci := 1) (q0 := 0) rfl rfl, pcW_at hPc hKc hDc hN⟩ rfl rfl hl.1 rfl (lv_room (Nat.le_of_ble_eq_true rfl)) dX8_kind_10 ⟨Nat.le_of_ble_eq_true rfl, Nat.le_of_ble_eq_true rfl⟩) hS (fun q h1 h2 => absurd h2 (Nat.not_le.mpr h1)) (fun q h => hA q (Nat.le_trans hS.1 h)) (fun r_7 u t H1 locs ht hvm hw_7 hB hz1 hk1 hS => ?_)
    have hP := keepP hP hk1
    clear hz1 hk1 hB ht hvm hPc hDc hKc
    generalize H1 = H at hP hS ⊢
    obtain rfl : r_7 = 0 := hw_7
    refine lv_if_ne (tgt := 18) hx hb dX8_kind_13 (by decide) (fun h => absurd h (by decide)) (fun _ => ?_)
    refine lv_iconst (v := (-1)) hx hb dX8_kind_16 (by decide) ?_
    exact W.iret (v := (-1)) hx hb hr (fun t ht hW => ⟨⟨(-1), (), rfl, (by (unfold F_kind; repeat' split) <;> first | rfl | (exfalso; omega)), trivial⟩, hS.F ht⟩) hS.2.2 dX8_kind_17
set_option maxHeartbeats 4000000 in
set_option maxRecDepth 100000 in
theorem x_bare (l : Launch) (dC : Nat → ClassId) (dI : Nat → Nat → Nat) (sz : Nat) (h0 : Nat) (p1 : Nat) (u1 : Value) (u2 : Value) (u3 : Value) (u4 : Value) (u5 : Value) (w0 : Value) (w1 : Value) (w2 : Value) (w3 : Value) (w4 : Value) (w5 : Value) (w7 : Value) (n1 : Int32) (n2 : Int32)  : Met l yX8_bare (wq yX8_bare cX8_bare 4 (some .int)) ({ frames := 1, cells := 0, slots := 0, locals := 21 }) (va_Pc [.ref h0, .int n1, .int n2] (pcW dC dI [] [(h0, .inr (7, [.ref p1, u1, u2, u3, u4, u5])), (p1, .inr (1, [w0, w1, w2, w3, w4, w5, .int 0, w7]))] sz)) (va_Qi (fun (r : Int32) (_ : Unit) => r = (-1)) (fun _ _ => True) (fun q : Nat => sz ≤ q)) 0 0 (fun q : Nat => sz ≤ q) := by
  refine Met.ofW (cc := cX8_bare) (maxL := 4) (ret := (some .int)) (by decide) rfl ?_
  intro p e s m args below meth c s₁ B hml hv
  obtain ⟨rfl, hsz, hN, hP, hK, hD0⟩ := hv
  have hx := B.exec
  have hb := B.bytes
  have hr := B.returns
  have hts0 := atoms_spec (ws := (wq yX8_bare cX8_bare 4 (some .int))) B.pre
  have hts : ∀ w ∈ BG, w.before _ s = true := fun w h => hts0 w (List.mem_cons_of_mem _ h)
  have hown : s.vm.findClass RX8 = some m.cls := findClass_of_methodNamed B.named
  have hlocks := B.notSynchronized
  subst hsz
  have hA : ∀ q : Nat, s.heap.size ≤ q → (fun q : Nat => s.heap.size ≤ q) q := fun _ h => h
  have hD := hD0
  have hS : va_S (fun q : Nat => s.heap.size ≤ q) s.heap s.heap [] := va_S.rf
  have hP : va_P (dC, dI) vwCl [(h0, .inr (7, [.ref p1, u1, u2, u3, u4, u5])), (p1, .inr (1, [w0, w1, w2, w3, w4, w5, .int 0, w7]))] s.heap := hP
  have hl := lv_entry ([.ref h0, .int n1, .int n2]) (n := 4) (Nat.le_of_ble_eq_true rfl)
  rw [lg_entry_eq]
  generalize (lg_sl ([.ref h0, .int n1, .int n2]) ++ List.replicate (4 - (lg_sl ([.ref h0, .int n1, .int n2])).length) Slot.unset).toArray = ls at hl ⊢
  have hl : lv_has ls 4 [(0, .ref h0), (1, .int n1), (2, .int n2)] := hl
  skip
  refine lv_aload_n hx hb dX8_bare_0 rfl (lv_at hl 0 rfl) ?_
  refine va_get (D := (dC, dI)) (ci := 7) (v := .ref p1) (C := RX8) (T := TX8) (N := 6) hx hb hts inB_8 hown hK hP 0 rfl rfl 0 (by decide) (hts _ mw_1_168) (fun _ h9 => h9) rfl dX8_bare_1 ?_
  refine lv_iload_n hx hb dX8_bare_4 rfl (lv_at hl 1 rfl) ?_
  have hPc := hP.sub (ws' := [(p1, .inr (1, [w0, w1, w2, w3, w4, w5, .int 0, w7]))]) [1] rfl
  have hDc := hD.sub (ws' := [(p1, .inr (1, [w0, w1, w2, w3, w4, w5, .int 0, w7]))]) [1] (by decide) rfl
  have hKc := hK.sub (tys' := []) [] rfl
  refine va_calli (va_runV (As := [.int n1]) (rest := []) ⟨hx, hb, hml, hown, hts⟩ (c_knows0 l dC dI s.heap.size p1 (w0) (w1) (w2) (w3) (w4) (w5) (w7) n1) (cwV 1 hts (gV mw_1_191 mw_1_192 mw_1_193 mw_1_2 mw_1_194) rfl rfl rfl (by decide +kernel) ⟨Nat.le_of_ble_eq_true rfl, Nat.le_of_ble_eq_true rfl⟩) ⟨pcW_blind, va_recv hKc hPc (ci := 1) (q0 := 0) rfl rfl, pcW_at hPc hKc hDc hN⟩ rfl rfl hl.1 rfl (lv_room (Nat.le_of_ble_eq_true rfl)) dX8_bare_5 ⟨Nat.le_of_ble_eq_true rfl, Nat.le_of_ble_eq_true rfl⟩) hS (fun q h1 h2 => absurd h2 (Nat.not_le.mpr h1)) (fun q h => hA q (Nat.le_trans hS.1 h)) (fun r_1 u t H1 locs ht hvm hw_1 hB hz1 hk1 hS => ?_)
  have hP := keepP hP hk1
  clear hz1 hk1 hB ht hvm hPc hDc hKc
  generalize H1 = H at hP hS ⊢
  obtain rfl : r_1 = 0 := hw_1
  refine lv_if_ne (tgt := 13) hx hb dX8_bare_8 (by decide) (fun h => absurd h (by decide)) (fun _ => ?_)
  refine lv_iconst (v := (-1)) hx hb dX8_bare_11 (by decide) ?_
  exact W.iret (v := (-1)) hx hb hr (fun t ht hW => ⟨⟨(-1), (), rfl, rfl, trivial⟩, hS.F ht⟩) hS.2.2 dX8_bare_12
set_option maxHeartbeats 4000000 in
set_option maxRecDepth 100000 in
theorem x_of (l : Launch) (dC : Nat → ClassId) (dI : Nat → Nat → Nat) (sz : Nat) (h0 : Nat) (p1 : Nat) (u1 : Value) (u2 : Value) (u3 : Value) (u4 : Value) (u5 : Value) (w0 : Value) (w1 : Value) (w2 : Value) (w3 : Value) (w4 : Value) (w5 : Value) (w7 : Value) (n1 : Int32) (n2 : Int32)  : Met l yX8_of (wq yX8_of cX8_of 3 (some .int)) ({ frames := 1, cells := 0, slots := 0, locals := 21 }) (va_Pc [.ref h0, .int n1, .int n2] (pcW dC dI [] [(h0, .inr (7, [.ref p1, u1, u2, u3, u4, u5])), (p1, .inr (1, [w0, w1, w2, w3, w4, w5, .int 0, w7]))] sz)) (va_Qi (fun (r : Int32) (_ : Unit) => r = (-1)) (fun _ _ => True) (fun q : Nat => sz ≤ q)) 0 0 (fun q : Nat => sz ≤ q) := by
  refine Met.ofW (cc := cX8_of) (maxL := 3) (ret := (some .int)) (by decide) rfl ?_
  intro p e s m args below meth c s₁ B hml hv
  obtain ⟨rfl, hsz, hN, hP, hK, hD0⟩ := hv
  have hx := B.exec
  have hb := B.bytes
  have hr := B.returns
  have hts0 := atoms_spec (ws := (wq yX8_of cX8_of 3 (some .int))) B.pre
  have hts : ∀ w ∈ BG, w.before _ s = true := fun w h => hts0 w (List.mem_cons_of_mem _ h)
  have hown : s.vm.findClass RX8 = some m.cls := findClass_of_methodNamed B.named
  have hlocks := B.notSynchronized
  subst hsz
  have hA : ∀ q : Nat, s.heap.size ≤ q → (fun q : Nat => s.heap.size ≤ q) q := fun _ h => h
  have hD := hD0
  have hS : va_S (fun q : Nat => s.heap.size ≤ q) s.heap s.heap [] := va_S.rf
  have hP : va_P (dC, dI) vwCl [(h0, .inr (7, [.ref p1, u1, u2, u3, u4, u5])), (p1, .inr (1, [w0, w1, w2, w3, w4, w5, .int 0, w7]))] s.heap := hP
  have hl := lv_entry ([.ref h0, .int n1, .int n2]) (n := 3) (Nat.le_of_ble_eq_true rfl)
  rw [lg_entry_eq]
  generalize (lg_sl ([.ref h0, .int n1, .int n2]) ++ List.replicate (3 - (lg_sl ([.ref h0, .int n1, .int n2])).length) Slot.unset).toArray = ls at hl ⊢
  have hl : lv_has ls 3 [(0, .ref h0), (1, .int n1), (2, .int n2)] := hl
  skip
  refine lv_aload_n hx hb dX8_of_0 rfl (lv_at hl 0 rfl) ?_
  refine va_get (D := (dC, dI)) (ci := 7) (v := .ref p1) (C := RX8) (T := TX8) (N := 6) hx hb hts inB_8 hown hK hP 0 rfl rfl 0 (by decide) (hts _ mw_1_168) (fun _ h9 => h9) rfl dX8_of_1 ?_
  refine lv_iload_n hx hb dX8_of_4 rfl (lv_at hl 1 rfl) ?_
  have hPc := hP.sub (ws' := [(p1, .inr (1, [w0, w1, w2, w3, w4, w5, .int 0, w7]))]) [1] rfl
  have hDc := hD.sub (ws' := [(p1, .inr (1, [w0, w1, w2, w3, w4, w5, .int 0, w7]))]) [1] (by decide) rfl
  have hKc := hK.sub (tys' := []) [] rfl
  refine va_calli (va_runV (As := [.int n1]) (rest := []) ⟨hx, hb, hml, hown, hts⟩ (c_knows0 l dC dI s.heap.size p1 (w0) (w1) (w2) (w3) (w4) (w5) (w7) n1) (cwV 1 hts (gV mw_1_191 mw_1_192 mw_1_193 mw_1_2 mw_1_194) rfl rfl rfl (by decide +kernel) ⟨Nat.le_of_ble_eq_true rfl, Nat.le_of_ble_eq_true rfl⟩) ⟨pcW_blind, va_recv hKc hPc (ci := 1) (q0 := 0) rfl rfl, pcW_at hPc hKc hDc hN⟩ rfl rfl hl.1 rfl (lv_room (Nat.le_of_ble_eq_true rfl)) dX8_of_5 ⟨Nat.le_of_ble_eq_true rfl, Nat.le_of_ble_eq_true rfl⟩) hS (fun q h1 h2 => absurd h2 (Nat.not_le.mpr h1)) (fun q h => hA q (Nat.le_trans hS.1 h)) (fun r_1 u t H1 locs ht hvm hw_1 hB hz1 hk1 hS => ?_)
  have hP := keepP hP hk1
  clear hz1 hk1 hB ht hvm hPc hDc hKc
  generalize H1 = H at hP hS ⊢
  obtain rfl : r_1 = 0 := hw_1
  refine lv_if_ne (tgt := 13) hx hb dX8_of_8 (by decide) (fun h => absurd h (by decide)) (fun _ => ?_)
  refine lv_iconst (v := (-1)) hx hb dX8_of_11 (by decide) ?_
  exact W.iret (v := (-1)) hx hb hr (fun t ht hW => ⟨⟨(-1), (), rfl, rfl, trivial⟩, hS.F ht⟩) hS.2.2 dX8_of_12
set_option maxHeartbeats 4000000 in
set_option maxRecDepth 100000 in
theorem x_line (l : Launch) (dC : Nat → ClassId) (dI : Nat → Nat → Nat) (sz : Nat) (h0 : Nat) (p1 : Nat) (u1 : Value) (u2 : Value) (u3 : Value) (u4 : Value) (u5 : Value) (w0 : Value) (w1 : Value) (w2 : Value) (w3 : Value) (w4 : Value) (w5 : Value) (w7 : Value) (n1 : Int32) (n2 : Int32)  : Met l yX8_line (wq yX8_line cX8_line 3 (some .int)) ({ frames := 1, cells := 0, slots := 0, locals := 21 }) (va_Pc [.ref h0, .int n1, .int n2] (pcW dC dI [] [(h0, .inr (7, [.ref p1, u1, u2, u3, u4, u5])), (p1, .inr (1, [w0, w1, w2, w3, w4, w5, .int 0, w7]))] sz)) (va_Qi (fun (r : Int32) (_ : Unit) => r = (-1)) (fun _ _ => True) (fun q : Nat => sz ≤ q)) 0 0 (fun q : Nat => sz ≤ q) := by
  refine Met.ofW (cc := cX8_line) (maxL := 3) (ret := (some .int)) (by decide) rfl ?_
  intro p e s m args below meth c s₁ B hml hv
  obtain ⟨rfl, hsz, hN, hP, hK, hD0⟩ := hv
  have hx := B.exec
  have hb := B.bytes
  have hr := B.returns
  have hts0 := atoms_spec (ws := (wq yX8_line cX8_line 3 (some .int))) B.pre
  have hts : ∀ w ∈ BG, w.before _ s = true := fun w h => hts0 w (List.mem_cons_of_mem _ h)
  have hown : s.vm.findClass RX8 = some m.cls := findClass_of_methodNamed B.named
  have hlocks := B.notSynchronized
  subst hsz
  have hA : ∀ q : Nat, s.heap.size ≤ q → (fun q : Nat => s.heap.size ≤ q) q := fun _ h => h
  have hD := hD0
  have hS : va_S (fun q : Nat => s.heap.size ≤ q) s.heap s.heap [] := va_S.rf
  have hP : va_P (dC, dI) vwCl [(h0, .inr (7, [.ref p1, u1, u2, u3, u4, u5])), (p1, .inr (1, [w0, w1, w2, w3, w4, w5, .int 0, w7]))] s.heap := hP
  have hl := lv_entry ([.ref h0, .int n1, .int n2]) (n := 3) (Nat.le_of_ble_eq_true rfl)
  rw [lg_entry_eq]
  generalize (lg_sl ([.ref h0, .int n1, .int n2]) ++ List.replicate (3 - (lg_sl ([.ref h0, .int n1, .int n2])).length) Slot.unset).toArray = ls at hl ⊢
  have hl : lv_has ls 3 [(0, .ref h0), (1, .int n1), (2, .int n2)] := hl
  skip
  refine lv_aload_n hx hb dX8_line_0 rfl (lv_at hl 0 rfl) ?_
  refine va_get (D := (dC, dI)) (ci := 7) (v := .ref p1) (C := RX8) (T := TX8) (N := 6) hx hb hts inB_8 hown hK hP 0 rfl rfl 0 (by decide) (hts _ mw_1_168) (fun _ h9 => h9) rfl dX8_line_1 ?_
  refine lv_iload_n hx hb dX8_line_4 rfl (lv_at hl 1 rfl) ?_
  have hPc := hP.sub (ws' := [(p1, .inr (1, [w0, w1, w2, w3, w4, w5, .int 0, w7]))]) [1] rfl
  have hDc := hD.sub (ws' := [(p1, .inr (1, [w0, w1, w2, w3, w4, w5, .int 0, w7]))]) [1] (by decide) rfl
  have hKc := hK.sub (tys' := []) [] rfl
  refine va_calli (va_runV (As := [.int n1]) (rest := []) ⟨hx, hb, hml, hown, hts⟩ (c_knows0 l dC dI s.heap.size p1 (w0) (w1) (w2) (w3) (w4) (w5) (w7) n1) (cwV 1 hts (gV mw_1_191 mw_1_192 mw_1_193 mw_1_2 mw_1_194) rfl rfl rfl (by decide +kernel) ⟨Nat.le_of_ble_eq_true rfl, Nat.le_of_ble_eq_true rfl⟩) ⟨pcW_blind, va_recv hKc hPc (ci := 1) (q0 := 0) rfl rfl, pcW_at hPc hKc hDc hN⟩ rfl rfl hl.1 rfl (lv_room (Nat.le_of_ble_eq_true rfl)) dX8_line_5 ⟨Nat.le_of_ble_eq_true rfl, Nat.le_of_ble_eq_true rfl⟩) hS (fun q h1 h2 => absurd h2 (Nat.not_le.mpr h1)) (fun q h => hA q (Nat.le_trans hS.1 h)) (fun r_1 u t H1 locs ht hvm hw_1 hB hz1 hk1 hS => ?_)
  have hP := keepP hP hk1
  clear hz1 hk1 hB ht hvm hPc hDc hKc
  generalize H1 = H at hP hS ⊢
  obtain rfl : r_1 = 0 := hw_1
  refine lv_if_ne (tgt := 13) hx hb dX8_line_8 (by decide) (fun h => absurd h (by decide)) (fun _ => ?_)
  refine lv_iconst (v := (-1)) hx hb dX8_line_11 (by decide) ?_
  exact W.iret (v := (-1)) hx hb hr (fun t ht hW => ⟨⟨(-1), (), rfl, rfl, trivial⟩, hS.F ht⟩) hS.2.2 dX8_line_12
set_option maxHeartbeats 4000000 in
set_option maxRecDepth 100000 in
theorem x_quarrel (l : Launch) (dC : Nat → ClassId) (dI : Nat → Nat → Nat) (sz : Nat) (h0 : Nat) (p1 : Nat) (u1 : Value) (u2 : Value) (u3 : Value) (u4 : Value) (u5 : Value) (w0 : Value) (w1 : Value) (w2 : Value) (w3 : Value) (w4 : Value) (w5 : Value) (w7 : Value) (n1 : Int32)  : Met l yX8_quarrel (wq yX8_quarrel cX8_quarrel 2 (some .int)) ({ frames := 1, cells := 0, slots := 0, locals := 21 }) (va_Pc [.ref h0, .int n1] (pcW dC dI [] [(h0, .inr (7, [.ref p1, u1, u2, u3, u4, u5])), (p1, .inr (1, [w0, w1, w2, w3, w4, w5, .int 0, w7]))] sz)) (va_Qi (fun (r : Int32) (_ : Unit) => r = (-1)) (fun _ _ => True) (fun q : Nat => sz ≤ q)) 0 0 (fun q : Nat => sz ≤ q) := by
  refine Met.ofW (cc := cX8_quarrel) (maxL := 2) (ret := (some .int)) (by decide) rfl ?_
  intro p e s m args below meth c s₁ B hml hv
  obtain ⟨rfl, hsz, hN, hP, hK, hD0⟩ := hv
  have hx := B.exec
  have hb := B.bytes
  have hr := B.returns
  have hts0 := atoms_spec (ws := (wq yX8_quarrel cX8_quarrel 2 (some .int))) B.pre
  have hts : ∀ w ∈ BG, w.before _ s = true := fun w h => hts0 w (List.mem_cons_of_mem _ h)
  have hown : s.vm.findClass RX8 = some m.cls := findClass_of_methodNamed B.named
  have hlocks := B.notSynchronized
  subst hsz
  have hA : ∀ q : Nat, s.heap.size ≤ q → (fun q : Nat => s.heap.size ≤ q) q := fun _ h => h
  have hD := hD0
  have hS : va_S (fun q : Nat => s.heap.size ≤ q) s.heap s.heap [] := va_S.rf
  have hP : va_P (dC, dI) vwCl [(h0, .inr (7, [.ref p1, u1, u2, u3, u4, u5])), (p1, .inr (1, [w0, w1, w2, w3, w4, w5, .int 0, w7]))] s.heap := hP
  have hl := lv_entry ([.ref h0, .int n1]) (n := 2) (Nat.le_of_ble_eq_true rfl)
  rw [lg_entry_eq]
  generalize (lg_sl ([.ref h0, .int n1]) ++ List.replicate (2 - (lg_sl ([.ref h0, .int n1])).length) Slot.unset).toArray = ls at hl ⊢
  have hl : lv_has ls 2 [(0, .ref h0), (1, .int n1)] := hl
  skip
  refine lv_aload_n hx hb dX8_quarrel_0 rfl (lv_at hl 0 rfl) ?_
  refine va_get (D := (dC, dI)) (ci := 7) (v := .ref p1) (C := RX8) (T := TX8) (N := 6) hx hb hts inB_8 hown hK hP 0 rfl rfl 0 (by decide) (hts _ mw_1_168) (fun _ h9 => h9) rfl dX8_quarrel_1 ?_
  refine lv_iload_n hx hb dX8_quarrel_4 rfl (lv_at hl 1 rfl) ?_
  have hPc := hP.sub (ws' := [(p1, .inr (1, [w0, w1, w2, w3, w4, w5, .int 0, w7]))]) [1] rfl
  have hDc := hD.sub (ws' := [(p1, .inr (1, [w0, w1, w2, w3, w4, w5, .int 0, w7]))]) [1] (by decide) rfl
  have hKc := hK.sub (tys' := []) [] rfl
  refine va_calli (va_runV (As := [.int n1]) (rest := []) ⟨hx, hb, hml, hown, hts⟩ (c_knows0 l dC dI s.heap.size p1 (w0) (w1) (w2) (w3) (w4) (w5) (w7) n1) (cwV 1 hts (gV mw_1_191 mw_1_192 mw_1_193 mw_1_2 mw_1_194) rfl rfl rfl (by decide +kernel) ⟨Nat.le_of_ble_eq_true rfl, Nat.le_of_ble_eq_true rfl⟩) ⟨pcW_blind, va_recv hKc hPc (ci := 1) (q0 := 0) rfl rfl, pcW_at hPc hKc hDc hN⟩ rfl rfl hl.1 rfl (lv_room (Nat.le_of_ble_eq_true rfl)) dX8_quarrel_5 ⟨Nat.le_of_ble_eq_true rfl, Nat.le_of_ble_eq_true rfl⟩) hS (fun q h1 h2 => absurd h2 (Nat.not_le.mpr h1)) (fun q h => hA q (Nat.le_trans hS.1 h)) (fun r_1 u t H1 locs ht hvm hw_1 hB hz1 hk1 hS => ?_)
  have hP := keepP hP hk1
  clear hz1 hk1 hB ht hvm hPc hDc hKc
  generalize H1 = H at hP hS ⊢
  obtain rfl : r_1 = 0 := hw_1
  refine lv_if_ne (tgt := 13) hx hb dX8_quarrel_8 (by decide) (fun h => absurd h (by decide)) (fun _ => ?_)
  refine lv_iconst (v := (-1)) hx hb dX8_quarrel_11 (by decide) ?_
  exact W.iret (v := (-1)) hx hb hr (fun t ht hW => ⟨⟨(-1), (), rfl, rfl, trivial⟩, hS.F ht⟩) hS.2.2 dX8_quarrel_12
set_option maxHeartbeats 4000000 in
set_option maxRecDepth 100000 in
theorem x_say (l : Launch) (dC : Nat → ClassId) (dI : Nat → Nat → Nat) (sz : Nat) (h0 : Nat) (u0 : Value) (p2 : Nat) (u2 : Value) (u3 : Value) (u4 : Value) (u5 : Value) (d0 : Nat) (kd0 : ClassId) (n1 : Int32)  : Met l yX8_say (wq yX8_say cX8_say 2 (some .int)) ({ frames := 2, cells := 0, slots := 0, locals := 41 }) (va_Pc [.ref h0, .int n1] (pcW dC dI [(kd0, .char)] [(h0, .inr (7, [u0, .ref p2, u2, u3, u4, u5])), (p2, .inr (2, [.ref d0, .int 0])), (d0, .inl (kd0, 12, .inl (fun _ => 0)))] sz)) (va_Qi (fun (r : Int32) (_ : Unit) => r = F_say n1) (fun _ _ => True) (va_A [(h0, .inr (7, [u0, .ref p2, u2, u3, u4, u5])), (p2, .inr (2, [.ref d0, .int 0])), (d0, .inl (kd0, 12, .inl (fun _ => 0)))] sz)) 0 0 (va_A [(h0, .inr (7, [u0, .ref p2, u2, u3, u4, u5])), (p2, .inr (2, [.ref d0, .int 0])), (d0, .inl (kd0, 12, .inl (fun _ => 0)))] sz) := by
  refine Met.ofW (cc := cX8_say) (maxL := 2) (ret := (some .int)) (by decide) rfl ?_
  intro p e s m args below meth c s₁ B hml hv
  obtain ⟨rfl, hsz, hN, hP, hK, hD0⟩ := hv
  have hx := B.exec
  have hb := B.bytes
  have hr := B.returns
  have hts0 := atoms_spec (ws := (wq yX8_say cX8_say 2 (some .int))) B.pre
  have hts : ∀ w ∈ BG, w.before _ s = true := fun w h => hts0 w (List.mem_cons_of_mem _ h)
  have hown : s.vm.findClass RX8 = some m.cls := findClass_of_methodNamed B.named
  have hlocks := B.notSynchronized
  subst hsz
  have hD := hD0.self (sz := s.heap.size)
  generalize hAe : va_A [(h0, .inr (7, [u0, .ref p2, u2, u3, u4, u5])), (p2, .inr (2, [.ref d0, .int 0])), (d0, .inl (kd0, 12, .inl (fun _ => 0)))] s.heap.size = A at hD ⊢
  have hA : ∀ q : Nat, s.heap.size ≤ q → A q := fun q h => by rw [← hAe]; exact Or.inr h
  have hS : va_S A s.heap s.heap [] := va_S.rf
  have hP : va_P (dC, dI) vwCl [(h0, .inr (7, [u0, .ref p2, u2, u3, u4, u5])), (p2, .inr (2, [.ref d0, .int 0])), (d0, .inl (kd0, 12, .inl (fun _ => 0)))] s.heap := hP
  have hl := lv_entry ([.ref h0, .int n1]) (n := 2) (Nat.le_of_ble_eq_true rfl)
  rw [lg_entry_eq]
  generalize (lg_sl ([.ref h0, .int n1]) ++ List.replicate (2 - (lg_sl ([.ref h0, .int n1])).length) Slot.unset).toArray = ls at hl ⊢
  have hl : lv_has ls 2 [(0, .ref h0), (1, .int n1)] := hl
  skip
  refine lv_iload_n hx hb dX8_say_0 rfl (lv_at hl 1 rfl) ?_
  refine lv_bipush (v := 33) hx hb dX8_say_1 (by decide) ?_
  refine lv_icmp_lt (tgt := 12) hx hb dX8_say_3 (by decide) (fun c_1 => ?_) (fun c_1 => ?_)
  · have b_2 := fx_lt (x := n1) (C := 33) (by decide) c_1
    refine lv_bipush (v := (-2)) hx hb dX8_say_12 (by decide) ?_
    exact W.iret (v := (-2)) hx hb hr (fun t ht hW => ⟨⟨(-2), (), rfl, (by (unfold F_say; repeat' split) <;> first | rfl | (exfalso; omega)), trivial⟩, hS.F ht⟩) hS.2.2 dX8_say_14
  · have b_2 := fn_lt (x := n1) (C := 33) (by decide) c_1
    refine lv_iload_n hx hb dX8_say_6 rfl (lv_at hl 1 rfl) ?_
    refine lv_bipush (v := 126) hx hb dX8_say_7 (by decide) ?_
    refine lv_icmp_le (tgt := 15) hx hb dX8_say_9 (by decide) (fun c_3 => ?_) (fun c_3 => ?_)
    · have b_4 := fx_le (x := n1) (C := 126) (by decide) c_3
      refine lv_aload_n hx hb dX8_say_15 rfl (lv_at hl 0 rfl) ?_
      refine va_get (D := (dC, dI)) (ci := 7) (v := .ref p2) (C := RX8) (T := TX8) (N := 6) hx hb hts inB_8 hown hK hP 0 rfl rfl 1 (by decide) (hts _ mw_1_169) (fun _ h9 => h9) rfl dX8_say_16 ?_
      have hPc := hP.sub (ws' := [(p2, .inr (2, [.ref d0, .int 0]))]) [1] rfl
      have hDc := hD.sub (ws' := [(p2, .inr (2, [.ref d0, .int 0]))]) [1] (by decide) rfl
      have hKc := hK.sub (tys' := []) [] rfl
      refine va_calli (va_runV (As := []) (rest := []) ⟨hx, hb, hml, hown, hts⟩ (c_pFull l dC dI s.heap.size p2 (.ref d0)) (cwV 0 hts (gV mw_2_65 mw_2_66 mw_2_67 mw_1_4 mw_2_68) rfl rfl rfl (by decide +kernel) ⟨Nat.le_of_ble_eq_true rfl, Nat.le_of_ble_eq_true rfl⟩) ⟨pcW_blind, va_recv hKc hPc (ci := 2) (q0 := 0) rfl rfl, pcW_at hPc hKc hDc hN⟩ rfl rfl hl.1 rfl (lv_room (Nat.le_of_ble_eq_true rfl)) dX8_say_19 ⟨Nat.le_of_ble_eq_true rfl, Nat.le_of_ble_eq_true rfl⟩) hS (fun q h1 h2 => absurd h2 (Nat.not_le.mpr h1)) (fun q h => hA q (Nat.le_trans hS.1 h)) (fun r_5 u t H1 locs ht hvm hw_5 hB hz1 hk1 hS => ?_)
      have hP := keepP hP hk1
      clear hz1 hk1 hB ht hvm hPc hDc hKc
      generalize H1 = H at hP hS ⊢
      obtain rfl : r_5 = 0 := hw_5
      refine lv_if_eq (tgt := 28) hx hb dX8_say_22 (by decide) (fun _ => ?_) (fun h => absurd (by decide) h)
      refine lv_aload_n hx hb dX8_say_28 rfl (lv_at hl 0 rfl) ?_
      refine va_get (D := (dC, dI)) (ci := 7) (v := .ref p2) (C := RX8) (T := TX8) (N := 6) hx hb hts inB_8 hown hK hP 0 rfl rfl 1 (by decide) (hts _ mw_1_169) (fun _ h9 => h9) rfl dX8_say_29 ?_
      refine lv_iload_n hx hb dX8_say_32 rfl (lv_at hl 1 rfl) ?_
      have hPc := hP.sub (ws' := [(p2, .inr (2, [.ref d0, .int 0])), (d0, .inl (kd0, 12, .inl (fun _ => 0)))]) [1, 2] rfl
      have hDc := hD.sub (ws' := [(p2, .inr (2, [.ref d0, .int 0])), (d0, .inl (kd0, 12, .inl (fun _ => 0)))]) [1, 2] (by decide) rfl
      have hKc := hK.sub (tys' := [(kd0, .char)]) [0] rfl
      have hFc := va_free (wc := [(p2, .inr (2, [.ref d0, .int 0])), (d0, .inl (kd0, 12, .inl (fun _ => 0)))]) hD hS hA [1, 2] rfl
      refine va_calli (va_runV (As := [.int n1]) (rest := []) ⟨hx, hb, hml, hown, hts⟩ (c_pPut l dC dI H.size p2 d0 kd0 n1) (cwV 1 hts (gV mw_2_69 mw_2_70 mw_2_71 mw_1_4 mw_2_72) rfl rfl rfl (by decide +kernel) ⟨Nat.le_of_ble_eq_true rfl, Nat.le_of_ble_eq_true rfl⟩) ⟨pcW_blind, va_recv hKc hPc (ci := 2) (q0 := 0) rfl rfl, pcW_at hPc hKc hDc hN⟩ rfl rfl hl.1 rfl (lv_room (Nat.le_of_ble_eq_true rfl)) dX8_say_33 ⟨Nat.le_of_ble_eq_true rfl, Nat.le_of_ble_eq_true rfl⟩) hS (fun q _ h => hFc q h) hFc (fun r_6 u t H1 locs ht hvm hw_6 hB hz1 hk1 hS => ?_)
      obtain ⟨hP, hD⟩ := va_join (wr := [(h0, .inr (7, [u0, .ref p2, u2, u3, u4, u5]))]) (w1 := []) hP hD [1, 2] [0] rfl rfl (by decide) (by decide) hk1 hFc nilP nilD
      rw [List.append_nil] at hP hD
      clear hz1 hk1 hPc hDc hKc hFc
      generalize H1 = H at hP hS ⊢
      have hK : va_K (dC, dI) vwCl [(kd0, .char)] s := hK
      have hP : va_P (dC, dI) vwCl [(h0, .inr (7, [u0, .ref p2, u2, u3, u4, u5]))] H := hP
      have hD : va_D A [(h0, .inr (7, [u0, .ref p2, u2, u3, u4, u5]))] := hD
      obtain rfl : r_6 = 1 := hw_6
      exact W.iret (v := 1) hx hb hr (fun t ht hW => ⟨⟨1, (), rfl, (by (unfold F_say; repeat' split) <;> first | rfl | (exfalso; omega)), trivial⟩, hS.F ht⟩) hS.2.2 dX8_say_36
    · have b_4 := fn_le (x := n1) (C := 126) (by decide) c_3
      refine lv_bipush (v := (-2)) hx hb dX8_say_12 (by decide) ?_
      exact W.iret (v := (-2)) hx hb hr (fun t ht hW => ⟨⟨(-2), (), rfl, (by (unfold F_say; repeat' split) <;> first | rfl | (exfalso; omega)), trivial⟩, hS.F ht⟩) hS.2.2 dX8_say_14
set_option maxHeartbeats 4000000 in
set_option maxRecDepth 100000 in
theorem x_wipe (l : Launch) (dC : Nat → ClassId) (dI : Nat → Nat → Nat) (sz : Nat) (h0 : Nat) (u0 : Value) (p2 : Nat) (u2 : Value) (u3 : Value) (u4 : Value) (u5 : Value) (w0 : Value)  : Met l yX8_wipe (wq yX8_wipe cX8_wipe 1 (some .int)) ({ frames := 1, cells := 0, slots := 0, locals := 21 }) (va_Pc [.ref h0] (pcW dC dI [] [(h0, .inr (7, [u0, .ref p2, u2, u3, u4, u5])), (p2, .inr (2, [w0, .int 0]))] sz)) (va_Qi (fun (r : Int32) (_ : Unit) => r = 0) (fun _ _ => True) (va_A [(h0, .inr (7, [u0, .ref p2, u2, u3, u4, u5])), (p2, .inr (2, [w0, .int 0]))] sz)) 0 0 (va_A [(h0, .inr (7, [u0, .ref p2, u2, u3, u4, u5])), (p2, .inr (2, [w0, .int 0]))] sz) := by
  refine Met.ofW (cc := cX8_wipe) (maxL := 1) (ret := (some .int)) (by decide) rfl ?_
  intro p e s m args below meth c s₁ B hml hv
  obtain ⟨rfl, hsz, hN, hP, hK, hD0⟩ := hv
  have hx := B.exec
  have hb := B.bytes
  have hr := B.returns
  have hts0 := atoms_spec (ws := (wq yX8_wipe cX8_wipe 1 (some .int))) B.pre
  have hts : ∀ w ∈ BG, w.before _ s = true := fun w h => hts0 w (List.mem_cons_of_mem _ h)
  have hown : s.vm.findClass RX8 = some m.cls := findClass_of_methodNamed B.named
  have hlocks := B.notSynchronized
  subst hsz
  have hD := hD0.self (sz := s.heap.size)
  generalize hAe : va_A [(h0, .inr (7, [u0, .ref p2, u2, u3, u4, u5])), (p2, .inr (2, [w0, .int 0]))] s.heap.size = A at hD ⊢
  have hA : ∀ q : Nat, s.heap.size ≤ q → A q := fun q h => by rw [← hAe]; exact Or.inr h
  have hS : va_S A s.heap s.heap [] := va_S.rf
  have hP : va_P (dC, dI) vwCl [(h0, .inr (7, [u0, .ref p2, u2, u3, u4, u5])), (p2, .inr (2, [w0, .int 0]))] s.heap := hP
  have hl := lv_entry ([.ref h0]) (n := 1) (Nat.le_of_ble_eq_true rfl)
  rw [lg_entry_eq]
  generalize (lg_sl ([.ref h0]) ++ List.replicate (1 - (lg_sl ([.ref h0])).length) Slot.unset).toArray = ls at hl ⊢
  have hl : lv_has ls 1 [(0, .ref h0)] := hl
  skip
  refine lv_aload_n hx hb dX8_wipe_0 rfl (lv_at hl 0 rfl) ?_
  refine va_get (D := (dC, dI)) (ci := 7) (v := .ref p2) (C := RX8) (T := TX8) (N := 6) hx hb hts inB_8 hown hK hP 0 rfl rfl 1 (by decide) (hts _ mw_1_169) (fun _ h9 => h9) rfl dX8_wipe_1 ?_
  have hPc := hP.sub (ws' := [(p2, .inr (2, [w0, .int 0]))]) [1] rfl
  have hDc := hD.sub (ws' := [(p2, .inr (2, [w0, .int 0]))]) [1] (by decide) rfl
  have hKc := hK.sub (tys' := []) [] rfl
  have hFc := va_free (wc := [(p2, .inr (2, [w0, .int 0]))]) hD hS hA [1] rfl
  refine va_calli (va_runV (As := []) (rest := []) ⟨hx, hb, hml, hown, hts⟩ (c_pEmpty l dC dI s.heap.size p2 (w0)) (cwV 0 hts (gV mw_2_78 mw_2_79 mw_2_80 mw_1_4 mw_2_81) rfl rfl rfl (by decide +kernel) ⟨Nat.le_of_ble_eq_true rfl, Nat.le_of_ble_eq_true rfl⟩) ⟨pcW_blind, va_recv hKc hPc (ci := 2) (q0 := 0) rfl rfl, pcW_at hPc hKc hDc hN⟩ rfl rfl hl.1 rfl (lv_room (Nat.le_of_ble_eq_true rfl)) dX8_wipe_4 ⟨Nat.le_of_ble_eq_true rfl, Nat.le_of_ble_eq_true rfl⟩) hS (fun q _ h => hFc q h) hFc (fun r_1 u t H1 locs ht hvm hw_1 hB hz1 hk1 hS => ?_)
  obtain ⟨hP, hD⟩ := va_join (wr := [(h0, .inr (7, [u0, .ref p2, u2, u3, u4, u5]))]) (w1 := []) hP hD [1] [0] rfl rfl (by decide) (by decide) hk1 hFc nilP nilD
  rw [List.append_nil] at hP hD
  clear hz1 hk1 hPc hDc hKc hFc
  generalize H1 = H at hP hS ⊢
  have hK : va_K (dC, dI) vwCl [] s := hK
  have hP : va_P (dC, dI) vwCl [(h0, .inr (7, [u0, .ref p2, u2, u3, u4, u5]))] H := hP
  have hD : va_D A [(h0, .inr (7, [u0, .ref p2, u2, u3, u4, u5]))] := hD
  obtain rfl : r_1 = 0 := hw_1
  exact W.iret (v := 0) hx hb hr (fun t ht hW => ⟨⟨0, (), rfl, rfl, trivial⟩, hS.F ht⟩) hS.2.2 dX8_wipe_7
set_option maxHeartbeats 4000000 in
set_option maxRecDepth 100000 in
theorem x_fault (l : Launch) (dC : Nat → ClassId) (dI : Nat → Nat → Nat) (sz : Nat) (h0 : Nat) (u0 : Value) (p2 : Nat) (u2 : Value) (u3 : Value) (u4 : Value) (u5 : Value) (w0 : Value)  : Met l yX8_fault (wq yX8_fault cX8_fault 1 (some .int)) ({ frames := 1, cells := 0, slots := 0, locals := 21 }) (va_Pc [.ref h0] (pcW dC dI [] [(h0, .inr (7, [u0, .ref p2, u2, u3, u4, u5])), (p2, .inr (2, [w0, .int 0]))] sz)) (va_Qi (fun (r : Int32) (_ : Unit) => r = (-6)) (fun _ _ => True) (fun q : Nat => sz ≤ q)) 0 0 (fun q : Nat => sz ≤ q) := by
  refine Met.ofW (cc := cX8_fault) (maxL := 1) (ret := (some .int)) (by decide) rfl ?_
  intro p e s m args below meth c s₁ B hml hv
  obtain ⟨rfl, hsz, hN, hP, hK, hD0⟩ := hv
  have hx := B.exec
  have hb := B.bytes
  have hr := B.returns
  have hts0 := atoms_spec (ws := (wq yX8_fault cX8_fault 1 (some .int))) B.pre
  have hts : ∀ w ∈ BG, w.before _ s = true := fun w h => hts0 w (List.mem_cons_of_mem _ h)
  have hown : s.vm.findClass RX8 = some m.cls := findClass_of_methodNamed B.named
  have hlocks := B.notSynchronized
  subst hsz
  have hA : ∀ q : Nat, s.heap.size ≤ q → (fun q : Nat => s.heap.size ≤ q) q := fun _ h => h
  have hD := hD0
  have hS : va_S (fun q : Nat => s.heap.size ≤ q) s.heap s.heap [] := va_S.rf
  have hP : va_P (dC, dI) vwCl [(h0, .inr (7, [u0, .ref p2, u2, u3, u4, u5])), (p2, .inr (2, [w0, .int 0]))] s.heap := hP
  have hl := lv_entry ([.ref h0]) (n := 1) (Nat.le_of_ble_eq_true rfl)
  rw [lg_entry_eq]
  generalize (lg_sl ([.ref h0]) ++ List.replicate (1 - (lg_sl ([.ref h0])).length) Slot.unset).toArray = ls at hl ⊢
  have hl : lv_has ls 1 [(0, .ref h0)] := hl
  skip
  refine lv_aload_n hx hb dX8_fault_0 rfl (lv_at hl 0 rfl) ?_
  refine va_get (D := (dC, dI)) (ci := 7) (v := .ref p2) (C := RX8) (T := TX8) (N := 6) hx hb hts inB_8 hown hK hP 0 rfl rfl 1 (by decide) (hts _ mw_1_169) (fun _ h9 => h9) rfl dX8_fault_1 ?_
  have hPc := hP.sub (ws' := [(p2, .inr (2, [w0, .int 0]))]) [1] rfl
  have hDc := hD.sub (ws' := [(p2, .inr (2, [w0, .int 0]))]) [1] (by decide) rfl
  have hKc := hK.sub (tys' := []) [] rfl
  refine va_calli (va_runV (As := []) (rest := []) ⟨hx, hb, hml, hown, hts⟩ (c_pFault l dC dI s.heap.size p2 (w0)) (cwV 0 hts (gV mw_2_86 mw_2_87 mw_2_88 mw_1_4 mw_2_89) rfl rfl rfl (by decide +kernel) ⟨Nat.le_of_ble_eq_true rfl, Nat.le_of_ble_eq_true rfl⟩) ⟨pcW_blind, va_recv hKc hPc (ci := 2) (q0 := 0) rfl rfl, pcW_at hPc hKc hDc hN⟩ rfl rfl hl.1 rfl (lv_room (Nat.le_of_ble_eq_true rfl)) dX8_fault_4 ⟨Nat.le_of_ble_eq_true rfl, Nat.le_of_ble_eq_true rfl⟩) hS (fun q h1 h2 => absurd h2 (Nat.not_le.mpr h1)) (fun q h => hA q (Nat.le_trans hS.1 h)) (fun r_1 u t H1 locs ht hvm hw_1 hB hz1 hk1 hS => ?_)
  have hP := keepP hP hk1
  clear hz1 hk1 hB ht hvm hPc hDc hKc
  generalize H1 = H at hP hS ⊢
  obtain rfl : r_1 = (-6) := hw_1
  exact W.iret (v := (-6)) hx hb hr (fun t ht hW => ⟨⟨(-6), (), rfl, rfl, trivial⟩, hS.F ht⟩) hS.2.2 dX8_fault_7
set_option maxHeartbeats 4000000 in
set_option maxRecDepth 100000 in
theorem x_has (l : Launch) (dC : Nat → ClassId) (dI : Nat → Nat → Nat) (sz : Nat) (h0 : Nat) (p1 : Nat) (u1 : Value) (u2 : Value) (u3 : Value) (u4 : Value) (u5 : Value) (w0 : Value) (w1 : Value) (w2 : Value) (w3 : Value) (w4 : Value) (w5 : Value) (w7 : Value) (n1 : Int32) (n2 : Int32)  : Met l yX8_has (wq yX8_has cX8_has 4 (some .int)) ({ frames := 1, cells := 0, slots := 0, locals := 21 }) (va_Pc [.ref h0, .int n1, .int n2] (pcW dC dI [] [(h0, .inr (7, [.ref p1, u1, u2, u3, u4, u5])), (p1, .inr (1, [w0, w1, w2, w3, w4, w5, .int 0, w7]))] sz)) (va_Qi (fun (r : Int32) (_ : Unit) => r = (-1)) (fun _ _ => True) (fun q : Nat => sz ≤ q)) 0 0 (fun q : Nat => sz ≤ q) := by
  refine Met.ofW (cc := cX8_has) (maxL := 4) (ret := (some .int)) (by decide) rfl ?_
  intro p e s m args below meth c s₁ B hml hv
  obtain ⟨rfl, hsz, hN, hP, hK, hD0⟩ := hv
  have hx := B.exec
  have hb := B.bytes
  have hr := B.returns
  have hts0 := atoms_spec (ws := (wq yX8_has cX8_has 4 (some .int))) B.pre
  have hts : ∀ w ∈ BG, w.before _ s = true := fun w h => hts0 w (List.mem_cons_of_mem _ h)
  have hown : s.vm.findClass RX8 = some m.cls := findClass_of_methodNamed B.named
  have hlocks := B.notSynchronized
  subst hsz
  have hA : ∀ q : Nat, s.heap.size ≤ q → (fun q : Nat => s.heap.size ≤ q) q := fun _ h => h
  have hD := hD0
  have hS : va_S (fun q : Nat => s.heap.size ≤ q) s.heap s.heap [] := va_S.rf
  have hP : va_P (dC, dI) vwCl [(h0, .inr (7, [.ref p1, u1, u2, u3, u4, u5])), (p1, .inr (1, [w0, w1, w2, w3, w4, w5, .int 0, w7]))] s.heap := hP
  have hl := lv_entry ([.ref h0, .int n1, .int n2]) (n := 4) (Nat.le_of_ble_eq_true rfl)
  rw [lg_entry_eq]
  generalize (lg_sl ([.ref h0, .int n1, .int n2]) ++ List.replicate (4 - (lg_sl ([.ref h0, .int n1, .int n2])).length) Slot.unset).toArray = ls at hl ⊢
  have hl : lv_has ls 4 [(0, .ref h0), (1, .int n1), (2, .int n2)] := hl
  skip
  refine lv_aload_n hx hb dX8_has_0 rfl (lv_at hl 0 rfl) ?_
  refine va_get (D := (dC, dI)) (ci := 7) (v := .ref p1) (C := RX8) (T := TX8) (N := 6) hx hb hts inB_8 hown hK hP 0 rfl rfl 0 (by decide) (hts _ mw_1_168) (fun _ h9 => h9) rfl dX8_has_1 ?_
  refine lv_iload_n hx hb dX8_has_4 rfl (lv_at hl 1 rfl) ?_
  have hPc := hP.sub (ws' := [(p1, .inr (1, [w0, w1, w2, w3, w4, w5, .int 0, w7]))]) [1] rfl
  have hDc := hD.sub (ws' := [(p1, .inr (1, [w0, w1, w2, w3, w4, w5, .int 0, w7]))]) [1] (by decide) rfl
  have hKc := hK.sub (tys' := []) [] rfl
  refine va_calli (va_runV (As := [.int n1]) (rest := []) ⟨hx, hb, hml, hown, hts⟩ (c_knows0 l dC dI s.heap.size p1 (w0) (w1) (w2) (w3) (w4) (w5) (w7) n1) (cwV 1 hts (gV mw_1_191 mw_1_192 mw_1_193 mw_1_2 mw_1_194) rfl rfl rfl (by decide +kernel) ⟨Nat.le_of_ble_eq_true rfl, Nat.le_of_ble_eq_true rfl⟩) ⟨pcW_blind, va_recv hKc hPc (ci := 1) (q0 := 0) rfl rfl, pcW_at hPc hKc hDc hN⟩ rfl rfl hl.1 rfl (lv_room (Nat.le_of_ble_eq_true rfl)) dX8_has_5 ⟨Nat.le_of_ble_eq_true rfl, Nat.le_of_ble_eq_true rfl⟩) hS (fun q h1 h2 => absurd h2 (Nat.not_le.mpr h1)) (fun q h => hA q (Nat.le_trans hS.1 h)) (fun r_1 u t H1 locs ht hvm hw_1 hB hz1 hk1 hS => ?_)
  have hP := keepP hP hk1
  clear hz1 hk1 hB ht hvm hPc hDc hKc
  generalize H1 = H at hP hS ⊢
  obtain rfl : r_1 = 0 := hw_1
  refine lv_if_eq (tgt := 18) hx hb dX8_has_8 (by decide) (fun _ => ?_) (fun h => absurd (by decide) h)
  refine lv_iconst (v := (-1)) hx hb dX8_has_18 (by decide) ?_
  exact W.iret (v := (-1)) hx hb hr (fun t ht hW => ⟨⟨(-1), (), rfl, rfl, trivial⟩, hS.F ht⟩) hS.2.2 dX8_has_19
set_option maxHeartbeats 4000000 in
set_option maxRecDepth 100000 in
theorem x_drop (l : Launch) (dC : Nat → ClassId) (dI : Nat → Nat → Nat) (sz : Nat) (h0 : Nat) (p1 : Nat) (u1 : Value) (u2 : Value) (u3 : Value) (u4 : Value) (u5 : Value) (w0 : Value) (w1 : Value) (w2 : Value) (w3 : Value) (w4 : Value) (w5 : Value) (w7 : Value) (n1 : Int32) (n2 : Int32)  : Met l yX8_drop (wq yX8_drop cX8_drop 3 (some .int)) ({ frames := 1, cells := 0, slots := 0, locals := 21 }) (va_Pc [.ref h0, .int n1, .int n2] (pcW dC dI [] [(h0, .inr (7, [.ref p1, u1, u2, u3, u4, u5])), (p1, .inr (1, [w0, w1, w2, w3, w4, w5, .int 0, w7]))] sz)) (va_Qi (fun (r : Int32) (_ : Unit) => r = (-1)) (fun _ _ => True) (fun q : Nat => sz ≤ q)) 0 0 (fun q : Nat => sz ≤ q) := by
  refine Met.ofW (cc := cX8_drop) (maxL := 3) (ret := (some .int)) (by decide) rfl ?_
  intro p e s m args below meth c s₁ B hml hv
  obtain ⟨rfl, hsz, hN, hP, hK, hD0⟩ := hv
  have hx := B.exec
  have hb := B.bytes
  have hr := B.returns
  have hts0 := atoms_spec (ws := (wq yX8_drop cX8_drop 3 (some .int))) B.pre
  have hts : ∀ w ∈ BG, w.before _ s = true := fun w h => hts0 w (List.mem_cons_of_mem _ h)
  have hown : s.vm.findClass RX8 = some m.cls := findClass_of_methodNamed B.named
  have hlocks := B.notSynchronized
  subst hsz
  have hA : ∀ q : Nat, s.heap.size ≤ q → (fun q : Nat => s.heap.size ≤ q) q := fun _ h => h
  have hD := hD0
  have hS : va_S (fun q : Nat => s.heap.size ≤ q) s.heap s.heap [] := va_S.rf
  have hP : va_P (dC, dI) vwCl [(h0, .inr (7, [.ref p1, u1, u2, u3, u4, u5])), (p1, .inr (1, [w0, w1, w2, w3, w4, w5, .int 0, w7]))] s.heap := hP
  have hl := lv_entry ([.ref h0, .int n1, .int n2]) (n := 3) (Nat.le_of_ble_eq_true rfl)
  rw [lg_entry_eq]
  generalize (lg_sl ([.ref h0, .int n1, .int n2]) ++ List.replicate (3 - (lg_sl ([.ref h0, .int n1, .int n2])).length) Slot.unset).toArray = ls at hl ⊢
  have hl : lv_has ls 3 [(0, .ref h0), (1, .int n1), (2, .int n2)] := hl
  skip
  refine lv_aload_n hx hb dX8_drop_0 rfl (lv_at hl 0 rfl) ?_
  refine va_get (D := (dC, dI)) (ci := 7) (v := .ref p1) (C := RX8) (T := TX8) (N := 6) hx hb hts inB_8 hown hK hP 0 rfl rfl 0 (by decide) (hts _ mw_1_168) (fun _ h9 => h9) rfl dX8_drop_1 ?_
  refine lv_iload_n hx hb dX8_drop_4 rfl (lv_at hl 1 rfl) ?_
  have hPc := hP.sub (ws' := [(p1, .inr (1, [w0, w1, w2, w3, w4, w5, .int 0, w7]))]) [1] rfl
  have hDc := hD.sub (ws' := [(p1, .inr (1, [w0, w1, w2, w3, w4, w5, .int 0, w7]))]) [1] (by decide) rfl
  have hKc := hK.sub (tys' := []) [] rfl
  refine va_calli (va_runV (As := [.int n1]) (rest := []) ⟨hx, hb, hml, hown, hts⟩ (c_knows0 l dC dI s.heap.size p1 (w0) (w1) (w2) (w3) (w4) (w5) (w7) n1) (cwV 1 hts (gV mw_1_191 mw_1_192 mw_1_193 mw_1_2 mw_1_194) rfl rfl rfl (by decide +kernel) ⟨Nat.le_of_ble_eq_true rfl, Nat.le_of_ble_eq_true rfl⟩) ⟨pcW_blind, va_recv hKc hPc (ci := 1) (q0 := 0) rfl rfl, pcW_at hPc hKc hDc hN⟩ rfl rfl hl.1 rfl (lv_room (Nat.le_of_ble_eq_true rfl)) dX8_drop_5 ⟨Nat.le_of_ble_eq_true rfl, Nat.le_of_ble_eq_true rfl⟩) hS (fun q h1 h2 => absurd h2 (Nat.not_le.mpr h1)) (fun q h => hA q (Nat.le_trans hS.1 h)) (fun r_1 u t H1 locs ht hvm hw_1 hB hz1 hk1 hS => ?_)
  have hP := keepP hP hk1
  clear hz1 hk1 hB ht hvm hPc hDc hKc
  generalize H1 = H at hP hS ⊢
  obtain rfl : r_1 = 0 := hw_1
  refine lv_if_eq (tgt := 18) hx hb dX8_drop_8 (by decide) (fun _ => ?_) (fun h => absurd (by decide) h)
  refine lv_iconst (v := (-1)) hx hb dX8_drop_18 (by decide) ?_
  exact W.iret (v := (-1)) hx hb hr (fun t ht hW => ⟨⟨(-1), (), rfl, rfl, trivial⟩, hS.F ht⟩) hS.2.2 dX8_drop_19
set_option maxHeartbeats 4000000 in
set_option maxRecDepth 100000 in
theorem x_answer (l : Launch) (dC : Nat → ClassId) (dI : Nat → Nat → Nat) (sz : Nat) (h0 : Nat) (p1 : Nat) (u1 : Value) (u2 : Value) (u3 : Value) (u4 : Value) (u5 : Value) (w0 : Value) (w1 : Value) (w2 : Value) (w3 : Value) (w4 : Value) (w5 : Value) (w7 : Value) (n1 : Int32) (n2 : Int32)  : Met l yX8_answer (wq yX8_answer cX8_answer 3 (some .int)) ({ frames := 1, cells := 0, slots := 0, locals := 21 }) (va_Pc [.ref h0, .int n1, .int n2] (pcW dC dI [] [(h0, .inr (7, [.ref p1, u1, u2, u3, u4, u5])), (p1, .inr (1, [w0, w1, w2, w3, w4, w5, .int 0, w7]))] sz)) (va_Qi (fun (r : Int32) (_ : Unit) => r = (-1)) (fun _ _ => True) (fun q : Nat => sz ≤ q)) 0 0 (fun q : Nat => sz ≤ q) := by
  refine Met.ofW (cc := cX8_answer) (maxL := 3) (ret := (some .int)) (by decide) rfl ?_
  intro p e s m args below meth c s₁ B hml hv
  obtain ⟨rfl, hsz, hN, hP, hK, hD0⟩ := hv
  have hx := B.exec
  have hb := B.bytes
  have hr := B.returns
  have hts0 := atoms_spec (ws := (wq yX8_answer cX8_answer 3 (some .int))) B.pre
  have hts : ∀ w ∈ BG, w.before _ s = true := fun w h => hts0 w (List.mem_cons_of_mem _ h)
  have hown : s.vm.findClass RX8 = some m.cls := findClass_of_methodNamed B.named
  have hlocks := B.notSynchronized
  subst hsz
  have hA : ∀ q : Nat, s.heap.size ≤ q → (fun q : Nat => s.heap.size ≤ q) q := fun _ h => h
  have hD := hD0
  have hS : va_S (fun q : Nat => s.heap.size ≤ q) s.heap s.heap [] := va_S.rf
  have hP : va_P (dC, dI) vwCl [(h0, .inr (7, [.ref p1, u1, u2, u3, u4, u5])), (p1, .inr (1, [w0, w1, w2, w3, w4, w5, .int 0, w7]))] s.heap := hP
  have hl := lv_entry ([.ref h0, .int n1, .int n2]) (n := 3) (Nat.le_of_ble_eq_true rfl)
  rw [lg_entry_eq]
  generalize (lg_sl ([.ref h0, .int n1, .int n2]) ++ List.replicate (3 - (lg_sl ([.ref h0, .int n1, .int n2])).length) Slot.unset).toArray = ls at hl ⊢
  have hl : lv_has ls 3 [(0, .ref h0), (1, .int n1), (2, .int n2)] := hl
  skip
  refine lv_aload_n hx hb dX8_answer_0 rfl (lv_at hl 0 rfl) ?_
  refine va_get (D := (dC, dI)) (ci := 7) (v := .ref p1) (C := RX8) (T := TX8) (N := 6) hx hb hts inB_8 hown hK hP 0 rfl rfl 0 (by decide) (hts _ mw_1_168) (fun _ h9 => h9) rfl dX8_answer_1 ?_
  refine lv_iload_n hx hb dX8_answer_4 rfl (lv_at hl 1 rfl) ?_
  have hPc := hP.sub (ws' := [(p1, .inr (1, [w0, w1, w2, w3, w4, w5, .int 0, w7]))]) [1] rfl
  have hDc := hD.sub (ws' := [(p1, .inr (1, [w0, w1, w2, w3, w4, w5, .int 0, w7]))]) [1] (by decide) rfl
  have hKc := hK.sub (tys' := []) [] rfl
  refine va_calli (va_runV (As := [.int n1]) (rest := []) ⟨hx, hb, hml, hown, hts⟩ (c_knows0 l dC dI s.heap.size p1 (w0) (w1) (w2) (w3) (w4) (w5) (w7) n1) (cwV 1 hts (gV mw_1_191 mw_1_192 mw_1_193 mw_1_2 mw_1_194) rfl rfl rfl (by decide +kernel) ⟨Nat.le_of_ble_eq_true rfl, Nat.le_of_ble_eq_true rfl⟩) ⟨pcW_blind, va_recv hKc hPc (ci := 1) (q0 := 0) rfl rfl, pcW_at hPc hKc hDc hN⟩ rfl rfl hl.1 rfl (lv_room (Nat.le_of_ble_eq_true rfl)) dX8_answer_5 ⟨Nat.le_of_ble_eq_true rfl, Nat.le_of_ble_eq_true rfl⟩) hS (fun q h1 h2 => absurd h2 (Nat.not_le.mpr h1)) (fun q h => hA q (Nat.le_trans hS.1 h)) (fun r_1 u t H1 locs ht hvm hw_1 hB hz1 hk1 hS => ?_)
  have hP := keepP hP hk1
  clear hz1 hk1 hB ht hvm hPc hDc hKc
  generalize H1 = H at hP hS ⊢
  obtain rfl : r_1 = 0 := hw_1
  refine lv_if_eq (tgt := 18) hx hb dX8_answer_8 (by decide) (fun _ => ?_) (fun h => absurd (by decide) h)
  refine lv_iconst (v := (-1)) hx hb dX8_answer_18 (by decide) ?_
  exact W.iret (v := (-1)) hx hb hr (fun t ht hW => ⟨⟨(-1), (), rfl, rfl, trivial⟩, hS.F ht⟩) hS.2.2 dX8_answer_19
set_option maxHeartbeats 4000000 in
set_option maxRecDepth 100000 in
theorem x_next (l : Launch) (dC : Nat → ClassId) (dI : Nat → Nat → Nat) (sz : Nat) (h0 : Nat) (p1 : Nat) (u1 : Value) (u2 : Value) (u3 : Value) (u4 : Value) (u5 : Value) (w0 : Value) (w1 : Value) (w2 : Value) (w3 : Value) (w4 : Value) (w5 : Value) (w7 : Value) (n1 : Int32) (n2 : Int32) (n3 : Int32)  : Met l yX8_next (wq yX8_next cX8_next 5 (some .int)) ({ frames := 1, cells := 0, slots := 0, locals := 21 }) (va_Pc [.ref h0, .int n1, .int n2, .int n3] (pcW dC dI [] [(h0, .inr (7, [.ref p1, u1, u2, u3, u4, u5])), (p1, .inr (1, [w0, w1, w2, w3, w4, w5, .int 0, w7]))] sz)) (va_Qi (fun (r : Int32) (_ : Unit) => r = (-1)) (fun _ _ => True) (fun q : Nat => sz ≤ q)) 0 0 (fun q : Nat => sz ≤ q) := by
  refine Met.ofW (cc := cX8_next) (maxL := 5) (ret := (some .int)) (by decide) rfl ?_
  intro p e s m args below meth c s₁ B hml hv
  obtain ⟨rfl, hsz, hN, hP, hK, hD0⟩ := hv
  have hx := B.exec
  have hb := B.bytes
  have hr := B.returns
  have hts0 := atoms_spec (ws := (wq yX8_next cX8_next 5 (some .int))) B.pre
  have hts : ∀ w ∈ BG, w.before _ s = true := fun w h => hts0 w (List.mem_cons_of_mem _ h)
  have hown : s.vm.findClass RX8 = some m.cls := findClass_of_methodNamed B.named
  have hlocks := B.notSynchronized
  subst hsz
  have hA : ∀ q : Nat, s.heap.size ≤ q → (fun q : Nat => s.heap.size ≤ q) q := fun _ h => h
  have hD := hD0
  have hS : va_S (fun q : Nat => s.heap.size ≤ q) s.heap s.heap [] := va_S.rf
  have hP : va_P (dC, dI) vwCl [(h0, .inr (7, [.ref p1, u1, u2, u3, u4, u5])), (p1, .inr (1, [w0, w1, w2, w3, w4, w5, .int 0, w7]))] s.heap := hP
  have hl := lv_entry ([.ref h0, .int n1, .int n2, .int n3]) (n := 5) (Nat.le_of_ble_eq_true rfl)
  rw [lg_entry_eq]
  generalize (lg_sl ([.ref h0, .int n1, .int n2, .int n3]) ++ List.replicate (5 - (lg_sl ([.ref h0, .int n1, .int n2, .int n3])).length) Slot.unset).toArray = ls at hl ⊢
  have hl : lv_has ls 5 [(0, .ref h0), (1, .int n1), (2, .int n2), (3, .int n3)] := hl
  skip
  refine lv_aload_n hx hb dX8_next_0 rfl (lv_at hl 0 rfl) ?_
  refine va_get (D := (dC, dI)) (ci := 7) (v := .ref p1) (C := RX8) (T := TX8) (N := 6) hx hb hts inB_8 hown hK hP 0 rfl rfl 0 (by decide) (hts _ mw_1_168) (fun _ h9 => h9) rfl dX8_next_1 ?_
  refine lv_iload_n hx hb dX8_next_4 rfl (lv_at hl 1 rfl) ?_
  have hPc := hP.sub (ws' := [(p1, .inr (1, [w0, w1, w2, w3, w4, w5, .int 0, w7]))]) [1] rfl
  have hDc := hD.sub (ws' := [(p1, .inr (1, [w0, w1, w2, w3, w4, w5, .int 0, w7]))]) [1] (by decide) rfl
  have hKc := hK.sub (tys' := []) [] rfl
  refine va_calli (va_runV (As := [.int n1]) (rest := []) ⟨hx, hb, hml, hown, hts⟩ (c_knows0 l dC dI s.heap.size p1 (w0) (w1) (w2) (w3) (w4) (w5) (w7) n1) (cwV 1 hts (gV mw_1_191 mw_1_192 mw_1_193 mw_1_2 mw_1_194) rfl rfl rfl (by decide +kernel) ⟨Nat.le_of_ble_eq_true rfl, Nat.le_of_ble_eq_true rfl⟩) ⟨pcW_blind, va_recv hKc hPc (ci := 1) (q0 := 0) rfl rfl, pcW_at hPc hKc hDc hN⟩ rfl rfl hl.1 rfl (lv_room (Nat.le_of_ble_eq_true rfl)) dX8_next_5 ⟨Nat.le_of_ble_eq_true rfl, Nat.le_of_ble_eq_true rfl⟩) hS (fun q h1 h2 => absurd h2 (Nat.not_le.mpr h1)) (fun q h => hA q (Nat.le_trans hS.1 h)) (fun r_1 u t H1 locs ht hvm hw_1 hB hz1 hk1 hS => ?_)
  have hP := keepP hP hk1
  clear hz1 hk1 hB ht hvm hPc hDc hKc
  generalize H1 = H at hP hS ⊢
  obtain rfl : r_1 = 0 := hw_1
  refine lv_if_eq (tgt := 29) hx hb dX8_next_8 (by decide) (fun _ => ?_) (fun h => absurd (by decide) h)
  refine lv_iconst (v := (-1)) hx hb dX8_next_29 (by decide) ?_
  exact W.iret (v := (-1)) hx hb hr (fun t ht hW => ⟨⟨(-1), (), rfl, rfl, trivial⟩, hS.F ht⟩) hS.2.2 dX8_next_30
set_option maxHeartbeats 4000000 in
set_option maxRecDepth 100000 in
theorem x_run (l : Launch) (dC : Nat → ClassId) (dI : Nat → Nat → Nat) (sz : Nat) (h0 : Nat) (p1 : Nat) (u1 : Value) (u2 : Value) (u3 : Value) (u4 : Value) (u5 : Value) (w0 : Value) (w1 : Value) (w2 : Value) (w3 : Value) (w4 : Value) (w5 : Value) (w7 : Value) (n1 : Int32) (n2 : Int32) (n3 : Int32)  : Met l yX8_run (wq yX8_run cX8_run 5 (some .int)) ({ frames := 1, cells := 0, slots := 0, locals := 21 }) (va_Pc [.ref h0, .int n1, .int n2, .int n3] (pcW dC dI [] [(h0, .inr (7, [.ref p1, u1, u2, u3, u4, u5])), (p1, .inr (1, [w0, w1, w2, w3, w4, w5, .int 0, w7]))] sz)) (va_Qi (fun (r : Int32) (_ : Unit) => r = (-1)) (fun _ _ => True) (fun q : Nat => sz ≤ q)) 0 0 (fun q : Nat => sz ≤ q) := by
  refine Met.ofW (cc := cX8_run) (maxL := 5) (ret := (some .int)) (by decide) rfl ?_
  intro p e s m args below meth c s₁ B hml hv
  obtain ⟨rfl, hsz, hN, hP, hK, hD0⟩ := hv
  have hx := B.exec
  have hb := B.bytes
  have hr := B.returns
  have hts0 := atoms_spec (ws := (wq yX8_run cX8_run 5 (some .int))) B.pre
  have hts : ∀ w ∈ BG, w.before _ s = true := fun w h => hts0 w (List.mem_cons_of_mem _ h)
  have hown : s.vm.findClass RX8 = some m.cls := findClass_of_methodNamed B.named
  have hlocks := B.notSynchronized
  subst hsz
  have hA : ∀ q : Nat, s.heap.size ≤ q → (fun q : Nat => s.heap.size ≤ q) q := fun _ h => h
  have hD := hD0
  have hS : va_S (fun q : Nat => s.heap.size ≤ q) s.heap s.heap [] := va_S.rf
  have hP : va_P (dC, dI) vwCl [(h0, .inr (7, [.ref p1, u1, u2, u3, u4, u5])), (p1, .inr (1, [w0, w1, w2, w3, w4, w5, .int 0, w7]))] s.heap := hP
  have hl := lv_entry ([.ref h0, .int n1, .int n2, .int n3]) (n := 5) (Nat.le_of_ble_eq_true rfl)
  rw [lg_entry_eq]
  generalize (lg_sl ([.ref h0, .int n1, .int n2, .int n3]) ++ List.replicate (5 - (lg_sl ([.ref h0, .int n1, .int n2, .int n3])).length) Slot.unset).toArray = ls at hl ⊢
  have hl : lv_has ls 5 [(0, .ref h0), (1, .int n1), (2, .int n2), (3, .int n3)] := hl
  skip
  refine lv_aload_n hx hb dX8_run_0 rfl (lv_at hl 0 rfl) ?_
  refine va_get (D := (dC, dI)) (ci := 7) (v := .ref p1) (C := RX8) (T := TX8) (N := 6) hx hb hts inB_8 hown hK hP 0 rfl rfl 0 (by decide) (hts _ mw_1_168) (fun _ h9 => h9) rfl dX8_run_1 ?_
  refine lv_iload_n hx hb dX8_run_4 rfl (lv_at hl 1 rfl) ?_
  have hPc := hP.sub (ws' := [(p1, .inr (1, [w0, w1, w2, w3, w4, w5, .int 0, w7]))]) [1] rfl
  have hDc := hD.sub (ws' := [(p1, .inr (1, [w0, w1, w2, w3, w4, w5, .int 0, w7]))]) [1] (by decide) rfl
  have hKc := hK.sub (tys' := []) [] rfl
  refine va_calli (va_runV (As := [.int n1]) (rest := []) ⟨hx, hb, hml, hown, hts⟩ (c_knows0 l dC dI s.heap.size p1 (w0) (w1) (w2) (w3) (w4) (w5) (w7) n1) (cwV 1 hts (gV mw_1_191 mw_1_192 mw_1_193 mw_1_2 mw_1_194) rfl rfl rfl (by decide +kernel) ⟨Nat.le_of_ble_eq_true rfl, Nat.le_of_ble_eq_true rfl⟩) ⟨pcW_blind, va_recv hKc hPc (ci := 1) (q0 := 0) rfl rfl, pcW_at hPc hKc hDc hN⟩ rfl rfl hl.1 rfl (lv_room (Nat.le_of_ble_eq_true rfl)) dX8_run_5 ⟨Nat.le_of_ble_eq_true rfl, Nat.le_of_ble_eq_true rfl⟩) hS (fun q h1 h2 => absurd h2 (Nat.not_le.mpr h1)) (fun q h => hA q (Nat.le_trans hS.1 h)) (fun r_1 u t H1 locs ht hvm hw_1 hB hz1 hk1 hS => ?_)
  have hP := keepP hP hk1
  clear hz1 hk1 hB ht hvm hPc hDc hKc
  generalize H1 = H at hP hS ⊢
  obtain rfl : r_1 = 0 := hw_1
  refine lv_if_eq (tgt := 18) hx hb dX8_run_8 (by decide) (fun _ => ?_) (fun h => absurd (by decide) h)
  refine lv_iconst (v := (-1)) hx hb dX8_run_18 (by decide) ?_
  exact W.iret (v := (-1)) hx hb hr (fun t ht hW => ⟨⟨(-1), (), rfl, rfl, trivial⟩, hS.F ht⟩) hS.2.2 dX8_run_19
set_option maxHeartbeats 4000000 in
set_option maxRecDepth 100000 in
theorem x_nearest (l : Launch) (dC : Nat → ClassId) (dI : Nat → Nat → Nat) (sz : Nat) (h0 : Nat) (p1 : Nat) (u1 : Value) (u2 : Value) (u3 : Value) (u4 : Value) (u5 : Value) (w0 : Value) (w1 : Value) (w2 : Value) (w3 : Value) (w4 : Value) (w5 : Value) (w7 : Value) (n1 : Int32) (n2 : Int32)  : Met l yX8_nearest (wq yX8_nearest cX8_nearest 3 (some .int)) ({ frames := 1, cells := 0, slots := 0, locals := 21 }) (va_Pc [.ref h0, .int n1, .int n2] (pcW dC dI [] [(h0, .inr (7, [.ref p1, u1, u2, u3, u4, u5])), (p1, .inr (1, [w0, w1, w2, w3, w4, w5, .int 0, w7]))] sz)) (va_Qi (fun (r : Int32) (_ : Unit) => r = (-1)) (fun _ _ => True) (fun q : Nat => sz ≤ q)) 0 0 (fun q : Nat => sz ≤ q) := by
  refine Met.ofW (cc := cX8_nearest) (maxL := 3) (ret := (some .int)) (by decide) rfl ?_
  intro p e s m args below meth c s₁ B hml hv
  obtain ⟨rfl, hsz, hN, hP, hK, hD0⟩ := hv
  have hx := B.exec
  have hb := B.bytes
  have hr := B.returns
  have hts0 := atoms_spec (ws := (wq yX8_nearest cX8_nearest 3 (some .int))) B.pre
  have hts : ∀ w ∈ BG, w.before _ s = true := fun w h => hts0 w (List.mem_cons_of_mem _ h)
  have hown : s.vm.findClass RX8 = some m.cls := findClass_of_methodNamed B.named
  have hlocks := B.notSynchronized
  subst hsz
  have hA : ∀ q : Nat, s.heap.size ≤ q → (fun q : Nat => s.heap.size ≤ q) q := fun _ h => h
  have hD := hD0
  have hS : va_S (fun q : Nat => s.heap.size ≤ q) s.heap s.heap [] := va_S.rf
  have hP : va_P (dC, dI) vwCl [(h0, .inr (7, [.ref p1, u1, u2, u3, u4, u5])), (p1, .inr (1, [w0, w1, w2, w3, w4, w5, .int 0, w7]))] s.heap := hP
  have hl := lv_entry ([.ref h0, .int n1, .int n2]) (n := 3) (Nat.le_of_ble_eq_true rfl)
  rw [lg_entry_eq]
  generalize (lg_sl ([.ref h0, .int n1, .int n2]) ++ List.replicate (3 - (lg_sl ([.ref h0, .int n1, .int n2])).length) Slot.unset).toArray = ls at hl ⊢
  have hl : lv_has ls 3 [(0, .ref h0), (1, .int n1), (2, .int n2)] := hl
  skip
  refine lv_aload_n hx hb dX8_nearest_0 rfl (lv_at hl 0 rfl) ?_
  refine va_get (D := (dC, dI)) (ci := 7) (v := .ref p1) (C := RX8) (T := TX8) (N := 6) hx hb hts inB_8 hown hK hP 0 rfl rfl 0 (by decide) (hts _ mw_1_168) (fun _ h9 => h9) rfl dX8_nearest_1 ?_
  refine lv_iload_n hx hb dX8_nearest_4 rfl (lv_at hl 1 rfl) ?_
  have hPc := hP.sub (ws' := [(p1, .inr (1, [w0, w1, w2, w3, w4, w5, .int 0, w7]))]) [1] rfl
  have hDc := hD.sub (ws' := [(p1, .inr (1, [w0, w1, w2, w3, w4, w5, .int 0, w7]))]) [1] (by decide) rfl
  have hKc := hK.sub (tys' := []) [] rfl
  refine va_calli (va_runV (As := [.int n1]) (rest := []) ⟨hx, hb, hml, hown, hts⟩ (c_knows0 l dC dI s.heap.size p1 (w0) (w1) (w2) (w3) (w4) (w5) (w7) n1) (cwV 1 hts (gV mw_1_191 mw_1_192 mw_1_193 mw_1_2 mw_1_194) rfl rfl rfl (by decide +kernel) ⟨Nat.le_of_ble_eq_true rfl, Nat.le_of_ble_eq_true rfl⟩) ⟨pcW_blind, va_recv hKc hPc (ci := 1) (q0 := 0) rfl rfl, pcW_at hPc hKc hDc hN⟩ rfl rfl hl.1 rfl (lv_room (Nat.le_of_ble_eq_true rfl)) dX8_nearest_5 ⟨Nat.le_of_ble_eq_true rfl, Nat.le_of_ble_eq_true rfl⟩) hS (fun q h1 h2 => absurd h2 (Nat.not_le.mpr h1)) (fun q h => hA q (Nat.le_trans hS.1 h)) (fun r_1 u t H1 locs ht hvm hw_1 hB hz1 hk1 hS => ?_)
  have hP := keepP hP hk1
  clear hz1 hk1 hB ht hvm hPc hDc hKc
  generalize H1 = H at hP hS ⊢
  obtain rfl : r_1 = 0 := hw_1
  refine lv_if_eq (tgt := 18) hx hb dX8_nearest_8 (by decide) (fun _ => ?_) (fun h => absurd (by decide) h)
  refine lv_iconst (v := (-1)) hx hb dX8_nearest_18 (by decide) ?_
  exact W.iret (v := (-1)) hx hb hr (fun t ht hW => ⟨⟨(-1), (), rfl, rfl, trivial⟩, hS.F ht⟩) hS.2.2 dX8_nearest_19
set_option maxHeartbeats 4000000 in
set_option maxRecDepth 100000 in
theorem x_shift (l : Launch) (dC : Nat → ClassId) (dI : Nat → Nat → Nat) (sz : Nat) (h0 : Nat) (p1 : Nat) (u1 : Value) (u2 : Value) (u3 : Value) (u4 : Value) (u5 : Value) (w0 : Value) (w1 : Value) (w2 : Value) (w3 : Value) (w4 : Value) (w5 : Value) (w7 : Value) (n1 : Int32) (n2 : Int32)  : Met l yX8_shift (wq yX8_shift cX8_shift 3 (some .int)) ({ frames := 1, cells := 0, slots := 0, locals := 21 }) (va_Pc [.ref h0, .int n1, .int n2] (pcW dC dI [] [(h0, .inr (7, [.ref p1, u1, u2, u3, u4, u5])), (p1, .inr (1, [w0, w1, w2, w3, w4, w5, .int 0, w7]))] sz)) (va_Qi (fun (r : Int32) (_ : Unit) => r = (-1)) (fun _ _ => True) (fun q : Nat => sz ≤ q)) 0 0 (fun q : Nat => sz ≤ q) := by
  refine Met.ofW (cc := cX8_shift) (maxL := 3) (ret := (some .int)) (by decide) rfl ?_
  intro p e s m args below meth c s₁ B hml hv
  obtain ⟨rfl, hsz, hN, hP, hK, hD0⟩ := hv
  have hx := B.exec
  have hb := B.bytes
  have hr := B.returns
  have hts0 := atoms_spec (ws := (wq yX8_shift cX8_shift 3 (some .int))) B.pre
  have hts : ∀ w ∈ BG, w.before _ s = true := fun w h => hts0 w (List.mem_cons_of_mem _ h)
  have hown : s.vm.findClass RX8 = some m.cls := findClass_of_methodNamed B.named
  have hlocks := B.notSynchronized
  subst hsz
  have hA : ∀ q : Nat, s.heap.size ≤ q → (fun q : Nat => s.heap.size ≤ q) q := fun _ h => h
  have hD := hD0
  have hS : va_S (fun q : Nat => s.heap.size ≤ q) s.heap s.heap [] := va_S.rf
  have hP : va_P (dC, dI) vwCl [(h0, .inr (7, [.ref p1, u1, u2, u3, u4, u5])), (p1, .inr (1, [w0, w1, w2, w3, w4, w5, .int 0, w7]))] s.heap := hP
  have hl := lv_entry ([.ref h0, .int n1, .int n2]) (n := 3) (Nat.le_of_ble_eq_true rfl)
  rw [lg_entry_eq]
  generalize (lg_sl ([.ref h0, .int n1, .int n2]) ++ List.replicate (3 - (lg_sl ([.ref h0, .int n1, .int n2])).length) Slot.unset).toArray = ls at hl ⊢
  have hl : lv_has ls 3 [(0, .ref h0), (1, .int n1), (2, .int n2)] := hl
  skip
  refine lv_aload_n hx hb dX8_shift_0 rfl (lv_at hl 0 rfl) ?_
  refine va_get (D := (dC, dI)) (ci := 7) (v := .ref p1) (C := RX8) (T := TX8) (N := 6) hx hb hts inB_8 hown hK hP 0 rfl rfl 0 (by decide) (hts _ mw_1_168) (fun _ h9 => h9) rfl dX8_shift_1 ?_
  refine lv_iload_n hx hb dX8_shift_4 rfl (lv_at hl 1 rfl) ?_
  have hPc := hP.sub (ws' := [(p1, .inr (1, [w0, w1, w2, w3, w4, w5, .int 0, w7]))]) [1] rfl
  have hDc := hD.sub (ws' := [(p1, .inr (1, [w0, w1, w2, w3, w4, w5, .int 0, w7]))]) [1] (by decide) rfl
  have hKc := hK.sub (tys' := []) [] rfl
  refine va_calli (va_runV (As := [.int n1]) (rest := []) ⟨hx, hb, hml, hown, hts⟩ (c_knows0 l dC dI s.heap.size p1 (w0) (w1) (w2) (w3) (w4) (w5) (w7) n1) (cwV 1 hts (gV mw_1_191 mw_1_192 mw_1_193 mw_1_2 mw_1_194) rfl rfl rfl (by decide +kernel) ⟨Nat.le_of_ble_eq_true rfl, Nat.le_of_ble_eq_true rfl⟩) ⟨pcW_blind, va_recv hKc hPc (ci := 1) (q0 := 0) rfl rfl, pcW_at hPc hKc hDc hN⟩ rfl rfl hl.1 rfl (lv_room (Nat.le_of_ble_eq_true rfl)) dX8_shift_5 ⟨Nat.le_of_ble_eq_true rfl, Nat.le_of_ble_eq_true rfl⟩) hS (fun q h1 h2 => absurd h2 (Nat.not_le.mpr h1)) (fun q h => hA q (Nat.le_trans hS.1 h)) (fun r_1 u t H1 locs ht hvm hw_1 hB hz1 hk1 hS => ?_)
  have hP := keepP hP hk1
  clear hz1 hk1 hB ht hvm hPc hDc hKc
  generalize H1 = H at hP hS ⊢
  obtain rfl : r_1 = 0 := hw_1
  refine lv_if_eq (tgt := 18) hx hb dX8_shift_8 (by decide) (fun _ => ?_) (fun h => absurd (by decide) h)
  refine lv_iconst (v := (-1)) hx hb dX8_shift_18 (by decide) ?_
  exact W.iret (v := (-1)) hx hb hr (fun t ht hW => ⟨⟨(-1), (), rfl, rfl, trivial⟩, hS.F ht⟩) hS.2.2 dX8_shift_19
set_option maxHeartbeats 4000000 in
set_option maxRecDepth 100000 in
theorem x_one (l : Launch) (dC : Nat → ClassId) (dI : Nat → Nat → Nat) (sz : Nat) (h0 : Nat) (p1 : Nat) (u1 : Value) (u2 : Value) (u3 : Value) (u4 : Value) (u5 : Value) (w0 : Value) (w1 : Value) (w2 : Value) (w3 : Value) (w4 : Value) (w5 : Value) (w7 : Value) (n1 : Int32) (n2 : Int32) (n3 : Int32)  : Met l yX8_one (wq yX8_one cX8_one 4 (some .int)) ({ frames := 1, cells := 0, slots := 0, locals := 21 }) (va_Pc [.ref h0, .int n1, .int n2, .int n3] (pcW dC dI [] [(h0, .inr (7, [.ref p1, u1, u2, u3, u4, u5])), (p1, .inr (1, [w0, w1, w2, w3, w4, w5, .int 0, w7]))] sz)) (va_Qi (fun (r : Int32) (_ : Unit) => r = (-1)) (fun _ _ => True) (fun q : Nat => sz ≤ q)) 0 0 (fun q : Nat => sz ≤ q) := by
  refine Met.ofW (cc := cX8_one) (maxL := 4) (ret := (some .int)) (by decide) rfl ?_
  intro p e s m args below meth c s₁ B hml hv
  obtain ⟨rfl, hsz, hN, hP, hK, hD0⟩ := hv
  have hx := B.exec
  have hb := B.bytes
  have hr := B.returns
  have hts0 := atoms_spec (ws := (wq yX8_one cX8_one 4 (some .int))) B.pre
  have hts : ∀ w ∈ BG, w.before _ s = true := fun w h => hts0 w (List.mem_cons_of_mem _ h)
  have hown : s.vm.findClass RX8 = some m.cls := findClass_of_methodNamed B.named
  have hlocks := B.notSynchronized
  subst hsz
  have hA : ∀ q : Nat, s.heap.size ≤ q → (fun q : Nat => s.heap.size ≤ q) q := fun _ h => h
  have hD := hD0
  have hS : va_S (fun q : Nat => s.heap.size ≤ q) s.heap s.heap [] := va_S.rf
  have hP : va_P (dC, dI) vwCl [(h0, .inr (7, [.ref p1, u1, u2, u3, u4, u5])), (p1, .inr (1, [w0, w1, w2, w3, w4, w5, .int 0, w7]))] s.heap := hP
  have hl := lv_entry ([.ref h0, .int n1, .int n2, .int n3]) (n := 4) (Nat.le_of_ble_eq_true rfl)
  rw [lg_entry_eq]
  generalize (lg_sl ([.ref h0, .int n1, .int n2, .int n3]) ++ List.replicate (4 - (lg_sl ([.ref h0, .int n1, .int n2, .int n3])).length) Slot.unset).toArray = ls at hl ⊢
  have hl : lv_has ls 4 [(0, .ref h0), (1, .int n1), (2, .int n2), (3, .int n3)] := hl
  skip
  refine lv_aload_n hx hb dX8_one_0 rfl (lv_at hl 0 rfl) ?_
  refine va_get (D := (dC, dI)) (ci := 7) (v := .ref p1) (C := RX8) (T := TX8) (N := 6) hx hb hts inB_8 hown hK hP 0 rfl rfl 0 (by decide) (hts _ mw_1_168) (fun _ h9 => h9) rfl dX8_one_1 ?_
  refine lv_iload_n hx hb dX8_one_4 rfl (lv_at hl 1 rfl) ?_
  have hPc := hP.sub (ws' := [(p1, .inr (1, [w0, w1, w2, w3, w4, w5, .int 0, w7]))]) [1] rfl
  have hDc := hD.sub (ws' := [(p1, .inr (1, [w0, w1, w2, w3, w4, w5, .int 0, w7]))]) [1] (by decide) rfl
  have hKc := hK.sub (tys' := []) [] rfl
  refine va_calli (va_runV (As := [.int n1]) (rest := []) ⟨hx, hb, hml, hown, hts⟩ (c_knows0 l dC dI s.heap.size p1 (w0) (w1) (w2) (w3) (w4) (w5) (w7) n1) (cwV 1 hts (gV mw_1_191 mw_1_192 mw_1_193 mw_1_2 mw_1_194) rfl rfl rfl (by decide +kernel) ⟨Nat.le_of_ble_eq_true rfl, Nat.le_of_ble_eq_true rfl⟩) ⟨pcW_blind, va_recv hKc hPc (ci := 1) (q0 := 0) rfl rfl, pcW_at hPc hKc hDc hN⟩ rfl rfl hl.1 rfl (lv_room (Nat.le_of_ble_eq_true rfl)) dX8_one_5 ⟨Nat.le_of_ble_eq_true rfl, Nat.le_of_ble_eq_true rfl⟩) hS (fun q h1 h2 => absurd h2 (Nat.not_le.mpr h1)) (fun q h => hA q (Nat.le_trans hS.1 h)) (fun r_1 u t H1 locs ht hvm hw_1 hB hz1 hk1 hS => ?_)
  have hP := keepP hP hk1
  clear hz1 hk1 hB ht hvm hPc hDc hKc
  generalize H1 = H at hP hS ⊢
  obtain rfl : r_1 = 0 := hw_1
  refine lv_if_eq (tgt := 18) hx hb dX8_one_8 (by decide) (fun _ => ?_) (fun h => absurd (by decide) h)
  refine lv_iconst (v := (-1)) hx hb dX8_one_18 (by decide) ?_
  exact W.iret (v := (-1)) hx hb hr (fun t ht hW => ⟨⟨(-1), (), rfl, rfl, trivial⟩, hS.F ht⟩) hS.2.2 dX8_one_19
end
section
theorem mw_2_97 : Cond.methodLink RX8 101 yX8_isName ∈ BG := mB (t2 (i := 97) (by decide +kernel)) (by decide +kernel)
theorem mw_1_170 : Cond.fieldLink RX8 26 "AnswerLines" "bodies" "LAnswerLines$Bodies;" ∈ BG := mB (t1 (i := 170) (by decide +kernel)) (by decide +kernel)
theorem mw_2_140 : Cond.methodLink RX8 115 yX0_ownersOf ∈ BG := mB (t2 (i := 140) (by decide +kernel)) (by decide +kernel)
theorem mw_2_208 : Cond.code yX6_doubtful cX6_doubtful 5 (some .int) ∈ BG := mB (t2 (i := 208) rfl) (by decide +kernel)
theorem mw_2_206 : Cond.methodLink RX8 141 yX6_doubtful ∈ BG := mB (t2 (i := 206) (by decide +kernel)) (by decide +kernel)
theorem mw_2_207 : Cond.static yX6_doubtful ∈ BG := mB (t2 (i := 207) (by decide +kernel)) (by decide +kernel)
theorem mw_1_11 : Cond.initialized RX6 ∈ BG := mB (t1 (i := 11) (by decide +kernel)) (by decide +kernel)
theorem mw_2_229 : Cond.code yX6_settlers cX6_settlers 5 (some .int) ∈ BG := mB (t2 (i := 229) rfl) (by decide +kernel)
theorem mw_2_227 : Cond.methodLink RX8 145 yX6_settlers ∈ BG := mB (t2 (i := 227) (by decide +kernel)) (by decide +kernel)
theorem mw_2_228 : Cond.static yX6_settlers ∈ BG := mB (t2 (i := 228) (by decide +kernel)) (by decide +kernel)
theorem mw_2_232 : Cond.code yX8_bitsOrCount cX8_bitsOrCount 2 (some .int) ∈ BG := mB (t2 (i := 232) rfl) (by decide +kernel)
theorem mw_2_230 : Cond.methodLink RX8 148 yX8_bitsOrCount ∈ BG := mB (t2 (i := 230) (by decide +kernel)) (by decide +kernel)
theorem mw_2_231 : Cond.static yX8_bitsOrCount ∈ BG := mB (t2 (i := 231) (by decide +kernel)) (by decide +kernel)
theorem mw_1_172 : Cond.fieldLink RX8 40 "AnswerLines" "table" "LAnswerLines$Table;" ∈ BG := mB (t1 (i := 172) (by decide +kernel)) (by decide +kernel)
theorem mw_3_9 : Cond.code yX7_fill cX7_fill 5 none ∈ BG := mB (t3 (i := 9) rfl) (by decide +kernel)
theorem mw_3_6 : Cond.methodLink RX8 154 yX7_fill ∈ BG := mB (t3 (i := 6) (by decide +kernel)) (by decide +kernel)
theorem mw_3_7 : Cond.instanceMethod yX7_fill ∈ BG := mB (t3 (i := 7) (by decide +kernel)) (by decide +kernel)
theorem mw_3_8 : Cond.selects RX7 yX7_fill yX7_fill ∈ BG := mB (t3 (i := 8) (by decide +kernel)) (by decide +kernel)
theorem mw_3_20 : Cond.code yX7_spread cX7_spread 2 (some .int) ∈ BG := mB (t3 (i := 20) rfl) (by decide +kernel)
theorem mw_3_17 : Cond.methodLink RX8 158 yX7_spread ∈ BG := mB (t3 (i := 17) (by decide +kernel)) (by decide +kernel)
theorem mw_3_18 : Cond.instanceMethod yX7_spread ∈ BG := mB (t3 (i := 18) (by decide +kernel)) (by decide +kernel)
theorem mw_3_19 : Cond.selects RX7 yX7_spread yX7_spread ∈ BG := mB (t3 (i := 19) (by decide +kernel)) (by decide +kernel)
theorem mw_3_38 : Cond.code yX7_columnOf cX7_columnOf 2 (some .int) ∈ BG := mB (t3 (i := 38) rfl) (by decide +kernel)
theorem mw_3_35 : Cond.methodLink RX8 161 yX7_columnOf ∈ BG := mB (t3 (i := 35) (by decide +kernel)) (by decide +kernel)
theorem mw_3_36 : Cond.instanceMethod yX7_columnOf ∈ BG := mB (t3 (i := 36) (by decide +kernel)) (by decide +kernel)
theorem mw_3_37 : Cond.selects RX7 yX7_columnOf yX7_columnOf ∈ BG := mB (t3 (i := 37) (by decide +kernel)) (by decide +kernel)
theorem mw_3_47 : Cond.code yX7_push cX7_push 3 (some .int) ∈ BG := mB (t3 (i := 47) rfl) (by decide +kernel)
theorem mw_3_44 : Cond.methodLink RX8 164 yX7_push ∈ BG := mB (t3 (i := 44) (by decide +kernel)) (by decide +kernel)
theorem mw_3_45 : Cond.instanceMethod yX7_push ∈ BG := mB (t3 (i := 45) (by decide +kernel)) (by decide +kernel)
theorem mw_3_46 : Cond.selects RX7 yX7_push yX7_push ∈ BG := mB (t3 (i := 46) (by decide +kernel)) (by decide +kernel)
theorem mw_3_71 : Cond.code yX7_standsAt cX7_standsAt 2 (some .int) ∈ BG := mB (t3 (i := 71) rfl) (by decide +kernel)
theorem mw_3_68 : Cond.methodLink RX8 170 yX7_standsAt ∈ BG := mB (t3 (i := 68) (by decide +kernel)) (by decide +kernel)
theorem mw_3_69 : Cond.instanceMethod yX7_standsAt ∈ BG := mB (t3 (i := 69) (by decide +kernel)) (by decide +kernel)
theorem mw_3_70 : Cond.selects RX7 yX7_standsAt yX7_standsAt ∈ BG := mB (t3 (i := 70) (by decide +kernel)) (by decide +kernel)
theorem mw_3_85 : Cond.methodLink RX8 176 yX8_isPlace ∈ BG := mB (t3 (i := 85) (by decide +kernel)) (by decide +kernel)
theorem mw_1_173 : Cond.fieldLink RX8 47 "AnswerLines" "places" "LAnswerLines$Places;" ∈ BG := mB (t1 (i := 173) (by decide +kernel)) (by decide +kernel)
theorem mw_3_104 : Cond.code yX3_clear cX3_clear 2 (some .int) ∈ BG := mB (t3 (i := 104) rfl) (by decide +kernel)
theorem mw_3_101 : Cond.methodLink RX8 183 yX3_clear ∈ BG := mB (t3 (i := 101) (by decide +kernel)) (by decide +kernel)
theorem mw_3_102 : Cond.instanceMethod yX3_clear ∈ BG := mB (t3 (i := 102) (by decide +kernel)) (by decide +kernel)
theorem mw_3_103 : Cond.selects RX3 yX3_clear yX3_clear ∈ BG := mB (t3 (i := 103) (by decide +kernel)) (by decide +kernel)
theorem mw_3_112 : Cond.code yX3_resize cX3_resize 4 (some .int) ∈ BG := mB (t3 (i := 112) rfl) (by decide +kernel)
theorem mw_3_109 : Cond.methodLink RX8 186 yX3_resize ∈ BG := mB (t3 (i := 109) (by decide +kernel)) (by decide +kernel)
theorem mw_3_110 : Cond.instanceMethod yX3_resize ∈ BG := mB (t3 (i := 110) (by decide +kernel)) (by decide +kernel)
theorem mw_3_111 : Cond.selects RX3 yX3_resize yX3_resize ∈ BG := mB (t3 (i := 111) (by decide +kernel)) (by decide +kernel)
theorem mw_3_126 : Cond.methodLink RX8 192 yX3_sizeOf ∈ BG := mB (t3 (i := 126) (by decide +kernel)) (by decide +kernel)
theorem mw_3_130 : Cond.code yX3_hitsBySize cX3_hitsBySize 6 (some .int) ∈ BG := mB (t3 (i := 130) rfl) (by decide +kernel)
theorem mw_3_127 : Cond.methodLink RX8 195 yX3_hitsBySize ∈ BG := mB (t3 (i := 127) (by decide +kernel)) (by decide +kernel)
theorem mw_3_128 : Cond.instanceMethod yX3_hitsBySize ∈ BG := mB (t3 (i := 128) (by decide +kernel)) (by decide +kernel)
theorem mw_3_129 : Cond.selects RX3 yX3_hitsBySize yX3_hitsBySize ∈ BG := mB (t3 (i := 129) (by decide +kernel)) (by decide +kernel)
theorem mw_3_156 : Cond.code yX3_latest cX3_latest 2 (some .int) ∈ BG := mB (t3 (i := 156) rfl) (by decide +kernel)
theorem mw_3_153 : Cond.methodLink RX8 201 yX3_latest ∈ BG := mB (t3 (i := 153) (by decide +kernel)) (by decide +kernel)
theorem mw_3_154 : Cond.instanceMethod yX3_latest ∈ BG := mB (t3 (i := 154) (by decide +kernel)) (by decide +kernel)
theorem mw_3_155 : Cond.selects RX3 yX3_latest yX3_latest ∈ BG := mB (t3 (i := 155) (by decide +kernel)) (by decide +kernel)
theorem mw_3_142 : Cond.code yX3_bestHits cX3_bestHits 6 (some .int) ∈ BG := mB (t3 (i := 142) rfl) (by decide +kernel)
theorem mw_3_139 : Cond.methodLink RX8 198 yX3_bestHits ∈ BG := mB (t3 (i := 139) (by decide +kernel)) (by decide +kernel)
theorem mw_3_140 : Cond.instanceMethod yX3_bestHits ∈ BG := mB (t3 (i := 140) (by decide +kernel)) (by decide +kernel)
theorem mw_3_141 : Cond.selects RX3 yX3_bestHits yX3_bestHits ∈ BG := mB (t3 (i := 141) (by decide +kernel)) (by decide +kernel)
theorem mw_3_125 : Cond.code yX3_callsAt cX3_callsAt 4 (some .int) ∈ BG := mB (t3 (i := 125) rfl) (by decide +kernel)
theorem mw_3_122 : Cond.methodLink RX8 189 yX3_callsAt ∈ BG := mB (t3 (i := 122) (by decide +kernel)) (by decide +kernel)
theorem mw_3_123 : Cond.instanceMethod yX3_callsAt ∈ BG := mB (t3 (i := 123) (by decide +kernel)) (by decide +kernel)
theorem mw_3_124 : Cond.selects RX3 yX3_callsAt yX3_callsAt ∈ BG := mB (t3 (i := 124) (by decide +kernel)) (by decide +kernel)
theorem mw_2_31 : Cond.code yX1_isBare cX1_isBare 2 (some .boolean) ∈ BG := mB (t2 (i := 31) rfl) (by decide +kernel)
theorem mw_2_28 : Cond.methodLink RX8 63 yX1_isBare ∈ BG := mB (t2 (i := 28) (by decide +kernel)) (by decide +kernel)
theorem mw_2_29 : Cond.instanceMethod yX1_isBare ∈ BG := mB (t2 (i := 29) (by decide +kernel)) (by decide +kernel)
theorem mw_2_30 : Cond.selects RX1 yX1_isBare yX1_isBare ∈ BG := mB (t2 (i := 30) (by decide +kernel)) (by decide +kernel)
theorem mw_3_174 : Cond.code yX0_namesOf cX0_namesOf 4 (some .int) ∈ BG := mB (t3 (i := 174) rfl) (by decide +kernel)
theorem mw_3_171 : Cond.methodLink RX8 211 yX0_namesOf ∈ BG := mB (t3 (i := 171) (by decide +kernel)) (by decide +kernel)
theorem mw_3_172 : Cond.instanceMethod yX0_namesOf ∈ BG := mB (t3 (i := 172) (by decide +kernel)) (by decide +kernel)
theorem mw_3_173 : Cond.selects RX0 yX0_namesOf yX0_namesOf ∈ BG := mB (t3 (i := 173) (by decide +kernel)) (by decide +kernel)
theorem mw_3_170 : Cond.code yX3_howMany cX3_howMany 1 (some .int) ∈ BG := mB (t3 (i := 170) rfl) (by decide +kernel)
theorem mw_3_167 : Cond.methodLink RX8 210 yX3_howMany ∈ BG := mB (t3 (i := 167) (by decide +kernel)) (by decide +kernel)
theorem mw_3_168 : Cond.instanceMethod yX3_howMany ∈ BG := mB (t3 (i := 168) (by decide +kernel)) (by decide +kernel)
theorem mw_3_169 : Cond.selects RX3 yX3_howMany yX3_howMany ∈ BG := mB (t3 (i := 169) (by decide +kernel)) (by decide +kernel)
theorem mw_2_120 : Cond.code yX2_length cX2_length 1 (some .int) ∈ BG := mB (t2 (i := 120) rfl) (by decide +kernel)
theorem mw_3_166 : Cond.methodLink RX8 207 yX2_length ∈ BG := mB (t3 (i := 166) (by decide +kernel)) (by decide +kernel)
theorem mw_2_118 : Cond.instanceMethod yX2_length ∈ BG := mB (t2 (i := 118) (by decide +kernel)) (by decide +kernel)
theorem mw_2_119 : Cond.selects RX2 yX2_length yX2_length ∈ BG := mB (t2 (i := 119) (by decide +kernel)) (by decide +kernel)
theorem mw_3_165 : Cond.methodLink RX8 204 yX1_howMany ∈ BG := mB (t3 (i := 165) (by decide +kernel)) (by decide +kernel)
theorem dX8_doubt_0 : decode cX8_doubt 0 = .ok (.iload_n 1, 1) := by decide +kernel
theorem dX8_doubt_1 : decode cX8_doubt 1 = .ok (.invokestatic 101, 3) := by decide +kernel
theorem dX8_doubt_4 : decode cX8_doubt 4 = .ok (.ifCond .ne 5, 3) := by decide +kernel
theorem dX8_doubt_9 : decode cX8_doubt 9 = .ok (.aload_n 0, 1) := by decide +kernel
theorem dX8_doubt_10 : decode cX8_doubt 10 = .ok (.getfield 10, 3) := by decide +kernel
theorem dX8_doubt_13 : decode cX8_doubt 13 = .ok (.aload_n 0, 1) := by decide +kernel
theorem dX8_doubt_14 : decode cX8_doubt 14 = .ok (.getfield 26, 3) := by decide +kernel
theorem dX8_doubt_17 : decode cX8_doubt 17 = .ok (.iload_n 1, 1) := by decide +kernel
theorem dX8_doubt_18 : decode cX8_doubt 18 = .ok (.invokevirtual 115, 3) := by decide +kernel
theorem dX8_doubt_21 : decode cX8_doubt 21 = .ok (.invokestatic 141, 3) := by decide +kernel
theorem dX8_doubt_24 : decode cX8_doubt 24 = .ok (.ireturn, 1) := by decide +kernel
theorem dX8_doubt_7 : decode cX8_doubt 7 = .ok (.iconst (-1), 1) := by decide +kernel
theorem dX8_doubt_8 : decode cX8_doubt 8 = .ok (.ireturn, 1) := by decide +kernel
theorem dX8_settle_0 : decode cX8_settle 0 = .ok (.iload_n 1, 1) := by decide +kernel
theorem dX8_settle_1 : decode cX8_settle 1 = .ok (.invokestatic 101, 3) := by decide +kernel
theorem dX8_settle_4 : decode cX8_settle 4 = .ok (.ifCond .ne 5, 3) := by decide +kernel
theorem dX8_settle_9 : decode cX8_settle 9 = .ok (.iload_n 2, 1) := by decide +kernel
theorem dX8_settle_10 : decode cX8_settle 10 = .ok (.ifCond .eq 11, 3) := by decide +kernel
theorem dX8_settle_21 : decode cX8_settle 21 = .ok (.aload_n 0, 1) := by decide +kernel
theorem dX8_settle_22 : decode cX8_settle 22 = .ok (.getfield 10, 3) := by decide +kernel
theorem dX8_settle_25 : decode cX8_settle 25 = .ok (.aload_n 0, 1) := by decide +kernel
theorem dX8_settle_26 : decode cX8_settle 26 = .ok (.getfield 26, 3) := by decide +kernel
theorem dX8_settle_29 : decode cX8_settle 29 = .ok (.iload_n 1, 1) := by decide +kernel
theorem dX8_settle_30 : decode cX8_settle 30 = .ok (.invokevirtual 115, 3) := by decide +kernel
theorem dX8_settle_33 : decode cX8_settle 33 = .ok (.invokestatic 145, 3) := by decide +kernel
theorem dX8_settle_36 : decode cX8_settle 36 = .ok (.iload_n 2, 1) := by decide +kernel
theorem dX8_settle_37 : decode cX8_settle 37 = .ok (.invokestatic 148, 3) := by decide +kernel
theorem dX8_settle_40 : decode cX8_settle 40 = .ok (.ireturn, 1) := by decide +kernel
theorem dX8_settle_13 : decode cX8_settle 13 = .ok (.iload_n 2, 1) := by decide +kernel
theorem dX8_settle_14 : decode cX8_settle 14 = .ok (.iconst 1, 1) := by decide +kernel
theorem dX8_settle_15 : decode cX8_settle 15 = .ok (.if_icmp .eq 6, 3) := by decide +kernel
theorem dX8_settle_18 : decode cX8_settle 18 = .ok (.bipush (-2), 2) := by decide +kernel
theorem dX8_settle_20 : decode cX8_settle 20 = .ok (.ireturn, 1) := by decide +kernel
theorem dX8_settle_7 : decode cX8_settle 7 = .ok (.iconst (-1), 1) := by decide +kernel
theorem dX8_settle_8 : decode cX8_settle 8 = .ok (.ireturn, 1) := by decide +kernel
theorem dX8_column_0 : decode cX8_column 0 = .ok (.iload_n 1, 1) := by decide +kernel
theorem dX8_column_1 : decode cX8_column 1 = .ok (.iconst (-1), 1) := by decide +kernel
theorem dX8_column_2 : decode cX8_column 2 = .ok (.if_icmp .eq 12, 3) := by decide +kernel
theorem dX8_column_14 : decode cX8_column 14 = .ok (.aload_n 0, 1) := by decide +kernel
theorem dX8_column_15 : decode cX8_column 15 = .ok (.getfield 40, 3) := by decide +kernel
theorem dX8_column_18 : decode cX8_column 18 = .ok (.aload_n 0, 1) := by decide +kernel
theorem dX8_column_19 : decode cX8_column 19 = .ok (.getfield 10, 3) := by decide +kernel
theorem dX8_column_22 : decode cX8_column 22 = .ok (.aload_n 0, 1) := by decide +kernel
theorem dX8_column_23 : decode cX8_column 23 = .ok (.getfield 26, 3) := by decide +kernel
theorem dX8_column_26 : decode cX8_column 26 = .ok (.invokevirtual 154, 3) := by decide +kernel
theorem dX8_column_29 : decode cX8_column 29 = .ok (.aload_n 0, 1) := by decide +kernel
theorem dX8_column_30 : decode cX8_column 30 = .ok (.getfield 40, 3) := by decide +kernel
theorem dX8_column_33 : decode cX8_column 33 = .ok (.invokevirtual 158, 3) := by decide +kernel
theorem dX8_column_36 : decode cX8_column 36 = .ok (.istore_n 2, 1) := by decide +kernel
theorem dX8_column_37 : decode cX8_column 37 = .ok (.iload_n 1, 1) := by decide +kernel
theorem dX8_column_38 : decode cX8_column 38 = .ok (.iconst (-1), 1) := by decide +kernel
theorem dX8_column_39 : decode cX8_column 39 = .ok (.if_icmp .ne 7, 3) := by decide +kernel
theorem dX8_column_42 : decode cX8_column 42 = .ok (.iload_n 2, 1) := by decide +kernel
theorem dX8_column_43 : decode cX8_column 43 = .ok (.goto 11, 3) := by decide +kernel
theorem dX8_column_54 : decode cX8_column 54 = .ok (.ireturn, 1) := by decide +kernel
theorem dX8_column_5 : decode cX8_column 5 = .ok (.iload_n 1, 1) := by decide +kernel
theorem dX8_column_6 : decode cX8_column 6 = .ok (.invokestatic 101, 3) := by decide +kernel
theorem dX8_column_9 : decode cX8_column 9 = .ok (.ifCond .ne 5, 3) := by decide +kernel
theorem dX8_column_46 : decode cX8_column 46 = .ok (.aload_n 0, 1) := by decide +kernel
theorem dX8_column_47 : decode cX8_column 47 = .ok (.getfield 40, 3) := by decide +kernel
theorem dX8_column_50 : decode cX8_column 50 = .ok (.iload_n 1, 1) := by decide +kernel
theorem dX8_column_51 : decode cX8_column 51 = .ok (.invokevirtual 161, 3) := by decide +kernel
theorem dX8_column_12 : decode cX8_column 12 = .ok (.iconst (-1), 1) := by decide +kernel
theorem dX8_column_13 : decode cX8_column 13 = .ok (.ireturn, 1) := by decide +kernel
theorem dX8_packed_0 : decode cX8_packed 0 = .ok (.iload_n 1, 1) := by decide +kernel
theorem dX8_packed_1 : decode cX8_packed 1 = .ok (.iconst (-1), 1) := by decide +kernel
theorem dX8_packed_2 : decode cX8_packed 2 = .ok (.if_icmp .eq 16, 3) := by decide +kernel
theorem dX8_packed_18 : decode cX8_packed 18 = .ok (.aload_n 0, 1) := by decide +kernel
theorem dX8_packed_19 : decode cX8_packed 19 = .ok (.getfield 40, 3) := by decide +kernel
theorem dX8_packed_22 : decode cX8_packed 22 = .ok (.aload_n 0, 1) := by decide +kernel
theorem dX8_packed_23 : decode cX8_packed 23 = .ok (.getfield 10, 3) := by decide +kernel
theorem dX8_packed_26 : decode cX8_packed 26 = .ok (.aload_n 0, 1) := by decide +kernel
theorem dX8_packed_27 : decode cX8_packed 27 = .ok (.getfield 26, 3) := by decide +kernel
theorem dX8_packed_30 : decode cX8_packed 30 = .ok (.invokevirtual 154, 3) := by decide +kernel
theorem dX8_packed_33 : decode cX8_packed 33 = .ok (.aload_n 0, 1) := by decide +kernel
theorem dX8_packed_34 : decode cX8_packed 34 = .ok (.getfield 40, 3) := by decide +kernel
theorem dX8_packed_37 : decode cX8_packed 37 = .ok (.invokevirtual 164, 3) := by decide +kernel
theorem dX8_packed_40 : decode cX8_packed 40 = .ok (.istore_n 2, 1) := by decide +kernel
theorem dX8_packed_41 : decode cX8_packed 41 = .ok (.iload_n 1, 1) := by decide +kernel
theorem dX8_packed_42 : decode cX8_packed 42 = .ok (.iconst (-1), 1) := by decide +kernel
theorem dX8_packed_43 : decode cX8_packed 43 = .ok (.if_icmp .ne 7, 3) := by decide +kernel
theorem dX8_packed_46 : decode cX8_packed 46 = .ok (.iload_n 2, 1) := by decide +kernel
theorem dX8_packed_47 : decode cX8_packed 47 = .ok (.goto 11, 3) := by decide +kernel
theorem dX8_packed_58 : decode cX8_packed 58 = .ok (.ireturn, 1) := by decide +kernel
theorem dX8_packed_5 : decode cX8_packed 5 = .ok (.aload_n 0, 1) := by decide +kernel
theorem dX8_packed_6 : decode cX8_packed 6 = .ok (.getfield 10, 3) := by decide +kernel
theorem dX8_packed_9 : decode cX8_packed 9 = .ok (.iload_n 1, 1) := by decide +kernel
theorem dX8_packed_10 : decode cX8_packed 10 = .ok (.invokevirtual 51, 3) := by decide +kernel
theorem dX8_packed_13 : decode cX8_packed 13 = .ok (.ifCond .ne 5, 3) := by decide +kernel
theorem dX8_packed_16 : decode cX8_packed 16 = .ok (.iconst (-1), 1) := by decide +kernel
theorem dX8_packed_17 : decode cX8_packed 17 = .ok (.ireturn, 1) := by decide +kernel
theorem dX8_slot_0 : decode cX8_slot 0 = .ok (.iload_n 1, 1) := by decide +kernel
theorem dX8_slot_1 : decode cX8_slot 1 = .ok (.ifCond .lt 9, 3) := by decide +kernel
theorem dX8_slot_10 : decode cX8_slot 10 = .ok (.bipush (-2), 2) := by decide +kernel
theorem dX8_slot_12 : decode cX8_slot 12 = .ok (.ireturn, 1) := by decide +kernel
theorem dX8_slot_4 : decode cX8_slot 4 = .ok (.iload_n 1, 1) := by decide +kernel
theorem dX8_slot_5 : decode cX8_slot 5 = .ok (.bipush 100, 2) := by decide +kernel
theorem dX8_slot_7 : decode cX8_slot 7 = .ok (.if_icmp .lt 6, 3) := by decide +kernel
theorem dX8_slot_13 : decode cX8_slot 13 = .ok (.aload_n 0, 1) := by decide +kernel
theorem dX8_slot_14 : decode cX8_slot 14 = .ok (.getfield 40, 3) := by decide +kernel
theorem dX8_slot_17 : decode cX8_slot 17 = .ok (.aload_n 0, 1) := by decide +kernel
theorem dX8_slot_18 : decode cX8_slot 18 = .ok (.getfield 10, 3) := by decide +kernel
theorem dX8_slot_21 : decode cX8_slot 21 = .ok (.aload_n 0, 1) := by decide +kernel
theorem dX8_slot_22 : decode cX8_slot 22 = .ok (.getfield 26, 3) := by decide +kernel
theorem dX8_slot_25 : decode cX8_slot 25 = .ok (.invokevirtual 154, 3) := by decide +kernel
theorem dX8_slot_28 : decode cX8_slot 28 = .ok (.aload_n 0, 1) := by decide +kernel
theorem dX8_slot_29 : decode cX8_slot 29 = .ok (.getfield 40, 3) := by decide +kernel
theorem dX8_slot_32 : decode cX8_slot 32 = .ok (.invokevirtual 164, 3) := by decide +kernel
theorem dX8_slot_35 : decode cX8_slot 35 = .ok (.pop, 1) := by decide +kernel
theorem dX8_slot_36 : decode cX8_slot 36 = .ok (.aload_n 0, 1) := by decide +kernel
theorem dX8_slot_37 : decode cX8_slot 37 = .ok (.getfield 40, 3) := by decide +kernel
theorem dX8_slot_40 : decode cX8_slot 40 = .ok (.iload_n 1, 1) := by decide +kernel
theorem dX8_slot_41 : decode cX8_slot 41 = .ok (.invokevirtual 170, 3) := by decide +kernel
theorem dX8_slot_44 : decode cX8_slot 44 = .ok (.ireturn, 1) := by decide +kernel
theorem dX8_call_0 : decode cX8_call 0 = .ok (.iload_n 1, 1) := by decide +kernel
theorem dX8_call_1 : decode cX8_call 1 = .ok (.invokestatic 176, 3) := by decide +kernel
theorem dX8_call_4 : decode cX8_call 4 = .ok (.ifCond .eq 14, 3) := by decide +kernel
theorem dX8_call_7 : decode cX8_call 7 = .ok (.aload_n 0, 1) := by decide +kernel
theorem dX8_call_8 : decode cX8_call 8 = .ok (.getfield 10, 3) := by decide +kernel
theorem dX8_call_11 : decode cX8_call 11 = .ok (.iload_n 2, 1) := by decide +kernel
theorem dX8_call_12 : decode cX8_call 12 = .ok (.invokevirtual 51, 3) := by decide +kernel
theorem dX8_call_15 : decode cX8_call 15 = .ok (.ifCond .ne 5, 3) := by decide +kernel
theorem dX8_call_18 : decode cX8_call 18 = .ok (.iconst (-1), 1) := by decide +kernel
theorem dX8_call_19 : decode cX8_call 19 = .ok (.ireturn, 1) := by decide +kernel
theorem dX8_forget_0 : decode cX8_forget 0 = .ok (.aload_n 0, 1) := by decide +kernel
theorem dX8_forget_1 : decode cX8_forget 1 = .ok (.getfield 47, 3) := by decide +kernel
theorem dX8_forget_4 : decode cX8_forget 4 = .ok (.invokevirtual 183, 3) := by decide +kernel
theorem dX8_forget_7 : decode cX8_forget 7 = .ok (.ireturn, 1) := by decide +kernel
theorem dX8_size_0 : decode cX8_size 0 = .ok (.iload_n 1, 1) := by decide +kernel
theorem dX8_size_1 : decode cX8_size 1 = .ok (.invokestatic 176, 3) := by decide +kernel
theorem dX8_size_4 : decode cX8_size 4 = .ok (.ifCond .ne 5, 3) := by decide +kernel
theorem dX8_size_9 : decode cX8_size 9 = .ok (.iload_n 2, 1) := by decide +kernel
theorem dX8_size_10 : decode cX8_size 10 = .ok (.iconst 1, 1) := by decide +kernel
theorem dX8_size_11 : decode cX8_size 11 = .ok (.if_icmp .lt 8, 3) := by decide +kernel
theorem dX8_size_19 : decode cX8_size 19 = .ok (.bipush (-2), 2) := by decide +kernel
theorem dX8_size_21 : decode cX8_size 21 = .ok (.ireturn, 1) := by decide +kernel
theorem dX8_size_14 : decode cX8_size 14 = .ok (.iload_n 2, 1) := by decide +kernel
theorem dX8_size_15 : decode cX8_size 15 = .ok (.iconst 4, 1) := by decide +kernel
theorem dX8_size_16 : decode cX8_size 16 = .ok (.if_icmp .le 6, 3) := by decide +kernel
theorem dX8_size_22 : decode cX8_size 22 = .ok (.aload_n 0, 1) := by decide +kernel
theorem dX8_size_23 : decode cX8_size 23 = .ok (.getfield 47, 3) := by decide +kernel
theorem dX8_size_26 : decode cX8_size 26 = .ok (.iload_n 1, 1) := by decide +kernel
theorem dX8_size_27 : decode cX8_size 27 = .ok (.iload_n 2, 1) := by decide +kernel
theorem dX8_size_28 : decode cX8_size 28 = .ok (.invokevirtual 186, 3) := by decide +kernel
theorem dX8_size_31 : decode cX8_size 31 = .ok (.ireturn, 1) := by decide +kernel
theorem dX8_size_7 : decode cX8_size 7 = .ok (.iconst (-1), 1) := by decide +kernel
theorem dX8_size_8 : decode cX8_size 8 = .ok (.ireturn, 1) := by decide +kernel
theorem dX8_hits_0 : decode cX8_hits 0 = .ok (.iload_n 1, 1) := by decide +kernel
theorem dX8_hits_1 : decode cX8_hits 1 = .ok (.invokestatic 176, 3) := by decide +kernel
theorem dX8_hits_4 : decode cX8_hits 4 = .ok (.ifCond .ne 5, 3) := by decide +kernel
theorem dX8_hits_9 : decode cX8_hits 9 = .ok (.iload_n 2, 1) := by decide +kernel
theorem dX8_hits_10 : decode cX8_hits 10 = .ok (.ifCond .ne 12, 3) := by decide +kernel
theorem dX8_hits_22 : decode cX8_hits 22 = .ok (.iload_n 2, 1) := by decide +kernel
theorem dX8_hits_23 : decode cX8_hits 23 = .ok (.iconst 1, 1) := by decide +kernel
theorem dX8_hits_24 : decode cX8_hits 24 = .ok (.if_icmp .ne 20, 3) := by decide +kernel
theorem dX8_hits_44 : decode cX8_hits 44 = .ok (.iload_n 2, 1) := by decide +kernel
theorem dX8_hits_45 : decode cX8_hits 45 = .ok (.iconst 2, 1) := by decide +kernel
theorem dX8_hits_46 : decode cX8_hits 46 = .ok (.if_icmp .ne 12, 3) := by decide +kernel
theorem dX8_hits_58 : decode cX8_hits 58 = .ok (.iload_n 2, 1) := by decide +kernel
theorem dX8_hits_59 : decode cX8_hits 59 = .ok (.bipush 10, 2) := by decide +kernel
theorem dX8_hits_61 : decode cX8_hits 61 = .ok (.if_icmp .lt 9, 3) := by decide +kernel
theorem dX8_hits_70 : decode cX8_hits 70 = .ok (.bipush (-2), 2) := by decide +kernel
theorem dX8_hits_72 : decode cX8_hits 72 = .ok (.ireturn, 1) := by decide +kernel
theorem dX8_hits_64 : decode cX8_hits 64 = .ok (.iload_n 2, 1) := by decide +kernel
theorem dX8_hits_65 : decode cX8_hits 65 = .ok (.bipush 14, 2) := by decide +kernel
theorem dX8_hits_67 : decode cX8_hits 67 = .ok (.if_icmp .lt 6, 3) := by decide +kernel
theorem dX8_hits_73 : decode cX8_hits 73 = .ok (.aload_n 0, 1) := by decide +kernel
theorem dX8_hits_74 : decode cX8_hits 74 = .ok (.getfield 47, 3) := by decide +kernel
theorem dX8_hits_77 : decode cX8_hits 77 = .ok (.iload_n 1, 1) := by decide +kernel
theorem dX8_hits_78 : decode cX8_hits 78 = .ok (.aload_n 0, 1) := by decide +kernel
theorem dX8_hits_79 : decode cX8_hits 79 = .ok (.getfield 47, 3) := by decide +kernel
theorem dX8_hits_82 : decode cX8_hits 82 = .ok (.iload_n 1, 1) := by decide +kernel
theorem dX8_hits_83 : decode cX8_hits 83 = .ok (.invokevirtual 192, 3) := by decide +kernel
theorem dX8_hits_86 : decode cX8_hits 86 = .ok (.invokevirtual 195, 3) := by decide +kernel
theorem dX8_hits_89 : decode cX8_hits 89 = .ok (.pop, 1) := by decide +kernel
theorem dX8_hits_90 : decode cX8_hits 90 = .ok (.aload_n 0, 1) := by decide +kernel
theorem dX8_hits_91 : decode cX8_hits 91 = .ok (.getfield 47, 3) := by decide +kernel
theorem dX8_hits_94 : decode cX8_hits 94 = .ok (.iload_n 2, 1) := by decide +kernel
theorem dX8_hits_95 : decode cX8_hits 95 = .ok (.bipush 10, 2) := by decide +kernel
theorem dX8_hits_97 : decode cX8_hits 97 = .ok (.isub, 1) := by decide +kernel
theorem dX8_hits_98 : decode cX8_hits 98 = .ok (.invokevirtual 201, 3) := by decide +kernel
theorem dX8_hits_101 : decode cX8_hits 101 = .ok (.ireturn, 1) := by decide +kernel
theorem dX8_hits_49 : decode cX8_hits 49 = .ok (.aload_n 0, 1) := by decide +kernel
theorem dX8_hits_50 : decode cX8_hits 50 = .ok (.getfield 47, 3) := by decide +kernel
theorem dX8_hits_53 : decode cX8_hits 53 = .ok (.iload_n 1, 1) := by decide +kernel
theorem dX8_hits_54 : decode cX8_hits 54 = .ok (.invokevirtual 198, 3) := by decide +kernel
theorem dX8_hits_57 : decode cX8_hits 57 = .ok (.ireturn, 1) := by decide +kernel
theorem dX8_hits_27 : decode cX8_hits 27 = .ok (.aload_n 0, 1) := by decide +kernel
theorem dX8_hits_28 : decode cX8_hits 28 = .ok (.getfield 47, 3) := by decide +kernel
theorem dX8_hits_31 : decode cX8_hits 31 = .ok (.iload_n 1, 1) := by decide +kernel
theorem dX8_hits_32 : decode cX8_hits 32 = .ok (.aload_n 0, 1) := by decide +kernel
theorem dX8_hits_33 : decode cX8_hits 33 = .ok (.getfield 47, 3) := by decide +kernel
theorem dX8_hits_36 : decode cX8_hits 36 = .ok (.iload_n 1, 1) := by decide +kernel
theorem dX8_hits_37 : decode cX8_hits 37 = .ok (.invokevirtual 192, 3) := by decide +kernel
theorem dX8_hits_40 : decode cX8_hits 40 = .ok (.invokevirtual 195, 3) := by decide +kernel
theorem dX8_hits_43 : decode cX8_hits 43 = .ok (.ireturn, 1) := by decide +kernel
theorem dX8_hits_13 : decode cX8_hits 13 = .ok (.aload_n 0, 1) := by decide +kernel
theorem dX8_hits_14 : decode cX8_hits 14 = .ok (.getfield 47, 3) := by decide +kernel
theorem dX8_hits_17 : decode cX8_hits 17 = .ok (.iload_n 1, 1) := by decide +kernel
theorem dX8_hits_18 : decode cX8_hits 18 = .ok (.invokevirtual 189, 3) := by decide +kernel
theorem dX8_hits_21 : decode cX8_hits 21 = .ok (.ireturn, 1) := by decide +kernel
theorem dX8_hits_7 : decode cX8_hits 7 = .ok (.iconst (-1), 1) := by decide +kernel
theorem dX8_hits_8 : decode cX8_hits 8 = .ok (.ireturn, 1) := by decide +kernel
theorem dX8_need_0 : decode cX8_need 0 = .ok (.iload_n 1, 1) := by decide +kernel
theorem dX8_need_1 : decode cX8_need 1 = .ok (.invokestatic 176, 3) := by decide +kernel
theorem dX8_need_4 : decode cX8_need 4 = .ok (.ifCond .ne 5, 3) := by decide +kernel
theorem dX8_need_9 : decode cX8_need 9 = .ok (.iload_n 2, 1) := by decide +kernel
theorem dX8_need_10 : decode cX8_need 10 = .ok (.ifCond .lt 9, 3) := by decide +kernel
theorem dX8_need_19 : decode cX8_need 19 = .ok (.bipush (-2), 2) := by decide +kernel
theorem dX8_need_21 : decode cX8_need 21 = .ok (.ireturn, 1) := by decide +kernel
theorem dX8_need_13 : decode cX8_need 13 = .ok (.iload_n 2, 1) := by decide +kernel
theorem dX8_need_14 : decode cX8_need 14 = .ok (.bipush 40, 2) := by decide +kernel
theorem dX8_need_16 : decode cX8_need 16 = .ok (.if_icmp .le 6, 3) := by decide +kernel
theorem dX8_need_22 : decode cX8_need 22 = .ok (.iconst 1, 1) := by decide +kernel
theorem dX8_need_23 : decode cX8_need 23 = .ok (.istore_n 3, 1) := by decide +kernel
theorem dX8_need_24 : decode cX8_need 24 = .ok (.iload_n 3, 1) := by decide +kernel
theorem dX8_need_25 : decode cX8_need 25 = .ok (.iconst 4, 1) := by decide +kernel
theorem dX8_need_26 : decode cX8_need 26 = .ok (.if_icmp .gt 24, 3) := by decide +kernel
theorem dX8_need_29 : decode cX8_need 29 = .ok (.aload_n 0, 1) := by decide +kernel
theorem dX8_need_30 : decode cX8_need 30 = .ok (.getfield 47, 3) := by decide +kernel
theorem dX8_need_33 : decode cX8_need 33 = .ok (.iload_n 1, 1) := by decide +kernel
theorem dX8_need_34 : decode cX8_need 34 = .ok (.iload_n 3, 1) := by decide +kernel
theorem dX8_need_35 : decode cX8_need 35 = .ok (.invokevirtual 195, 3) := by decide +kernel
theorem dX8_need_38 : decode cX8_need 38 = .ok (.iload_n 2, 1) := by decide +kernel
theorem dX8_need_39 : decode cX8_need 39 = .ok (.if_icmp .lt 5, 3) := by decide +kernel
theorem dX8_need_44 : decode cX8_need 44 = .ok (.iinc 3 1, 3) := by decide +kernel
theorem dX8_need_47 : decode cX8_need 47 = .ok (.goto (-23), 3) := by decide +kernel
theorem dX8_need_50 : decode cX8_need 50 = .ok (.bipush (-6), 2) := by decide +kernel
theorem dX8_need_52 : decode cX8_need 52 = .ok (.ireturn, 1) := by decide +kernel
theorem dX8_need_42 : decode cX8_need 42 = .ok (.iload_n 3, 1) := by decide +kernel
theorem dX8_need_43 : decode cX8_need 43 = .ok (.ireturn, 1) := by decide +kernel
theorem dX8_need_7 : decode cX8_need 7 = .ok (.iconst (-1), 1) := by decide +kernel
theorem dX8_need_8 : decode cX8_need 8 = .ok (.ireturn, 1) := by decide +kernel
theorem dX8_told_0 : decode cX8_told 0 = .ok (.iload_n 1, 1) := by decide +kernel
theorem dX8_told_1 : decode cX8_told 1 = .ok (.ifCond .ne 11, 3) := by decide +kernel
theorem dX8_told_12 : decode cX8_told 12 = .ok (.iload_n 1, 1) := by decide +kernel
theorem dX8_told_13 : decode cX8_told 13 = .ok (.iconst 1, 1) := by decide +kernel
theorem dX8_told_14 : decode cX8_told 14 = .ok (.if_icmp .ne 11, 3) := by decide +kernel
theorem dX8_told_25 : decode cX8_told 25 = .ok (.iload_n 1, 1) := by decide +kernel
theorem dX8_told_26 : decode cX8_told 26 = .ok (.iconst 2, 1) := by decide +kernel
theorem dX8_told_27 : decode cX8_told 27 = .ok (.if_icmp .ne 11, 3) := by decide +kernel
theorem dX8_told_38 : decode cX8_told 38 = .ok (.iload_n 1, 1) := by decide +kernel
theorem dX8_told_39 : decode cX8_told 39 = .ok (.bipush 10, 2) := by decide +kernel
theorem dX8_told_41 : decode cX8_told 41 = .ok (.if_icmp .lt 21, 3) := by decide +kernel
theorem dX8_told_62 : decode cX8_told 62 = .ok (.iload_n 1, 1) := by decide +kernel
theorem dX8_told_63 : decode cX8_told 63 = .ok (.bipush 20, 2) := by decide +kernel
theorem dX8_told_65 : decode cX8_told 65 = .ok (.if_icmp .lt 29, 3) := by decide +kernel
theorem dX8_told_94 : decode cX8_told 94 = .ok (.bipush (-2), 2) := by decide +kernel
theorem dX8_told_96 : decode cX8_told 96 = .ok (.ireturn, 1) := by decide +kernel
theorem dX8_told_44 : decode cX8_told 44 = .ok (.iload_n 1, 1) := by decide +kernel
theorem dX8_told_45 : decode cX8_told 45 = .ok (.bipush 20, 2) := by decide +kernel
theorem dX8_told_47 : decode cX8_told 47 = .ok (.if_icmp .ge 15, 3) := by decide +kernel
theorem dX8_told_68 : decode cX8_told 68 = .ok (.iload_n 1, 1) := by decide +kernel
theorem dX8_told_69 : decode cX8_told 69 = .ok (.bipush 30, 2) := by decide +kernel
theorem dX8_told_71 : decode cX8_told 71 = .ok (.if_icmp .ge 23, 3) := by decide +kernel
theorem dX8_told_74 : decode cX8_told 74 = .ok (.aload_n 0, 1) := by decide +kernel
theorem dX8_told_75 : decode cX8_told 75 = .ok (.getfield 10, 3) := by decide +kernel
theorem dX8_told_78 : decode cX8_told 78 = .ok (.iload_n 1, 1) := by decide +kernel
theorem dX8_told_79 : decode cX8_told 79 = .ok (.bipush 20, 2) := by decide +kernel
theorem dX8_told_81 : decode cX8_told 81 = .ok (.isub, 1) := by decide +kernel
theorem dX8_told_82 : decode cX8_told 82 = .ok (.invokevirtual 63, 3) := by decide +kernel
theorem dX8_told_85 : decode cX8_told 85 = .ok (.ifCond .eq 7, 3) := by decide +kernel
theorem dX8_told_92 : decode cX8_told 92 = .ok (.iconst 0, 1) := by decide +kernel
theorem dX8_told_93 : decode cX8_told 93 = .ok (.ireturn, 1) := by decide +kernel
theorem dX8_told_50 : decode cX8_told 50 = .ok (.aload_n 0, 1) := by decide +kernel
theorem dX8_told_51 : decode cX8_told 51 = .ok (.getfield 26, 3) := by decide +kernel
theorem dX8_told_54 : decode cX8_told 54 = .ok (.iload_n 1, 1) := by decide +kernel
theorem dX8_told_55 : decode cX8_told 55 = .ok (.bipush 10, 2) := by decide +kernel
theorem dX8_told_57 : decode cX8_told 57 = .ok (.isub, 1) := by decide +kernel
theorem dX8_told_58 : decode cX8_told 58 = .ok (.invokevirtual 211, 3) := by decide +kernel
theorem dX8_told_61 : decode cX8_told 61 = .ok (.ireturn, 1) := by decide +kernel
theorem dX8_told_30 : decode cX8_told 30 = .ok (.aload_n 0, 1) := by decide +kernel
theorem dX8_told_31 : decode cX8_told 31 = .ok (.getfield 47, 3) := by decide +kernel
theorem dX8_told_34 : decode cX8_told 34 = .ok (.invokevirtual 210, 3) := by decide +kernel
theorem dX8_told_37 : decode cX8_told 37 = .ok (.ireturn, 1) := by decide +kernel
theorem dX8_told_17 : decode cX8_told 17 = .ok (.aload_n 0, 1) := by decide +kernel
theorem dX8_told_18 : decode cX8_told 18 = .ok (.getfield 19, 3) := by decide +kernel
theorem dX8_told_21 : decode cX8_told 21 = .ok (.invokevirtual 207, 3) := by decide +kernel
theorem dX8_told_24 : decode cX8_told 24 = .ok (.ireturn, 1) := by decide +kernel
theorem dX8_told_4 : decode cX8_told 4 = .ok (.aload_n 0, 1) := by decide +kernel
theorem dX8_told_5 : decode cX8_told 5 = .ok (.getfield 10, 3) := by decide +kernel
theorem dX8_told_8 : decode cX8_told 8 = .ok (.invokevirtual 204, 3) := by decide +kernel
theorem dX8_told_11 : decode cX8_told 11 = .ok (.ireturn, 1) := by decide +kernel
set_option maxHeartbeats 4000000 in
set_option maxRecDepth 100000 in
theorem x_doubt (l : Launch) (dC : Nat → ClassId) (dI : Nat → Nat → Nat) (sz : Nat) (h0 : Nat) (p1 : Nat) (u1 : Value) (p3 : Nat) (u3 : Value) (u4 : Value) (u5 : Value) (w0 : Value) (w1 : Value) (w2 : Value) (w3 : Value) (w4 : Value) (w5 : Value) (w7 : Value) (e0 : Nat) (z1 : Value) (z2 : Value) (ke0 : ClassId) (n1 : Int32)  : Met l yX8_doubt (wq yX8_doubt cX8_doubt 2 (some .int)) ({ frames := 2, cells := 0, slots := 0, locals := 44 }) (va_Pc [.ref h0, .int n1] (pcW dC dI [(ke0, .int)] [(h0, .inr (7, [.ref p1, u1, .ref p3, u3, u4, u5])), (p1, .inr (1, [w0, w1, w2, w3, w4, w5, .int 0, w7])), (p3, .inr (0, [.ref e0, z1, z2])), (e0, .inl (ke0, 8, .inl (fun _ => 0)))] sz)) (va_Qi (fun (r : Int32) (_ : Unit) => r = F_name n1) (fun _ _ => True) (fun q : Nat => sz ≤ q)) 0 0 (fun q : Nat => sz ≤ q) := by
  refine Met.ofW (cc := cX8_doubt) (maxL := 2) (ret := (some .int)) (by decide) rfl ?_
  intro p e s m args below meth c s₁ B hml hv
  obtain ⟨rfl, hsz, hN, hP, hK, hD0⟩ := hv
  have hx := B.exec
  have hb := B.bytes
  have hr := B.returns
  have hts0 := atoms_spec (ws := (wq yX8_doubt cX8_doubt 2 (some .int))) B.pre
  have hts : ∀ w ∈ BG, w.before _ s = true := fun w h => hts0 w (List.mem_cons_of_mem _ h)
  have hown : s.vm.findClass RX8 = some m.cls := findClass_of_methodNamed B.named
  have hlocks := B.notSynchronized
  subst hsz
  have hA : ∀ q : Nat, s.heap.size ≤ q → (fun q : Nat => s.heap.size ≤ q) q := fun _ h => h
  have hD := hD0
  have hS : va_S (fun q : Nat => s.heap.size ≤ q) s.heap s.heap [] := va_S.rf
  have hP : va_P (dC, dI) vwCl [(h0, .inr (7, [.ref p1, u1, .ref p3, u3, u4, u5])), (p1, .inr (1, [w0, w1, w2, w3, w4, w5, .int 0, w7])), (p3, .inr (0, [.ref e0, z1, z2])), (e0, .inl (ke0, 8, .inl (fun _ => 0)))] s.heap := hP
  have hl := lv_entry ([.ref h0, .int n1]) (n := 2) (Nat.le_of_ble_eq_true rfl)
  rw [lg_entry_eq]
  generalize (lg_sl ([.ref h0, .int n1]) ++ List.replicate (2 - (lg_sl ([.ref h0, .int n1])).length) Slot.unset).toArray = ls at hl ⊢
  have hl : lv_has ls 2 [(0, .ref h0), (1, .int n1)] := hl
  skip
  refine lv_iload_n hx hb dX8_doubt_0 rfl (lv_at hl 1 rfl) ?_
  have hPc := hP.sub (ws' := []) [] rfl
  have hDc := hD.sub (ws' := []) [] (by decide) rfl
  have hKc := hK.sub (tys' := []) [] rfl
  refine va_calli (va_runS (As := [.int n1]) (rest := []) ⟨hx, hb, hml, hown, hts⟩ (c_isName l dC dI s.heap.size n1) (va_cwS 1 hts (gS mw_2_97 mw_2_98 mw_1_1 mw_2_99) rfl rfl rfl (by decide +kernel) ⟨Nat.le_of_ble_eq_true rfl, Nat.le_of_ble_eq_true rfl⟩) ⟨pcW_blind, pcW_at hPc hKc hDc hN⟩ rfl rfl hl.1 rfl (lv_room (Nat.le_of_ble_eq_true rfl)) dX8_doubt_1 ⟨Nat.le_of_ble_eq_true rfl, Nat.le_of_ble_eq_true rfl⟩) hS (fun q h1 h2 => absurd h2 (Nat.not_le.mpr h1)) (fun q h => hA q (Nat.le_trans hS.1 h)) (fun r_1 u t H1 locs ht hvm hw_1 hB hz1 hk1 hS => ?_)
  have hP := keepP hP hk1
  clear hz1 hk1 hB ht hvm hPc hDc hKc
  generalize H1 = H at hP hS ⊢
  rcases fx_bool hw_1 with ⟨rfl, b_2⟩ | ⟨rfl, b_2⟩
  · skip
    refine lv_if_ne (tgt := 9) hx hb dX8_doubt_4 (by decide) (fun _ => ?_) (fun h => absurd h (by decide))
    refine lv_aload_n hx hb dX8_doubt_9 rfl (lv_at hl 0 rfl) ?_
    refine va_get (D := (dC, dI)) (ci := 7) (v := .ref p1) (C := RX8) (T := TX8) (N := 6) hx hb hts inB_8 hown hK hP 0 rfl rfl 0 (by decide) (hts _ mw_1_168) (fun _ h9 => h9) rfl dX8_doubt_10 ?_
    refine lv_aload_n hx hb dX8_doubt_13 rfl (lv_at hl 0 rfl) ?_
    refine va_get (D := (dC, dI)) (ci := 7) (v := .ref p3) (C := RX8) (T := TX8) (N := 6) hx hb hts inB_8 hown hK hP 0 rfl rfl 2 (by decide) (hts _ mw_1_170) (fun _ h9 => h9) rfl dX8_doubt_14 ?_
    refine lv_iload_n hx hb dX8_doubt_17 rfl (lv_at hl 1 rfl) ?_
    have hPc := hP.sub (ws' := [(p3, .inr (0, [.ref e0, z1, z2])), (e0, .inl (ke0, 8, .inl (fun _ => 0)))]) [2, 3] rfl
    have hDc := hD.sub (ws' := [(p3, .inr (0, [.ref e0, z1, z2])), (e0, .inl (ke0, 8, .inl (fun _ => 0)))]) [2, 3] (by decide) rfl
    have hKc := hK.sub (tys' := [(ke0, .int)]) [0] rfl
    refine va_calli (va_runV (As := [.int n1]) (rest := [.ref p1]) ⟨hx, hb, hml, hown, hts⟩ (c_own l dC dI H.size p3 e0 (z1) (z2) ke0 n1) (cwV 1 hts (gV mw_2_140 mw_2_105 mw_2_106 mw_1_5 mw_2_107) rfl rfl rfl (by decide +kernel) ⟨Nat.le_of_ble_eq_true rfl, Nat.le_of_ble_eq_true rfl⟩) ⟨pcW_blind, va_recv hKc hPc (ci := 0) (q0 := 0) rfl rfl, pcW_at hPc hKc hDc hN⟩ rfl rfl hl.1 rfl (lv_room (Nat.le_of_ble_eq_true rfl)) dX8_doubt_18 ⟨Nat.le_of_ble_eq_true rfl, Nat.le_of_ble_eq_true rfl⟩) hS (fun q h1 h2 => absurd h2 (Nat.not_le.mpr h1)) (fun q h => hA q (Nat.le_trans hS.1 h)) (fun r_3 u t H1 locs ht hvm hw_3 hB hz1 hk1 hS => ?_)
    have hP := keepP hP hk1
    clear hz1 hk1 hB ht hvm hPc hDc hKc
    generalize H1 = H at hP hS ⊢
    obtain rfl : r_3 = 0 := hw_3
    have hPc := hP.sub (ws' := [(p1, .inr (1, [w0, w1, w2, w3, w4, w5, .int 0, w7]))]) [1] rfl
    have hDc := hD.sub (ws' := [(p1, .inr (1, [w0, w1, w2, w3, w4, w5, .int 0, w7]))]) [1] (by decide) rfl
    have hKc := hK.sub (tys' := []) [] rfl
    refine va_calli (va_runS (As := [.ref p1, .int 0]) (rest := []) ⟨hx, hb, hml, hown, hts⟩ (c_doubtful l dC dI H.size p1 (w0) (w1) (w2) (w3) (w4) (w5) (w7) 0) (va_cwS 2 hts (gS mw_2_206 mw_2_207 mw_1_11 mw_2_208) rfl rfl rfl (by decide +kernel) ⟨Nat.le_of_ble_eq_true rfl, Nat.le_of_ble_eq_true rfl⟩) ⟨pcW_blind, pcW_at hPc hKc hDc hN⟩ rfl rfl hl.1 rfl (lv_room (Nat.le_of_ble_eq_true rfl)) dX8_doubt_21 ⟨Nat.le_of_ble_eq_true rfl, Nat.le_of_ble_eq_true rfl⟩) hS (fun q h1 h2 => absurd h2 (Nat.not_le.mpr h1)) (fun q h => hA q (Nat.le_trans hS.1 h)) (fun r_4 u t H1 locs ht hvm hw_4 hB hz1 hk1 hS => ?_)
    have hP := keepP hP hk1
    clear hz1 hk1 hB ht hvm hPc hDc hKc
    generalize H1 = H at hP hS ⊢
    obtain rfl : r_4 = 0 := hw_4
    exact W.iret (v := 0) hx hb hr (fun t ht hW => ⟨⟨0, (), rfl, (by (unfold F_name; repeat' split) <;> first | rfl | (exfalso; omega)), trivial⟩, hS.F ht⟩) hS.2.2 dX8_doubt_24
  · skip
    refine lv_if_ne (tgt := 9) hx hb dX8_doubt_4 (by decide) (fun h => absurd h (by decide)) (fun _ => ?_)
    refine lv_iconst (v := (-1)) hx hb dX8_doubt_7 (by decide) ?_
    exact W.iret (v := (-1)) hx hb hr (fun t ht hW => ⟨⟨(-1), (), rfl, (by (unfold F_name; repeat' split) <;> first | rfl | (exfalso; omega)), trivial⟩, hS.F ht⟩) hS.2.2 dX8_doubt_8
set_option maxHeartbeats 4000000 in
set_option maxRecDepth 100000 in
theorem x_settle (l : Launch) (dC : Nat → ClassId) (dI : Nat → Nat → Nat) (sz : Nat) (h0 : Nat) (p1 : Nat) (u1 : Value) (p3 : Nat) (u3 : Value) (u4 : Value) (u5 : Value) (w0 : Value) (w1 : Value) (w2 : Value) (w3 : Value) (w4 : Value) (w5 : Value) (w7 : Value) (e0 : Nat) (z1 : Value) (z2 : Value) (ke0 : ClassId) (n1 : Int32) (n2 : Int32)  : Met l yX8_settle (wq yX8_settle cX8_settle 3 (some .int)) ({ frames := 2, cells := 0, slots := 0, locals := 44 }) (va_Pc [.ref h0, .int n1, .int n2] (pcW dC dI [(ke0, .int)] [(h0, .inr (7, [.ref p1, u1, .ref p3, u3, u4, u5])), (p1, .inr (1, [w0, w1, w2, w3, w4, w5, .int 0, w7])), (p3, .inr (0, [.ref e0, z1, z2])), (e0, .inl (ke0, 8, .inl (fun _ => 0)))] sz)) (va_Qi (fun (r : Int32) (_ : Unit) => r = F_settle n1 n2) (fun _ _ => True) (fun q : Nat => sz ≤ q)) 0 0 (fun q : Nat => sz ≤ q) := by
  refine Met.ofW (cc := cX8_settle) (maxL := 3) (ret := (some .int)) (by decide) rfl ?_
  intro p e s m args below meth c s₁ B hml hv
  obtain ⟨rfl, hsz, hN, hP, hK, hD0⟩ := hv
  have hx := B.exec
  have hb := B.bytes
  have hr := B.returns
  have hts0 := atoms_spec (ws := (wq yX8_settle cX8_settle 3 (some .int))) B.pre
  have hts : ∀ w ∈ BG, w.before _ s = true := fun w h => hts0 w (List.mem_cons_of_mem _ h)
  have hown : s.vm.findClass RX8 = some m.cls := findClass_of_methodNamed B.named
  have hlocks := B.notSynchronized
  subst hsz
  have hA : ∀ q : Nat, s.heap.size ≤ q → (fun q : Nat => s.heap.size ≤ q) q := fun _ h => h
  have hD := hD0
  have hS : va_S (fun q : Nat => s.heap.size ≤ q) s.heap s.heap [] := va_S.rf
  have hP : va_P (dC, dI) vwCl [(h0, .inr (7, [.ref p1, u1, .ref p3, u3, u4, u5])), (p1, .inr (1, [w0, w1, w2, w3, w4, w5, .int 0, w7])), (p3, .inr (0, [.ref e0, z1, z2])), (e0, .inl (ke0, 8, .inl (fun _ => 0)))] s.heap := hP
  have hl := lv_entry ([.ref h0, .int n1, .int n2]) (n := 3) (Nat.le_of_ble_eq_true rfl)
  rw [lg_entry_eq]
  generalize (lg_sl ([.ref h0, .int n1, .int n2]) ++ List.replicate (3 - (lg_sl ([.ref h0, .int n1, .int n2])).length) Slot.unset).toArray = ls at hl ⊢
  have hl : lv_has ls 3 [(0, .ref h0), (1, .int n1), (2, .int n2)] := hl
  skip
  refine lv_iload_n hx hb dX8_settle_0 rfl (lv_at hl 1 rfl) ?_
  have hPc := hP.sub (ws' := []) [] rfl
  have hDc := hD.sub (ws' := []) [] (by decide) rfl
  have hKc := hK.sub (tys' := []) [] rfl
  refine va_calli (va_runS (As := [.int n1]) (rest := []) ⟨hx, hb, hml, hown, hts⟩ (c_isName l dC dI s.heap.size n1) (va_cwS 1 hts (gS mw_2_97 mw_2_98 mw_1_1 mw_2_99) rfl rfl rfl (by decide +kernel) ⟨Nat.le_of_ble_eq_true rfl, Nat.le_of_ble_eq_true rfl⟩) ⟨pcW_blind, pcW_at hPc hKc hDc hN⟩ rfl rfl hl.1 rfl (lv_room (Nat.le_of_ble_eq_true rfl)) dX8_settle_1 ⟨Nat.le_of_ble_eq_true rfl, Nat.le_of_ble_eq_true rfl⟩) hS (fun q h1 h2 => absurd h2 (Nat.not_le.mpr h1)) (fun q h => hA q (Nat.le_trans hS.1 h)) (fun r_1 u t H1 locs ht hvm hw_1 hB hz1 hk1 hS => ?_)
  have hP := keepP hP hk1
  clear hz1 hk1 hB ht hvm hPc hDc hKc
  generalize H1 = H at hP hS ⊢
  rcases fx_bool hw_1 with ⟨rfl, b_2⟩ | ⟨rfl, b_2⟩
  · skip
    refine lv_if_ne (tgt := 9) hx hb dX8_settle_4 (by decide) (fun _ => ?_) (fun h => absurd h (by decide))
    refine lv_iload_n hx hb dX8_settle_9 rfl (lv_at hl 2 rfl) ?_
    refine lv_if_eq (tgt := 21) hx hb dX8_settle_10 (by decide) (fun c_3 => ?_) (fun c_3 => ?_)
    · have b_4 := fx_eq (x := n2) (C := 0) (by decide) c_3
      refine lv_aload_n hx hb dX8_settle_21 rfl (lv_at hl 0 rfl) ?_
      refine va_get (D := (dC, dI)) (ci := 7) (v := .ref p1) (C := RX8) (T := TX8) (N := 6) hx hb hts inB_8 hown hK hP 0 rfl rfl 0 (by decide) (hts _ mw_1_168) (fun _ h9 => h9) rfl dX8_settle_22 ?_
      refine lv_aload_n hx hb dX8_settle_25 rfl (lv_at hl 0 rfl) ?_
      refine va_get (D := (dC, dI)) (ci := 7) (v := .ref p3) (C := RX8) (T := TX8) (N := 6) hx hb hts inB_8 hown hK hP 0 rfl rfl 2 (by decide) (hts _ mw_1_170) (fun _ h9 => h9) rfl dX8_settle_26 ?_
      refine lv_iload_n hx hb dX8_settle_29 rfl (lv_at hl 1 rfl) ?_
      have hPc := hP.sub (ws' := [(p3, .inr (0, [.ref e0, z1, z2])), (e0, .inl (ke0, 8, .inl (fun _ => 0)))]) [2, 3] rfl
      have hDc := hD.sub (ws' := [(p3, .inr (0, [.ref e0, z1, z2])), (e0, .inl (ke0, 8, .inl (fun _ => 0)))]) [2, 3] (by decide) rfl
      have hKc := hK.sub (tys' := [(ke0, .int)]) [0] rfl
      refine va_calli (va_runV (As := [.int n1]) (rest := [.ref p1]) ⟨hx, hb, hml, hown, hts⟩ (c_own l dC dI H.size p3 e0 (z1) (z2) ke0 n1) (cwV 1 hts (gV mw_2_140 mw_2_105 mw_2_106 mw_1_5 mw_2_107) rfl rfl rfl (by decide +kernel) ⟨Nat.le_of_ble_eq_true rfl, Nat.le_of_ble_eq_true rfl⟩) ⟨pcW_blind, va_recv hKc hPc (ci := 0) (q0 := 0) rfl rfl, pcW_at hPc hKc hDc hN⟩ rfl rfl hl.1 rfl (lv_room (Nat.le_of_ble_eq_true rfl)) dX8_settle_30 ⟨Nat.le_of_ble_eq_true rfl, Nat.le_of_ble_eq_true rfl⟩) hS (fun q h1 h2 => absurd h2 (Nat.not_le.mpr h1)) (fun q h => hA q (Nat.le_trans hS.1 h)) (fun r_5 u t H1 locs ht hvm hw_5 hB hz1 hk1 hS => ?_)
      have hP := keepP hP hk1
      clear hz1 hk1 hB ht hvm hPc hDc hKc
      generalize H1 = H at hP hS ⊢
      obtain rfl : r_5 = 0 := hw_5
      have hPc := hP.sub (ws' := [(p1, .inr (1, [w0, w1, w2, w3, w4, w5, .int 0, w7]))]) [1] rfl
      have hDc := hD.sub (ws' := [(p1, .inr (1, [w0, w1, w2, w3, w4, w5, .int 0, w7]))]) [1] (by decide) rfl
      have hKc := hK.sub (tys' := []) [] rfl
      refine va_calli (va_runS (As := [.ref p1, .int 0]) (rest := []) ⟨hx, hb, hml, hown, hts⟩ (c_settlers l dC dI H.size p1 (w0) (w1) (w2) (w3) (w4) (w5) (w7) 0) (va_cwS 2 hts (gS mw_2_227 mw_2_228 mw_1_11 mw_2_229) rfl rfl rfl (by decide +kernel) ⟨Nat.le_of_ble_eq_true rfl, Nat.le_of_ble_eq_true rfl⟩) ⟨pcW_blind, pcW_at hPc hKc hDc hN⟩ rfl rfl hl.1 rfl (lv_room (Nat.le_of_ble_eq_true rfl)) dX8_settle_33 ⟨Nat.le_of_ble_eq_true rfl, Nat.le_of_ble_eq_true rfl⟩) hS (fun q h1 h2 => absurd h2 (Nat.not_le.mpr h1)) (fun q h => hA q (Nat.le_trans hS.1 h)) (fun r_6 u t H1 locs ht hvm hw_6 hB hz1 hk1 hS => ?_)
      have hP := keepP hP hk1
      clear hz1 hk1 hB ht hvm hPc hDc hKc
      generalize H1 = H at hP hS ⊢
      obtain rfl : r_6 = 0 := hw_6
      refine lv_iload_n hx hb dX8_settle_36 rfl (lv_at hl 2 rfl) ?_
      refine hx_top (y := 0) (fx_sing (C := 0) (by decide) (by omega)) ?_
      have hPc := hP.sub (ws' := []) [] rfl
      have hDc := hD.sub (ws' := []) [] (by decide) rfl
      have hKc := hK.sub (tys' := []) [] rfl
      refine va_calli (va_runS (As := [.int 0, .int 0]) (rest := []) ⟨hx, hb, hml, hown, hts⟩ (c_boc l dC dI H.size 0) (va_cwS 2 hts (gS mw_2_230 mw_2_231 mw_1_1 mw_2_232) rfl rfl rfl (by decide +kernel) ⟨Nat.le_of_ble_eq_true rfl, Nat.le_of_ble_eq_true rfl⟩) ⟨pcW_blind, pcW_at hPc hKc hDc hN⟩ rfl rfl hl.1 rfl (lv_room (Nat.le_of_ble_eq_true rfl)) dX8_settle_37 ⟨Nat.le_of_ble_eq_true rfl, Nat.le_of_ble_eq_true rfl⟩) hS (fun q h1 h2 => absurd h2 (Nat.not_le.mpr h1)) (fun q h => hA q (Nat.le_trans hS.1 h)) (fun r_7 u t H1 locs ht hvm hw_7 hB hz1 hk1 hS => ?_)
      have hP := keepP hP hk1
      clear hz1 hk1 hB ht hvm hPc hDc hKc
      generalize H1 = H at hP hS ⊢
      obtain rfl : r_7 = 0 := hw_7
      exact W.iret (v := 0) hx hb hr (fun t ht hW => ⟨⟨0, (), rfl, (by (unfold F_settle; repeat' split) <;> first | rfl | (exfalso; omega)), trivial⟩, hS.F ht⟩) hS.2.2 dX8_settle_40
    · have b_4 := fn_eq (x := n2) (C := 0) (by decide) c_3
      refine lv_iload_n hx hb dX8_settle_13 rfl (lv_at hl 2 rfl) ?_
      refine lv_iconst (v := 1) hx hb dX8_settle_14 (by decide) ?_
      refine lv_icmp_eq (tgt := 21) hx hb dX8_settle_15 (by decide) (fun c_8 => ?_) (fun c_8 => ?_)
      · have b_9 := fx_eq (x := n2) (C := 1) (by decide) c_8
        refine lv_aload_n hx hb dX8_settle_21 rfl (lv_at hl 0 rfl) ?_
        refine va_get (D := (dC, dI)) (ci := 7) (v := .ref p1) (C := RX8) (T := TX8) (N := 6) hx hb hts inB_8 hown hK hP 0 rfl rfl 0 (by decide) (hts _ mw_1_168) (fun _ h9 => h9) rfl dX8_settle_22 ?_
        refine lv_aload_n hx hb dX8_settle_25 rfl (lv_at hl 0 rfl) ?_
        refine va_get (D := (dC, dI)) (ci := 7) (v := .ref p3) (C := RX8) (T := TX8) (N := 6) hx hb hts inB_8 hown hK hP 0 rfl rfl 2 (by decide) (hts _ mw_1_170) (fun _ h9 => h9) rfl dX8_settle_26 ?_
        refine lv_iload_n hx hb dX8_settle_29 rfl (lv_at hl 1 rfl) ?_
        have hPc := hP.sub (ws' := [(p3, .inr (0, [.ref e0, z1, z2])), (e0, .inl (ke0, 8, .inl (fun _ => 0)))]) [2, 3] rfl
        have hDc := hD.sub (ws' := [(p3, .inr (0, [.ref e0, z1, z2])), (e0, .inl (ke0, 8, .inl (fun _ => 0)))]) [2, 3] (by decide) rfl
        have hKc := hK.sub (tys' := [(ke0, .int)]) [0] rfl
        refine va_calli (va_runV (As := [.int n1]) (rest := [.ref p1]) ⟨hx, hb, hml, hown, hts⟩ (c_own l dC dI H.size p3 e0 (z1) (z2) ke0 n1) (cwV 1 hts (gV mw_2_140 mw_2_105 mw_2_106 mw_1_5 mw_2_107) rfl rfl rfl (by decide +kernel) ⟨Nat.le_of_ble_eq_true rfl, Nat.le_of_ble_eq_true rfl⟩) ⟨pcW_blind, va_recv hKc hPc (ci := 0) (q0 := 0) rfl rfl, pcW_at hPc hKc hDc hN⟩ rfl rfl hl.1 rfl (lv_room (Nat.le_of_ble_eq_true rfl)) dX8_settle_30 ⟨Nat.le_of_ble_eq_true rfl, Nat.le_of_ble_eq_true rfl⟩) hS (fun q h1 h2 => absurd h2 (Nat.not_le.mpr h1)) (fun q h => hA q (Nat.le_trans hS.1 h)) (fun r_10 u t H1 locs ht hvm hw_10 hB hz1 hk1 hS => ?_)
        have hP := keepP hP hk1
        clear hz1 hk1 hB ht hvm hPc hDc hKc
        generalize H1 = H at hP hS ⊢
        obtain rfl : r_10 = 0 := hw_10
        have hPc := hP.sub (ws' := [(p1, .inr (1, [w0, w1, w2, w3, w4, w5, .int 0, w7]))]) [1] rfl
        have hDc := hD.sub (ws' := [(p1, .inr (1, [w0, w1, w2, w3, w4, w5, .int 0, w7]))]) [1] (by decide) rfl
        have hKc := hK.sub (tys' := []) [] rfl
        refine va_calli (va_runS (As := [.ref p1, .int 0]) (rest := []) ⟨hx, hb, hml, hown, hts⟩ (c_settlers l dC dI H.size p1 (w0) (w1) (w2) (w3) (w4) (w5) (w7) 0) (va_cwS 2 hts (gS mw_2_227 mw_2_228 mw_1_11 mw_2_229) rfl rfl rfl (by decide +kernel) ⟨Nat.le_of_ble_eq_true rfl, Nat.le_of_ble_eq_true rfl⟩) ⟨pcW_blind, pcW_at hPc hKc hDc hN⟩ rfl rfl hl.1 rfl (lv_room (Nat.le_of_ble_eq_true rfl)) dX8_settle_33 ⟨Nat.le_of_ble_eq_true rfl, Nat.le_of_ble_eq_true rfl⟩) hS (fun q h1 h2 => absurd h2 (Nat.not_le.mpr h1)) (fun q h => hA q (Nat.le_trans hS.1 h)) (fun r_11 u t H1 locs ht hvm hw_11 hB hz1 hk1 hS => ?_)
        have hP := keepP hP hk1
        clear hz1 hk1 hB ht hvm hPc hDc hKc
        generalize H1 = H at hP hS ⊢
        obtain rfl : r_11 = 0 := hw_11
        refine lv_iload_n hx hb dX8_settle_36 rfl (lv_at hl 2 rfl) ?_
        refine hx_top (y := 1) (fx_sing (C := 1) (by decide) (by omega)) ?_
        have hPc := hP.sub (ws' := []) [] rfl
        have hDc := hD.sub (ws' := []) [] (by decide) rfl
        have hKc := hK.sub (tys' := []) [] rfl
        refine va_calli (va_runS (As := [.int 0, .int 1]) (rest := []) ⟨hx, hb, hml, hown, hts⟩ (c_boc l dC dI H.size 1) (va_cwS 2 hts (gS mw_2_230 mw_2_231 mw_1_1 mw_2_232) rfl rfl rfl (by decide +kernel) ⟨Nat.le_of_ble_eq_true rfl, Nat.le_of_ble_eq_true rfl⟩) ⟨pcW_blind, pcW_at hPc hKc hDc hN⟩ rfl rfl hl.1 rfl (lv_room (Nat.le_of_ble_eq_true rfl)) dX8_settle_37 ⟨Nat.le_of_ble_eq_true rfl, Nat.le_of_ble_eq_true rfl⟩) hS (fun q h1 h2 => absurd h2 (Nat.not_le.mpr h1)) (fun q h => hA q (Nat.le_trans hS.1 h)) (fun r_12 u t H1 locs ht hvm hw_12 hB hz1 hk1 hS => ?_)
        have hP := keepP hP hk1
        clear hz1 hk1 hB ht hvm hPc hDc hKc
        generalize H1 = H at hP hS ⊢
        obtain rfl : r_12 = 0 := hw_12
        exact W.iret (v := 0) hx hb hr (fun t ht hW => ⟨⟨0, (), rfl, (by (unfold F_settle; repeat' split) <;> first | rfl | (exfalso; omega)), trivial⟩, hS.F ht⟩) hS.2.2 dX8_settle_40
      · have b_9 := fn_eq (x := n2) (C := 1) (by decide) c_8
        refine lv_bipush (v := (-2)) hx hb dX8_settle_18 (by decide) ?_
        exact W.iret (v := (-2)) hx hb hr (fun t ht hW => ⟨⟨(-2), (), rfl, (by (unfold F_settle; repeat' split) <;> first | rfl | (exfalso; omega)), trivial⟩, hS.F ht⟩) hS.2.2 dX8_settle_20
  · skip
    refine lv_if_ne (tgt := 9) hx hb dX8_settle_4 (by decide) (fun h => absurd h (by decide)) (fun _ => ?_)
    refine lv_iconst (v := (-1)) hx hb dX8_settle_7 (by decide) ?_
    exact W.iret (v := (-1)) hx hb hr (fun t ht hW => ⟨⟨(-1), (), rfl, (by (unfold F_settle; repeat' split) <;> first | rfl | (exfalso; omega)), trivial⟩, hS.F ht⟩) hS.2.2 dX8_settle_8
set_option maxHeartbeats 4000000 in
set_option maxRecDepth 100000 in
theorem x_column (l : Launch) (dC : Nat → ClassId) (dI : Nat → Nat → Nat) (sz : Nat) (h0 : Nat) (p1 : Nat) (u1 : Value) (p3 : Nat) (u3 : Value) (p4 : Nat) (u5 : Value) (w0 : Value) (w1 : Value) (w2 : Value) (w3 : Value) (w4 : Value) (w5 : Value) (w7 : Value) (t0 : Nat) (t1 : Nat) (t2 : Nat) (z3 : Value) (z4 : Value) (kt0 : ClassId) (kt1 : ClassId) (kt2 : ClassId) (n1 : Int32)  : Met l yX8_column (wq yX8_column cX8_column 3 (some .int)) ({ frames := 10, cells := 0, slots := 0, locals := 237 }) (va_Pc [.ref h0, .int n1] (pcW dC dI [(kt0, .int), (kt1, .int), (kt2, .int)] [(h0, .inr (7, [.ref p1, u1, .ref p3, u3, .ref p4, u5])), (p1, .inr (1, [w0, w1, w2, w3, w4, w5, .int 0, w7])), (p4, .inr (6, [.ref t0, .ref t1, .ref t2, z3, z4])), (t0, .inl (kt0, 10, .inl (fun _ => 0))), (t1, .inl (kt1, 8, .inl (fun _ => 0))), (t2, .inl (kt2, 8, .inl (fun _ => 0)))] sz)) (va_Qi (fun (r : Int32) (_ : Unit) => r = F_column n1) (fun _ _ => True) (va_A [(h0, .inr (7, [.ref p1, u1, .ref p3, u3, .ref p4, u5])), (p1, .inr (1, [w0, w1, w2, w3, w4, w5, .int 0, w7])), (p4, .inr (6, [.ref t0, .ref t1, .ref t2, z3, z4])), (t0, .inl (kt0, 10, .inl (fun _ => 0))), (t1, .inl (kt1, 8, .inl (fun _ => 0))), (t2, .inl (kt2, 8, .inl (fun _ => 0)))] sz)) 0 0 (va_A [(h0, .inr (7, [.ref p1, u1, .ref p3, u3, .ref p4, u5])), (p1, .inr (1, [w0, w1, w2, w3, w4, w5, .int 0, w7])), (p4, .inr (6, [.ref t0, .ref t1, .ref t2, z3, z4])), (t0, .inl (kt0, 10, .inl (fun _ => 0))), (t1, .inl (kt1, 8, .inl (fun _ => 0))), (t2, .inl (kt2, 8, .inl (fun _ => 0)))] sz) := by
  refine Met.ofW (cc := cX8_column) (maxL := 3) (ret := (some .int)) (by decide) rfl ?_
  intro p e s m args below meth c s₁ B hml hv
  obtain ⟨rfl, hsz, hN, hP, hK, hD0⟩ := hv
  have hx := B.exec
  have hb := B.bytes
  have hr := B.returns
  have hts0 := atoms_spec (ws := (wq yX8_column cX8_column 3 (some .int))) B.pre
  have hts : ∀ w ∈ BG, w.before _ s = true := fun w h => hts0 w (List.mem_cons_of_mem _ h)
  have hown : s.vm.findClass RX8 = some m.cls := findClass_of_methodNamed B.named
  have hlocks := B.notSynchronized
  subst hsz
  have hD := hD0.self (sz := s.heap.size)
  generalize hAe : va_A [(h0, .inr (7, [.ref p1, u1, .ref p3, u3, .ref p4, u5])), (p1, .inr (1, [w0, w1, w2, w3, w4, w5, .int 0, w7])), (p4, .inr (6, [.ref t0, .ref t1, .ref t2, z3, z4])), (t0, .inl (kt0, 10, .inl (fun _ => 0))), (t1, .inl (kt1, 8, .inl (fun _ => 0))), (t2, .inl (kt2, 8, .inl (fun _ => 0)))] s.heap.size = A at hD ⊢
  have hA : ∀ q : Nat, s.heap.size ≤ q → A q := fun q h => by rw [← hAe]; exact Or.inr h
  have hS : va_S A s.heap s.heap [] := va_S.rf
  have hP : va_P (dC, dI) vwCl [(h0, .inr (7, [.ref p1, u1, .ref p3, u3, .ref p4, u5])), (p1, .inr (1, [w0, w1, w2, w3, w4, w5, .int 0, w7])), (p4, .inr (6, [.ref t0, .ref t1, .ref t2, z3, z4])), (t0, .inl (kt0, 10, .inl (fun _ => 0))), (t1, .inl (kt1, 8, .inl (fun _ => 0))), (t2, .inl (kt2, 8, .inl (fun _ => 0)))] s.heap := hP
  have hl := lv_entry ([.ref h0, .int n1]) (n := 3) (Nat.le_of_ble_eq_true rfl)
  rw [lg_entry_eq]
  generalize (lg_sl ([.ref h0, .int n1]) ++ List.replicate (3 - (lg_sl ([.ref h0, .int n1])).length) Slot.unset).toArray = ls at hl ⊢
  have hl : lv_has ls 3 [(0, .ref h0), (1, .int n1)] := hl
  skip
  refine lv_iload_n hx hb dX8_column_0 rfl (lv_at hl 1 rfl) ?_
  refine lv_iconst (v := (-1)) hx hb dX8_column_1 (by decide) ?_
  refine lv_icmp_eq (tgt := 14) hx hb dX8_column_2 (by decide) (fun c_1 => ?_) (fun c_1 => ?_)
  · have b_2 := fx_eq (x := n1) (C := -1) (by decide) c_1
    refine lv_aload_n hx hb dX8_column_14 rfl (lv_at hl 0 rfl) ?_
    refine va_get (D := (dC, dI)) (ci := 7) (v := .ref p4) (C := RX8) (T := TX8) (N := 6) hx hb hts inB_8 hown hK hP 0 rfl rfl 4 (by decide) (hts _ mw_1_172) (fun _ h9 => h9) rfl dX8_column_15 ?_
    refine lv_aload_n hx hb dX8_column_18 rfl (lv_at hl 0 rfl) ?_
    refine va_get (D := (dC, dI)) (ci := 7) (v := .ref p1) (C := RX8) (T := TX8) (N := 6) hx hb hts inB_8 hown hK hP 0 rfl rfl 0 (by decide) (hts _ mw_1_168) (fun _ h9 => h9) rfl dX8_column_19 ?_
    refine lv_aload_n hx hb dX8_column_22 rfl (lv_at hl 0 rfl) ?_
    refine va_get (D := (dC, dI)) (ci := 7) (v := .ref p3) (C := RX8) (T := TX8) (N := 6) hx hb hts inB_8 hown hK hP 0 rfl rfl 2 (by decide) (hts _ mw_1_170) (fun _ h9 => h9) rfl dX8_column_23 ?_
    have hPc := hP.sub (ws' := [(p4, .inr (6, [.ref t0, .ref t1, .ref t2, z3, z4])), (t0, .inl (kt0, 10, .inl (fun _ => 0))), (p1, .inr (1, [w0, w1, w2, w3, w4, w5, .int 0, w7]))]) [2, 3, 1] rfl
    have hDc := hD.sub (ws' := [(p4, .inr (6, [.ref t0, .ref t1, .ref t2, z3, z4])), (t0, .inl (kt0, 10, .inl (fun _ => 0))), (p1, .inr (1, [w0, w1, w2, w3, w4, w5, .int 0, w7]))]) [2, 3, 1] (by decide) rfl
    have hKc := hK.sub (tys' := [(kt0, .int)]) [0] rfl
    have hFc := va_free (wc := [(p4, .inr (6, [.ref t0, .ref t1, .ref t2, z3, z4])), (t0, .inl (kt0, 10, .inl (fun _ => 0))), (p1, .inr (1, [w0, w1, w2, w3, w4, w5, .int 0, w7]))]) hD hS hA [2, 3, 1] rfl
    refine va_callv (va_runV (As := [.ref p1, .ref p3]) (rest := []) ⟨hx, hb, hml, hown, hts⟩ (c_fill l dC dI s.heap.size p4 t0 (.ref t1) (.ref t2) (z3) (z4) kt0 p1 (w0) (w1) (w2) (w3) (w4) (w5) (w7) p3) (cwV 2 hts (gV mw_3_6 mw_3_7 mw_3_8 mw_1_7 mw_3_9) rfl rfl rfl (by decide +kernel) ⟨Nat.le_of_ble_eq_true rfl, Nat.le_of_ble_eq_true rfl⟩) ⟨pcW_blind, va_recv hKc hPc (ci := 6) (q0 := 0) rfl rfl, pcW_at hPc hKc hDc hN⟩ rfl rfl hl.1 rfl (lv_room (Nat.le_of_ble_eq_true rfl)) dX8_column_26 ⟨Nat.le_of_ble_eq_true rfl, Nat.le_of_ble_eq_true rfl⟩) hS (fun q _ h => hFc q h) hFc (fun u t H1 locs ht hvm hw_3 hB hz1 hk1 hS => ?_)
    obtain ⟨hP1, hK1, hD1⟩ := hB
    rw [ht] at hP1
    have hK1 := va_K.moved hvm.symm hK1
    obtain ⟨hP, hD⟩ := va_join (wr := [(h0, .inr (7, [.ref p1, u1, .ref p3, u3, .ref p4, u5])), (t1, .inl (kt1, 8, .inl (fun _ => 0))), (t2, .inl (kt2, 8, .inl (fun _ => 0)))]) (w1 := [(p4, .inr (6, [.ref t0, .ref t1, .ref t2, z3, z4])), (t0, .inl (kt0, 10, .inl (fun _ => 0))), (p1, .inr (1, [w0, w1, w2, w3, w4, w5, .int 0, w7]))]) hP hD [2, 3, 1] [0, 4, 5] rfl rfl (by decide) (by decide) hk1 hFc hP1 hD1
    have hK := (hK.sub (tys' := [(kt1, .int), (kt2, .int)]) [1, 2] rfl).app hK1
    clear hz1 hk1 hPc hDc hKc hFc
    generalize H1 = H at hP hS ⊢
    have hK : va_K (dC, dI) vwCl [(kt1, .int), (kt2, .int), (kt0, .int)] s := hK
    have hP : va_P (dC, dI) vwCl [(h0, .inr (7, [.ref p1, u1, .ref p3, u3, .ref p4, u5])), (t1, .inl (kt1, 8, .inl (fun _ => 0))), (t2, .inl (kt2, 8, .inl (fun _ => 0))), (p4, .inr (6, [.ref t0, .ref t1, .ref t2, z3, z4])), (t0, .inl (kt0, 10, .inl (fun _ => 0))), (p1, .inr (1, [w0, w1, w2, w3, w4, w5, .int 0, w7]))] H := hP
    have hD : va_D A [(h0, .inr (7, [.ref p1, u1, .ref p3, u3, .ref p4, u5])), (t1, .inl (kt1, 8, .inl (fun _ => 0))), (t2, .inl (kt2, 8, .inl (fun _ => 0))), (p4, .inr (6, [.ref t0, .ref t1, .ref t2, z3, z4])), (t0, .inl (kt0, 10, .inl (fun _ => 0))), (p1, .inr (1, [w0, w1, w2, w3, w4, w5, .int 0, w7]))] := hD
    refine lv_aload_n hx hb dX8_column_29 rfl (lv_at hl 0 rfl) ?_
    refine va_get (D := (dC, dI)) (ci := 7) (v := .ref p4) (C := RX8) (T := TX8) (N := 6) hx hb hts inB_8 hown hK hP 0 rfl rfl 4 (by decide) (hts _ mw_1_172) (fun _ h9 => h9) rfl dX8_column_30 ?_
    have hPc := hP.sub (ws' := [(p4, .inr (6, [.ref t0, .ref t1, .ref t2, z3, z4])), (t0, .inl (kt0, 10, .inl (fun _ => 0))), (t1, .inl (kt1, 8, .inl (fun _ => 0))), (t2, .inl (kt2, 8, .inl (fun _ => 0)))]) [3, 4, 1, 2] rfl
    have hDc := hD.sub (ws' := [(p4, .inr (6, [.ref t0, .ref t1, .ref t2, z3, z4])), (t0, .inl (kt0, 10, .inl (fun _ => 0))), (t1, .inl (kt1, 8, .inl (fun _ => 0))), (t2, .inl (kt2, 8, .inl (fun _ => 0)))]) [3, 4, 1, 2] (by decide) rfl
    have hKc := hK.sub (tys' := [(kt0, .int), (kt1, .int), (kt2, .int)]) [2, 0, 1] rfl
    have hFc := va_free (wc := [(p4, .inr (6, [.ref t0, .ref t1, .ref t2, z3, z4])), (t0, .inl (kt0, 10, .inl (fun _ => 0))), (t1, .inl (kt1, 8, .inl (fun _ => 0))), (t2, .inl (kt2, 8, .inl (fun _ => 0)))]) hD hS hA [3, 4, 1, 2] rfl
    refine va_calli (va_runV (As := []) (rest := []) ⟨hx, hb, hml, hown, hts⟩ (c_spread l dC dI H.size p4 t0 t1 t2 (z3) (z4) kt0 kt1 kt2) (cwV 0 hts (gV mw_3_17 mw_3_18 mw_3_19 mw_1_7 mw_3_20) rfl rfl rfl (by decide +kernel) ⟨Nat.le_of_ble_eq_true rfl, Nat.le_of_ble_eq_true rfl⟩) ⟨pcW_blind, va_recv hKc hPc (ci := 6) (q0 := 0) rfl rfl, pcW_at hPc hKc hDc hN⟩ rfl rfl hl.1 rfl (lv_room (Nat.le_of_ble_eq_true rfl)) dX8_column_33 ⟨Nat.le_of_ble_eq_true rfl, Nat.le_of_ble_eq_true rfl⟩) hS (fun q _ h => hFc q h) hFc (fun r_4 u t H1 locs ht hvm hw_4 hB hz1 hk1 hS => ?_)
    obtain ⟨hP1, hK1, hD1⟩ := hB
    rw [ht] at hP1
    have hK1 := va_K.moved hvm.symm hK1
    obtain ⟨hP, hD⟩ := va_join (wr := [(h0, .inr (7, [.ref p1, u1, .ref p3, u3, .ref p4, u5])), (p1, .inr (1, [w0, w1, w2, w3, w4, w5, .int 0, w7]))]) (w1 := [(t0, .inl (kt0, 10, .inl (fun _ => 0))), (p4, .inr (6, [.ref t0, .ref t1, .ref t2, z3, z4])), (t1, .inl (kt1, 8, .inl (fun _ => 0))), (t2, .inl (kt2, 8, .inl (slF (-6) 0 8)))]) hP hD [3, 4, 1, 2] [0, 5] rfl rfl (by decide) (by decide) hk1 hFc hP1 hD1
    have hK := (hK.sub (tys' := []) [] rfl).app hK1
    clear hz1 hk1 hPc hDc hKc hFc
    generalize H1 = H at hP hS ⊢
    have hK : va_K (dC, dI) vwCl [(kt0, .int), (kt1, .int), (kt2, .int)] s := hK
    have hP : va_P (dC, dI) vwCl [(h0, .inr (7, [.ref p1, u1, .ref p3, u3, .ref p4, u5])), (p1, .inr (1, [w0, w1, w2, w3, w4, w5, .int 0, w7])), (t0, .inl (kt0, 10, .inl (fun _ => 0))), (p4, .inr (6, [.ref t0, .ref t1, .ref t2, z3, z4])), (t1, .inl (kt1, 8, .inl (fun _ => 0))), (t2, .inl (kt2, 8, .inl (slF (-6) 0 8)))] H := hP
    have hD : va_D A [(h0, .inr (7, [.ref p1, u1, .ref p3, u3, .ref p4, u5])), (p1, .inr (1, [w0, w1, w2, w3, w4, w5, .int 0, w7])), (t0, .inl (kt0, 10, .inl (fun _ => 0))), (p4, .inr (6, [.ref t0, .ref t1, .ref t2, z3, z4])), (t1, .inl (kt1, 8, .inl (fun _ => 0))), (t2, .inl (kt2, 8, .inl (slF (-6) 0 8)))] := hD
    obtain rfl : r_4 = 0 := hw_4
    refine lv_istore_n (lv' := [(2, .int 0), (0, .ref h0), (1, .int n1)]) hx hb dX8_column_36 rfl hl (by decide) rfl (fun ls hl => ?_)
    refine lv_iload_n hx hb dX8_column_37 rfl (lv_at hl 2 rfl) ?_
    refine hx_top (y := (-1)) (fx_sing (C := -1) (by decide) (by omega)) ?_
    refine lv_iconst (v := (-1)) hx hb dX8_column_38 (by decide) ?_
    refine lv_icmp_ne (tgt := 46) hx hb dX8_column_39 (by decide) (fun h => absurd h (by decide)) (fun _ => ?_)
    refine lv_iload_n hx hb dX8_column_42 rfl (lv_at hl 0 rfl) ?_
    refine lv_goto (tgt := 54) hx hb dX8_column_43 (by decide) ?_
    exact W.iret (v := 0) hx hb hr (fun t ht hW => ⟨⟨0, (), rfl, (by (unfold F_column; repeat' split) <;> first | rfl | (exfalso; omega)), trivial⟩, hS.F ht⟩) hS.2.2 dX8_column_54
  · have b_2 := fn_eq (x := n1) (C := -1) (by decide) c_1
    refine lv_iload_n hx hb dX8_column_5 rfl (lv_at hl 1 rfl) ?_
    have hPc := hP.sub (ws' := []) [] rfl
    have hDc := hD.sub (ws' := []) [] (by decide) rfl
    have hKc := hK.sub (tys' := []) [] rfl
    refine va_calli (va_runS (As := [.int n1]) (rest := []) ⟨hx, hb, hml, hown, hts⟩ (c_isName l dC dI s.heap.size n1) (va_cwS 1 hts (gS mw_2_97 mw_2_98 mw_1_1 mw_2_99) rfl rfl rfl (by decide +kernel) ⟨Nat.le_of_ble_eq_true rfl, Nat.le_of_ble_eq_true rfl⟩) ⟨pcW_blind, pcW_at hPc hKc hDc hN⟩ rfl rfl hl.1 rfl (lv_room (Nat.le_of_ble_eq_true rfl)) dX8_column_6 ⟨Nat.le_of_ble_eq_true rfl, Nat.le_of_ble_eq_true rfl⟩) hS (fun q h1 h2 => absurd h2 (Nat.not_le.mpr h1)) (fun q h => hA q (Nat.le_trans hS.1 h)) (fun r_5 u t H1 locs ht hvm hw_5 hB hz1 hk1 hS => ?_)
    have hP := keepP hP hk1
    clear hz1 hk1 hB ht hvm hPc hDc hKc
    generalize H1 = H at hP hS ⊢
    rcases fx_bool hw_5 with ⟨rfl, b_6⟩ | ⟨rfl, b_6⟩
    · skip
      refine lv_if_ne (tgt := 14) hx hb dX8_column_9 (by decide) (fun _ => ?_) (fun h => absurd h (by decide))
      refine lv_aload_n hx hb dX8_column_14 rfl (lv_at hl 0 rfl) ?_
      refine va_get (D := (dC, dI)) (ci := 7) (v := .ref p4) (C := RX8) (T := TX8) (N := 6) hx hb hts inB_8 hown hK hP 0 rfl rfl 4 (by decide) (hts _ mw_1_172) (fun _ h9 => h9) rfl dX8_column_15 ?_
      refine lv_aload_n hx hb dX8_column_18 rfl (lv_at hl 0 rfl) ?_
      refine va_get (D := (dC, dI)) (ci := 7) (v := .ref p1) (C := RX8) (T := TX8) (N := 6) hx hb hts inB_8 hown hK hP 0 rfl rfl 0 (by decide) (hts _ mw_1_168) (fun _ h9 => h9) rfl dX8_column_19 ?_
      refine lv_aload_n hx hb dX8_column_22 rfl (lv_at hl 0 rfl) ?_
      refine va_get (D := (dC, dI)) (ci := 7) (v := .ref p3) (C := RX8) (T := TX8) (N := 6) hx hb hts inB_8 hown hK hP 0 rfl rfl 2 (by decide) (hts _ mw_1_170) (fun _ h9 => h9) rfl dX8_column_23 ?_
      have hPc := hP.sub (ws' := [(p4, .inr (6, [.ref t0, .ref t1, .ref t2, z3, z4])), (t0, .inl (kt0, 10, .inl (fun _ => 0))), (p1, .inr (1, [w0, w1, w2, w3, w4, w5, .int 0, w7]))]) [2, 3, 1] rfl
      have hDc := hD.sub (ws' := [(p4, .inr (6, [.ref t0, .ref t1, .ref t2, z3, z4])), (t0, .inl (kt0, 10, .inl (fun _ => 0))), (p1, .inr (1, [w0, w1, w2, w3, w4, w5, .int 0, w7]))]) [2, 3, 1] (by decide) rfl
      have hKc := hK.sub (tys' := [(kt0, .int)]) [0] rfl
      have hFc := va_free (wc := [(p4, .inr (6, [.ref t0, .ref t1, .ref t2, z3, z4])), (t0, .inl (kt0, 10, .inl (fun _ => 0))), (p1, .inr (1, [w0, w1, w2, w3, w4, w5, .int 0, w7]))]) hD hS hA [2, 3, 1] rfl
      refine va_callv (va_runV (As := [.ref p1, .ref p3]) (rest := []) ⟨hx, hb, hml, hown, hts⟩ (c_fill l dC dI H.size p4 t0 (.ref t1) (.ref t2) (z3) (z4) kt0 p1 (w0) (w1) (w2) (w3) (w4) (w5) (w7) p3) (cwV 2 hts (gV mw_3_6 mw_3_7 mw_3_8 mw_1_7 mw_3_9) rfl rfl rfl (by decide +kernel) ⟨Nat.le_of_ble_eq_true rfl, Nat.le_of_ble_eq_true rfl⟩) ⟨pcW_blind, va_recv hKc hPc (ci := 6) (q0 := 0) rfl rfl, pcW_at hPc hKc hDc hN⟩ rfl rfl hl.1 rfl (lv_room (Nat.le_of_ble_eq_true rfl)) dX8_column_26 ⟨Nat.le_of_ble_eq_true rfl, Nat.le_of_ble_eq_true rfl⟩) hS (fun q _ h => hFc q h) hFc (fun u t H1 locs ht hvm hw_7 hB hz1 hk1 hS => ?_)
      obtain ⟨hP1, hK1, hD1⟩ := hB
      rw [ht] at hP1
      have hK1 := va_K.moved hvm.symm hK1
      obtain ⟨hP, hD⟩ := va_join (wr := [(h0, .inr (7, [.ref p1, u1, .ref p3, u3, .ref p4, u5])), (t1, .inl (kt1, 8, .inl (fun _ => 0))), (t2, .inl (kt2, 8, .inl (fun _ => 0)))]) (w1 := [(p4, .inr (6, [.ref t0, .ref t1, .ref t2, z3, z4])), (t0, .inl (kt0, 10, .inl (fun _ => 0))), (p1, .inr (1, [w0, w1, w2, w3, w4, w5, .int 0, w7]))]) hP hD [2, 3, 1] [0, 4, 5] rfl rfl (by decide) (by decide) hk1 hFc hP1 hD1
      have hK := (hK.sub (tys' := [(kt1, .int), (kt2, .int)]) [1, 2] rfl).app hK1
      clear hz1 hk1 hPc hDc hKc hFc
      generalize H1 = H at hP hS ⊢
      have hK : va_K (dC, dI) vwCl [(kt1, .int), (kt2, .int), (kt0, .int)] s := hK
      have hP : va_P (dC, dI) vwCl [(h0, .inr (7, [.ref p1, u1, .ref p3, u3, .ref p4, u5])), (t1, .inl (kt1, 8, .inl (fun _ => 0))), (t2, .inl (kt2, 8, .inl (fun _ => 0))), (p4, .inr (6, [.ref t0, .ref t1, .ref t2, z3, z4])), (t0, .inl (kt0, 10, .inl (fun _ => 0))), (p1, .inr (1, [w0, w1, w2, w3, w4, w5, .int 0, w7]))] H := hP
      have hD : va_D A [(h0, .inr (7, [.ref p1, u1, .ref p3, u3, .ref p4, u5])), (t1, .inl (kt1, 8, .inl (fun _ => 0))), (t2, .inl (kt2, 8, .inl (fun _ => 0))), (p4, .inr (6, [.ref t0, .ref t1, .ref t2, z3, z4])), (t0, .inl (kt0, 10, .inl (fun _ => 0))), (p1, .inr (1, [w0, w1, w2, w3, w4, w5, .int 0, w7]))] := hD
      refine lv_aload_n hx hb dX8_column_29 rfl (lv_at hl 0 rfl) ?_
      refine va_get (D := (dC, dI)) (ci := 7) (v := .ref p4) (C := RX8) (T := TX8) (N := 6) hx hb hts inB_8 hown hK hP 0 rfl rfl 4 (by decide) (hts _ mw_1_172) (fun _ h9 => h9) rfl dX8_column_30 ?_
      have hPc := hP.sub (ws' := [(p4, .inr (6, [.ref t0, .ref t1, .ref t2, z3, z4])), (t0, .inl (kt0, 10, .inl (fun _ => 0))), (t1, .inl (kt1, 8, .inl (fun _ => 0))), (t2, .inl (kt2, 8, .inl (fun _ => 0)))]) [3, 4, 1, 2] rfl
      have hDc := hD.sub (ws' := [(p4, .inr (6, [.ref t0, .ref t1, .ref t2, z3, z4])), (t0, .inl (kt0, 10, .inl (fun _ => 0))), (t1, .inl (kt1, 8, .inl (fun _ => 0))), (t2, .inl (kt2, 8, .inl (fun _ => 0)))]) [3, 4, 1, 2] (by decide) rfl
      have hKc := hK.sub (tys' := [(kt0, .int), (kt1, .int), (kt2, .int)]) [2, 0, 1] rfl
      have hFc := va_free (wc := [(p4, .inr (6, [.ref t0, .ref t1, .ref t2, z3, z4])), (t0, .inl (kt0, 10, .inl (fun _ => 0))), (t1, .inl (kt1, 8, .inl (fun _ => 0))), (t2, .inl (kt2, 8, .inl (fun _ => 0)))]) hD hS hA [3, 4, 1, 2] rfl
      refine va_calli (va_runV (As := []) (rest := []) ⟨hx, hb, hml, hown, hts⟩ (c_spread l dC dI H.size p4 t0 t1 t2 (z3) (z4) kt0 kt1 kt2) (cwV 0 hts (gV mw_3_17 mw_3_18 mw_3_19 mw_1_7 mw_3_20) rfl rfl rfl (by decide +kernel) ⟨Nat.le_of_ble_eq_true rfl, Nat.le_of_ble_eq_true rfl⟩) ⟨pcW_blind, va_recv hKc hPc (ci := 6) (q0 := 0) rfl rfl, pcW_at hPc hKc hDc hN⟩ rfl rfl hl.1 rfl (lv_room (Nat.le_of_ble_eq_true rfl)) dX8_column_33 ⟨Nat.le_of_ble_eq_true rfl, Nat.le_of_ble_eq_true rfl⟩) hS (fun q _ h => hFc q h) hFc (fun r_8 u t H1 locs ht hvm hw_8 hB hz1 hk1 hS => ?_)
      obtain ⟨hP1, hK1, hD1⟩ := hB
      rw [ht] at hP1
      have hK1 := va_K.moved hvm.symm hK1
      obtain ⟨hP, hD⟩ := va_join (wr := [(h0, .inr (7, [.ref p1, u1, .ref p3, u3, .ref p4, u5])), (p1, .inr (1, [w0, w1, w2, w3, w4, w5, .int 0, w7]))]) (w1 := [(t0, .inl (kt0, 10, .inl (fun _ => 0))), (p4, .inr (6, [.ref t0, .ref t1, .ref t2, z3, z4])), (t1, .inl (kt1, 8, .inl (fun _ => 0))), (t2, .inl (kt2, 8, .inl (slF (-6) 0 8)))]) hP hD [3, 4, 1, 2] [0, 5] rfl rfl (by decide) (by decide) hk1 hFc hP1 hD1
      have hK := (hK.sub (tys' := []) [] rfl).app hK1
      clear hz1 hk1 hPc hDc hKc hFc
      generalize H1 = H at hP hS ⊢
      have hK : va_K (dC, dI) vwCl [(kt0, .int), (kt1, .int), (kt2, .int)] s := hK
      have hP : va_P (dC, dI) vwCl [(h0, .inr (7, [.ref p1, u1, .ref p3, u3, .ref p4, u5])), (p1, .inr (1, [w0, w1, w2, w3, w4, w5, .int 0, w7])), (t0, .inl (kt0, 10, .inl (fun _ => 0))), (p4, .inr (6, [.ref t0, .ref t1, .ref t2, z3, z4])), (t1, .inl (kt1, 8, .inl (fun _ => 0))), (t2, .inl (kt2, 8, .inl (slF (-6) 0 8)))] H := hP
      have hD : va_D A [(h0, .inr (7, [.ref p1, u1, .ref p3, u3, .ref p4, u5])), (p1, .inr (1, [w0, w1, w2, w3, w4, w5, .int 0, w7])), (t0, .inl (kt0, 10, .inl (fun _ => 0))), (p4, .inr (6, [.ref t0, .ref t1, .ref t2, z3, z4])), (t1, .inl (kt1, 8, .inl (fun _ => 0))), (t2, .inl (kt2, 8, .inl (slF (-6) 0 8)))] := hD
      obtain rfl : r_8 = 0 := hw_8
      refine lv_istore_n (lv' := [(2, .int 0), (0, .ref h0), (1, .int n1)]) hx hb dX8_column_36 rfl hl (by decide) rfl (fun ls hl => ?_)
      refine lv_iload_n hx hb dX8_column_37 rfl (lv_at hl 2 rfl) ?_
      refine lv_iconst (v := (-1)) hx hb dX8_column_38 (by decide) ?_
      refine lv_icmp_ne (tgt := 46) hx hb dX8_column_39 (by decide) (fun _ => ?_) (fun h => absurd (fn_ne (x := n1) (C := -1) (by decide) h) (by omega))
      refine lv_aload_n hx hb dX8_column_46 rfl (lv_at hl 1 rfl) ?_
      refine va_get (D := (dC, dI)) (ci := 7) (v := .ref p4) (C := RX8) (T := TX8) (N := 6) hx hb hts inB_8 hown hK hP 0 rfl rfl 4 (by decide) (hts _ mw_1_172) (fun _ h9 => h9) rfl dX8_column_47 ?_
      refine lv_iload_n hx hb dX8_column_50 rfl (lv_at hl 2 rfl) ?_
      have hPc := hP.sub (ws' := [(p4, .inr (6, [.ref t0, .ref t1, .ref t2, z3, z4])), (t2, .inl (kt2, 8, .inl (slF (-6) 0 8)))]) [3, 5] rfl
      have hDc := hD.sub (ws' := [(p4, .inr (6, [.ref t0, .ref t1, .ref t2, z3, z4])), (t2, .inl (kt2, 8, .inl (slF (-6) 0 8)))]) [3, 5] (by decide) rfl
      have hKc := hK.sub (tys' := [(kt2, .int)]) [2] rfl
      refine va_calli (va_runV (As := [.int n1]) (rest := []) ⟨hx, hb, hml, hown, hts⟩ (c_colOf l dC dI H.size p4 (.ref t0) (.ref t1) t2 (z3) (z4) kt2 n1) (cwV 1 hts (gV mw_3_35 mw_3_36 mw_3_37 mw_1_7 mw_3_38) rfl rfl rfl (by decide +kernel) ⟨Nat.le_of_ble_eq_true rfl, Nat.le_of_ble_eq_true rfl⟩) ⟨pcW_blind, va_recv hKc hPc (ci := 6) (q0 := 0) rfl rfl, pcW_at hPc hKc hDc hN⟩ rfl rfl hl.1 rfl (lv_room (Nat.le_of_ble_eq_true rfl)) dX8_column_51 ⟨Nat.le_of_ble_eq_true rfl, Nat.le_of_ble_eq_true rfl⟩) hS (fun q h1 h2 => absurd h2 (Nat.not_le.mpr h1)) (fun q h => hA q (Nat.le_trans hS.1 h)) (fun r_9 u t H1 locs ht hvm hw_9 hB hz1 hk1 hS => ?_)
      have hP := keepP hP hk1
      clear hz1 hk1 hB ht hvm hPc hDc hKc
      generalize H1 = H at hP hS ⊢
      obtain rfl : r_9 = (-6) := hw_9
      exact W.iret (v := (-6)) hx hb hr (fun t ht hW => ⟨⟨(-6), (), rfl, (by (unfold F_column; repeat' split) <;> first | rfl | (exfalso; omega)), trivial⟩, hS.F ht⟩) hS.2.2 dX8_column_54
    · skip
      refine lv_if_ne (tgt := 14) hx hb dX8_column_9 (by decide) (fun h => absurd h (by decide)) (fun _ => ?_)
      refine lv_iconst (v := (-1)) hx hb dX8_column_12 (by decide) ?_
      exact W.iret (v := (-1)) hx hb hr (fun t ht hW => ⟨⟨(-1), (), rfl, (by (unfold F_column; repeat' split) <;> first | rfl | (exfalso; omega)), trivial⟩, hS.F ht⟩) hS.2.2 dX8_column_13
set_option maxHeartbeats 4000000 in
set_option maxRecDepth 100000 in
theorem x_packed (l : Launch) (dC : Nat → ClassId) (dI : Nat → Nat → Nat) (sz : Nat) (h0 : Nat) (p1 : Nat) (u1 : Value) (p3 : Nat) (u3 : Value) (p4 : Nat) (u5 : Value) (w0 : Value) (w1 : Value) (w2 : Value) (w3 : Value) (w4 : Value) (w5 : Value) (w7 : Value) (t0 : Nat) (z1 : Value) (z2 : Value) (t3 : Nat) (t4 : Nat) (kt0 : ClassId) (kt3 : ClassId) (kt4 : ClassId) (n1 : Int32)  : Met l yX8_packed (wq yX8_packed cX8_packed 3 (some .int)) ({ frames := 5, cells := 0, slots := 0, locals := 108 }) (va_Pc [.ref h0, .int n1] (pcW dC dI [(kt0, .int), (kt3, .int), (kt4, .int)] [(h0, .inr (7, [.ref p1, u1, .ref p3, u3, .ref p4, u5])), (p1, .inr (1, [w0, w1, w2, w3, w4, w5, .int 0, w7])), (p4, .inr (6, [.ref t0, z1, z2, .ref t3, .ref t4])), (t0, .inl (kt0, 10, .inl (fun _ => 0))), (t3, .inl (kt3, 10, .inl (fun _ => 0))), (t4, .inl (kt4, 100, .inl (fun _ => 0)))] sz)) (va_Qi (fun (r : Int32) (_ : Unit) => r = F_packed n1) (fun _ _ => True) (va_A [(h0, .inr (7, [.ref p1, u1, .ref p3, u3, .ref p4, u5])), (p1, .inr (1, [w0, w1, w2, w3, w4, w5, .int 0, w7])), (p4, .inr (6, [.ref t0, z1, z2, .ref t3, .ref t4])), (t0, .inl (kt0, 10, .inl (fun _ => 0))), (t3, .inl (kt3, 10, .inl (fun _ => 0))), (t4, .inl (kt4, 100, .inl (fun _ => 0)))] sz)) 0 0 (va_A [(h0, .inr (7, [.ref p1, u1, .ref p3, u3, .ref p4, u5])), (p1, .inr (1, [w0, w1, w2, w3, w4, w5, .int 0, w7])), (p4, .inr (6, [.ref t0, z1, z2, .ref t3, .ref t4])), (t0, .inl (kt0, 10, .inl (fun _ => 0))), (t3, .inl (kt3, 10, .inl (fun _ => 0))), (t4, .inl (kt4, 100, .inl (fun _ => 0)))] sz) := by
  refine Met.ofW (cc := cX8_packed) (maxL := 3) (ret := (some .int)) (by decide) rfl ?_
  intro p e s m args below meth c s₁ B hml hv
  obtain ⟨rfl, hsz, hN, hP, hK, hD0⟩ := hv
  have hx := B.exec
  have hb := B.bytes
  have hr := B.returns
  have hts0 := atoms_spec (ws := (wq yX8_packed cX8_packed 3 (some .int))) B.pre
  have hts : ∀ w ∈ BG, w.before _ s = true := fun w h => hts0 w (List.mem_cons_of_mem _ h)
  have hown : s.vm.findClass RX8 = some m.cls := findClass_of_methodNamed B.named
  have hlocks := B.notSynchronized
  subst hsz
  have hD := hD0.self (sz := s.heap.size)
  generalize hAe : va_A [(h0, .inr (7, [.ref p1, u1, .ref p3, u3, .ref p4, u5])), (p1, .inr (1, [w0, w1, w2, w3, w4, w5, .int 0, w7])), (p4, .inr (6, [.ref t0, z1, z2, .ref t3, .ref t4])), (t0, .inl (kt0, 10, .inl (fun _ => 0))), (t3, .inl (kt3, 10, .inl (fun _ => 0))), (t4, .inl (kt4, 100, .inl (fun _ => 0)))] s.heap.size = A at hD ⊢
  have hA : ∀ q : Nat, s.heap.size ≤ q → A q := fun q h => by rw [← hAe]; exact Or.inr h
  have hS : va_S A s.heap s.heap [] := va_S.rf
  have hP : va_P (dC, dI) vwCl [(h0, .inr (7, [.ref p1, u1, .ref p3, u3, .ref p4, u5])), (p1, .inr (1, [w0, w1, w2, w3, w4, w5, .int 0, w7])), (p4, .inr (6, [.ref t0, z1, z2, .ref t3, .ref t4])), (t0, .inl (kt0, 10, .inl (fun _ => 0))), (t3, .inl (kt3, 10, .inl (fun _ => 0))), (t4, .inl (kt4, 100, .inl (fun _ => 0)))] s.heap := hP
  have hl := lv_entry ([.ref h0, .int n1]) (n := 3) (Nat.le_of_ble_eq_true rfl)
  rw [lg_entry_eq]
  generalize (lg_sl ([.ref h0, .int n1]) ++ List.replicate (3 - (lg_sl ([.ref h0, .int n1])).length) Slot.unset).toArray = ls at hl ⊢
  have hl : lv_has ls 3 [(0, .ref h0), (1, .int n1)] := hl
  skip
  refine lv_iload_n hx hb dX8_packed_0 rfl (lv_at hl 1 rfl) ?_
  refine lv_iconst (v := (-1)) hx hb dX8_packed_1 (by decide) ?_
  refine lv_icmp_eq (tgt := 18) hx hb dX8_packed_2 (by decide) (fun c_1 => ?_) (fun c_1 => ?_)
  · have b_2 := fx_eq (x := n1) (C := -1) (by decide) c_1
    refine lv_aload_n hx hb dX8_packed_18 rfl (lv_at hl 0 rfl) ?_
    refine va_get (D := (dC, dI)) (ci := 7) (v := .ref p4) (C := RX8) (T := TX8) (N := 6) hx hb hts inB_8 hown hK hP 0 rfl rfl 4 (by decide) (hts _ mw_1_172) (fun _ h9 => h9) rfl dX8_packed_19 ?_
    refine lv_aload_n hx hb dX8_packed_22 rfl (lv_at hl 0 rfl) ?_
    refine va_get (D := (dC, dI)) (ci := 7) (v := .ref p1) (C := RX8) (T := TX8) (N := 6) hx hb hts inB_8 hown hK hP 0 rfl rfl 0 (by decide) (hts _ mw_1_168) (fun _ h9 => h9) rfl dX8_packed_23 ?_
    refine lv_aload_n hx hb dX8_packed_26 rfl (lv_at hl 0 rfl) ?_
    refine va_get (D := (dC, dI)) (ci := 7) (v := .ref p3) (C := RX8) (T := TX8) (N := 6) hx hb hts inB_8 hown hK hP 0 rfl rfl 2 (by decide) (hts _ mw_1_170) (fun _ h9 => h9) rfl dX8_packed_27 ?_
    have hPc := hP.sub (ws' := [(p4, .inr (6, [.ref t0, z1, z2, .ref t3, .ref t4])), (t0, .inl (kt0, 10, .inl (fun _ => 0))), (p1, .inr (1, [w0, w1, w2, w3, w4, w5, .int 0, w7]))]) [2, 3, 1] rfl
    have hDc := hD.sub (ws' := [(p4, .inr (6, [.ref t0, z1, z2, .ref t3, .ref t4])), (t0, .inl (kt0, 10, .inl (fun _ => 0))), (p1, .inr (1, [w0, w1, w2, w3, w4, w5, .int 0, w7]))]) [2, 3, 1] (by decide) rfl
    have hKc := hK.sub (tys' := [(kt0, .int)]) [0] rfl
    have hFc := va_free (wc := [(p4, .inr (6, [.ref t0, z1, z2, .ref t3, .ref t4])), (t0, .inl (kt0, 10, .inl (fun _ => 0))), (p1, .inr (1, [w0, w1, w2, w3, w4, w5, .int 0, w7]))]) hD hS hA [2, 3, 1] rfl
    refine va_callv (va_runV (As := [.ref p1, .ref p3]) (rest := []) ⟨hx, hb, hml, hown, hts⟩ (c_fill l dC dI s.heap.size p4 t0 (z1) (z2) (.ref t3) (.ref t4) kt0 p1 (w0) (w1) (w2) (w3) (w4) (w5) (w7) p3) (cwV 2 hts (gV mw_3_6 mw_3_7 mw_3_8 mw_1_7 mw_3_9) rfl rfl rfl (by decide +kernel) ⟨Nat.le_of_ble_eq_true rfl, Nat.le_of_ble_eq_true rfl⟩) ⟨pcW_blind, va_recv hKc hPc (ci := 6) (q0 := 0) rfl rfl, pcW_at hPc hKc hDc hN⟩ rfl rfl hl.1 rfl (lv_room (Nat.le_of_ble_eq_true rfl)) dX8_packed_30 ⟨Nat.le_of_ble_eq_true rfl, Nat.le_of_ble_eq_true rfl⟩) hS (fun q _ h => hFc q h) hFc (fun u t H1 locs ht hvm hw_3 hB hz1 hk1 hS => ?_)
    obtain ⟨hP1, hK1, hD1⟩ := hB
    rw [ht] at hP1
    have hK1 := va_K.moved hvm.symm hK1
    obtain ⟨hP, hD⟩ := va_join (wr := [(h0, .inr (7, [.ref p1, u1, .ref p3, u3, .ref p4, u5])), (t3, .inl (kt3, 10, .inl (fun _ => 0))), (t4, .inl (kt4, 100, .inl (fun _ => 0)))]) (w1 := [(p4, .inr (6, [.ref t0, z1, z2, .ref t3, .ref t4])), (t0, .inl (kt0, 10, .inl (fun _ => 0))), (p1, .inr (1, [w0, w1, w2, w3, w4, w5, .int 0, w7]))]) hP hD [2, 3, 1] [0, 4, 5] rfl rfl (by decide) (by decide) hk1 hFc hP1 hD1
    have hK := (hK.sub (tys' := [(kt3, .int), (kt4, .int)]) [1, 2] rfl).app hK1
    clear hz1 hk1 hPc hDc hKc hFc
    generalize H1 = H at hP hS ⊢
    have hK : va_K (dC, dI) vwCl [(kt3, .int), (kt4, .int), (kt0, .int)] s := hK
    have hP : va_P (dC, dI) vwCl [(h0, .inr (7, [.ref p1, u1, .ref p3, u3, .ref p4, u5])), (t3, .inl (kt3, 10, .inl (fun _ => 0))), (t4, .inl (kt4, 100, .inl (fun _ => 0))), (p4, .inr (6, [.ref t0, z1, z2, .ref t3, .ref t4])), (t0, .inl (kt0, 10, .inl (fun _ => 0))), (p1, .inr (1, [w0, w1, w2, w3, w4, w5, .int 0, w7]))] H := hP
    have hD : va_D A [(h0, .inr (7, [.ref p1, u1, .ref p3, u3, .ref p4, u5])), (t3, .inl (kt3, 10, .inl (fun _ => 0))), (t4, .inl (kt4, 100, .inl (fun _ => 0))), (p4, .inr (6, [.ref t0, z1, z2, .ref t3, .ref t4])), (t0, .inl (kt0, 10, .inl (fun _ => 0))), (p1, .inr (1, [w0, w1, w2, w3, w4, w5, .int 0, w7]))] := hD
    refine lv_aload_n hx hb dX8_packed_33 rfl (lv_at hl 0 rfl) ?_
    refine va_get (D := (dC, dI)) (ci := 7) (v := .ref p4) (C := RX8) (T := TX8) (N := 6) hx hb hts inB_8 hown hK hP 0 rfl rfl 4 (by decide) (hts _ mw_1_172) (fun _ h9 => h9) rfl dX8_packed_34 ?_
    have hPc := hP.sub (ws' := [(p4, .inr (6, [.ref t0, z1, z2, .ref t3, .ref t4])), (t0, .inl (kt0, 10, .inl (fun _ => 0))), (t3, .inl (kt3, 10, .inl (fun _ => 0))), (t4, .inl (kt4, 100, .inl (fun _ => 0)))]) [3, 4, 1, 2] rfl
    have hDc := hD.sub (ws' := [(p4, .inr (6, [.ref t0, z1, z2, .ref t3, .ref t4])), (t0, .inl (kt0, 10, .inl (fun _ => 0))), (t3, .inl (kt3, 10, .inl (fun _ => 0))), (t4, .inl (kt4, 100, .inl (fun _ => 0)))]) [3, 4, 1, 2] (by decide) rfl
    have hKc := hK.sub (tys' := [(kt0, .int), (kt3, .int), (kt4, .int)]) [2, 0, 1] rfl
    have hFc := va_free (wc := [(p4, .inr (6, [.ref t0, z1, z2, .ref t3, .ref t4])), (t0, .inl (kt0, 10, .inl (fun _ => 0))), (t3, .inl (kt3, 10, .inl (fun _ => 0))), (t4, .inl (kt4, 100, .inl (fun _ => 0)))]) hD hS hA [3, 4, 1, 2] rfl
    refine va_calli (va_runV (As := []) (rest := []) ⟨hx, hb, hml, hown, hts⟩ (c_push l dC dI H.size p4 t0 (z1) (z2) t3 t4 kt0 kt3 kt4) (cwV 0 hts (gV mw_3_44 mw_3_45 mw_3_46 mw_1_7 mw_3_47) rfl rfl rfl (by decide +kernel) ⟨Nat.le_of_ble_eq_true rfl, Nat.le_of_ble_eq_true rfl⟩) ⟨pcW_blind, va_recv hKc hPc (ci := 6) (q0 := 0) rfl rfl, pcW_at hPc hKc hDc hN⟩ rfl rfl hl.1 rfl (lv_room (Nat.le_of_ble_eq_true rfl)) dX8_packed_37 ⟨Nat.le_of_ble_eq_true rfl, Nat.le_of_ble_eq_true rfl⟩) hS (fun q _ h => hFc q h) hFc (fun r_4 u t H1 locs ht hvm hw_4 hB hz1 hk1 hS => ?_)
    obtain ⟨hP1, hK1, hD1⟩ := hB
    rw [ht] at hP1
    have hK1 := va_K.moved hvm.symm hK1
    obtain ⟨hP, hD⟩ := va_join (wr := [(h0, .inr (7, [.ref p1, u1, .ref p3, u3, .ref p4, u5])), (p1, .inr (1, [w0, w1, w2, w3, w4, w5, .int 0, w7]))]) (w1 := [(p4, .inr (6, [.ref t0, z1, z2, .ref t3, .ref t4])), (t0, .inl (kt0, 10, .inl (fun _ => 0))), (t3, .inl (kt3, 10, .inl (slF (-6) 0 10))), (t4, .inl (kt4, 100, .inl (slF (-6) 0 100)))]) hP hD [3, 4, 1, 2] [0, 5] rfl rfl (by decide) (by decide) hk1 hFc hP1 hD1
    have hK := (hK.sub (tys' := []) [] rfl).app hK1
    clear hz1 hk1 hPc hDc hKc hFc
    generalize H1 = H at hP hS ⊢
    have hK : va_K (dC, dI) vwCl [(kt0, .int), (kt3, .int), (kt4, .int)] s := hK
    have hP : va_P (dC, dI) vwCl [(h0, .inr (7, [.ref p1, u1, .ref p3, u3, .ref p4, u5])), (p1, .inr (1, [w0, w1, w2, w3, w4, w5, .int 0, w7])), (p4, .inr (6, [.ref t0, z1, z2, .ref t3, .ref t4])), (t0, .inl (kt0, 10, .inl (fun _ => 0))), (t3, .inl (kt3, 10, .inl (slF (-6) 0 10))), (t4, .inl (kt4, 100, .inl (slF (-6) 0 100)))] H := hP
    have hD : va_D A [(h0, .inr (7, [.ref p1, u1, .ref p3, u3, .ref p4, u5])), (p1, .inr (1, [w0, w1, w2, w3, w4, w5, .int 0, w7])), (p4, .inr (6, [.ref t0, z1, z2, .ref t3, .ref t4])), (t0, .inl (kt0, 10, .inl (fun _ => 0))), (t3, .inl (kt3, 10, .inl (slF (-6) 0 10))), (t4, .inl (kt4, 100, .inl (slF (-6) 0 100)))] := hD
    obtain rfl : r_4 = 0 := hw_4
    refine lv_istore_n (lv' := [(2, .int 0), (0, .ref h0), (1, .int n1)]) hx hb dX8_packed_40 rfl hl (by decide) rfl (fun ls hl => ?_)
    refine lv_iload_n hx hb dX8_packed_41 rfl (lv_at hl 2 rfl) ?_
    refine hx_top (y := (-1)) (fx_sing (C := -1) (by decide) (by omega)) ?_
    refine lv_iconst (v := (-1)) hx hb dX8_packed_42 (by decide) ?_
    refine lv_icmp_ne (tgt := 50) hx hb dX8_packed_43 (by decide) (fun h => absurd h (by decide)) (fun _ => ?_)
    refine lv_iload_n hx hb dX8_packed_46 rfl (lv_at hl 0 rfl) ?_
    refine lv_goto (tgt := 58) hx hb dX8_packed_47 (by decide) ?_
    exact W.iret (v := 0) hx hb hr (fun t ht hW => ⟨⟨0, (), rfl, (by (unfold F_packed; repeat' split) <;> first | rfl | (exfalso; omega)), trivial⟩, hS.F ht⟩) hS.2.2 dX8_packed_58
  · have b_2 := fn_eq (x := n1) (C := -1) (by decide) c_1
    refine lv_aload_n hx hb dX8_packed_5 rfl (lv_at hl 0 rfl) ?_
    refine va_get (D := (dC, dI)) (ci := 7) (v := .ref p1) (C := RX8) (T := TX8) (N := 6) hx hb hts inB_8 hown hK hP 0 rfl rfl 0 (by decide) (hts _ mw_1_168) (fun _ h9 => h9) rfl dX8_packed_6 ?_
    refine lv_iload_n hx hb dX8_packed_9 rfl (lv_at hl 1 rfl) ?_
    have hPc := hP.sub (ws' := [(p1, .inr (1, [w0, w1, w2, w3, w4, w5, .int 0, w7]))]) [1] rfl
    have hDc := hD.sub (ws' := [(p1, .inr (1, [w0, w1, w2, w3, w4, w5, .int 0, w7]))]) [1] (by decide) rfl
    have hKc := hK.sub (tys' := []) [] rfl
    refine va_calli (va_runV (As := [.int n1]) (rest := []) ⟨hx, hb, hml, hown, hts⟩ (c_knows0 l dC dI s.heap.size p1 (w0) (w1) (w2) (w3) (w4) (w5) (w7) n1) (cwV 1 hts (gV mw_1_191 mw_1_192 mw_1_193 mw_1_2 mw_1_194) rfl rfl rfl (by decide +kernel) ⟨Nat.le_of_ble_eq_true rfl, Nat.le_of_ble_eq_true rfl⟩) ⟨pcW_blind, va_recv hKc hPc (ci := 1) (q0 := 0) rfl rfl, pcW_at hPc hKc hDc hN⟩ rfl rfl hl.1 rfl (lv_room (Nat.le_of_ble_eq_true rfl)) dX8_packed_10 ⟨Nat.le_of_ble_eq_true rfl, Nat.le_of_ble_eq_true rfl⟩) hS (fun q h1 h2 => absurd h2 (Nat.not_le.mpr h1)) (fun q h => hA q (Nat.le_trans hS.1 h)) (fun r_5 u t H1 locs ht hvm hw_5 hB hz1 hk1 hS => ?_)
    have hP := keepP hP hk1
    clear hz1 hk1 hB ht hvm hPc hDc hKc
    generalize H1 = H at hP hS ⊢
    obtain rfl : r_5 = 0 := hw_5
    refine lv_if_ne (tgt := 18) hx hb dX8_packed_13 (by decide) (fun h => absurd h (by decide)) (fun _ => ?_)
    refine lv_iconst (v := (-1)) hx hb dX8_packed_16 (by decide) ?_
    exact W.iret (v := (-1)) hx hb hr (fun t ht hW => ⟨⟨(-1), (), rfl, (by (unfold F_packed; repeat' split) <;> first | rfl | (exfalso; omega)), trivial⟩, hS.F ht⟩) hS.2.2 dX8_packed_17
set_option maxHeartbeats 4000000 in
set_option maxRecDepth 100000 in
theorem x_slot (l : Launch) (dC : Nat → ClassId) (dI : Nat → Nat → Nat) (sz : Nat) (h0 : Nat) (p1 : Nat) (u1 : Value) (p3 : Nat) (u3 : Value) (p4 : Nat) (u5 : Value) (w0 : Value) (w1 : Value) (w2 : Value) (w3 : Value) (w4 : Value) (w5 : Value) (w7 : Value) (t0 : Nat) (z1 : Value) (z2 : Value) (t3 : Nat) (t4 : Nat) (kt0 : ClassId) (kt3 : ClassId) (kt4 : ClassId) (n1 : Int32)  : Met l yX8_slot (wq yX8_slot cX8_slot 2 (some .int)) ({ frames := 5, cells := 0, slots := 0, locals := 108 }) (va_Pc [.ref h0, .int n1] (pcW dC dI [(kt0, .int), (kt3, .int), (kt4, .int)] [(h0, .inr (7, [.ref p1, u1, .ref p3, u3, .ref p4, u5])), (p1, .inr (1, [w0, w1, w2, w3, w4, w5, .int 0, w7])), (p4, .inr (6, [.ref t0, z1, z2, .ref t3, .ref t4])), (t0, .inl (kt0, 10, .inl (fun _ => 0))), (t3, .inl (kt3, 10, .inl (fun _ => 0))), (t4, .inl (kt4, 100, .inl (fun _ => 0)))] sz)) (va_Qi (fun (r : Int32) (_ : Unit) => r = F_slot n1) (fun _ _ => True) (va_A [(h0, .inr (7, [.ref p1, u1, .ref p3, u3, .ref p4, u5])), (p1, .inr (1, [w0, w1, w2, w3, w4, w5, .int 0, w7])), (p4, .inr (6, [.ref t0, z1, z2, .ref t3, .ref t4])), (t0, .inl (kt0, 10, .inl (fun _ => 0))), (t3, .inl (kt3, 10, .inl (fun _ => 0))), (t4, .inl (kt4, 100, .inl (fun _ => 0)))] sz)) 0 0 (va_A [(h0, .inr (7, [.ref p1, u1, .ref p3, u3, .ref p4, u5])), (p1, .inr (1, [w0, w1, w2, w3, w4, w5, .int 0, w7])), (p4, .inr (6, [.ref t0, z1, z2, .ref t3, .ref t4])), (t0, .inl (kt0, 10, .inl (fun _ => 0))), (t3, .inl (kt3, 10, .inl (fun _ => 0))), (t4, .inl (kt4, 100, .inl (fun _ => 0)))] sz) := by
  refine Met.ofW (cc := cX8_slot) (maxL := 2) (ret := (some .int)) (by decide) rfl ?_
  intro p e s m args below meth c s₁ B hml hv
  obtain ⟨rfl, hsz, hN, hP, hK, hD0⟩ := hv
  have hx := B.exec
  have hb := B.bytes
  have hr := B.returns
  have hts0 := atoms_spec (ws := (wq yX8_slot cX8_slot 2 (some .int))) B.pre
  have hts : ∀ w ∈ BG, w.before _ s = true := fun w h => hts0 w (List.mem_cons_of_mem _ h)
  have hown : s.vm.findClass RX8 = some m.cls := findClass_of_methodNamed B.named
  have hlocks := B.notSynchronized
  subst hsz
  have hD := hD0.self (sz := s.heap.size)
  generalize hAe : va_A [(h0, .inr (7, [.ref p1, u1, .ref p3, u3, .ref p4, u5])), (p1, .inr (1, [w0, w1, w2, w3, w4, w5, .int 0, w7])), (p4, .inr (6, [.ref t0, z1, z2, .ref t3, .ref t4])), (t0, .inl (kt0, 10, .inl (fun _ => 0))), (t3, .inl (kt3, 10, .inl (fun _ => 0))), (t4, .inl (kt4, 100, .inl (fun _ => 0)))] s.heap.size = A at hD ⊢
  have hA : ∀ q : Nat, s.heap.size ≤ q → A q := fun q h => by rw [← hAe]; exact Or.inr h
  have hS : va_S A s.heap s.heap [] := va_S.rf
  have hP : va_P (dC, dI) vwCl [(h0, .inr (7, [.ref p1, u1, .ref p3, u3, .ref p4, u5])), (p1, .inr (1, [w0, w1, w2, w3, w4, w5, .int 0, w7])), (p4, .inr (6, [.ref t0, z1, z2, .ref t3, .ref t4])), (t0, .inl (kt0, 10, .inl (fun _ => 0))), (t3, .inl (kt3, 10, .inl (fun _ => 0))), (t4, .inl (kt4, 100, .inl (fun _ => 0)))] s.heap := hP
  have hl := lv_entry ([.ref h0, .int n1]) (n := 2) (Nat.le_of_ble_eq_true rfl)
  rw [lg_entry_eq]
  generalize (lg_sl ([.ref h0, .int n1]) ++ List.replicate (2 - (lg_sl ([.ref h0, .int n1])).length) Slot.unset).toArray = ls at hl ⊢
  have hl : lv_has ls 2 [(0, .ref h0), (1, .int n1)] := hl
  skip
  refine lv_iload_n hx hb dX8_slot_0 rfl (lv_at hl 1 rfl) ?_
  refine lv_if_lt (tgt := 10) hx hb dX8_slot_1 (by decide) (fun c_1 => ?_) (fun c_1 => ?_)
  · have b_2 := fx_lt (x := n1) (C := 0) (by decide) c_1
    refine lv_bipush (v := (-2)) hx hb dX8_slot_10 (by decide) ?_
    exact W.iret (v := (-2)) hx hb hr (fun t ht hW => ⟨⟨(-2), (), rfl, (by (unfold F_slot; repeat' split) <;> first | rfl | (exfalso; omega)), trivial⟩, hS.F ht⟩) hS.2.2 dX8_slot_12
  · have b_2 := fn_lt (x := n1) (C := 0) (by decide) c_1
    refine lv_iload_n hx hb dX8_slot_4 rfl (lv_at hl 1 rfl) ?_
    refine lv_bipush (v := 100) hx hb dX8_slot_5 (by decide) ?_
    refine lv_icmp_lt (tgt := 13) hx hb dX8_slot_7 (by decide) (fun c_3 => ?_) (fun c_3 => ?_)
    · have b_4 := fx_lt (x := n1) (C := 100) (by decide) c_3
      refine lv_aload_n hx hb dX8_slot_13 rfl (lv_at hl 0 rfl) ?_
      refine va_get (D := (dC, dI)) (ci := 7) (v := .ref p4) (C := RX8) (T := TX8) (N := 6) hx hb hts inB_8 hown hK hP 0 rfl rfl 4 (by decide) (hts _ mw_1_172) (fun _ h9 => h9) rfl dX8_slot_14 ?_
      refine lv_aload_n hx hb dX8_slot_17 rfl (lv_at hl 0 rfl) ?_
      refine va_get (D := (dC, dI)) (ci := 7) (v := .ref p1) (C := RX8) (T := TX8) (N := 6) hx hb hts inB_8 hown hK hP 0 rfl rfl 0 (by decide) (hts _ mw_1_168) (fun _ h9 => h9) rfl dX8_slot_18 ?_
      refine lv_aload_n hx hb dX8_slot_21 rfl (lv_at hl 0 rfl) ?_
      refine va_get (D := (dC, dI)) (ci := 7) (v := .ref p3) (C := RX8) (T := TX8) (N := 6) hx hb hts inB_8 hown hK hP 0 rfl rfl 2 (by decide) (hts _ mw_1_170) (fun _ h9 => h9) rfl dX8_slot_22 ?_
      have hPc := hP.sub (ws' := [(p4, .inr (6, [.ref t0, z1, z2, .ref t3, .ref t4])), (t0, .inl (kt0, 10, .inl (fun _ => 0))), (p1, .inr (1, [w0, w1, w2, w3, w4, w5, .int 0, w7]))]) [2, 3, 1] rfl
      have hDc := hD.sub (ws' := [(p4, .inr (6, [.ref t0, z1, z2, .ref t3, .ref t4])), (t0, .inl (kt0, 10, .inl (fun _ => 0))), (p1, .inr (1, [w0, w1, w2, w3, w4, w5, .int 0, w7]))]) [2, 3, 1] (by decide) rfl
      have hKc := hK.sub (tys' := [(kt0, .int)]) [0] rfl
      have hFc := va_free (wc := [(p4, .inr (6, [.ref t0, z1, z2, .ref t3, .ref t4])), (t0, .inl (kt0, 10, .inl (fun _ => 0))), (p1, .inr (1, [w0, w1, w2, w3, w4, w5, .int 0, w7]))]) hD hS hA [2, 3, 1] rfl
      refine va_callv (va_runV (As := [.ref p1, .ref p3]) (rest := []) ⟨hx, hb, hml, hown, hts⟩ (c_fill l dC dI s.heap.size p4 t0 (z1) (z2) (.ref t3) (.ref t4) kt0 p1 (w0) (w1) (w2) (w3) (w4) (w5) (w7) p3) (cwV 2 hts (gV mw_3_6 mw_3_7 mw_3_8 mw_1_7 mw_3_9) rfl rfl rfl (by decide +kernel) ⟨Nat.le_of_ble_eq_true rfl, Nat.le_of_ble_eq_true rfl⟩) ⟨pcW_blind, va_recv hKc hPc (ci := 6) (q0 := 0) rfl rfl, pcW_at hPc hKc hDc hN⟩ rfl rfl hl.1 rfl (lv_room (Nat.le_of_ble_eq_true rfl)) dX8_slot_25 ⟨Nat.le_of_ble_eq_true rfl, Nat.le_of_ble_eq_true rfl⟩) hS (fun q _ h => hFc q h) hFc (fun u t H1 locs ht hvm hw_5 hB hz1 hk1 hS => ?_)
      obtain ⟨hP1, hK1, hD1⟩ := hB
      rw [ht] at hP1
      have hK1 := va_K.moved hvm.symm hK1
      obtain ⟨hP, hD⟩ := va_join (wr := [(h0, .inr (7, [.ref p1, u1, .ref p3, u3, .ref p4, u5])), (t3, .inl (kt3, 10, .inl (fun _ => 0))), (t4, .inl (kt4, 100, .inl (fun _ => 0)))]) (w1 := [(p4, .inr (6, [.ref t0, z1, z2, .ref t3, .ref t4])), (t0, .inl (kt0, 10, .inl (fun _ => 0))), (p1, .inr (1, [w0, w1, w2, w3, w4, w5, .int 0, w7]))]) hP hD [2, 3, 1] [0, 4, 5] rfl rfl (by decide) (by decide) hk1 hFc hP1 hD1
      have hK := (hK.sub (tys' := [(kt3, .int), (kt4, .int)]) [1, 2] rfl).app hK1
      clear hz1 hk1 hPc hDc hKc hFc
      generalize H1 = H at hP hS ⊢
      have hK : va_K (dC, dI) vwCl [(kt3, .int), (kt4, .int), (kt0, .int)] s := hK
      have hP : va_P (dC, dI) vwCl [(h0, .inr (7, [.ref p1, u1, .ref p3, u3, .ref p4, u5])), (t3, .inl (kt3, 10, .inl (fun _ => 0))), (t4, .inl (kt4, 100, .inl (fun _ => 0))), (p4, .inr (6, [.ref t0, z1, z2, .ref t3, .ref t4])), (t0, .inl (kt0, 10, .inl (fun _ => 0))), (p1, .inr (1, [w0, w1, w2, w3, w4, w5, .int 0, w7]))] H := hP
      have hD : va_D A [(h0, .inr (7, [.ref p1, u1, .ref p3, u3, .ref p4, u5])), (t3, .inl (kt3, 10, .inl (fun _ => 0))), (t4, .inl (kt4, 100, .inl (fun _ => 0))), (p4, .inr (6, [.ref t0, z1, z2, .ref t3, .ref t4])), (t0, .inl (kt0, 10, .inl (fun _ => 0))), (p1, .inr (1, [w0, w1, w2, w3, w4, w5, .int 0, w7]))] := hD
      refine lv_aload_n hx hb dX8_slot_28 rfl (lv_at hl 0 rfl) ?_
      refine va_get (D := (dC, dI)) (ci := 7) (v := .ref p4) (C := RX8) (T := TX8) (N := 6) hx hb hts inB_8 hown hK hP 0 rfl rfl 4 (by decide) (hts _ mw_1_172) (fun _ h9 => h9) rfl dX8_slot_29 ?_
      have hPc := hP.sub (ws' := [(p4, .inr (6, [.ref t0, z1, z2, .ref t3, .ref t4])), (t0, .inl (kt0, 10, .inl (fun _ => 0))), (t3, .inl (kt3, 10, .inl (fun _ => 0))), (t4, .inl (kt4, 100, .inl (fun _ => 0)))]) [3, 4, 1, 2] rfl
      have hDc := hD.sub (ws' := [(p4, .inr (6, [.ref t0, z1, z2, .ref t3, .ref t4])), (t0, .inl (kt0, 10, .inl (fun _ => 0))), (t3, .inl (kt3, 10, .inl (fun _ => 0))), (t4, .inl (kt4, 100, .inl (fun _ => 0)))]) [3, 4, 1, 2] (by decide) rfl
      have hKc := hK.sub (tys' := [(kt0, .int), (kt3, .int), (kt4, .int)]) [2, 0, 1] rfl
      have hFc := va_free (wc := [(p4, .inr (6, [.ref t0, z1, z2, .ref t3, .ref t4])), (t0, .inl (kt0, 10, .inl (fun _ => 0))), (t3, .inl (kt3, 10, .inl (fun _ => 0))), (t4, .inl (kt4, 100, .inl (fun _ => 0)))]) hD hS hA [3, 4, 1, 2] rfl
      refine va_calli (va_runV (As := []) (rest := []) ⟨hx, hb, hml, hown, hts⟩ (c_push l dC dI H.size p4 t0 (z1) (z2) t3 t4 kt0 kt3 kt4) (cwV 0 hts (gV mw_3_44 mw_3_45 mw_3_46 mw_1_7 mw_3_47) rfl rfl rfl (by decide +kernel) ⟨Nat.le_of_ble_eq_true rfl, Nat.le_of_ble_eq_true rfl⟩) ⟨pcW_blind, va_recv hKc hPc (ci := 6) (q0 := 0) rfl rfl, pcW_at hPc hKc hDc hN⟩ rfl rfl hl.1 rfl (lv_room (Nat.le_of_ble_eq_true rfl)) dX8_slot_32 ⟨Nat.le_of_ble_eq_true rfl, Nat.le_of_ble_eq_true rfl⟩) hS (fun q _ h => hFc q h) hFc (fun r_6 u t H1 locs ht hvm hw_6 hB hz1 hk1 hS => ?_)
      obtain ⟨hP1, hK1, hD1⟩ := hB
      rw [ht] at hP1
      have hK1 := va_K.moved hvm.symm hK1
      obtain ⟨hP, hD⟩ := va_join (wr := [(h0, .inr (7, [.ref p1, u1, .ref p3, u3, .ref p4, u5])), (p1, .inr (1, [w0, w1, w2, w3, w4, w5, .int 0, w7]))]) (w1 := [(p4, .inr (6, [.ref t0, z1, z2, .ref t3, .ref t4])), (t0, .inl (kt0, 10, .inl (fun _ => 0))), (t3, .inl (kt3, 10, .inl (slF (-6) 0 10))), (t4, .inl (kt4, 100, .inl (slF (-6) 0 100)))]) hP hD [3, 4, 1, 2] [0, 5] rfl rfl (by decide) (by decide) hk1 hFc hP1 hD1
      have hK := (hK.sub (tys' := []) [] rfl).app hK1
      clear hz1 hk1 hPc hDc hKc hFc
      generalize H1 = H at hP hS ⊢
      have hK : va_K (dC, dI) vwCl [(kt0, .int), (kt3, .int), (kt4, .int)] s := hK
      have hP : va_P (dC, dI) vwCl [(h0, .inr (7, [.ref p1, u1, .ref p3, u3, .ref p4, u5])), (p1, .inr (1, [w0, w1, w2, w3, w4, w5, .int 0, w7])), (p4, .inr (6, [.ref t0, z1, z2, .ref t3, .ref t4])), (t0, .inl (kt0, 10, .inl (fun _ => 0))), (t3, .inl (kt3, 10, .inl (slF (-6) 0 10))), (t4, .inl (kt4, 100, .inl (slF (-6) 0 100)))] H := hP
      have hD : va_D A [(h0, .inr (7, [.ref p1, u1, .ref p3, u3, .ref p4, u5])), (p1, .inr (1, [w0, w1, w2, w3, w4, w5, .int 0, w7])), (p4, .inr (6, [.ref t0, z1, z2, .ref t3, .ref t4])), (t0, .inl (kt0, 10, .inl (fun _ => 0))), (t3, .inl (kt3, 10, .inl (slF (-6) 0 10))), (t4, .inl (kt4, 100, .inl (slF (-6) 0 100)))] := hD
      obtain rfl : r_6 = 0 := hw_6
      refine lv_pop hx hb dX8_slot_35 rfl ?_
      refine lv_aload_n hx hb dX8_slot_36 rfl (lv_at hl 0 rfl) ?_
      refine va_get (D := (dC, dI)) (ci := 7) (v := .ref p4) (C := RX8) (T := TX8) (N := 6) hx hb hts inB_8 hown hK hP 0 rfl rfl 4 (by decide) (hts _ mw_1_172) (fun _ h9 => h9) rfl dX8_slot_37 ?_
      refine lv_iload_n hx hb dX8_slot_40 rfl (lv_at hl 1 rfl) ?_
      have hPc := hP.sub (ws' := [(p4, .inr (6, [.ref t0, z1, z2, .ref t3, .ref t4])), (t4, .inl (kt4, 100, .inl (slF (-6) 0 100)))]) [2, 5] rfl
      have hDc := hD.sub (ws' := [(p4, .inr (6, [.ref t0, z1, z2, .ref t3, .ref t4])), (t4, .inl (kt4, 100, .inl (slF (-6) 0 100)))]) [2, 5] (by decide) rfl
      have hKc := hK.sub (tys' := [(kt4, .int)]) [2] rfl
      refine va_calli (va_runV (As := [.int n1]) (rest := []) ⟨hx, hb, hml, hown, hts⟩ (c_stands l dC dI H.size p4 (.ref t0) (z1) (z2) (.ref t3) t4 kt4 n1) (cwV 1 hts (gV mw_3_68 mw_3_69 mw_3_70 mw_1_7 mw_3_71) rfl rfl rfl (by decide +kernel) ⟨Nat.le_of_ble_eq_true rfl, Nat.le_of_ble_eq_true rfl⟩) ⟨pcW_blind, va_recv hKc hPc (ci := 6) (q0 := 0) rfl rfl, pcW_at hPc hKc hDc hN⟩ rfl rfl hl.1 rfl (lv_room (Nat.le_of_ble_eq_true rfl)) dX8_slot_41 ⟨Nat.le_of_ble_eq_true rfl, Nat.le_of_ble_eq_true rfl⟩) hS (fun q h1 h2 => absurd h2 (Nat.not_le.mpr h1)) (fun q h => hA q (Nat.le_trans hS.1 h)) (fun r_7 u t H1 locs ht hvm hw_7 hB hz1 hk1 hS => ?_)
      have hP := keepP hP hk1
      clear hz1 hk1 hB ht hvm hPc hDc hKc
      generalize H1 = H at hP hS ⊢
      obtain rfl : r_7 = (-6) := hw_7
      exact W.iret (v := (-6)) hx hb hr (fun t ht hW => ⟨⟨(-6), (), rfl, (by (unfold F_slot; repeat' split) <;> first | rfl | (exfalso; omega)), trivial⟩, hS.F ht⟩) hS.2.2 dX8_slot_44
    · have b_4 := fn_lt (x := n1) (C := 100) (by decide) c_3
      refine lv_bipush (v := (-2)) hx hb dX8_slot_10 (by decide) ?_
      exact W.iret (v := (-2)) hx hb hr (fun t ht hW => ⟨⟨(-2), (), rfl, (by (unfold F_slot; repeat' split) <;> first | rfl | (exfalso; omega)), trivial⟩, hS.F ht⟩) hS.2.2 dX8_slot_12
set_option maxHeartbeats 4000000 in
set_option maxRecDepth 100000 in
theorem x_call (l : Launch) (dC : Nat → ClassId) (dI : Nat → Nat → Nat) (sz : Nat) (h0 : Nat) (p1 : Nat) (u1 : Value) (u2 : Value) (u3 : Value) (u4 : Value) (u5 : Value) (w0 : Value) (w1 : Value) (w2 : Value) (w3 : Value) (w4 : Value) (w5 : Value) (w7 : Value) (n1 : Int32) (n2 : Int32)  : Met l yX8_call (wq yX8_call cX8_call 3 (some .int)) ({ frames := 1, cells := 0, slots := 0, locals := 21 }) (va_Pc [.ref h0, .int n1, .int n2] (pcW dC dI [] [(h0, .inr (7, [.ref p1, u1, u2, u3, u4, u5])), (p1, .inr (1, [w0, w1, w2, w3, w4, w5, .int 0, w7]))] sz)) (va_Qi (fun (r : Int32) (_ : Unit) => r = (-1)) (fun _ _ => True) (fun q : Nat => sz ≤ q)) 0 0 (fun q : Nat => sz ≤ q) := by
  refine Met.ofW (cc := cX8_call) (maxL := 3) (ret := (some .int)) (by decide) rfl ?_
  intro p e s m args below meth c s₁ B hml hv
  obtain ⟨rfl, hsz, hN, hP, hK, hD0⟩ := hv
  have hx := B.exec
  have hb := B.bytes
  have hr := B.returns
  have hts0 := atoms_spec (ws := (wq yX8_call cX8_call 3 (some .int))) B.pre
  have hts : ∀ w ∈ BG, w.before _ s = true := fun w h => hts0 w (List.mem_cons_of_mem _ h)
  have hown : s.vm.findClass RX8 = some m.cls := findClass_of_methodNamed B.named
  have hlocks := B.notSynchronized
  subst hsz
  have hA : ∀ q : Nat, s.heap.size ≤ q → (fun q : Nat => s.heap.size ≤ q) q := fun _ h => h
  have hD := hD0
  have hS : va_S (fun q : Nat => s.heap.size ≤ q) s.heap s.heap [] := va_S.rf
  have hP : va_P (dC, dI) vwCl [(h0, .inr (7, [.ref p1, u1, u2, u3, u4, u5])), (p1, .inr (1, [w0, w1, w2, w3, w4, w5, .int 0, w7]))] s.heap := hP
  have hl := lv_entry ([.ref h0, .int n1, .int n2]) (n := 3) (Nat.le_of_ble_eq_true rfl)
  rw [lg_entry_eq]
  generalize (lg_sl ([.ref h0, .int n1, .int n2]) ++ List.replicate (3 - (lg_sl ([.ref h0, .int n1, .int n2])).length) Slot.unset).toArray = ls at hl ⊢
  have hl : lv_has ls 3 [(0, .ref h0), (1, .int n1), (2, .int n2)] := hl
  skip
  refine lv_iload_n hx hb dX8_call_0 rfl (lv_at hl 1 rfl) ?_
  have hPc := hP.sub (ws' := []) [] rfl
  have hDc := hD.sub (ws' := []) [] (by decide) rfl
  have hKc := hK.sub (tys' := []) [] rfl
  refine va_calli (va_runS (As := [.int n1]) (rest := []) ⟨hx, hb, hml, hown, hts⟩ (c_isPlace l dC dI s.heap.size n1) (va_cwS 1 hts (gS mw_3_85 mw_3_86 mw_1_1 mw_3_87) rfl rfl rfl (by decide +kernel) ⟨Nat.le_of_ble_eq_true rfl, Nat.le_of_ble_eq_true rfl⟩) ⟨pcW_blind, pcW_at hPc hKc hDc hN⟩ rfl rfl hl.1 rfl (lv_room (Nat.le_of_ble_eq_true rfl)) dX8_call_1 ⟨Nat.le_of_ble_eq_true rfl, Nat.le_of_ble_eq_true rfl⟩) hS (fun q h1 h2 => absurd h2 (Nat.not_le.mpr h1)) (fun q h => hA q (Nat.le_trans hS.1 h)) (fun r_1 u t H1 locs ht hvm hw_1 hB hz1 hk1 hS => ?_)
  have hP := keepP hP hk1
  clear hz1 hk1 hB ht hvm hPc hDc hKc
  generalize H1 = H at hP hS ⊢
  rcases fx_bool hw_1 with ⟨rfl, b_2⟩ | ⟨rfl, b_2⟩
  · skip
    refine lv_if_eq (tgt := 18) hx hb dX8_call_4 (by decide) (fun h => absurd h (by decide)) (fun _ => ?_)
    refine lv_aload_n hx hb dX8_call_7 rfl (lv_at hl 0 rfl) ?_
    refine va_get (D := (dC, dI)) (ci := 7) (v := .ref p1) (C := RX8) (T := TX8) (N := 6) hx hb hts inB_8 hown hK hP 0 rfl rfl 0 (by decide) (hts _ mw_1_168) (fun _ h9 => h9) rfl dX8_call_8 ?_
    refine lv_iload_n hx hb dX8_call_11 rfl (lv_at hl 2 rfl) ?_
    have hPc := hP.sub (ws' := [(p1, .inr (1, [w0, w1, w2, w3, w4, w5, .int 0, w7]))]) [1] rfl
    have hDc := hD.sub (ws' := [(p1, .inr (1, [w0, w1, w2, w3, w4, w5, .int 0, w7]))]) [1] (by decide) rfl
    have hKc := hK.sub (tys' := []) [] rfl
    refine va_calli (va_runV (As := [.int n2]) (rest := []) ⟨hx, hb, hml, hown, hts⟩ (c_knows0 l dC dI H.size p1 (w0) (w1) (w2) (w3) (w4) (w5) (w7) n2) (cwV 1 hts (gV mw_1_191 mw_1_192 mw_1_193 mw_1_2 mw_1_194) rfl rfl rfl (by decide +kernel) ⟨Nat.le_of_ble_eq_true rfl, Nat.le_of_ble_eq_true rfl⟩) ⟨pcW_blind, va_recv hKc hPc (ci := 1) (q0 := 0) rfl rfl, pcW_at hPc hKc hDc hN⟩ rfl rfl hl.1 rfl (lv_room (Nat.le_of_ble_eq_true rfl)) dX8_call_12 ⟨Nat.le_of_ble_eq_true rfl, Nat.le_of_ble_eq_true rfl⟩) hS (fun q h1 h2 => absurd h2 (Nat.not_le.mpr h1)) (fun q h => hA q (Nat.le_trans hS.1 h)) (fun r_3 u t H1 locs ht hvm hw_3 hB hz1 hk1 hS => ?_)
    have hP := keepP hP hk1
    clear hz1 hk1 hB ht hvm hPc hDc hKc
    generalize H1 = H at hP hS ⊢
    obtain rfl : r_3 = 0 := hw_3
    refine lv_if_ne (tgt := 20) hx hb dX8_call_15 (by decide) (fun h => absurd h (by decide)) (fun _ => ?_)
    refine lv_iconst (v := (-1)) hx hb dX8_call_18 (by decide) ?_
    exact W.iret (v := (-1)) hx hb hr (fun t ht hW => ⟨⟨(-1), (), rfl, rfl, trivial⟩, hS.F ht⟩) hS.2.2 dX8_call_19
  · skip
    refine lv_if_eq (tgt := 18) hx hb dX8_call_4 (by decide) (fun _ => ?_) (fun h => absurd (by decide) h)
    refine lv_iconst (v := (-1)) hx hb dX8_call_18 (by decide) ?_
    exact W.iret (v := (-1)) hx hb hr (fun t ht hW => ⟨⟨(-1), (), rfl, rfl, trivial⟩, hS.F ht⟩) hS.2.2 dX8_call_19
set_option maxHeartbeats 4000000 in
set_option maxRecDepth 100000 in
theorem x_forget (l : Launch) (dC : Nat → ClassId) (dI : Nat → Nat → Nat) (sz : Nat) (h0 : Nat) (u0 : Value) (u1 : Value) (u2 : Value) (u3 : Value) (u4 : Value) (p5 : Nat) (z0 : Value) (z1 : Value) (z2 : Value) (z3 : Value)  : Met l yX8_forget (wq yX8_forget cX8_forget 1 (some .int)) ({ frames := 1, cells := 0, slots := 0, locals := 21 }) (va_Pc [.ref h0] (pcW dC dI [] [(h0, .inr (7, [u0, u1, u2, u3, u4, .ref p5])), (p5, .inr (3, [z0, z1, z2, z3, .int 0, .int 0]))] sz)) (va_Qi (fun (r : Int32) (_ : Unit) => r = 0) (fun _ _ => True) (va_A [(h0, .inr (7, [u0, u1, u2, u3, u4, .ref p5])), (p5, .inr (3, [z0, z1, z2, z3, .int 0, .int 0]))] sz)) 0 0 (va_A [(h0, .inr (7, [u0, u1, u2, u3, u4, .ref p5])), (p5, .inr (3, [z0, z1, z2, z3, .int 0, .int 0]))] sz) := by
  refine Met.ofW (cc := cX8_forget) (maxL := 1) (ret := (some .int)) (by decide) rfl ?_
  intro p e s m args below meth c s₁ B hml hv
  obtain ⟨rfl, hsz, hN, hP, hK, hD0⟩ := hv
  have hx := B.exec
  have hb := B.bytes
  have hr := B.returns
  have hts0 := atoms_spec (ws := (wq yX8_forget cX8_forget 1 (some .int))) B.pre
  have hts : ∀ w ∈ BG, w.before _ s = true := fun w h => hts0 w (List.mem_cons_of_mem _ h)
  have hown : s.vm.findClass RX8 = some m.cls := findClass_of_methodNamed B.named
  have hlocks := B.notSynchronized
  subst hsz
  have hD := hD0.self (sz := s.heap.size)
  generalize hAe : va_A [(h0, .inr (7, [u0, u1, u2, u3, u4, .ref p5])), (p5, .inr (3, [z0, z1, z2, z3, .int 0, .int 0]))] s.heap.size = A at hD ⊢
  have hA : ∀ q : Nat, s.heap.size ≤ q → A q := fun q h => by rw [← hAe]; exact Or.inr h
  have hS : va_S A s.heap s.heap [] := va_S.rf
  have hP : va_P (dC, dI) vwCl [(h0, .inr (7, [u0, u1, u2, u3, u4, .ref p5])), (p5, .inr (3, [z0, z1, z2, z3, .int 0, .int 0]))] s.heap := hP
  have hl := lv_entry ([.ref h0]) (n := 1) (Nat.le_of_ble_eq_true rfl)
  rw [lg_entry_eq]
  generalize (lg_sl ([.ref h0]) ++ List.replicate (1 - (lg_sl ([.ref h0])).length) Slot.unset).toArray = ls at hl ⊢
  have hl : lv_has ls 1 [(0, .ref h0)] := hl
  skip
  refine lv_aload_n hx hb dX8_forget_0 rfl (lv_at hl 0 rfl) ?_
  refine va_get (D := (dC, dI)) (ci := 7) (v := .ref p5) (C := RX8) (T := TX8) (N := 6) hx hb hts inB_8 hown hK hP 0 rfl rfl 5 (by decide) (hts _ mw_1_173) (fun _ h9 => h9) rfl dX8_forget_1 ?_
  have hPc := hP.sub (ws' := [(p5, .inr (3, [z0, z1, z2, z3, .int 0, .int 0]))]) [1] rfl
  have hDc := hD.sub (ws' := [(p5, .inr (3, [z0, z1, z2, z3, .int 0, .int 0]))]) [1] (by decide) rfl
  have hKc := hK.sub (tys' := []) [] rfl
  have hFc := va_free (wc := [(p5, .inr (3, [z0, z1, z2, z3, .int 0, .int 0]))]) hD hS hA [1] rfl
  refine va_calli (va_runV (As := []) (rest := []) ⟨hx, hb, hml, hown, hts⟩ (c_plClear l dC dI s.heap.size p5 (z0) (z1) (z2) (z3)) (cwV 0 hts (gV mw_3_101 mw_3_102 mw_3_103 mw_1_8 mw_3_104) rfl rfl rfl (by decide +kernel) ⟨Nat.le_of_ble_eq_true rfl, Nat.le_of_ble_eq_true rfl⟩) ⟨pcW_blind, va_recv hKc hPc (ci := 3) (q0 := 0) rfl rfl, pcW_at hPc hKc hDc hN⟩ rfl rfl hl.1 rfl (lv_room (Nat.le_of_ble_eq_true rfl)) dX8_forget_4 ⟨Nat.le_of_ble_eq_true rfl, Nat.le_of_ble_eq_true rfl⟩) hS (fun q _ h => hFc q h) hFc (fun r_1 u t H1 locs ht hvm hw_1 hB hz1 hk1 hS => ?_)
  obtain ⟨hP, hD⟩ := va_join (wr := [(h0, .inr (7, [u0, u1, u2, u3, u4, .ref p5]))]) (w1 := []) hP hD [1] [0] rfl rfl (by decide) (by decide) hk1 hFc nilP nilD
  rw [List.append_nil] at hP hD
  clear hz1 hk1 hPc hDc hKc hFc
  generalize H1 = H at hP hS ⊢
  have hK : va_K (dC, dI) vwCl [] s := hK
  have hP : va_P (dC, dI) vwCl [(h0, .inr (7, [u0, u1, u2, u3, u4, .ref p5]))] H := hP
  have hD : va_D A [(h0, .inr (7, [u0, u1, u2, u3, u4, .ref p5]))] := hD
  obtain rfl : r_1 = 0 := hw_1
  exact W.iret (v := 0) hx hb hr (fun t ht hW => ⟨⟨0, (), rfl, rfl, trivial⟩, hS.F ht⟩) hS.2.2 dX8_forget_7
set_option maxHeartbeats 4000000 in
set_option maxRecDepth 100000 in
theorem x_size (l : Launch) (dC : Nat → ClassId) (dI : Nat → Nat → Nat) (sz : Nat) (h0 : Nat) (u0 : Value) (u1 : Value) (u2 : Value) (u3 : Value) (u4 : Value) (p5 : Nat) (s0 : Nat) (z1 : Value) (z2 : Value) (z3 : Value) (ks0 : ClassId) (n1 : Int32) (n2 : Int32)  : Met l yX8_size (wq yX8_size cX8_size 3 (some .int)) ({ frames := 3, cells := 0, slots := 0, locals := 64 }) (va_Pc [.ref h0, .int n1, .int n2] (pcW dC dI [(ks0, .int)] [(h0, .inr (7, [u0, u1, u2, u3, u4, .ref p5])), (p5, .inr (3, [.ref s0, z1, z2, z3, .int 0, .int 0])), (s0, .inl (ks0, 4, .inl (slF 1 0 4)))] sz)) (va_Qi (fun (r : Int32) (_ : Unit) => r = F_size n1 n2) (fun _ _ => True) (va_A [(h0, .inr (7, [u0, u1, u2, u3, u4, .ref p5])), (p5, .inr (3, [.ref s0, z1, z2, z3, .int 0, .int 0])), (s0, .inl (ks0, 4, .inl (slF 1 0 4)))] sz)) 0 0 (va_A [(h0, .inr (7, [u0, u1, u2, u3, u4, .ref p5])), (p5, .inr (3, [.ref s0, z1, z2, z3, .int 0, .int 0])), (s0, .inl (ks0, 4, .inl (slF 1 0 4)))] sz) := by
  refine Met.ofW (cc := cX8_size) (maxL := 3) (ret := (some .int)) (by decide) rfl ?_
  intro p e s m args below meth c s₁ B hml hv
  obtain ⟨rfl, hsz, hN, hP, hK, hD0⟩ := hv
  have hx := B.exec
  have hb := B.bytes
  have hr := B.returns
  have hts0 := atoms_spec (ws := (wq yX8_size cX8_size 3 (some .int))) B.pre
  have hts : ∀ w ∈ BG, w.before _ s = true := fun w h => hts0 w (List.mem_cons_of_mem _ h)
  have hown : s.vm.findClass RX8 = some m.cls := findClass_of_methodNamed B.named
  have hlocks := B.notSynchronized
  subst hsz
  have hD := hD0.self (sz := s.heap.size)
  generalize hAe : va_A [(h0, .inr (7, [u0, u1, u2, u3, u4, .ref p5])), (p5, .inr (3, [.ref s0, z1, z2, z3, .int 0, .int 0])), (s0, .inl (ks0, 4, .inl (slF 1 0 4)))] s.heap.size = A at hD ⊢
  have hA : ∀ q : Nat, s.heap.size ≤ q → A q := fun q h => by rw [← hAe]; exact Or.inr h
  have hS : va_S A s.heap s.heap [] := va_S.rf
  have hP : va_P (dC, dI) vwCl [(h0, .inr (7, [u0, u1, u2, u3, u4, .ref p5])), (p5, .inr (3, [.ref s0, z1, z2, z3, .int 0, .int 0])), (s0, .inl (ks0, 4, .inl (slF 1 0 4)))] s.heap := hP
  have hl := lv_entry ([.ref h0, .int n1, .int n2]) (n := 3) (Nat.le_of_ble_eq_true rfl)
  rw [lg_entry_eq]
  generalize (lg_sl ([.ref h0, .int n1, .int n2]) ++ List.replicate (3 - (lg_sl ([.ref h0, .int n1, .int n2])).length) Slot.unset).toArray = ls at hl ⊢
  have hl : lv_has ls 3 [(0, .ref h0), (1, .int n1), (2, .int n2)] := hl
  skip
  refine lv_iload_n hx hb dX8_size_0 rfl (lv_at hl 1 rfl) ?_
  have hPc := hP.sub (ws' := []) [] rfl
  have hDc := hD.sub (ws' := []) [] (by decide) rfl
  have hKc := hK.sub (tys' := []) [] rfl
  refine va_calli (va_runS (As := [.int n1]) (rest := []) ⟨hx, hb, hml, hown, hts⟩ (c_isPlace l dC dI s.heap.size n1) (va_cwS 1 hts (gS mw_3_85 mw_3_86 mw_1_1 mw_3_87) rfl rfl rfl (by decide +kernel) ⟨Nat.le_of_ble_eq_true rfl, Nat.le_of_ble_eq_true rfl⟩) ⟨pcW_blind, pcW_at hPc hKc hDc hN⟩ rfl rfl hl.1 rfl (lv_room (Nat.le_of_ble_eq_true rfl)) dX8_size_1 ⟨Nat.le_of_ble_eq_true rfl, Nat.le_of_ble_eq_true rfl⟩) hS (fun q h1 h2 => absurd h2 (Nat.not_le.mpr h1)) (fun q h => hA q (Nat.le_trans hS.1 h)) (fun r_1 u t H1 locs ht hvm hw_1 hB hz1 hk1 hS => ?_)
  have hP := keepP hP hk1
  clear hz1 hk1 hB ht hvm hPc hDc hKc
  generalize H1 = H at hP hS ⊢
  rcases fx_bool hw_1 with ⟨rfl, b_2⟩ | ⟨rfl, b_2⟩
  · skip
    refine lv_if_ne (tgt := 9) hx hb dX8_size_4 (by decide) (fun _ => ?_) (fun h => absurd h (by decide))
    refine lv_iload_n hx hb dX8_size_9 rfl (lv_at hl 2 rfl) ?_
    refine lv_iconst (v := 1) hx hb dX8_size_10 (by decide) ?_
    refine lv_icmp_lt (tgt := 19) hx hb dX8_size_11 (by decide) (fun c_3 => ?_) (fun c_3 => ?_)
    · have b_4 := fx_lt (x := n2) (C := 1) (by decide) c_3
      refine lv_bipush (v := (-2)) hx hb dX8_size_19 (by decide) ?_
      exact W.iret (v := (-2)) hx hb hr (fun t ht hW => ⟨⟨(-2), (), rfl, (by (unfold F_size; repeat' split) <;> first | rfl | (exfalso; omega)), trivial⟩, hS.F ht⟩) hS.2.2 dX8_size_21
    · have b_4 := fn_lt (x := n2) (C := 1) (by decide) c_3
      refine lv_iload_n hx hb dX8_size_14 rfl (lv_at hl 2 rfl) ?_
      refine lv_iconst (v := 4) hx hb dX8_size_15 (by decide) ?_
      refine lv_icmp_le (tgt := 22) hx hb dX8_size_16 (by decide) (fun c_5 => ?_) (fun c_5 => ?_)
      · have b_6 := fx_le (x := n2) (C := 4) (by decide) c_5
        refine lv_aload_n hx hb dX8_size_22 rfl (lv_at hl 0 rfl) ?_
        refine va_get (D := (dC, dI)) (ci := 7) (v := .ref p5) (C := RX8) (T := TX8) (N := 6) hx hb hts inB_8 hown hK hP 0 rfl rfl 5 (by decide) (hts _ mw_1_173) (fun _ h9 => h9) rfl dX8_size_23 ?_
        refine lv_iload_n hx hb dX8_size_26 rfl (lv_at hl 1 rfl) ?_
        refine lv_iload_n hx hb dX8_size_27 rfl (lv_at hl 2 rfl) ?_
        have hPc := hP.sub (ws' := [(p5, .inr (3, [.ref s0, z1, z2, z3, .int 0, .int 0])), (s0, .inl (ks0, 4, .inl (slF 1 0 4)))]) [1, 2] rfl
        have hDc := hD.sub (ws' := [(p5, .inr (3, [.ref s0, z1, z2, z3, .int 0, .int 0])), (s0, .inl (ks0, 4, .inl (slF 1 0 4)))]) [1, 2] (by decide) rfl
        have hKc := hK.sub (tys' := [(ks0, .int)]) [0] rfl
        have hFc := va_free (wc := [(p5, .inr (3, [.ref s0, z1, z2, z3, .int 0, .int 0])), (s0, .inl (ks0, 4, .inl (slF 1 0 4)))]) hD hS hA [1, 2] rfl
        refine va_calli (va_runV (As := [.int n1, .int n2]) (rest := []) ⟨hx, hb, hml, hown, hts⟩ (c_resize l dC dI H.size p5 s0 (z1) (z2) (z3) ks0 n1 n2) (cwV 2 hts (gV mw_3_109 mw_3_110 mw_3_111 mw_1_8 mw_3_112) rfl rfl rfl (by decide +kernel) ⟨Nat.le_of_ble_eq_true rfl, Nat.le_of_ble_eq_true rfl⟩) ⟨pcW_blind, va_recv hKc hPc (ci := 3) (q0 := 0) rfl rfl, pcW_at hPc hKc hDc hN⟩ rfl rfl hl.1 rfl (lv_room (Nat.le_of_ble_eq_true rfl)) dX8_size_28 ⟨Nat.le_of_ble_eq_true rfl, Nat.le_of_ble_eq_true rfl⟩) hS (fun q _ h => hFc q h) hFc (fun r_7 u t H1 locs ht hvm hw_7 hB hz1 hk1 hS => ?_)
        obtain ⟨hP, hD⟩ := va_join (wr := [(h0, .inr (7, [u0, u1, u2, u3, u4, .ref p5]))]) (w1 := []) hP hD [1, 2] [0] rfl rfl (by decide) (by decide) hk1 hFc nilP nilD
        rw [List.append_nil] at hP hD
        clear hz1 hk1 hPc hDc hKc hFc
        generalize H1 = H at hP hS ⊢
        have hK : va_K (dC, dI) vwCl [(ks0, .int)] s := hK
        have hP : va_P (dC, dI) vwCl [(h0, .inr (7, [u0, u1, u2, u3, u4, .ref p5]))] H := hP
        have hD : va_D A [(h0, .inr (7, [u0, u1, u2, u3, u4, .ref p5]))] := hD
        obtain rfl : r_7 = 1 := hw_7
        exact W.iret (v := 1) hx hb hr (fun t ht hW => ⟨⟨1, (), rfl, (by (unfold F_size; repeat' split) <;> first | rfl | (exfalso; omega)), trivial⟩, hS.F ht⟩) hS.2.2 dX8_size_31
      · have b_6 := fn_le (x := n2) (C := 4) (by decide) c_5
        refine lv_bipush (v := (-2)) hx hb dX8_size_19 (by decide) ?_
        exact W.iret (v := (-2)) hx hb hr (fun t ht hW => ⟨⟨(-2), (), rfl, (by (unfold F_size; repeat' split) <;> first | rfl | (exfalso; omega)), trivial⟩, hS.F ht⟩) hS.2.2 dX8_size_21
  · skip
    refine lv_if_ne (tgt := 9) hx hb dX8_size_4 (by decide) (fun h => absurd h (by decide)) (fun _ => ?_)
    refine lv_iconst (v := (-1)) hx hb dX8_size_7 (by decide) ?_
    exact W.iret (v := (-1)) hx hb hr (fun t ht hW => ⟨⟨(-1), (), rfl, (by (unfold F_size; repeat' split) <;> first | rfl | (exfalso; omega)), trivial⟩, hS.F ht⟩) hS.2.2 dX8_size_8
set_option maxHeartbeats 4000000 in
set_option maxRecDepth 100000 in
theorem x_hits (l : Launch) (dC : Nat → ClassId) (dI : Nat → Nat → Nat) (sz : Nat) (h0 : Nat) (u0 : Value) (u1 : Value) (u2 : Value) (u3 : Value) (u4 : Value) (p5 : Nat) (s0 : Nat) (z1 : Value) (z2 : Value) (z3 : Value) (ks0 : ClassId) (n1 : Int32) (n2 : Int32)  : Met l yX8_hits (wq yX8_hits cX8_hits 3 (some .int)) ({ frames := 3, cells := 0, slots := 0, locals := 66 }) (va_Pc [.ref h0, .int n1, .int n2] (pcW dC dI [(ks0, .int)] [(h0, .inr (7, [u0, u1, u2, u3, u4, .ref p5])), (p5, .inr (3, [.ref s0, z1, z2, z3, .int 0, .int 0])), (s0, .inl (ks0, 4, .inl (slF 1 0 4)))] sz)) (va_Qi (fun (r : Int32) (_ : Unit) => r = F_hits n1 n2) (fun _ _ => True) (va_A [(h0, .inr (7, [u0, u1, u2, u3, u4, .ref p5])), (p5, .inr (3, [.ref s0, z1, z2, z3, .int 0, .int 0])), (s0, .inl (ks0, 4, .inl (slF 1 0 4)))] sz)) 0 0 (va_A [(h0, .inr (7, [u0, u1, u2, u3, u4, .ref p5])), (p5, .inr (3, [.ref s0, z1, z2, z3, .int 0, .int 0])), (s0, .inl (ks0, 4, .inl (slF 1 0 4)))] sz) := by
  refine Met.ofW (cc := cX8_hits) (maxL := 3) (ret := (some .int)) (by decide) rfl ?_
  intro p e s m args below meth c s₁ B hml hv
  obtain ⟨rfl, hsz, hN, hP, hK, hD0⟩ := hv
  have hx := B.exec
  have hb := B.bytes
  have hr := B.returns
  have hts0 := atoms_spec (ws := (wq yX8_hits cX8_hits 3 (some .int))) B.pre
  have hts : ∀ w ∈ BG, w.before _ s = true := fun w h => hts0 w (List.mem_cons_of_mem _ h)
  have hown : s.vm.findClass RX8 = some m.cls := findClass_of_methodNamed B.named
  have hlocks := B.notSynchronized
  subst hsz
  have hD := hD0.self (sz := s.heap.size)
  generalize hAe : va_A [(h0, .inr (7, [u0, u1, u2, u3, u4, .ref p5])), (p5, .inr (3, [.ref s0, z1, z2, z3, .int 0, .int 0])), (s0, .inl (ks0, 4, .inl (slF 1 0 4)))] s.heap.size = A at hD ⊢
  have hA : ∀ q : Nat, s.heap.size ≤ q → A q := fun q h => by rw [← hAe]; exact Or.inr h
  have hS : va_S A s.heap s.heap [] := va_S.rf
  have hP : va_P (dC, dI) vwCl [(h0, .inr (7, [u0, u1, u2, u3, u4, .ref p5])), (p5, .inr (3, [.ref s0, z1, z2, z3, .int 0, .int 0])), (s0, .inl (ks0, 4, .inl (slF 1 0 4)))] s.heap := hP
  have hl := lv_entry ([.ref h0, .int n1, .int n2]) (n := 3) (Nat.le_of_ble_eq_true rfl)
  rw [lg_entry_eq]
  generalize (lg_sl ([.ref h0, .int n1, .int n2]) ++ List.replicate (3 - (lg_sl ([.ref h0, .int n1, .int n2])).length) Slot.unset).toArray = ls at hl ⊢
  have hl : lv_has ls 3 [(0, .ref h0), (1, .int n1), (2, .int n2)] := hl
  skip
  refine lv_iload_n hx hb dX8_hits_0 rfl (lv_at hl 1 rfl) ?_
  have hPc := hP.sub (ws' := []) [] rfl
  have hDc := hD.sub (ws' := []) [] (by decide) rfl
  have hKc := hK.sub (tys' := []) [] rfl
  refine va_calli (va_runS (As := [.int n1]) (rest := []) ⟨hx, hb, hml, hown, hts⟩ (c_isPlace l dC dI s.heap.size n1) (va_cwS 1 hts (gS mw_3_85 mw_3_86 mw_1_1 mw_3_87) rfl rfl rfl (by decide +kernel) ⟨Nat.le_of_ble_eq_true rfl, Nat.le_of_ble_eq_true rfl⟩) ⟨pcW_blind, pcW_at hPc hKc hDc hN⟩ rfl rfl hl.1 rfl (lv_room (Nat.le_of_ble_eq_true rfl)) dX8_hits_1 ⟨Nat.le_of_ble_eq_true rfl, Nat.le_of_ble_eq_true rfl⟩) hS (fun q h1 h2 => absurd h2 (Nat.not_le.mpr h1)) (fun q h => hA q (Nat.le_trans hS.1 h)) (fun r_1 u t H1 locs ht hvm hw_1 hB hz1 hk1 hS => ?_)
  have hP := keepP hP hk1
  clear hz1 hk1 hB ht hvm hPc hDc hKc
  generalize H1 = H at hP hS ⊢
  rcases fx_bool hw_1 with ⟨rfl, b_2⟩ | ⟨rfl, b_2⟩
  · skip
    refine lv_if_ne (tgt := 9) hx hb dX8_hits_4 (by decide) (fun _ => ?_) (fun h => absurd h (by decide))
    refine lv_iload_n hx hb dX8_hits_9 rfl (lv_at hl 2 rfl) ?_
    refine lv_if_ne (tgt := 22) hx hb dX8_hits_10 (by decide) (fun c_3 => ?_) (fun c_3 => ?_)
    · have b_4 := fx_ne (x := n2) (C := 0) (by decide) c_3
      refine lv_iload_n hx hb dX8_hits_22 rfl (lv_at hl 2 rfl) ?_
      refine lv_iconst (v := 1) hx hb dX8_hits_23 (by decide) ?_
      refine lv_icmp_ne (tgt := 44) hx hb dX8_hits_24 (by decide) (fun c_5 => ?_) (fun c_5 => ?_)
      · have b_6 := fx_ne (x := n2) (C := 1) (by decide) c_5
        refine lv_iload_n hx hb dX8_hits_44 rfl (lv_at hl 2 rfl) ?_
        refine lv_iconst (v := 2) hx hb dX8_hits_45 (by decide) ?_
        refine lv_icmp_ne (tgt := 58) hx hb dX8_hits_46 (by decide) (fun c_7 => ?_) (fun c_7 => ?_)
        · have b_8 := fx_ne (x := n2) (C := 2) (by decide) c_7
          refine lv_iload_n hx hb dX8_hits_58 rfl (lv_at hl 2 rfl) ?_
          refine lv_bipush (v := 10) hx hb dX8_hits_59 (by decide) ?_
          refine lv_icmp_lt (tgt := 70) hx hb dX8_hits_61 (by decide) (fun c_9 => ?_) (fun c_9 => ?_)
          · have b_10 := fx_lt (x := n2) (C := 10) (by decide) c_9
            refine lv_bipush (v := (-2)) hx hb dX8_hits_70 (by decide) ?_
            exact W.iret (v := (-2)) hx hb hr (fun t ht hW => ⟨⟨(-2), (), rfl, (by (unfold F_hits; repeat' split) <;> first | rfl | (exfalso; omega)), trivial⟩, hS.F ht⟩) hS.2.2 dX8_hits_72
          · have b_10 := fn_lt (x := n2) (C := 10) (by decide) c_9
            refine lv_iload_n hx hb dX8_hits_64 rfl (lv_at hl 2 rfl) ?_
            refine lv_bipush (v := 14) hx hb dX8_hits_65 (by decide) ?_
            refine lv_icmp_lt (tgt := 73) hx hb dX8_hits_67 (by decide) (fun c_11 => ?_) (fun c_11 => ?_)
            · have b_12 := fx_lt (x := n2) (C := 14) (by decide) c_11
              refine lv_aload_n hx hb dX8_hits_73 rfl (lv_at hl 0 rfl) ?_
              refine va_get (D := (dC, dI)) (ci := 7) (v := .ref p5) (C := RX8) (T := TX8) (N := 6) hx hb hts inB_8 hown hK hP 0 rfl rfl 5 (by decide) (hts _ mw_1_173) (fun _ h9 => h9) rfl dX8_hits_74 ?_
              refine lv_iload_n hx hb dX8_hits_77 rfl (lv_at hl 1 rfl) ?_
              refine lv_aload_n hx hb dX8_hits_78 rfl (lv_at hl 0 rfl) ?_
              refine va_get (D := (dC, dI)) (ci := 7) (v := .ref p5) (C := RX8) (T := TX8) (N := 6) hx hb hts inB_8 hown hK hP 0 rfl rfl 5 (by decide) (hts _ mw_1_173) (fun _ h9 => h9) rfl dX8_hits_79 ?_
              refine lv_iload_n hx hb dX8_hits_82 rfl (lv_at hl 1 rfl) ?_
              have hPc := hP.sub (ws' := [(p5, .inr (3, [.ref s0, z1, z2, z3, .int 0, .int 0])), (s0, .inl (ks0, 4, .inl (slF 1 0 4)))]) [1, 2] rfl
              have hDc := hD.sub (ws' := [(p5, .inr (3, [.ref s0, z1, z2, z3, .int 0, .int 0])), (s0, .inl (ks0, 4, .inl (slF 1 0 4)))]) [1, 2] (by decide) rfl
              have hKc := hK.sub (tys' := [(ks0, .int)]) [0] rfl
              refine va_calli (va_runV (As := [.int n1]) (rest := [.int n1, .ref p5]) ⟨hx, hb, hml, hown, hts⟩ (c_sizeOf l dC dI H.size p5 s0 (z1) (z2) (z3) ks0 n1) (cwV 1 hts (gV mw_3_126 mw_3_114 mw_3_115 mw_1_8 mw_3_116) rfl rfl rfl (by decide +kernel) ⟨Nat.le_of_ble_eq_true rfl, Nat.le_of_ble_eq_true rfl⟩) ⟨pcW_blind, va_recv hKc hPc (ci := 3) (q0 := 0) rfl rfl, pcW_at hPc hKc hDc hN⟩ rfl rfl hl.1 rfl (lv_room (Nat.le_of_ble_eq_true rfl)) dX8_hits_83 ⟨Nat.le_of_ble_eq_true rfl, Nat.le_of_ble_eq_true rfl⟩) hS (fun q h1 h2 => absurd h2 (Nat.not_le.mpr h1)) (fun q h => hA q (Nat.le_trans hS.1 h)) (fun r_13 u t H1 locs ht hvm hw_13 hB hz1 hk1 hS => ?_)
              have hP := keepP hP hk1
              clear hz1 hk1 hB ht hvm hPc hDc hKc
              generalize H1 = H at hP hS ⊢
              obtain rfl : r_13 = 1 := hw_13
              have hPc := hP.sub (ws' := [(p5, .inr (3, [.ref s0, z1, z2, z3, .int 0, .int 0]))]) [1] rfl
              have hDc := hD.sub (ws' := [(p5, .inr (3, [.ref s0, z1, z2, z3, .int 0, .int 0]))]) [1] (by decide) rfl
              have hKc := hK.sub (tys' := []) [] rfl
              have hFc := va_free (wc := [(p5, .inr (3, [.ref s0, z1, z2, z3, .int 0, .int 0]))]) hD hS hA [1] rfl
              refine va_calli (va_runV (As := [.int n1, .int 1]) (rest := []) ⟨hx, hb, hml, hown, hts⟩ (c_hbs l dC dI H.size p5 (.ref s0) (z1) (z2) (z3) n1 1) (cwV 2 hts (gV mw_3_127 mw_3_128 mw_3_129 mw_1_8 mw_3_130) rfl rfl rfl (by decide +kernel) ⟨Nat.le_of_ble_eq_true rfl, Nat.le_of_ble_eq_true rfl⟩) ⟨pcW_blind, va_recv hKc hPc (ci := 3) (q0 := 0) rfl rfl, pcW_at hPc hKc hDc hN⟩ rfl rfl hl.1 rfl (lv_room (Nat.le_of_ble_eq_true rfl)) dX8_hits_86 ⟨Nat.le_of_ble_eq_true rfl, Nat.le_of_ble_eq_true rfl⟩) hS (fun q _ h => hFc q h) hFc (fun r_14 u t H1 locs ht hvm hw_14 hB hz1 hk1 hS => ?_)
              obtain ⟨hP1, hK1, hD1⟩ := hB
              rw [ht] at hP1
              have hK1 := va_K.moved hvm.symm hK1
              obtain ⟨hP, hD⟩ := va_join (wr := [(h0, .inr (7, [u0, u1, u2, u3, u4, .ref p5])), (s0, .inl (ks0, 4, .inl (slF 1 0 4)))]) (w1 := [(p5, .inr (3, [.ref s0, z1, z2, z3, .int 0, .int 0]))]) hP hD [1] [0, 2] rfl rfl (by decide) (by decide) hk1 hFc hP1 hD1
              have hK := (hK.sub (tys' := [(ks0, .int)]) [0] rfl).app hK1
              clear hz1 hk1 hPc hDc hKc hFc
              generalize H1 = H at hP hS ⊢
              have hK : va_K (dC, dI) vwCl [(ks0, .int)] s := hK
              have hP : va_P (dC, dI) vwCl [(h0, .inr (7, [u0, u1, u2, u3, u4, .ref p5])), (s0, .inl (ks0, 4, .inl (slF 1 0 4))), (p5, .inr (3, [.ref s0, z1, z2, z3, .int 0, .int 0]))] H := hP
              have hD : va_D A [(h0, .inr (7, [u0, u1, u2, u3, u4, .ref p5])), (s0, .inl (ks0, 4, .inl (slF 1 0 4))), (p5, .inr (3, [.ref s0, z1, z2, z3, .int 0, .int 0]))] := hD
              obtain rfl : r_14 = 0 := hw_14
              refine lv_pop hx hb dX8_hits_89 rfl ?_
              refine lv_aload_n hx hb dX8_hits_90 rfl (lv_at hl 0 rfl) ?_
              refine va_get (D := (dC, dI)) (ci := 7) (v := .ref p5) (C := RX8) (T := TX8) (N := 6) hx hb hts inB_8 hown hK hP 0 rfl rfl 5 (by decide) (hts _ mw_1_173) (fun _ h9 => h9) rfl dX8_hits_91 ?_
              refine lv_iload_n hx hb dX8_hits_94 rfl (lv_at hl 2 rfl) ?_
              refine lv_bipush (v := 10) hx hb dX8_hits_95 (by decide) ?_
              refine lv_isub hx hb dX8_hits_97 ?_
              refine lv_topi (fun z_15 ez_15 => ?_)
              have fz_15 : Int32.toInt z_15 = Int32.toInt n2 - 10 := by rw [ez_15]; exact fx_sub (C := 10) (by decide) (by omega) (by omega)
              have hPc := hP.sub (ws' := [(p5, .inr (3, [.ref s0, z1, z2, z3, .int 0, .int 0]))]) [2] rfl
              have hDc := hD.sub (ws' := [(p5, .inr (3, [.ref s0, z1, z2, z3, .int 0, .int 0]))]) [2] (by decide) rfl
              have hKc := hK.sub (tys' := []) [] rfl
              refine va_calli (va_runV (As := [.int z_15]) (rest := []) ⟨hx, hb, hml, hown, hts⟩ (c_latest l dC dI H.size p5 (.ref s0) (z1) (z2) (z3) z_15) (cwV 1 hts (gV mw_3_153 mw_3_154 mw_3_155 mw_1_8 mw_3_156) rfl rfl rfl (by decide +kernel) ⟨Nat.le_of_ble_eq_true rfl, Nat.le_of_ble_eq_true rfl⟩) ⟨pcW_blind, va_recv hKc hPc (ci := 3) (q0 := 0) rfl rfl, pcW_at hPc hKc hDc hN⟩ rfl rfl hl.1 rfl (lv_room (Nat.le_of_ble_eq_true rfl)) dX8_hits_98 ⟨Nat.le_of_ble_eq_true rfl, Nat.le_of_ble_eq_true rfl⟩) hS (fun q h1 h2 => absurd h2 (Nat.not_le.mpr h1)) (fun q h => hA q (Nat.le_trans hS.1 h)) (fun r_16 u t H1 locs ht hvm hw_16 hB hz1 hk1 hS => ?_)
              have hP := keepP hP hk1
              clear hz1 hk1 hB ht hvm hPc hDc hKc
              generalize H1 = H at hP hS ⊢
              obtain rfl : r_16 = (-6) := hw_16
              exact W.iret (v := (-6)) hx hb hr (fun t ht hW => ⟨⟨(-6), (), rfl, (by (unfold F_hits; repeat' split) <;> first | rfl | (exfalso; omega)), trivial⟩, hS.F ht⟩) hS.2.2 dX8_hits_101
            · have b_12 := fn_lt (x := n2) (C := 14) (by decide) c_11
              refine lv_bipush (v := (-2)) hx hb dX8_hits_70 (by decide) ?_
              exact W.iret (v := (-2)) hx hb hr (fun t ht hW => ⟨⟨(-2), (), rfl, (by (unfold F_hits; repeat' split) <;> first | rfl | (exfalso; omega)), trivial⟩, hS.F ht⟩) hS.2.2 dX8_hits_72
        · have b_8 := fn_ne (x := n2) (C := 2) (by decide) c_7
          refine lv_aload_n hx hb dX8_hits_49 rfl (lv_at hl 0 rfl) ?_
          refine va_get (D := (dC, dI)) (ci := 7) (v := .ref p5) (C := RX8) (T := TX8) (N := 6) hx hb hts inB_8 hown hK hP 0 rfl rfl 5 (by decide) (hts _ mw_1_173) (fun _ h9 => h9) rfl dX8_hits_50 ?_
          refine lv_iload_n hx hb dX8_hits_53 rfl (lv_at hl 1 rfl) ?_
          have hPc := hP.sub (ws' := [(p5, .inr (3, [.ref s0, z1, z2, z3, .int 0, .int 0])), (s0, .inl (ks0, 4, .inl (slF 1 0 4)))]) [1, 2] rfl
          have hDc := hD.sub (ws' := [(p5, .inr (3, [.ref s0, z1, z2, z3, .int 0, .int 0])), (s0, .inl (ks0, 4, .inl (slF 1 0 4)))]) [1, 2] (by decide) rfl
          have hKc := hK.sub (tys' := [(ks0, .int)]) [0] rfl
          refine va_calli (va_runV (As := [.int n1]) (rest := []) ⟨hx, hb, hml, hown, hts⟩ (c_best l dC dI H.size p5 s0 (z1) (z2) (z3) ks0 n1) (cwV 1 hts (gV mw_3_139 mw_3_140 mw_3_141 mw_1_8 mw_3_142) rfl rfl rfl (by decide +kernel) ⟨Nat.le_of_ble_eq_true rfl, Nat.le_of_ble_eq_true rfl⟩) ⟨pcW_blind, va_recv hKc hPc (ci := 3) (q0 := 0) rfl rfl, pcW_at hPc hKc hDc hN⟩ rfl rfl hl.1 rfl (lv_room (Nat.le_of_ble_eq_true rfl)) dX8_hits_54 ⟨Nat.le_of_ble_eq_true rfl, Nat.le_of_ble_eq_true rfl⟩) hS (fun q h1 h2 => absurd h2 (Nat.not_le.mpr h1)) (fun q h => hA q (Nat.le_trans hS.1 h)) (fun r_17 u t H1 locs ht hvm hw_17 hB hz1 hk1 hS => ?_)
          have hP := keepP hP hk1
          clear hz1 hk1 hB ht hvm hPc hDc hKc
          generalize H1 = H at hP hS ⊢
          obtain rfl : r_17 = 0 := hw_17
          exact W.iret (v := 0) hx hb hr (fun t ht hW => ⟨⟨0, (), rfl, (by (unfold F_hits; repeat' split) <;> first | rfl | (exfalso; omega)), trivial⟩, hS.F ht⟩) hS.2.2 dX8_hits_57
      · have b_6 := fn_ne (x := n2) (C := 1) (by decide) c_5
        refine lv_aload_n hx hb dX8_hits_27 rfl (lv_at hl 0 rfl) ?_
        refine va_get (D := (dC, dI)) (ci := 7) (v := .ref p5) (C := RX8) (T := TX8) (N := 6) hx hb hts inB_8 hown hK hP 0 rfl rfl 5 (by decide) (hts _ mw_1_173) (fun _ h9 => h9) rfl dX8_hits_28 ?_
        refine lv_iload_n hx hb dX8_hits_31 rfl (lv_at hl 1 rfl) ?_
        refine lv_aload_n hx hb dX8_hits_32 rfl (lv_at hl 0 rfl) ?_
        refine va_get (D := (dC, dI)) (ci := 7) (v := .ref p5) (C := RX8) (T := TX8) (N := 6) hx hb hts inB_8 hown hK hP 0 rfl rfl 5 (by decide) (hts _ mw_1_173) (fun _ h9 => h9) rfl dX8_hits_33 ?_
        refine lv_iload_n hx hb dX8_hits_36 rfl (lv_at hl 1 rfl) ?_
        have hPc := hP.sub (ws' := [(p5, .inr (3, [.ref s0, z1, z2, z3, .int 0, .int 0])), (s0, .inl (ks0, 4, .inl (slF 1 0 4)))]) [1, 2] rfl
        have hDc := hD.sub (ws' := [(p5, .inr (3, [.ref s0, z1, z2, z3, .int 0, .int 0])), (s0, .inl (ks0, 4, .inl (slF 1 0 4)))]) [1, 2] (by decide) rfl
        have hKc := hK.sub (tys' := [(ks0, .int)]) [0] rfl
        refine va_calli (va_runV (As := [.int n1]) (rest := [.int n1, .ref p5]) ⟨hx, hb, hml, hown, hts⟩ (c_sizeOf l dC dI H.size p5 s0 (z1) (z2) (z3) ks0 n1) (cwV 1 hts (gV mw_3_126 mw_3_114 mw_3_115 mw_1_8 mw_3_116) rfl rfl rfl (by decide +kernel) ⟨Nat.le_of_ble_eq_true rfl, Nat.le_of_ble_eq_true rfl⟩) ⟨pcW_blind, va_recv hKc hPc (ci := 3) (q0 := 0) rfl rfl, pcW_at hPc hKc hDc hN⟩ rfl rfl hl.1 rfl (lv_room (Nat.le_of_ble_eq_true rfl)) dX8_hits_37 ⟨Nat.le_of_ble_eq_true rfl, Nat.le_of_ble_eq_true rfl⟩) hS (fun q h1 h2 => absurd h2 (Nat.not_le.mpr h1)) (fun q h => hA q (Nat.le_trans hS.1 h)) (fun r_18 u t H1 locs ht hvm hw_18 hB hz1 hk1 hS => ?_)
        have hP := keepP hP hk1
        clear hz1 hk1 hB ht hvm hPc hDc hKc
        generalize H1 = H at hP hS ⊢
        obtain rfl : r_18 = 1 := hw_18
        have hPc := hP.sub (ws' := [(p5, .inr (3, [.ref s0, z1, z2, z3, .int 0, .int 0]))]) [1] rfl
        have hDc := hD.sub (ws' := [(p5, .inr (3, [.ref s0, z1, z2, z3, .int 0, .int 0]))]) [1] (by decide) rfl
        have hKc := hK.sub (tys' := []) [] rfl
        have hFc := va_free (wc := [(p5, .inr (3, [.ref s0, z1, z2, z3, .int 0, .int 0]))]) hD hS hA [1] rfl
        refine va_calli (va_runV (As := [.int n1, .int 1]) (rest := []) ⟨hx, hb, hml, hown, hts⟩ (c_hbs l dC dI H.size p5 (.ref s0) (z1) (z2) (z3) n1 1) (cwV 2 hts (gV mw_3_127 mw_3_128 mw_3_129 mw_1_8 mw_3_130) rfl rfl rfl (by decide +kernel) ⟨Nat.le_of_ble_eq_true rfl, Nat.le_of_ble_eq_true rfl⟩) ⟨pcW_blind, va_recv hKc hPc (ci := 3) (q0 := 0) rfl rfl, pcW_at hPc hKc hDc hN⟩ rfl rfl hl.1 rfl (lv_room (Nat.le_of_ble_eq_true rfl)) dX8_hits_40 ⟨Nat.le_of_ble_eq_true rfl, Nat.le_of_ble_eq_true rfl⟩) hS (fun q _ h => hFc q h) hFc (fun r_19 u t H1 locs ht hvm hw_19 hB hz1 hk1 hS => ?_)
        obtain ⟨hP1, hK1, hD1⟩ := hB
        rw [ht] at hP1
        have hK1 := va_K.moved hvm.symm hK1
        obtain ⟨hP, hD⟩ := va_join (wr := [(h0, .inr (7, [u0, u1, u2, u3, u4, .ref p5])), (s0, .inl (ks0, 4, .inl (slF 1 0 4)))]) (w1 := [(p5, .inr (3, [.ref s0, z1, z2, z3, .int 0, .int 0]))]) hP hD [1] [0, 2] rfl rfl (by decide) (by decide) hk1 hFc hP1 hD1
        have hK := (hK.sub (tys' := [(ks0, .int)]) [0] rfl).app hK1
        clear hz1 hk1 hPc hDc hKc hFc
        generalize H1 = H at hP hS ⊢
        have hK : va_K (dC, dI) vwCl [(ks0, .int)] s := hK
        have hP : va_P (dC, dI) vwCl [(h0, .inr (7, [u0, u1, u2, u3, u4, .ref p5])), (s0, .inl (ks0, 4, .inl (slF 1 0 4))), (p5, .inr (3, [.ref s0, z1, z2, z3, .int 0, .int 0]))] H := hP
        have hD : va_D A [(h0, .inr (7, [u0, u1, u2, u3, u4, .ref p5])), (s0, .inl (ks0, 4, .inl (slF 1 0 4))), (p5, .inr (3, [.ref s0, z1, z2, z3, .int 0, .int 0]))] := hD
        obtain rfl : r_19 = 0 := hw_19
        exact W.iret (v := 0) hx hb hr (fun t ht hW => ⟨⟨0, (), rfl, (by (unfold F_hits; repeat' split) <;> first | rfl | (exfalso; omega)), trivial⟩, hS.F ht⟩) hS.2.2 dX8_hits_43
    · have b_4 := fn_ne (x := n2) (C := 0) (by decide) c_3
      refine lv_aload_n hx hb dX8_hits_13 rfl (lv_at hl 0 rfl) ?_
      refine va_get (D := (dC, dI)) (ci := 7) (v := .ref p5) (C := RX8) (T := TX8) (N := 6) hx hb hts inB_8 hown hK hP 0 rfl rfl 5 (by decide) (hts _ mw_1_173) (fun _ h9 => h9) rfl dX8_hits_14 ?_
      refine lv_iload_n hx hb dX8_hits_17 rfl (lv_at hl 1 rfl) ?_
      have hPc := hP.sub (ws' := [(p5, .inr (3, [.ref s0, z1, z2, z3, .int 0, .int 0]))]) [1] rfl
      have hDc := hD.sub (ws' := [(p5, .inr (3, [.ref s0, z1, z2, z3, .int 0, .int 0]))]) [1] (by decide) rfl
      have hKc := hK.sub (tys' := []) [] rfl
      refine va_calli (va_runV (As := [.int n1]) (rest := []) ⟨hx, hb, hml, hown, hts⟩ (c_callsAt l dC dI H.size p5 (.ref s0) (z1) (z2) (z3) n1) (cwV 1 hts (gV mw_3_122 mw_3_123 mw_3_124 mw_1_8 mw_3_125) rfl rfl rfl (by decide +kernel) ⟨Nat.le_of_ble_eq_true rfl, Nat.le_of_ble_eq_true rfl⟩) ⟨pcW_blind, va_recv hKc hPc (ci := 3) (q0 := 0) rfl rfl, pcW_at hPc hKc hDc hN⟩ rfl rfl hl.1 rfl (lv_room (Nat.le_of_ble_eq_true rfl)) dX8_hits_18 ⟨Nat.le_of_ble_eq_true rfl, Nat.le_of_ble_eq_true rfl⟩) hS (fun q h1 h2 => absurd h2 (Nat.not_le.mpr h1)) (fun q h => hA q (Nat.le_trans hS.1 h)) (fun r_20 u t H1 locs ht hvm hw_20 hB hz1 hk1 hS => ?_)
      have hP := keepP hP hk1
      clear hz1 hk1 hB ht hvm hPc hDc hKc
      generalize H1 = H at hP hS ⊢
      obtain rfl : r_20 = 0 := hw_20
      exact W.iret (v := 0) hx hb hr (fun t ht hW => ⟨⟨0, (), rfl, (by (unfold F_hits; repeat' split) <;> first | rfl | (exfalso; omega)), trivial⟩, hS.F ht⟩) hS.2.2 dX8_hits_21
  · skip
    refine lv_if_ne (tgt := 9) hx hb dX8_hits_4 (by decide) (fun h => absurd h (by decide)) (fun _ => ?_)
    refine lv_iconst (v := (-1)) hx hb dX8_hits_7 (by decide) ?_
    exact W.iret (v := (-1)) hx hb hr (fun t ht hW => ⟨⟨(-1), (), rfl, (by (unfold F_hits; repeat' split) <;> first | rfl | (exfalso; omega)), trivial⟩, hS.F ht⟩) hS.2.2 dX8_hits_8
set_option maxHeartbeats 4000000 in
set_option maxRecDepth 100000 in
theorem x_need (l : Launch) (dC : Nat → ClassId) (dI : Nat → Nat → Nat) (sz : Nat) (h0 : Nat) (u0 : Value) (u1 : Value) (u2 : Value) (u3 : Value) (u4 : Value) (p5 : Nat) (z0 : Value) (z1 : Value) (z2 : Value) (z3 : Value) (n1 : Int32) (n2 : Int32)  : Met l yX8_need (wq yX8_need cX8_need 4 (some .int)) ({ frames := 1, cells := 0, slots := 0, locals := 25 }) (va_Pc [.ref h0, .int n1, .int n2] (pcW dC dI [] [(h0, .inr (7, [u0, u1, u2, u3, u4, .ref p5])), (p5, .inr (3, [z0, z1, z2, z3, .int 0, .int 0]))] sz)) (va_Qi (fun (r : Int32) (_ : Unit) => r = F_need n1 n2) (fun _ _ => True) (va_A [(h0, .inr (7, [u0, u1, u2, u3, u4, .ref p5])), (p5, .inr (3, [z0, z1, z2, z3, .int 0, .int 0]))] sz)) 0 0 (va_A [(h0, .inr (7, [u0, u1, u2, u3, u4, .ref p5])), (p5, .inr (3, [z0, z1, z2, z3, .int 0, .int 0]))] sz) := by
  refine Met.ofW (cc := cX8_need) (maxL := 4) (ret := (some .int)) (by decide) rfl ?_
  intro p e s m args below meth c s₁ B hml hv
  obtain ⟨rfl, hsz, hN, hP, hK, hD0⟩ := hv
  have hx := B.exec
  have hb := B.bytes
  have hr := B.returns
  have hts0 := atoms_spec (ws := (wq yX8_need cX8_need 4 (some .int))) B.pre
  have hts : ∀ w ∈ BG, w.before _ s = true := fun w h => hts0 w (List.mem_cons_of_mem _ h)
  have hown : s.vm.findClass RX8 = some m.cls := findClass_of_methodNamed B.named
  have hlocks := B.notSynchronized
  subst hsz
  have hD := hD0.self (sz := s.heap.size)
  generalize hAe : va_A [(h0, .inr (7, [u0, u1, u2, u3, u4, .ref p5])), (p5, .inr (3, [z0, z1, z2, z3, .int 0, .int 0]))] s.heap.size = A at hD ⊢
  have hA : ∀ q : Nat, s.heap.size ≤ q → A q := fun q h => by rw [← hAe]; exact Or.inr h
  have hS : va_S A s.heap s.heap [] := va_S.rf
  have hP : va_P (dC, dI) vwCl [(h0, .inr (7, [u0, u1, u2, u3, u4, .ref p5])), (p5, .inr (3, [z0, z1, z2, z3, .int 0, .int 0]))] s.heap := hP
  have hl := lv_entry ([.ref h0, .int n1, .int n2]) (n := 4) (Nat.le_of_ble_eq_true rfl)
  rw [lg_entry_eq]
  generalize (lg_sl ([.ref h0, .int n1, .int n2]) ++ List.replicate (4 - (lg_sl ([.ref h0, .int n1, .int n2])).length) Slot.unset).toArray = ls at hl ⊢
  have hl : lv_has ls 4 [(0, .ref h0), (1, .int n1), (2, .int n2)] := hl
  skip
  refine lv_iload_n hx hb dX8_need_0 rfl (lv_at hl 1 rfl) ?_
  have hPc := hP.sub (ws' := []) [] rfl
  have hDc := hD.sub (ws' := []) [] (by decide) rfl
  have hKc := hK.sub (tys' := []) [] rfl
  refine va_calli (va_runS (As := [.int n1]) (rest := []) ⟨hx, hb, hml, hown, hts⟩ (c_isPlace l dC dI s.heap.size n1) (va_cwS 1 hts (gS mw_3_85 mw_3_86 mw_1_1 mw_3_87) rfl rfl rfl (by decide +kernel) ⟨Nat.le_of_ble_eq_true rfl, Nat.le_of_ble_eq_true rfl⟩) ⟨pcW_blind, pcW_at hPc hKc hDc hN⟩ rfl rfl hl.1 rfl (lv_room (Nat.le_of_ble_eq_true rfl)) dX8_need_1 ⟨Nat.le_of_ble_eq_true rfl, Nat.le_of_ble_eq_true rfl⟩) hS (fun q h1 h2 => absurd h2 (Nat.not_le.mpr h1)) (fun q h => hA q (Nat.le_trans hS.1 h)) (fun r_1 u t H1 locs ht hvm hw_1 hB hz1 hk1 hS => ?_)
  have hP := keepP hP hk1
  clear hz1 hk1 hB ht hvm hPc hDc hKc
  generalize H1 = H at hP hS ⊢
  rcases fx_bool hw_1 with ⟨rfl, b_2⟩ | ⟨rfl, b_2⟩
  · skip
    refine lv_if_ne (tgt := 9) hx hb dX8_need_4 (by decide) (fun _ => ?_) (fun h => absurd h (by decide))
    refine lv_iload_n hx hb dX8_need_9 rfl (lv_at hl 2 rfl) ?_
    refine lv_if_lt (tgt := 19) hx hb dX8_need_10 (by decide) (fun c_3 => ?_) (fun c_3 => ?_)
    · have b_4 := fx_lt (x := n2) (C := 0) (by decide) c_3
      refine lv_bipush (v := (-2)) hx hb dX8_need_19 (by decide) ?_
      exact W.iret (v := (-2)) hx hb hr (fun t ht hW => ⟨⟨(-2), (), rfl, (by (unfold F_need; repeat' split) <;> first | rfl | (exfalso; omega)), trivial⟩, hS.F ht⟩) hS.2.2 dX8_need_21
    · have b_4 := fn_lt (x := n2) (C := 0) (by decide) c_3
      refine lv_iload_n hx hb dX8_need_13 rfl (lv_at hl 2 rfl) ?_
      refine lv_bipush (v := 40) hx hb dX8_need_14 (by decide) ?_
      refine lv_icmp_le (tgt := 22) hx hb dX8_need_16 (by decide) (fun c_5 => ?_) (fun c_5 => ?_)
      · have b_6 := fx_le (x := n2) (C := 40) (by decide) c_5
        refine lv_iconst (v := 1) hx hb dX8_need_22 (by decide) ?_
        refine lv_istore_n (lv' := [(3, .int 1), (0, .ref h0), (1, .int n1), (2, .int n2)]) hx hb dX8_need_23 rfl hl (by decide) rfl (fun ls hl => ?_)
        refine lv_iload_n hx hb dX8_need_24 rfl (lv_at hl 0 rfl) ?_
        refine lv_iconst (v := 4) hx hb dX8_need_25 (by decide) ?_
        refine lv_icmp_gt (tgt := 50) hx hb dX8_need_26 (by decide) (fun h => absurd h (by decide)) (fun _ => ?_)
        refine lv_aload_n hx hb dX8_need_29 rfl (lv_at hl 1 rfl) ?_
        refine va_get (D := (dC, dI)) (ci := 7) (v := .ref p5) (C := RX8) (T := TX8) (N := 6) hx hb hts inB_8 hown hK hP 0 rfl rfl 5 (by decide) (hts _ mw_1_173) (fun _ h9 => h9) rfl dX8_need_30 ?_
        refine lv_iload_n hx hb dX8_need_33 rfl (lv_at hl 2 rfl) ?_
        refine lv_iload_n hx hb dX8_need_34 rfl (lv_at hl 0 rfl) ?_
        have hPc := hP.sub (ws' := [(p5, .inr (3, [z0, z1, z2, z3, .int 0, .int 0]))]) [1] rfl
        have hDc := hD.sub (ws' := [(p5, .inr (3, [z0, z1, z2, z3, .int 0, .int 0]))]) [1] (by decide) rfl
        have hKc := hK.sub (tys' := []) [] rfl
        have hFc := va_free (wc := [(p5, .inr (3, [z0, z1, z2, z3, .int 0, .int 0]))]) hD hS hA [1] rfl
        refine va_calli (va_runV (As := [.int n1, .int 1]) (rest := []) ⟨hx, hb, hml, hown, hts⟩ (c_hbs l dC dI H.size p5 (z0) (z1) (z2) (z3) n1 1) (cwV 2 hts (gV mw_3_127 mw_3_128 mw_3_129 mw_1_8 mw_3_130) rfl rfl rfl (by decide +kernel) ⟨Nat.le_of_ble_eq_true rfl, Nat.le_of_ble_eq_true rfl⟩) ⟨pcW_blind, va_recv hKc hPc (ci := 3) (q0 := 0) rfl rfl, pcW_at hPc hKc hDc hN⟩ rfl rfl hl.1 rfl (lv_room (Nat.le_of_ble_eq_true rfl)) dX8_need_35 ⟨Nat.le_of_ble_eq_true rfl, Nat.le_of_ble_eq_true rfl⟩) hS (fun q _ h => hFc q h) hFc (fun r_7 u t H1 locs ht hvm hw_7 hB hz1 hk1 hS => ?_)
        obtain ⟨hP1, hK1, hD1⟩ := hB
        rw [ht] at hP1
        have hK1 := va_K.moved hvm.symm hK1
        obtain ⟨hP, hD⟩ := va_join (wr := [(h0, .inr (7, [u0, u1, u2, u3, u4, .ref p5]))]) (w1 := [(p5, .inr (3, [z0, z1, z2, z3, .int 0, .int 0]))]) hP hD [1] [0] rfl rfl (by decide) (by decide) hk1 hFc hP1 hD1
        have hK := (hK.sub (tys' := []) [] rfl).app hK1
        clear hz1 hk1 hPc hDc hKc hFc
        generalize H1 = H at hP hS ⊢
        have hK : va_K (dC, dI) vwCl [] s := hK
        have hP : va_P (dC, dI) vwCl [(h0, .inr (7, [u0, u1, u2, u3, u4, .ref p5])), (p5, .inr (3, [z0, z1, z2, z3, .int 0, .int 0]))] H := hP
        have hD : va_D A [(h0, .inr (7, [u0, u1, u2, u3, u4, .ref p5])), (p5, .inr (3, [z0, z1, z2, z3, .int 0, .int 0]))] := hD
        obtain rfl : r_7 = 0 := hw_7
        refine lv_iload_n hx hb dX8_need_38 rfl (lv_at hl 3 rfl) ?_
        refine lv_icmp_lt (tgt := 44) hx hb dX8_need_39 (by decide) (fun c_8 => ?_) (fun c_8 => ?_)
        · have b_9 := fx_gt (x := n2) (C := 0) (by decide) c_8
          refine lv_iinc (v := 2) (lv' := [(3, .int 2), (0, .ref h0), (1, .int n1), (2, .int n2)]) hx hb dX8_need_44 hl (k := 0) rfl (by decide) (by decide) rfl (fun ls hl => ?_)
          refine lv_goto (tgt := 24) hx hb dX8_need_47 (by decide) ?_
          refine lv_iload_n hx hb dX8_need_24 rfl (lv_at hl 0 rfl) ?_
          refine lv_iconst (v := 4) hx hb dX8_need_25 (by decide) ?_
          refine lv_icmp_gt (tgt := 50) hx hb dX8_need_26 (by decide) (fun h => absurd h (by decide)) (fun _ => ?_)
          refine lv_aload_n hx hb dX8_need_29 rfl (lv_at hl 1 rfl) ?_
          refine va_get (D := (dC, dI)) (ci := 7) (v := .ref p5) (C := RX8) (T := TX8) (N := 6) hx hb hts inB_8 hown hK hP 0 rfl rfl 5 (by decide) (hts _ mw_1_173) (fun _ h9 => h9) rfl dX8_need_30 ?_
          refine lv_iload_n hx hb dX8_need_33 rfl (lv_at hl 2 rfl) ?_
          refine lv_iload_n hx hb dX8_need_34 rfl (lv_at hl 0 rfl) ?_
          have hPc := hP.sub (ws' := [(p5, .inr (3, [z0, z1, z2, z3, .int 0, .int 0]))]) [1] rfl
          have hDc := hD.sub (ws' := [(p5, .inr (3, [z0, z1, z2, z3, .int 0, .int 0]))]) [1] (by decide) rfl
          have hKc := hK.sub (tys' := []) [] rfl
          have hFc := va_free (wc := [(p5, .inr (3, [z0, z1, z2, z3, .int 0, .int 0]))]) hD hS hA [1] rfl
          refine va_calli (va_runV (As := [.int n1, .int 2]) (rest := []) ⟨hx, hb, hml, hown, hts⟩ (c_hbs l dC dI H.size p5 (z0) (z1) (z2) (z3) n1 2) (cwV 2 hts (gV mw_3_127 mw_3_128 mw_3_129 mw_1_8 mw_3_130) rfl rfl rfl (by decide +kernel) ⟨Nat.le_of_ble_eq_true rfl, Nat.le_of_ble_eq_true rfl⟩) ⟨pcW_blind, va_recv hKc hPc (ci := 3) (q0 := 0) rfl rfl, pcW_at hPc hKc hDc hN⟩ rfl rfl hl.1 rfl (lv_room (Nat.le_of_ble_eq_true rfl)) dX8_need_35 ⟨Nat.le_of_ble_eq_true rfl, Nat.le_of_ble_eq_true rfl⟩) hS (fun q _ h => hFc q h) hFc (fun r_10 u t H1 locs ht hvm hw_10 hB hz1 hk1 hS => ?_)
          obtain ⟨hP1, hK1, hD1⟩ := hB
          rw [ht] at hP1
          have hK1 := va_K.moved hvm.symm hK1
          obtain ⟨hP, hD⟩ := va_join (wr := [(h0, .inr (7, [u0, u1, u2, u3, u4, .ref p5]))]) (w1 := [(p5, .inr (3, [z0, z1, z2, z3, .int 0, .int 0]))]) hP hD [1] [0] rfl rfl (by decide) (by decide) hk1 hFc hP1 hD1
          have hK := (hK.sub (tys' := []) [] rfl).app hK1
          clear hz1 hk1 hPc hDc hKc hFc
          generalize H1 = H at hP hS ⊢
          have hK : va_K (dC, dI) vwCl [] s := hK
          have hP : va_P (dC, dI) vwCl [(h0, .inr (7, [u0, u1, u2, u3, u4, .ref p5])), (p5, .inr (3, [z0, z1, z2, z3, .int 0, .int 0]))] H := hP
          have hD : va_D A [(h0, .inr (7, [u0, u1, u2, u3, u4, .ref p5])), (p5, .inr (3, [z0, z1, z2, z3, .int 0, .int 0]))] := hD
          obtain rfl : r_10 = 0 := hw_10
          refine lv_iload_n hx hb dX8_need_38 rfl (lv_at hl 3 rfl) ?_
          refine lv_icmp_lt (tgt := 44) hx hb dX8_need_39 (by decide) (fun _ => ?_) (fun h => absurd (fn_gt (x := n2) (C := 0) (by decide) h) (by omega))
          refine lv_iinc (v := 3) (lv' := [(3, .int 3), (0, .ref h0), (1, .int n1), (2, .int n2)]) hx hb dX8_need_44 hl (k := 0) rfl (by decide) (by decide) rfl (fun ls hl => ?_)
          refine lv_goto (tgt := 24) hx hb dX8_need_47 (by decide) ?_
          refine lv_iload_n hx hb dX8_need_24 rfl (lv_at hl 0 rfl) ?_
          refine lv_iconst (v := 4) hx hb dX8_need_25 (by decide) ?_
          refine lv_icmp_gt (tgt := 50) hx hb dX8_need_26 (by decide) (fun h => absurd h (by decide)) (fun _ => ?_)
          refine lv_aload_n hx hb dX8_need_29 rfl (lv_at hl 1 rfl) ?_
          refine va_get (D := (dC, dI)) (ci := 7) (v := .ref p5) (C := RX8) (T := TX8) (N := 6) hx hb hts inB_8 hown hK hP 0 rfl rfl 5 (by decide) (hts _ mw_1_173) (fun _ h9 => h9) rfl dX8_need_30 ?_
          refine lv_iload_n hx hb dX8_need_33 rfl (lv_at hl 2 rfl) ?_
          refine lv_iload_n hx hb dX8_need_34 rfl (lv_at hl 0 rfl) ?_
          have hPc := hP.sub (ws' := [(p5, .inr (3, [z0, z1, z2, z3, .int 0, .int 0]))]) [1] rfl
          have hDc := hD.sub (ws' := [(p5, .inr (3, [z0, z1, z2, z3, .int 0, .int 0]))]) [1] (by decide) rfl
          have hKc := hK.sub (tys' := []) [] rfl
          have hFc := va_free (wc := [(p5, .inr (3, [z0, z1, z2, z3, .int 0, .int 0]))]) hD hS hA [1] rfl
          refine va_calli (va_runV (As := [.int n1, .int 3]) (rest := []) ⟨hx, hb, hml, hown, hts⟩ (c_hbs l dC dI H.size p5 (z0) (z1) (z2) (z3) n1 3) (cwV 2 hts (gV mw_3_127 mw_3_128 mw_3_129 mw_1_8 mw_3_130) rfl rfl rfl (by decide +kernel) ⟨Nat.le_of_ble_eq_true rfl, Nat.le_of_ble_eq_true rfl⟩) ⟨pcW_blind, va_recv hKc hPc (ci := 3) (q0 := 0) rfl rfl, pcW_at hPc hKc hDc hN⟩ rfl rfl hl.1 rfl (lv_room (Nat.le_of_ble_eq_true rfl)) dX8_need_35 ⟨Nat.le_of_ble_eq_true rfl, Nat.le_of_ble_eq_true rfl⟩) hS (fun q _ h => hFc q h) hFc (fun r_11 u t H1 locs ht hvm hw_11 hB hz1 hk1 hS => ?_)
          obtain ⟨hP1, hK1, hD1⟩ := hB
          rw [ht] at hP1
          have hK1 := va_K.moved hvm.symm hK1
          obtain ⟨hP, hD⟩ := va_join (wr := [(h0, .inr (7, [u0, u1, u2, u3, u4, .ref p5]))]) (w1 := [(p5, .inr (3, [z0, z1, z2, z3, .int 0, .int 0]))]) hP hD [1] [0] rfl rfl (by decide) (by decide) hk1 hFc hP1 hD1
          have hK := (hK.sub (tys' := []) [] rfl).app hK1
          clear hz1 hk1 hPc hDc hKc hFc
          generalize H1 = H at hP hS ⊢
          have hK : va_K (dC, dI) vwCl [] s := hK
          have hP : va_P (dC, dI) vwCl [(h0, .inr (7, [u0, u1, u2, u3, u4, .ref p5])), (p5, .inr (3, [z0, z1, z2, z3, .int 0, .int 0]))] H := hP
          have hD : va_D A [(h0, .inr (7, [u0, u1, u2, u3, u4, .ref p5])), (p5, .inr (3, [z0, z1, z2, z3, .int 0, .int 0]))] := hD
          obtain rfl : r_11 = 0 := hw_11
          refine lv_iload_n hx hb dX8_need_38 rfl (lv_at hl 3 rfl) ?_
          refine lv_icmp_lt (tgt := 44) hx hb dX8_need_39 (by decide) (fun _ => ?_) (fun h => absurd (fn_gt (x := n2) (C := 0) (by decide) h) (by omega))
          refine lv_iinc (v := 4) (lv' := [(3, .int 4), (0, .ref h0), (1, .int n1), (2, .int n2)]) hx hb dX8_need_44 hl (k := 0) rfl (by decide) (by decide) rfl (fun ls hl => ?_)
          refine lv_goto (tgt := 24) hx hb dX8_need_47 (by decide) ?_
          refine lv_iload_n hx hb dX8_need_24 rfl (lv_at hl 0 rfl) ?_
          refine lv_iconst (v := 4) hx hb dX8_need_25 (by decide) ?_
          refine lv_icmp_gt (tgt := 50) hx hb dX8_need_26 (by decide) (fun h => absurd h (by decide)) (fun _ => ?_)
          refine lv_aload_n hx hb dX8_need_29 rfl (lv_at hl 1 rfl) ?_
          refine va_get (D := (dC, dI)) (ci := 7) (v := .ref p5) (C := RX8) (T := TX8) (N := 6) hx hb hts inB_8 hown hK hP 0 rfl rfl 5 (by decide) (hts _ mw_1_173) (fun _ h9 => h9) rfl dX8_need_30 ?_
          refine lv_iload_n hx hb dX8_need_33 rfl (lv_at hl 2 rfl) ?_
          refine lv_iload_n hx hb dX8_need_34 rfl (lv_at hl 0 rfl) ?_
          have hPc := hP.sub (ws' := [(p5, .inr (3, [z0, z1, z2, z3, .int 0, .int 0]))]) [1] rfl
          have hDc := hD.sub (ws' := [(p5, .inr (3, [z0, z1, z2, z3, .int 0, .int 0]))]) [1] (by decide) rfl
          have hKc := hK.sub (tys' := []) [] rfl
          have hFc := va_free (wc := [(p5, .inr (3, [z0, z1, z2, z3, .int 0, .int 0]))]) hD hS hA [1] rfl
          refine va_calli (va_runV (As := [.int n1, .int 4]) (rest := []) ⟨hx, hb, hml, hown, hts⟩ (c_hbs l dC dI H.size p5 (z0) (z1) (z2) (z3) n1 4) (cwV 2 hts (gV mw_3_127 mw_3_128 mw_3_129 mw_1_8 mw_3_130) rfl rfl rfl (by decide +kernel) ⟨Nat.le_of_ble_eq_true rfl, Nat.le_of_ble_eq_true rfl⟩) ⟨pcW_blind, va_recv hKc hPc (ci := 3) (q0 := 0) rfl rfl, pcW_at hPc hKc hDc hN⟩ rfl rfl hl.1 rfl (lv_room (Nat.le_of_ble_eq_true rfl)) dX8_need_35 ⟨Nat.le_of_ble_eq_true rfl, Nat.le_of_ble_eq_true rfl⟩) hS (fun q _ h => hFc q h) hFc (fun r_12 u t H1 locs ht hvm hw_12 hB hz1 hk1 hS => ?_)
          obtain ⟨hP1, hK1, hD1⟩ := hB
          rw [ht] at hP1
          have hK1 := va_K.moved hvm.symm hK1
          obtain ⟨hP, hD⟩ := va_join (wr := [(h0, .inr (7, [u0, u1, u2, u3, u4, .ref p5]))]) (w1 := [(p5, .inr (3, [z0, z1, z2, z3, .int 0, .int 0]))]) hP hD [1] [0] rfl rfl (by decide) (by decide) hk1 hFc hP1 hD1
          have hK := (hK.sub (tys' := []) [] rfl).app hK1
          clear hz1 hk1 hPc hDc hKc hFc
          generalize H1 = H at hP hS ⊢
          have hK : va_K (dC, dI) vwCl [] s := hK
          have hP : va_P (dC, dI) vwCl [(h0, .inr (7, [u0, u1, u2, u3, u4, .ref p5])), (p5, .inr (3, [z0, z1, z2, z3, .int 0, .int 0]))] H := hP
          have hD : va_D A [(h0, .inr (7, [u0, u1, u2, u3, u4, .ref p5])), (p5, .inr (3, [z0, z1, z2, z3, .int 0, .int 0]))] := hD
          obtain rfl : r_12 = 0 := hw_12
          refine lv_iload_n hx hb dX8_need_38 rfl (lv_at hl 3 rfl) ?_
          refine lv_icmp_lt (tgt := 44) hx hb dX8_need_39 (by decide) (fun _ => ?_) (fun h => absurd (fn_gt (x := n2) (C := 0) (by decide) h) (by omega))
          refine lv_iinc (v := 5) (lv' := [(3, .int 5), (0, .ref h0), (1, .int n1), (2, .int n2)]) hx hb dX8_need_44 hl (k := 0) rfl (by decide) (by decide) rfl (fun ls hl => ?_)
          refine lv_goto (tgt := 24) hx hb dX8_need_47 (by decide) ?_
          refine lv_iload_n hx hb dX8_need_24 rfl (lv_at hl 0 rfl) ?_
          refine lv_iconst (v := 4) hx hb dX8_need_25 (by decide) ?_
          refine lv_icmp_gt (tgt := 50) hx hb dX8_need_26 (by decide) (fun _ => ?_) (fun h => absurd (by decide) h)
          refine lv_bipush (v := (-6)) hx hb dX8_need_50 (by decide) ?_
          exact W.iret (v := (-6)) hx hb hr (fun t ht hW => ⟨⟨(-6), (), rfl, (by (unfold F_need; repeat' split) <;> first | rfl | (exfalso; omega)), trivial⟩, hS.F ht⟩) hS.2.2 dX8_need_52
        · have b_9 := fn_gt (x := n2) (C := 0) (by decide) c_8
          refine lv_iload_n hx hb dX8_need_42 rfl (lv_at hl 0 rfl) ?_
          exact W.iret (v := 1) hx hb hr (fun t ht hW => ⟨⟨1, (), rfl, (by (unfold F_need; repeat' split) <;> first | rfl | (exfalso; omega)), trivial⟩, hS.F ht⟩) hS.2.2 dX8_need_43
      · have b_6 := fn_le (x := n2) (C := 40) (by decide) c_5
        refine lv_bipush (v := (-2)) hx hb dX8_need_19 (by decide) ?_
        exact W.iret (v := (-2)) hx hb hr (fun t ht hW => ⟨⟨(-2), (), rfl, (by (unfold F_need; repeat' split) <;> first | rfl | (exfalso; omega)), trivial⟩, hS.F ht⟩) hS.2.2 dX8_need_21
  · skip
    refine lv_if_ne (tgt := 9) hx hb dX8_need_4 (by decide) (fun h => absurd h (by decide)) (fun _ => ?_)
    refine lv_iconst (v := (-1)) hx hb dX8_need_7 (by decide) ?_
    exact W.iret (v := (-1)) hx hb hr (fun t ht hW => ⟨⟨(-1), (), rfl, (by (unfold F_need; repeat' split) <;> first | rfl | (exfalso; omega)), trivial⟩, hS.F ht⟩) hS.2.2 dX8_need_8
set_option maxHeartbeats 4000000 in
set_option maxRecDepth 100000 in
theorem x_told (l : Launch) (dC : Nat → ClassId) (dI : Nat → Nat → Nat) (sz : Nat) (h0 : Nat) (p1 : Nat) (p2 : Nat) (p3 : Nat) (u3 : Value) (u4 : Value) (p5 : Nat) (w0 : Value) (w1 : Value) (w2 : Value) (w3 : Value) (w4 : Value) (w5 : Value) (w7 : Value) (y0 : Value) (e0 : Nat) (z1 : Value) (z2 : Value) (ke0 : ClassId) (x0 : Value) (x1 : Value) (x2 : Value) (x3 : Value) (n1 : Int32)  : Met l yX8_told (wq yX8_told cX8_told 2 (some .int)) ({ frames := 4, cells := 0, slots := 0, locals := 86 }) (va_Pc [.ref h0, .int n1] (pcW dC dI [(ke0, .int)] [(h0, .inr (7, [.ref p1, .ref p2, .ref p3, u3, u4, .ref p5])), (p1, .inr (1, [w0, w1, w2, w3, w4, w5, .int 0, w7])), (p2, .inr (2, [y0, .int 0])), (p3, .inr (0, [.ref e0, z1, z2])), (e0, .inl (ke0, 8, .inl (fun _ => 0))), (p5, .inr (3, [x0, x1, x2, x3, .int 0, .int 0]))] sz)) (va_Qi (fun (r : Int32) (_ : Unit) => r = F_told n1) (fun _ _ => True) (fun q : Nat => sz ≤ q)) 0 0 (fun q : Nat => sz ≤ q) := by
  refine Met.ofW (cc := cX8_told) (maxL := 2) (ret := (some .int)) (by decide) rfl ?_
  intro p e s m args below meth c s₁ B hml hv
  obtain ⟨rfl, hsz, hN, hP, hK, hD0⟩ := hv
  have hx := B.exec
  have hb := B.bytes
  have hr := B.returns
  have hts0 := atoms_spec (ws := (wq yX8_told cX8_told 2 (some .int))) B.pre
  have hts : ∀ w ∈ BG, w.before _ s = true := fun w h => hts0 w (List.mem_cons_of_mem _ h)
  have hown : s.vm.findClass RX8 = some m.cls := findClass_of_methodNamed B.named
  have hlocks := B.notSynchronized
  subst hsz
  have hA : ∀ q : Nat, s.heap.size ≤ q → (fun q : Nat => s.heap.size ≤ q) q := fun _ h => h
  have hD := hD0
  have hS : va_S (fun q : Nat => s.heap.size ≤ q) s.heap s.heap [] := va_S.rf
  have hP : va_P (dC, dI) vwCl [(h0, .inr (7, [.ref p1, .ref p2, .ref p3, u3, u4, .ref p5])), (p1, .inr (1, [w0, w1, w2, w3, w4, w5, .int 0, w7])), (p2, .inr (2, [y0, .int 0])), (p3, .inr (0, [.ref e0, z1, z2])), (e0, .inl (ke0, 8, .inl (fun _ => 0))), (p5, .inr (3, [x0, x1, x2, x3, .int 0, .int 0]))] s.heap := hP
  have hl := lv_entry ([.ref h0, .int n1]) (n := 2) (Nat.le_of_ble_eq_true rfl)
  rw [lg_entry_eq]
  generalize (lg_sl ([.ref h0, .int n1]) ++ List.replicate (2 - (lg_sl ([.ref h0, .int n1])).length) Slot.unset).toArray = ls at hl ⊢
  have hl : lv_has ls 2 [(0, .ref h0), (1, .int n1)] := hl
  skip
  refine lv_iload_n hx hb dX8_told_0 rfl (lv_at hl 1 rfl) ?_
  refine lv_if_ne (tgt := 12) hx hb dX8_told_1 (by decide) (fun c_1 => ?_) (fun c_1 => ?_)
  · have b_2 := fx_ne (x := n1) (C := 0) (by decide) c_1
    refine lv_iload_n hx hb dX8_told_12 rfl (lv_at hl 1 rfl) ?_
    refine lv_iconst (v := 1) hx hb dX8_told_13 (by decide) ?_
    refine lv_icmp_ne (tgt := 25) hx hb dX8_told_14 (by decide) (fun c_3 => ?_) (fun c_3 => ?_)
    · have b_4 := fx_ne (x := n1) (C := 1) (by decide) c_3
      refine lv_iload_n hx hb dX8_told_25 rfl (lv_at hl 1 rfl) ?_
      refine lv_iconst (v := 2) hx hb dX8_told_26 (by decide) ?_
      refine lv_icmp_ne (tgt := 38) hx hb dX8_told_27 (by decide) (fun c_5 => ?_) (fun c_5 => ?_)
      · have b_6 := fx_ne (x := n1) (C := 2) (by decide) c_5
        refine lv_iload_n hx hb dX8_told_38 rfl (lv_at hl 1 rfl) ?_
        refine lv_bipush (v := 10) hx hb dX8_told_39 (by decide) ?_
        refine lv_icmp_lt (tgt := 62) hx hb dX8_told_41 (by decide) (fun c_7 => ?_) (fun c_7 => ?_)
        · have b_8 := fx_lt (x := n1) (C := 10) (by decide) c_7
          refine lv_iload_n hx hb dX8_told_62 rfl (lv_at hl 1 rfl) ?_
          refine lv_bipush (v := 20) hx hb dX8_told_63 (by decide) ?_
          refine lv_icmp_lt (tgt := 94) hx hb dX8_told_65 (by decide) (fun _ => ?_) (fun h => absurd (fn_lt (x := n1) (C := 20) (by decide) h) (by omega))
          refine lv_bipush (v := (-2)) hx hb dX8_told_94 (by decide) ?_
          exact W.iret (v := (-2)) hx hb hr (fun t ht hW => ⟨⟨(-2), (), rfl, (by (unfold F_told; repeat' split) <;> first | rfl | (exfalso; omega)), trivial⟩, hS.F ht⟩) hS.2.2 dX8_told_96
        · have b_8 := fn_lt (x := n1) (C := 10) (by decide) c_7
          refine lv_iload_n hx hb dX8_told_44 rfl (lv_at hl 1 rfl) ?_
          refine lv_bipush (v := 20) hx hb dX8_told_45 (by decide) ?_
          refine lv_icmp_ge (tgt := 62) hx hb dX8_told_47 (by decide) (fun c_9 => ?_) (fun c_9 => ?_)
          · have b_10 := fx_ge (x := n1) (C := 20) (by decide) c_9
            refine lv_iload_n hx hb dX8_told_62 rfl (lv_at hl 1 rfl) ?_
            refine lv_bipush (v := 20) hx hb dX8_told_63 (by decide) ?_
            refine lv_icmp_lt (tgt := 94) hx hb dX8_told_65 (by decide) (fun h => absurd (fx_lt (x := n1) (C := 20) (by decide) h) (by omega)) (fun _ => ?_)
            refine lv_iload_n hx hb dX8_told_68 rfl (lv_at hl 1 rfl) ?_
            refine lv_bipush (v := 30) hx hb dX8_told_69 (by decide) ?_
            refine lv_icmp_ge (tgt := 94) hx hb dX8_told_71 (by decide) (fun c_11 => ?_) (fun c_11 => ?_)
            · have b_12 := fx_ge (x := n1) (C := 30) (by decide) c_11
              refine lv_bipush (v := (-2)) hx hb dX8_told_94 (by decide) ?_
              exact W.iret (v := (-2)) hx hb hr (fun t ht hW => ⟨⟨(-2), (), rfl, (by (unfold F_told; repeat' split) <;> first | rfl | (exfalso; omega)), trivial⟩, hS.F ht⟩) hS.2.2 dX8_told_96
            · have b_12 := fn_ge (x := n1) (C := 30) (by decide) c_11
              refine lv_aload_n hx hb dX8_told_74 rfl (lv_at hl 0 rfl) ?_
              refine va_get (D := (dC, dI)) (ci := 7) (v := .ref p1) (C := RX8) (T := TX8) (N := 6) hx hb hts inB_8 hown hK hP 0 rfl rfl 0 (by decide) (hts _ mw_1_168) (fun _ h9 => h9) rfl dX8_told_75 ?_
              refine lv_iload_n hx hb dX8_told_78 rfl (lv_at hl 1 rfl) ?_
              refine lv_bipush (v := 20) hx hb dX8_told_79 (by decide) ?_
              refine lv_isub hx hb dX8_told_81 ?_
              refine lv_topi (fun z_13 ez_13 => ?_)
              have fz_13 : Int32.toInt z_13 = Int32.toInt n1 - 20 := by rw [ez_13]; exact fx_sub (C := 20) (by decide) (by omega) (by omega)
              have hPc := hP.sub (ws' := [(p1, .inr (1, [w0, w1, w2, w3, w4, w5, .int 0, w7]))]) [1] rfl
              have hDc := hD.sub (ws' := [(p1, .inr (1, [w0, w1, w2, w3, w4, w5, .int 0, w7]))]) [1] (by decide) rfl
              have hKc := hK.sub (tys' := []) [] rfl
              refine va_calli (va_runV (As := [.int z_13]) (rest := []) ⟨hx, hb, hml, hown, hts⟩ (c_isBare0 l dC dI s.heap.size p1 (w0) (w1) (w2) (w3) (w4) (w5) (w7) z_13) (cwV 1 hts (gV mw_2_28 mw_2_29 mw_2_30 mw_1_2 mw_2_31) rfl rfl rfl (by decide +kernel) ⟨Nat.le_of_ble_eq_true rfl, Nat.le_of_ble_eq_true rfl⟩) ⟨pcW_blind, va_recv hKc hPc (ci := 1) (q0 := 0) rfl rfl, pcW_at hPc hKc hDc hN⟩ rfl rfl hl.1 rfl (lv_room (Nat.le_of_ble_eq_true rfl)) dX8_told_82 ⟨Nat.le_of_ble_eq_true rfl, Nat.le_of_ble_eq_true rfl⟩) hS (fun q h1 h2 => absurd h2 (Nat.not_le.mpr h1)) (fun q h => hA q (Nat.le_trans hS.1 h)) (fun r_14 u t H1 locs ht hvm hw_14 hB hz1 hk1 hS => ?_)
              have hP := keepP hP hk1
              clear hz1 hk1 hB ht hvm hPc hDc hKc
              generalize H1 = H at hP hS ⊢
              obtain rfl : r_14 = 0 := hw_14
              refine lv_if_eq (tgt := 92) hx hb dX8_told_85 (by decide) (fun _ => ?_) (fun h => absurd (by decide) h)
              refine lv_iconst (v := 0) hx hb dX8_told_92 (by decide) ?_
              exact W.iret (v := 0) hx hb hr (fun t ht hW => ⟨⟨0, (), rfl, (by (unfold F_told; repeat' split) <;> first | rfl | (exfalso; omega)), trivial⟩, hS.F ht⟩) hS.2.2 dX8_told_93
          · have b_10 := fn_ge (x := n1) (C := 20) (by decide) c_9
            refine lv_aload_n hx hb dX8_told_50 rfl (lv_at hl 0 rfl) ?_
            refine va_get (D := (dC, dI)) (ci := 7) (v := .ref p3) (C := RX8) (T := TX8) (N := 6) hx hb hts inB_8 hown hK hP 0 rfl rfl 2 (by decide) (hts _ mw_1_170) (fun _ h9 => h9) rfl dX8_told_51 ?_
            refine lv_iload_n hx hb dX8_told_54 rfl (lv_at hl 1 rfl) ?_
            refine lv_bipush (v := 10) hx hb dX8_told_55 (by decide) ?_
            refine lv_isub hx hb dX8_told_57 ?_
            refine lv_topi (fun z_15 ez_15 => ?_)
            have fz_15 : Int32.toInt z_15 = Int32.toInt n1 - 10 := by rw [ez_15]; exact fx_sub (C := 10) (by decide) (by omega) (by omega)
            have hPc := hP.sub (ws' := [(p3, .inr (0, [.ref e0, z1, z2])), (e0, .inl (ke0, 8, .inl (fun _ => 0)))]) [3, 4] rfl
            have hDc := hD.sub (ws' := [(p3, .inr (0, [.ref e0, z1, z2])), (e0, .inl (ke0, 8, .inl (fun _ => 0)))]) [3, 4] (by decide) rfl
            have hKc := hK.sub (tys' := [(ke0, .int)]) [0] rfl
            refine va_calli (va_runV (As := [.int z_15]) (rest := []) ⟨hx, hb, hml, hown, hts⟩ (c_names l dC dI s.heap.size p3 e0 (z1) (z2) ke0 z_15) (cwV 1 hts (gV mw_3_171 mw_3_172 mw_3_173 mw_1_5 mw_3_174) rfl rfl rfl (by decide +kernel) ⟨Nat.le_of_ble_eq_true rfl, Nat.le_of_ble_eq_true rfl⟩) ⟨pcW_blind, va_recv hKc hPc (ci := 0) (q0 := 0) rfl rfl, pcW_at hPc hKc hDc hN⟩ rfl rfl hl.1 rfl (lv_room (Nat.le_of_ble_eq_true rfl)) dX8_told_58 ⟨Nat.le_of_ble_eq_true rfl, Nat.le_of_ble_eq_true rfl⟩) hS (fun q h1 h2 => absurd h2 (Nat.not_le.mpr h1)) (fun q h => hA q (Nat.le_trans hS.1 h)) (fun r_16 u t H1 locs ht hvm hw_16 hB hz1 hk1 hS => ?_)
            have hP := keepP hP hk1
            clear hz1 hk1 hB ht hvm hPc hDc hKc
            generalize H1 = H at hP hS ⊢
            obtain rfl : r_16 = 0 := hw_16
            exact W.iret (v := 0) hx hb hr (fun t ht hW => ⟨⟨0, (), rfl, (by (unfold F_told; repeat' split) <;> first | rfl | (exfalso; omega)), trivial⟩, hS.F ht⟩) hS.2.2 dX8_told_61
      · have b_6 := fn_ne (x := n1) (C := 2) (by decide) c_5
        refine lv_aload_n hx hb dX8_told_30 rfl (lv_at hl 0 rfl) ?_
        refine va_get (D := (dC, dI)) (ci := 7) (v := .ref p5) (C := RX8) (T := TX8) (N := 6) hx hb hts inB_8 hown hK hP 0 rfl rfl 5 (by decide) (hts _ mw_1_173) (fun _ h9 => h9) rfl dX8_told_31 ?_
        have hPc := hP.sub (ws' := [(p5, .inr (3, [x0, x1, x2, x3, .int 0, .int 0]))]) [5] rfl
        have hDc := hD.sub (ws' := [(p5, .inr (3, [x0, x1, x2, x3, .int 0, .int 0]))]) [5] (by decide) rfl
        have hKc := hK.sub (tys' := []) [] rfl
        refine va_calli (va_runV (As := []) (rest := []) ⟨hx, hb, hml, hown, hts⟩ (c_plHow l dC dI s.heap.size p5 (x0) (x1) (x2) (x3)) (cwV 0 hts (gV mw_3_167 mw_3_168 mw_3_169 mw_1_8 mw_3_170) rfl rfl rfl (by decide +kernel) ⟨Nat.le_of_ble_eq_true rfl, Nat.le_of_ble_eq_true rfl⟩) ⟨pcW_blind, va_recv hKc hPc (ci := 3) (q0 := 0) rfl rfl, pcW_at hPc hKc hDc hN⟩ rfl rfl hl.1 rfl (lv_room (Nat.le_of_ble_eq_true rfl)) dX8_told_34 ⟨Nat.le_of_ble_eq_true rfl, Nat.le_of_ble_eq_true rfl⟩) hS (fun q h1 h2 => absurd h2 (Nat.not_le.mpr h1)) (fun q h => hA q (Nat.le_trans hS.1 h)) (fun r_17 u t H1 locs ht hvm hw_17 hB hz1 hk1 hS => ?_)
        have hP := keepP hP hk1
        clear hz1 hk1 hB ht hvm hPc hDc hKc
        generalize H1 = H at hP hS ⊢
        obtain rfl : r_17 = 0 := hw_17
        exact W.iret (v := 0) hx hb hr (fun t ht hW => ⟨⟨0, (), rfl, (by (unfold F_told; repeat' split) <;> first | rfl | (exfalso; omega)), trivial⟩, hS.F ht⟩) hS.2.2 dX8_told_37
    · have b_4 := fn_ne (x := n1) (C := 1) (by decide) c_3
      refine lv_aload_n hx hb dX8_told_17 rfl (lv_at hl 0 rfl) ?_
      refine va_get (D := (dC, dI)) (ci := 7) (v := .ref p2) (C := RX8) (T := TX8) (N := 6) hx hb hts inB_8 hown hK hP 0 rfl rfl 1 (by decide) (hts _ mw_1_169) (fun _ h9 => h9) rfl dX8_told_18 ?_
      have hPc := hP.sub (ws' := [(p2, .inr (2, [y0, .int 0]))]) [2] rfl
      have hDc := hD.sub (ws' := [(p2, .inr (2, [y0, .int 0]))]) [2] (by decide) rfl
      have hKc := hK.sub (tys' := []) [] rfl
      refine va_calli (va_runV (As := []) (rest := []) ⟨hx, hb, hml, hown, hts⟩ (c_pLen l dC dI s.heap.size p2 (y0)) (cwV 0 hts (gV mw_3_166 mw_2_118 mw_2_119 mw_1_4 mw_2_120) rfl rfl rfl (by decide +kernel) ⟨Nat.le_of_ble_eq_true rfl, Nat.le_of_ble_eq_true rfl⟩) ⟨pcW_blind, va_recv hKc hPc (ci := 2) (q0 := 0) rfl rfl, pcW_at hPc hKc hDc hN⟩ rfl rfl hl.1 rfl (lv_room (Nat.le_of_ble_eq_true rfl)) dX8_told_21 ⟨Nat.le_of_ble_eq_true rfl, Nat.le_of_ble_eq_true rfl⟩) hS (fun q h1 h2 => absurd h2 (Nat.not_le.mpr h1)) (fun q h => hA q (Nat.le_trans hS.1 h)) (fun r_18 u t H1 locs ht hvm hw_18 hB hz1 hk1 hS => ?_)
      have hP := keepP hP hk1
      clear hz1 hk1 hB ht hvm hPc hDc hKc
      generalize H1 = H at hP hS ⊢
      obtain rfl : r_18 = 0 := hw_18
      exact W.iret (v := 0) hx hb hr (fun t ht hW => ⟨⟨0, (), rfl, (by (unfold F_told; repeat' split) <;> first | rfl | (exfalso; omega)), trivial⟩, hS.F ht⟩) hS.2.2 dX8_told_24
  · have b_2 := fn_ne (x := n1) (C := 0) (by decide) c_1
    refine lv_aload_n hx hb dX8_told_4 rfl (lv_at hl 0 rfl) ?_
    refine va_get (D := (dC, dI)) (ci := 7) (v := .ref p1) (C := RX8) (T := TX8) (N := 6) hx hb hts inB_8 hown hK hP 0 rfl rfl 0 (by decide) (hts _ mw_1_168) (fun _ h9 => h9) rfl dX8_told_5 ?_
    have hPc := hP.sub (ws' := [(p1, .inr (1, [w0, w1, w2, w3, w4, w5, .int 0, w7]))]) [1] rfl
    have hDc := hD.sub (ws' := [(p1, .inr (1, [w0, w1, w2, w3, w4, w5, .int 0, w7]))]) [1] (by decide) rfl
    have hKc := hK.sub (tys' := []) [] rfl
    refine va_calli (va_runV (As := []) (rest := []) ⟨hx, hb, hml, hown, hts⟩ (c_howMany l dC dI s.heap.size p1 (w0) (w1) (w2) (w3) (w4) (w5) (w7)) (cwV 0 hts (gV mw_3_165 mw_2_210 mw_2_211 mw_1_2 mw_2_212) rfl rfl rfl (by decide +kernel) ⟨Nat.le_of_ble_eq_true rfl, Nat.le_of_ble_eq_true rfl⟩) ⟨pcW_blind, va_recv hKc hPc (ci := 1) (q0 := 0) rfl rfl, pcW_at hPc hKc hDc hN⟩ rfl rfl hl.1 rfl (lv_room (Nat.le_of_ble_eq_true rfl)) dX8_told_8 ⟨Nat.le_of_ble_eq_true rfl, Nat.le_of_ble_eq_true rfl⟩) hS (fun q h1 h2 => absurd h2 (Nat.not_le.mpr h1)) (fun q h => hA q (Nat.le_trans hS.1 h)) (fun r_19 u t H1 locs ht hvm hw_19 hB hz1 hk1 hS => ?_)
    have hP := keepP hP hk1
    clear hz1 hk1 hB ht hvm hPc hDc hKc
    generalize H1 = H at hP hS ⊢
    obtain rfl : r_19 = 0 := hw_19
    exact W.iret (v := 0) hx hb hr (fun t ht hW => ⟨⟨0, (), rfl, (by (unfold F_told; repeat' split) <;> first | rfl | (exfalso; omega)), trivial⟩, hS.F ht⟩) hS.2.2 dX8_told_11
end
section
theorem mw_3_217 : Cond.laysFinal RX9 "AnswerLinesModel" "parents" "[I" ∈ BG := mB (t3 (i := 217) (by decide +kernel)) (by decide +kernel)
theorem mw_3_219 : Cond.laysFinal RX9 "AnswerLinesModel" "parentMany" "[I" ∈ BG := mB (t3 (i := 219) (by decide +kernel)) (by decide +kernel)
theorem mw_3_221 : Cond.laysFinal RX9 "AnswerLinesModel" "above" "[I" ∈ BG := mB (t3 (i := 221) (by decide +kernel)) (by decide +kernel)
theorem mw_3_223 : Cond.laysFinal RX9 "AnswerLinesModel" "isBare" "[Z" ∈ BG := mB (t3 (i := 223) (by decide +kernel)) (by decide +kernel)
theorem mw_3_225 : Cond.lays RX9 "AnswerLinesModel" "kinds" "I" ∈ BG := mB (t3 (i := 225) (by decide +kernel)) (by decide +kernel)
theorem mw_3_227 : Cond.laysFinal RX9 "AnswerLinesModel" "lines" "[I" ∈ BG := mB (t3 (i := 227) (by decide +kernel)) (by decide +kernel)
theorem mw_3_229 : Cond.laysFinal RX9 "AnswerLinesModel" "lineLong" "[I" ∈ BG := mB (t3 (i := 229) (by decide +kernel)) (by decide +kernel)
theorem mw_3_231 : Cond.laysFinal RX9 "AnswerLinesModel" "quarrels" "[I" ∈ BG := mB (t3 (i := 231) (by decide +kernel)) (by decide +kernel)
theorem mw_3_233 : Cond.laysFinal RX9 "AnswerLinesModel" "rows" "[I" ∈ BG := mB (t3 (i := 233) (by decide +kernel)) (by decide +kernel)
theorem mw_3_235 : Cond.laysFinal RX9 "AnswerLinesModel" "rowAt" "[I" ∈ BG := mB (t3 (i := 235) (by decide +kernel)) (by decide +kernel)
theorem mw_3_237 : Cond.laysFinal RX9 "AnswerLinesModel" "rowEnd" "[I" ∈ BG := mB (t3 (i := 237) (by decide +kernel)) (by decide +kernel)
theorem mw_3_239 : Cond.lays RX9 "AnswerLinesModel" "rowMany" "I" ∈ BG := mB (t3 (i := 239) (by decide +kernel)) (by decide +kernel)
theorem mw_4_1 : Cond.laysFinal RX9 "AnswerLinesModel" "signs" "[I" ∈ BG := mB (t4 (i := 1) (by decide +kernel)) (by decide +kernel)
theorem mw_4_3 : Cond.laysFinal RX9 "AnswerLinesModel" "signMany" "[I" ∈ BG := mB (t4 (i := 3) (by decide +kernel)) (by decide +kernel)
theorem mw_4_5 : Cond.laysFinal RX9 "AnswerLinesModel" "names" "[I" ∈ BG := mB (t4 (i := 5) (by decide +kernel)) (by decide +kernel)
theorem mw_4_7 : Cond.laysFinal RX9 "AnswerLinesModel" "openPlace" "[I" ∈ BG := mB (t4 (i := 7) (by decide +kernel)) (by decide +kernel)
theorem mw_4_9 : Cond.laysFinal RX9 "AnswerLinesModel" "openName" "[I" ∈ BG := mB (t4 (i := 9) (by decide +kernel)) (by decide +kernel)
theorem mw_4_11 : Cond.laysFinal RX9 "AnswerLinesModel" "openSign" "[I" ∈ BG := mB (t4 (i := 11) (by decide +kernel)) (by decide +kernel)
theorem mw_4_13 : Cond.lays RX9 "AnswerLinesModel" "open" "I" ∈ BG := mB (t4 (i := 13) (by decide +kernel)) (by decide +kernel)
theorem mw_4_15 : Cond.lays RX9 "AnswerLinesModel" "worked" "I" ∈ BG := mB (t4 (i := 15) (by decide +kernel)) (by decide +kernel)
theorem mw_4_17 : Cond.laysFinal RX9 "AnswerLinesModel" "said" "[I" ∈ BG := mB (t4 (i := 17) (by decide +kernel)) (by decide +kernel)
theorem mw_4_19 : Cond.lays RX9 "AnswerLinesModel" "saidMany" "I" ∈ BG := mB (t4 (i := 19) (by decide +kernel)) (by decide +kernel)
theorem mw_4_21 : Cond.lays RX9 "AnswerLinesModel" "endIs" "I" ∈ BG := mB (t4 (i := 21) (by decide +kernel)) (by decide +kernel)
theorem mw_4_23 : Cond.laysFinal RX9 "AnswerLinesModel" "against" "[I" ∈ BG := mB (t4 (i := 23) (by decide +kernel)) (by decide +kernel)
theorem mw_4_25 : Cond.laysFinal RX9 "AnswerLinesModel" "columns" "[I" ∈ BG := mB (t4 (i := 25) (by decide +kernel)) (by decide +kernel)
theorem mw_4_27 : Cond.lays RX9 "AnswerLinesModel" "columnMany" "I" ∈ BG := mB (t4 (i := 27) (by decide +kernel)) (by decide +kernel)
theorem mw_4_29 : Cond.laysFinal RX9 "AnswerLinesModel" "slots" "[I" ∈ BG := mB (t4 (i := 29) (by decide +kernel)) (by decide +kernel)
theorem mw_4_31 : Cond.laysFinal RX9 "AnswerLinesModel" "pushed" "[I" ∈ BG := mB (t4 (i := 31) (by decide +kernel)) (by decide +kernel)
theorem mw_4_33 : Cond.lays RX9 "AnswerLinesModel" "packedLong" "I" ∈ BG := mB (t4 (i := 33) (by decide +kernel)) (by decide +kernel)
theorem mw_4_35 : Cond.laysFinal RX9 "AnswerLinesModel" "callPlace" "[I" ∈ BG := mB (t4 (i := 35) (by decide +kernel)) (by decide +kernel)
theorem mw_4_37 : Cond.laysFinal RX9 "AnswerLinesModel" "callKind" "[I" ∈ BG := mB (t4 (i := 37) (by decide +kernel)) (by decide +kernel)
theorem mw_4_39 : Cond.lays RX9 "AnswerLinesModel" "calls" "I" ∈ BG := mB (t4 (i := 39) (by decide +kernel)) (by decide +kernel)
theorem mw_4_41 : Cond.laysFinal RX9 "AnswerLinesModel" "sizes" "[I" ∈ BG := mB (t4 (i := 41) (by decide +kernel)) (by decide +kernel)
theorem mw_4_43 : Cond.laysFinal RX9 "AnswerLinesModel" "remembered" "[I" ∈ BG := mB (t4 (i := 43) (by decide +kernel)) (by decide +kernel)
theorem mw_4_45 : Cond.lays RX9 "AnswerLinesModel" "rememberedMany" "I" ∈ BG := mB (t4 (i := 45) (by decide +kernel)) (by decide +kernel)
theorem inB_9 : ∀ w ∈ u_ws RX9 TX9 35, w ∈ BG := fun w hw => by
  obtain ⟨k, hk, rfl⟩ := List.mem_map.mp hw
  have hk := List.mem_range.mp hk
  rcases (by omega : k = 0 ∨ k = 1 ∨ k = 2 ∨ k = 3 ∨ k = 4 ∨ k = 5 ∨ k = 6 ∨ k = 7 ∨ k = 8 ∨ k = 9 ∨ k = 10 ∨ k = 11 ∨ k = 12 ∨ k = 13 ∨ k = 14 ∨ k = 15 ∨ k = 16 ∨ k = 17 ∨ k = 18 ∨ k = 19 ∨ k = 20 ∨ k = 21 ∨ k = 22 ∨ k = 23 ∨ k = 24 ∨ k = 25 ∨ k = 26 ∨ k = 27 ∨ k = 28 ∨ k = 29 ∨ k = 30 ∨ k = 31 ∨ k = 32 ∨ k = 33 ∨ k = 34) with rfl | rfl | rfl | rfl | rfl | rfl | rfl | rfl | rfl | rfl | rfl | rfl | rfl | rfl | rfl | rfl | rfl | rfl | rfl | rfl | rfl | rfl | rfl | rfl | rfl | rfl | rfl | rfl | rfl | rfl | rfl | rfl | rfl | rfl | rfl
  · exact mw_3_217
  · exact mw_3_219
  · exact mw_3_221
  · exact mw_3_223
  · exact mw_3_225
  · exact mw_3_227
  · exact mw_3_229
  · exact mw_3_231
  · exact mw_3_233
  · exact mw_3_235
  · exact mw_3_237
  · exact mw_3_239
  · exact mw_4_1
  · exact mw_4_3
  · exact mw_4_5
  · exact mw_4_7
  · exact mw_4_9
  · exact mw_4_11
  · exact mw_4_13
  · exact mw_4_15
  · exact mw_4_17
  · exact mw_4_19
  · exact mw_4_21
  · exact mw_4_23
  · exact mw_4_25
  · exact mw_4_27
  · exact mw_4_29
  · exact mw_4_31
  · exact mw_4_33
  · exact mw_4_35
  · exact mw_4_37
  · exact mw_4_39
  · exact mw_4_41
  · exact mw_4_43
  · exact mw_4_45
theorem mw_3_186 : Cond.fieldLink RX9 86 "AnswerLinesModel" "kinds" "I" ∈ BG := mB (t3 (i := 186) (by decide +kernel)) (by decide +kernel)
theorem mw_4_59 : Cond.code yX9_in cX9_in 6 (some .boolean) ∈ BG := mB (t4 (i := 59) rfl) (by decide +kernel)
theorem mw_4_57 : Cond.methodLink RX9 90 yX9_in ∈ BG := mB (t4 (i := 57) (by decide +kernel)) (by decide +kernel)
theorem mw_4_58 : Cond.static yX9_in ∈ BG := mB (t4 (i := 58) (by decide +kernel)) (by decide +kernel)
theorem mw_1_9 : Cond.initialized RX9 ∈ BG := mB (t1 (i := 9) (by decide +kernel)) (by decide +kernel)
theorem mw_4_118 : Cond.constantLong RX9 94 (7) ∈ BG := mB (t4 (i := 118) (by decide +kernel)) (by decide +kernel)
theorem mw_4_60 : Cond.constantLong RX9 100 (3) ∈ BG := mB (t4 (i := 60) (by decide +kernel)) (by decide +kernel)
theorem dX9_in_0 : decode cX9_in 0 = .ok (.lload_n 0, 1) := by decide +kernel
theorem dX9_in_1 : decode cX9_in 1 = .ok (.lload_n 2, 1) := by decide +kernel
theorem dX9_in_2 : decode cX9_in 2 = .ok (.lcmp, 1) := by decide +kernel
theorem dX9_in_3 : decode cX9_in 3 = .ok (.ifCond .lt 14, 3) := by decide +kernel
theorem dX9_in_17 : decode cX9_in 17 = .ok (.iconst 0, 1) := by decide +kernel
theorem dX9_in_18 : decode cX9_in 18 = .ok (.ireturn, 1) := by decide +kernel
theorem dX9_in_6 : decode cX9_in 6 = .ok (.lload_n 0, 1) := by decide +kernel
theorem dX9_in_7 : decode cX9_in 7 = .ok (.lload 4, 2) := by decide +kernel
theorem dX9_in_9 : decode cX9_in 9 = .ok (.lcmp, 1) := by decide +kernel
theorem dX9_in_10 : decode cX9_in 10 = .ok (.ifCond .gt 7, 3) := by decide +kernel
theorem dX9_in_13 : decode cX9_in 13 = .ok (.iconst 1, 1) := by decide +kernel
theorem dX9_in_14 : decode cX9_in 14 = .ok (.goto 4, 3) := by decide +kernel
theorem dX9_ones_0 : decode cX9_ones 0 = .ok (.iconst 0, 1) := by decide +kernel
theorem dX9_ones_1 : decode cX9_ones 1 = .ok (.istore_n 1, 1) := by decide +kernel
theorem dX9_ones_2 : decode cX9_ones 2 = .ok (.iconst 0, 1) := by decide +kernel
theorem dX9_ones_3 : decode cX9_ones 3 = .ok (.istore_n 2, 1) := by decide +kernel
theorem dX9_ones_4 : decode cX9_ones 4 = .ok (.iload_n 2, 1) := by decide +kernel
theorem dX9_ones_5 : decode cX9_ones 5 = .ok (.bipush 10, 2) := by decide +kernel
theorem dX9_ones_7 : decode cX9_ones 7 = .ok (.if_icmp .ge 17, 3) := by decide +kernel
theorem dX9_ones_10 : decode cX9_ones 10 = .ok (.iload_n 1, 1) := by decide +kernel
theorem dX9_ones_11 : decode cX9_ones 11 = .ok (.iload_n 0, 1) := by decide +kernel
theorem dX9_ones_12 : decode cX9_ones 12 = .ok (.iload_n 2, 1) := by decide +kernel
theorem dX9_ones_13 : decode cX9_ones 13 = .ok (.ishr, 1) := by decide +kernel
theorem dX9_ones_14 : decode cX9_ones 14 = .ok (.iconst 1, 1) := by decide +kernel
theorem dX9_ones_15 : decode cX9_ones 15 = .ok (.iand, 1) := by decide +kernel
theorem dX9_ones_16 : decode cX9_ones 16 = .ok (.iadd, 1) := by decide +kernel
theorem dX9_ones_17 : decode cX9_ones 17 = .ok (.istore_n 1, 1) := by decide +kernel
theorem dX9_ones_18 : decode cX9_ones 18 = .ok (.iinc 2 1, 3) := by decide +kernel
theorem dX9_ones_21 : decode cX9_ones 21 = .ok (.goto (-17), 3) := by decide +kernel
theorem dX9_ones_24 : decode cX9_ones 24 = .ok (.iload_n 1, 1) := by decide +kernel
theorem dX9_ones_25 : decode cX9_ones 25 = .ok (.ireturn, 1) := by decide +kernel
theorem dX9_isKind_0 : decode cX9_isKind 0 = .ok (.iload_n 1, 1) := by decide +kernel
theorem dX9_isKind_1 : decode cX9_isKind 1 = .ok (.i2l, 1) := by decide +kernel
theorem dX9_isKind_2 : decode cX9_isKind 2 = .ok (.lconst 0, 1) := by decide +kernel
theorem dX9_isKind_3 : decode cX9_isKind 3 = .ok (.aload_n 0, 1) := by decide +kernel
theorem dX9_isKind_4 : decode cX9_isKind 4 = .ok (.getfield 86, 3) := by decide +kernel
theorem dX9_isKind_7 : decode cX9_isKind 7 = .ok (.iconst 1, 1) := by decide +kernel
theorem dX9_isKind_8 : decode cX9_isKind 8 = .ok (.isub, 1) := by decide +kernel
theorem dX9_isKind_9 : decode cX9_isKind 9 = .ok (.i2l, 1) := by decide +kernel
theorem dX9_isKind_10 : decode cX9_isKind 10 = .ok (.invokestatic 90, 3) := by decide +kernel
theorem dX9_isKind_13 : decode cX9_isKind 13 = .ok (.ireturn, 1) := by decide +kernel
theorem dX9_isName_0 : decode cX9_isName 0 = .ok (.iload_n 0, 1) := by decide +kernel
theorem dX9_isName_1 : decode cX9_isName 1 = .ok (.i2l, 1) := by decide +kernel
theorem dX9_isName_2 : decode cX9_isName 2 = .ok (.lconst 0, 1) := by decide +kernel
theorem dX9_isName_3 : decode cX9_isName 3 = .ok (.ldc2_w 94, 3) := by decide +kernel
theorem dX9_isName_6 : decode cX9_isName 6 = .ok (.invokestatic 90, 3) := by decide +kernel
theorem dX9_isName_9 : decode cX9_isName 9 = .ok (.ireturn, 1) := by decide +kernel
theorem dX9_isPlace_0 : decode cX9_isPlace 0 = .ok (.iload_n 0, 1) := by decide +kernel
theorem dX9_isPlace_1 : decode cX9_isPlace 1 = .ok (.i2l, 1) := by decide +kernel
theorem dX9_isPlace_2 : decode cX9_isPlace 2 = .ok (.lconst 0, 1) := by decide +kernel
theorem dX9_isPlace_3 : decode cX9_isPlace 3 = .ok (.ldc2_w 100, 3) := by decide +kernel
theorem dX9_isPlace_6 : decode cX9_isPlace 6 = .ok (.invokestatic 90, 3) := by decide +kernel
theorem dX9_isPlace_9 : decode cX9_isPlace 9 = .ok (.ireturn, 1) := by decide +kernel
set_option maxHeartbeats 4000000 in
set_option maxRecDepth 100000 in
theorem m_in (l : Launch) (dC : Nat → ClassId) (dI : Nat → Nat → Nat) (sz : Nat) (a : Int32) (b : Int32) (c9 : Int32) (B : Int) (E : Int) (hB : Int32.toInt b = B) (hE : Int32.toInt c9 = E) : Met l yX9_in (wq yX9_in cX9_in 6 (some .boolean)) ({ frames := 0, cells := 0, slots := 0, locals := 0 }) (va_Pc [.long (Int32.toInt64 a), .long (Int32.toInt64 b), .long (Int32.toInt64 c9)] (pcW dC dI [] [] sz)) (va_Qi (fun (r : Int32) (_ : Unit) => r = (if B ≤ Int32.toInt a ∧ Int32.toInt a ≤ E then 1 else 0)) (fun _ _ => True) (fun q : Nat => sz ≤ q)) 0 0 (fun q : Nat => sz ≤ q) := by
  refine Met.ofW (cc := cX9_in) (maxL := 6) (ret := (some .boolean)) (by decide) rfl ?_
  intro p e s m args below meth c s₁ B hml hv
  obtain ⟨rfl, hsz, hN, hP, hK, hD0⟩ := hv
  have hx := B.exec
  have hb := B.bytes
  have hr := B.returns
  have hts0 := atoms_spec (ws := (wq yX9_in cX9_in 6 (some .boolean))) B.pre
  have hts : ∀ w ∈ BG, w.before _ s = true := fun w h => hts0 w (List.mem_cons_of_mem _ h)
  have hown : s.vm.findClass RX9 = some m.cls := findClass_of_methodNamed B.named
  have hlocks := B.notSynchronized
  subst hsz
  have hA : ∀ q : Nat, s.heap.size ≤ q → (fun q : Nat => s.heap.size ≤ q) q := fun _ h => h
  have hD := hD0
  have hS : va_S (fun q : Nat => s.heap.size ≤ q) s.heap s.heap [] := va_S.rf
  have hP : va_P (dC, dI) vwCl [] s.heap := hP
  have hl := lv_entry ([.long (Int32.toInt64 a), .long (Int32.toInt64 b), .long (Int32.toInt64 c9)]) (n := 6) (Nat.le_of_ble_eq_true rfl)
  rw [lg_entry_eq]
  generalize (lg_sl ([.long (Int32.toInt64 a), .long (Int32.toInt64 b), .long (Int32.toInt64 c9)]) ++ List.replicate (6 - (lg_sl ([.long (Int32.toInt64 a), .long (Int32.toInt64 b), .long (Int32.toInt64 c9)])).length) Slot.unset).toArray = ls at hl ⊢
  have hl : lv_has ls 6 [(0, .long (Int32.toInt64 a)), (2, .long (Int32.toInt64 b)), (4, .long (Int32.toInt64 c9))] := hl
  skip
  refine lv_lload_n hx hb dX9_in_0 rfl (lv_at hl 0 rfl) ?_
  refine lv_lload_n hx hb dX9_in_1 rfl (lv_at hl 1 rfl) ?_
  refine W.lcmp hx hb dX9_in_2 ?_
  refine lv_if_lt (tgt := 17) hx hb dX9_in_3 (by decide) (fun c_1 => ?_) (fun c_1 => ?_)
  · have b_2 := lc_lt c_1
    refine lv_iconst (v := 0) hx hb dX9_in_17 (by decide) ?_
    exact W.zret (v := 0) hx hb hr (by decide) (fun t ht hW => ⟨⟨0, (), rfl, (by first | exact (if_pos (by omega)).symm | exact (if_neg (by omega)).symm), trivial⟩, hS.F ht⟩) hS.2.2 dX9_in_18
  · have b_2 := lc_ltn c_1
    refine lv_lload_n hx hb dX9_in_6 rfl (lv_at hl 0 rfl) ?_
    refine lv_lload hx hb dX9_in_7 (lv_at hl 2 rfl) ?_
    refine W.lcmp hx hb dX9_in_9 ?_
    refine lv_if_gt (tgt := 17) hx hb dX9_in_10 (by decide) (fun c_3 => ?_) (fun c_3 => ?_)
    · have b_4 := lc_gt c_3
      refine lv_iconst (v := 0) hx hb dX9_in_17 (by decide) ?_
      exact W.zret (v := 0) hx hb hr (by decide) (fun t ht hW => ⟨⟨0, (), rfl, (by first | exact (if_pos (by omega)).symm | exact (if_neg (by omega)).symm), trivial⟩, hS.F ht⟩) hS.2.2 dX9_in_18
    · have b_4 := lc_gtn c_3
      refine lv_iconst (v := 1) hx hb dX9_in_13 (by decide) ?_
      refine lv_goto (tgt := 18) hx hb dX9_in_14 (by decide) ?_
      exact W.zret (v := 1) hx hb hr (by decide) (fun t ht hW => ⟨⟨1, (), rfl, (by first | exact (if_pos (by omega)).symm | exact (if_neg (by omega)).symm), trivial⟩, hS.F ht⟩) hS.2.2 dX9_in_18
set_option maxHeartbeats 4000000 in
set_option maxRecDepth 100000 in
theorem m_ones (l : Launch) (dC : Nat → ClassId) (dI : Nat → Nat → Nat) (sz : Nat)   : Met l yX9_ones (wq yX9_ones cX9_ones 3 (some .int)) ({ frames := 0, cells := 0, slots := 0, locals := 0 }) (va_Pc [.int 0] (pcW dC dI [] [] sz)) (va_Qi (fun (r : Int32) (_ : Unit) => r = 0) (fun _ _ => True) (fun q : Nat => sz ≤ q)) 0 0 (fun q : Nat => sz ≤ q) := by
  refine Met.ofW (cc := cX9_ones) (maxL := 3) (ret := (some .int)) (by decide) rfl ?_
  intro p e s m args below meth c s₁ B hml hv
  obtain ⟨rfl, hsz, hN, hP, hK, hD0⟩ := hv
  have hx := B.exec
  have hb := B.bytes
  have hr := B.returns
  have hts0 := atoms_spec (ws := (wq yX9_ones cX9_ones 3 (some .int))) B.pre
  have hts : ∀ w ∈ BG, w.before _ s = true := fun w h => hts0 w (List.mem_cons_of_mem _ h)
  have hown : s.vm.findClass RX9 = some m.cls := findClass_of_methodNamed B.named
  have hlocks := B.notSynchronized
  subst hsz
  have hA : ∀ q : Nat, s.heap.size ≤ q → (fun q : Nat => s.heap.size ≤ q) q := fun _ h => h
  have hD := hD0
  have hS : va_S (fun q : Nat => s.heap.size ≤ q) s.heap s.heap [] := va_S.rf
  have hP : va_P (dC, dI) vwCl [] s.heap := hP
  have hl := lv_entry ([.int 0]) (n := 3) (Nat.le_of_ble_eq_true rfl)
  rw [lg_entry_eq]
  generalize (lg_sl ([.int 0]) ++ List.replicate (3 - (lg_sl ([.int 0])).length) Slot.unset).toArray = ls at hl ⊢
  have hl : lv_has ls 3 [(0, .int 0)] := hl
  skip
  refine lv_iconst (v := 0) hx hb dX9_ones_0 (by decide) ?_
  refine lv_istore_n (lv' := [(1, .int 0), (0, .int 0)]) hx hb dX9_ones_1 rfl hl (by decide) rfl (fun ls hl => ?_)
  refine lv_iconst (v := 0) hx hb dX9_ones_2 (by decide) ?_
  refine lv_istore_n (lv' := [(2, .int 0), (1, .int 0), (0, .int 0)]) hx hb dX9_ones_3 rfl hl (by decide) rfl (fun ls hl => ?_)
  refine lv_iload_n hx hb dX9_ones_4 rfl (lv_at hl 0 rfl) ?_
  refine lv_bipush (v := 10) hx hb dX9_ones_5 (by decide) ?_
  refine lv_icmp_ge (tgt := 24) hx hb dX9_ones_7 (by decide) (fun h => absurd h (by decide)) (fun _ => ?_)
  refine lv_iload_n hx hb dX9_ones_10 rfl (lv_at hl 1 rfl) ?_
  refine lv_iload_n hx hb dX9_ones_11 rfl (lv_at hl 2 rfl) ?_
  refine lv_iload_n hx hb dX9_ones_12 rfl (lv_at hl 0 rfl) ?_
  refine lv_ishr hx hb dX9_ones_13 ?_
  refine hx_top (y := 0) (by decide) ?_
  refine lv_iconst (v := 1) hx hb dX9_ones_14 (by decide) ?_
  refine lv_iand hx hb dX9_ones_15 ?_
  refine hx_top (y := 0) (by decide) ?_
  refine lv_iadd hx hb dX9_ones_16 ?_
  refine hx_top (y := 0) (by decide) ?_
  refine lv_istore_n (lv' := [(1, .int 0), (2, .int 0), (0, .int 0)]) hx hb dX9_ones_17 rfl hl (by decide) rfl (fun ls hl => ?_)
  refine lv_iinc (v := 1) (lv' := [(2, .int 1), (1, .int 0), (0, .int 0)]) hx hb dX9_ones_18 hl (k := 1) rfl (by decide) (by decide) rfl (fun ls hl => ?_)
  refine lv_goto (tgt := 4) hx hb dX9_ones_21 (by decide) ?_
  refine lv_iload_n hx hb dX9_ones_4 rfl (lv_at hl 0 rfl) ?_
  refine lv_bipush (v := 10) hx hb dX9_ones_5 (by decide) ?_
  refine lv_icmp_ge (tgt := 24) hx hb dX9_ones_7 (by decide) (fun h => absurd h (by decide)) (fun _ => ?_)
  refine lv_iload_n hx hb dX9_ones_10 rfl (lv_at hl 1 rfl) ?_
  refine lv_iload_n hx hb dX9_ones_11 rfl (lv_at hl 2 rfl) ?_
  refine lv_iload_n hx hb dX9_ones_12 rfl (lv_at hl 0 rfl) ?_
  refine lv_ishr hx hb dX9_ones_13 ?_
  refine hx_top (y := 0) (by decide) ?_
  refine lv_iconst (v := 1) hx hb dX9_ones_14 (by decide) ?_
  refine lv_iand hx hb dX9_ones_15 ?_
  refine hx_top (y := 0) (by decide) ?_
  refine lv_iadd hx hb dX9_ones_16 ?_
  refine hx_top (y := 0) (by decide) ?_
  refine lv_istore_n (lv' := [(1, .int 0), (2, .int 1), (0, .int 0)]) hx hb dX9_ones_17 rfl hl (by decide) rfl (fun ls hl => ?_)
  refine lv_iinc (v := 2) (lv' := [(2, .int 2), (1, .int 0), (0, .int 0)]) hx hb dX9_ones_18 hl (k := 1) rfl (by decide) (by decide) rfl (fun ls hl => ?_)
  refine lv_goto (tgt := 4) hx hb dX9_ones_21 (by decide) ?_
  refine lv_iload_n hx hb dX9_ones_4 rfl (lv_at hl 0 rfl) ?_
  refine lv_bipush (v := 10) hx hb dX9_ones_5 (by decide) ?_
  refine lv_icmp_ge (tgt := 24) hx hb dX9_ones_7 (by decide) (fun h => absurd h (by decide)) (fun _ => ?_)
  refine lv_iload_n hx hb dX9_ones_10 rfl (lv_at hl 1 rfl) ?_
  refine lv_iload_n hx hb dX9_ones_11 rfl (lv_at hl 2 rfl) ?_
  refine lv_iload_n hx hb dX9_ones_12 rfl (lv_at hl 0 rfl) ?_
  refine lv_ishr hx hb dX9_ones_13 ?_
  refine hx_top (y := 0) (by decide) ?_
  refine lv_iconst (v := 1) hx hb dX9_ones_14 (by decide) ?_
  refine lv_iand hx hb dX9_ones_15 ?_
  refine hx_top (y := 0) (by decide) ?_
  refine lv_iadd hx hb dX9_ones_16 ?_
  refine hx_top (y := 0) (by decide) ?_
  refine lv_istore_n (lv' := [(1, .int 0), (2, .int 2), (0, .int 0)]) hx hb dX9_ones_17 rfl hl (by decide) rfl (fun ls hl => ?_)
  refine lv_iinc (v := 3) (lv' := [(2, .int 3), (1, .int 0), (0, .int 0)]) hx hb dX9_ones_18 hl (k := 1) rfl (by decide) (by decide) rfl (fun ls hl => ?_)
  refine lv_goto (tgt := 4) hx hb dX9_ones_21 (by decide) ?_
  refine lv_iload_n hx hb dX9_ones_4 rfl (lv_at hl 0 rfl) ?_
  refine lv_bipush (v := 10) hx hb dX9_ones_5 (by decide) ?_
  refine lv_icmp_ge (tgt := 24) hx hb dX9_ones_7 (by decide) (fun h => absurd h (by decide)) (fun _ => ?_)
  refine lv_iload_n hx hb dX9_ones_10 rfl (lv_at hl 1 rfl) ?_
  refine lv_iload_n hx hb dX9_ones_11 rfl (lv_at hl 2 rfl) ?_
  refine lv_iload_n hx hb dX9_ones_12 rfl (lv_at hl 0 rfl) ?_
  refine lv_ishr hx hb dX9_ones_13 ?_
  refine hx_top (y := 0) (by decide) ?_
  refine lv_iconst (v := 1) hx hb dX9_ones_14 (by decide) ?_
  refine lv_iand hx hb dX9_ones_15 ?_
  refine hx_top (y := 0) (by decide) ?_
  refine lv_iadd hx hb dX9_ones_16 ?_
  refine hx_top (y := 0) (by decide) ?_
  refine lv_istore_n (lv' := [(1, .int 0), (2, .int 3), (0, .int 0)]) hx hb dX9_ones_17 rfl hl (by decide) rfl (fun ls hl => ?_)
  refine lv_iinc (v := 4) (lv' := [(2, .int 4), (1, .int 0), (0, .int 0)]) hx hb dX9_ones_18 hl (k := 1) rfl (by decide) (by decide) rfl (fun ls hl => ?_)
  refine lv_goto (tgt := 4) hx hb dX9_ones_21 (by decide) ?_
  refine lv_iload_n hx hb dX9_ones_4 rfl (lv_at hl 0 rfl) ?_
  refine lv_bipush (v := 10) hx hb dX9_ones_5 (by decide) ?_
  refine lv_icmp_ge (tgt := 24) hx hb dX9_ones_7 (by decide) (fun h => absurd h (by decide)) (fun _ => ?_)
  refine lv_iload_n hx hb dX9_ones_10 rfl (lv_at hl 1 rfl) ?_
  refine lv_iload_n hx hb dX9_ones_11 rfl (lv_at hl 2 rfl) ?_
  refine lv_iload_n hx hb dX9_ones_12 rfl (lv_at hl 0 rfl) ?_
  refine lv_ishr hx hb dX9_ones_13 ?_
  refine hx_top (y := 0) (by decide) ?_
  refine lv_iconst (v := 1) hx hb dX9_ones_14 (by decide) ?_
  refine lv_iand hx hb dX9_ones_15 ?_
  refine hx_top (y := 0) (by decide) ?_
  refine lv_iadd hx hb dX9_ones_16 ?_
  refine hx_top (y := 0) (by decide) ?_
  refine lv_istore_n (lv' := [(1, .int 0), (2, .int 4), (0, .int 0)]) hx hb dX9_ones_17 rfl hl (by decide) rfl (fun ls hl => ?_)
  refine lv_iinc (v := 5) (lv' := [(2, .int 5), (1, .int 0), (0, .int 0)]) hx hb dX9_ones_18 hl (k := 1) rfl (by decide) (by decide) rfl (fun ls hl => ?_)
  refine lv_goto (tgt := 4) hx hb dX9_ones_21 (by decide) ?_
  refine lv_iload_n hx hb dX9_ones_4 rfl (lv_at hl 0 rfl) ?_
  refine lv_bipush (v := 10) hx hb dX9_ones_5 (by decide) ?_
  refine lv_icmp_ge (tgt := 24) hx hb dX9_ones_7 (by decide) (fun h => absurd h (by decide)) (fun _ => ?_)
  refine lv_iload_n hx hb dX9_ones_10 rfl (lv_at hl 1 rfl) ?_
  refine lv_iload_n hx hb dX9_ones_11 rfl (lv_at hl 2 rfl) ?_
  refine lv_iload_n hx hb dX9_ones_12 rfl (lv_at hl 0 rfl) ?_
  refine lv_ishr hx hb dX9_ones_13 ?_
  refine hx_top (y := 0) (by decide) ?_
  refine lv_iconst (v := 1) hx hb dX9_ones_14 (by decide) ?_
  refine lv_iand hx hb dX9_ones_15 ?_
  refine hx_top (y := 0) (by decide) ?_
  refine lv_iadd hx hb dX9_ones_16 ?_
  refine hx_top (y := 0) (by decide) ?_
  refine lv_istore_n (lv' := [(1, .int 0), (2, .int 5), (0, .int 0)]) hx hb dX9_ones_17 rfl hl (by decide) rfl (fun ls hl => ?_)
  refine lv_iinc (v := 6) (lv' := [(2, .int 6), (1, .int 0), (0, .int 0)]) hx hb dX9_ones_18 hl (k := 1) rfl (by decide) (by decide) rfl (fun ls hl => ?_)
  refine lv_goto (tgt := 4) hx hb dX9_ones_21 (by decide) ?_
  refine lv_iload_n hx hb dX9_ones_4 rfl (lv_at hl 0 rfl) ?_
  refine lv_bipush (v := 10) hx hb dX9_ones_5 (by decide) ?_
  refine lv_icmp_ge (tgt := 24) hx hb dX9_ones_7 (by decide) (fun h => absurd h (by decide)) (fun _ => ?_)
  refine lv_iload_n hx hb dX9_ones_10 rfl (lv_at hl 1 rfl) ?_
  refine lv_iload_n hx hb dX9_ones_11 rfl (lv_at hl 2 rfl) ?_
  refine lv_iload_n hx hb dX9_ones_12 rfl (lv_at hl 0 rfl) ?_
  refine lv_ishr hx hb dX9_ones_13 ?_
  refine hx_top (y := 0) (by decide) ?_
  refine lv_iconst (v := 1) hx hb dX9_ones_14 (by decide) ?_
  refine lv_iand hx hb dX9_ones_15 ?_
  refine hx_top (y := 0) (by decide) ?_
  refine lv_iadd hx hb dX9_ones_16 ?_
  refine hx_top (y := 0) (by decide) ?_
  refine lv_istore_n (lv' := [(1, .int 0), (2, .int 6), (0, .int 0)]) hx hb dX9_ones_17 rfl hl (by decide) rfl (fun ls hl => ?_)
  refine lv_iinc (v := 7) (lv' := [(2, .int 7), (1, .int 0), (0, .int 0)]) hx hb dX9_ones_18 hl (k := 1) rfl (by decide) (by decide) rfl (fun ls hl => ?_)
  refine lv_goto (tgt := 4) hx hb dX9_ones_21 (by decide) ?_
  refine lv_iload_n hx hb dX9_ones_4 rfl (lv_at hl 0 rfl) ?_
  refine lv_bipush (v := 10) hx hb dX9_ones_5 (by decide) ?_
  refine lv_icmp_ge (tgt := 24) hx hb dX9_ones_7 (by decide) (fun h => absurd h (by decide)) (fun _ => ?_)
  refine lv_iload_n hx hb dX9_ones_10 rfl (lv_at hl 1 rfl) ?_
  refine lv_iload_n hx hb dX9_ones_11 rfl (lv_at hl 2 rfl) ?_
  refine lv_iload_n hx hb dX9_ones_12 rfl (lv_at hl 0 rfl) ?_
  refine lv_ishr hx hb dX9_ones_13 ?_
  refine hx_top (y := 0) (by decide) ?_
  refine lv_iconst (v := 1) hx hb dX9_ones_14 (by decide) ?_
  refine lv_iand hx hb dX9_ones_15 ?_
  refine hx_top (y := 0) (by decide) ?_
  refine lv_iadd hx hb dX9_ones_16 ?_
  refine hx_top (y := 0) (by decide) ?_
  refine lv_istore_n (lv' := [(1, .int 0), (2, .int 7), (0, .int 0)]) hx hb dX9_ones_17 rfl hl (by decide) rfl (fun ls hl => ?_)
  refine lv_iinc (v := 8) (lv' := [(2, .int 8), (1, .int 0), (0, .int 0)]) hx hb dX9_ones_18 hl (k := 1) rfl (by decide) (by decide) rfl (fun ls hl => ?_)
  refine lv_goto (tgt := 4) hx hb dX9_ones_21 (by decide) ?_
  refine lv_iload_n hx hb dX9_ones_4 rfl (lv_at hl 0 rfl) ?_
  refine lv_bipush (v := 10) hx hb dX9_ones_5 (by decide) ?_
  refine lv_icmp_ge (tgt := 24) hx hb dX9_ones_7 (by decide) (fun h => absurd h (by decide)) (fun _ => ?_)
  refine lv_iload_n hx hb dX9_ones_10 rfl (lv_at hl 1 rfl) ?_
  refine lv_iload_n hx hb dX9_ones_11 rfl (lv_at hl 2 rfl) ?_
  refine lv_iload_n hx hb dX9_ones_12 rfl (lv_at hl 0 rfl) ?_
  refine lv_ishr hx hb dX9_ones_13 ?_
  refine hx_top (y := 0) (by decide) ?_
  refine lv_iconst (v := 1) hx hb dX9_ones_14 (by decide) ?_
  refine lv_iand hx hb dX9_ones_15 ?_
  refine hx_top (y := 0) (by decide) ?_
  refine lv_iadd hx hb dX9_ones_16 ?_
  refine hx_top (y := 0) (by decide) ?_
  refine lv_istore_n (lv' := [(1, .int 0), (2, .int 8), (0, .int 0)]) hx hb dX9_ones_17 rfl hl (by decide) rfl (fun ls hl => ?_)
  refine lv_iinc (v := 9) (lv' := [(2, .int 9), (1, .int 0), (0, .int 0)]) hx hb dX9_ones_18 hl (k := 1) rfl (by decide) (by decide) rfl (fun ls hl => ?_)
  refine lv_goto (tgt := 4) hx hb dX9_ones_21 (by decide) ?_
  refine lv_iload_n hx hb dX9_ones_4 rfl (lv_at hl 0 rfl) ?_
  refine lv_bipush (v := 10) hx hb dX9_ones_5 (by decide) ?_
  refine lv_icmp_ge (tgt := 24) hx hb dX9_ones_7 (by decide) (fun h => absurd h (by decide)) (fun _ => ?_)
  refine lv_iload_n hx hb dX9_ones_10 rfl (lv_at hl 1 rfl) ?_
  refine lv_iload_n hx hb dX9_ones_11 rfl (lv_at hl 2 rfl) ?_
  refine lv_iload_n hx hb dX9_ones_12 rfl (lv_at hl 0 rfl) ?_
  refine lv_ishr hx hb dX9_ones_13 ?_
  refine hx_top (y := 0) (by decide) ?_
  refine lv_iconst (v := 1) hx hb dX9_ones_14 (by decide) ?_
  refine lv_iand hx hb dX9_ones_15 ?_
  refine hx_top (y := 0) (by decide) ?_
  refine lv_iadd hx hb dX9_ones_16 ?_
  refine hx_top (y := 0) (by decide) ?_
  refine lv_istore_n (lv' := [(1, .int 0), (2, .int 9), (0, .int 0)]) hx hb dX9_ones_17 rfl hl (by decide) rfl (fun ls hl => ?_)
  refine lv_iinc (v := 10) (lv' := [(2, .int 10), (1, .int 0), (0, .int 0)]) hx hb dX9_ones_18 hl (k := 1) rfl (by decide) (by decide) rfl (fun ls hl => ?_)
  refine lv_goto (tgt := 4) hx hb dX9_ones_21 (by decide) ?_
  refine lv_iload_n hx hb dX9_ones_4 rfl (lv_at hl 0 rfl) ?_
  refine lv_bipush (v := 10) hx hb dX9_ones_5 (by decide) ?_
  refine lv_icmp_ge (tgt := 24) hx hb dX9_ones_7 (by decide) (fun _ => ?_) (fun h => absurd (by decide) h)
  refine lv_iload_n hx hb dX9_ones_24 rfl (lv_at hl 1 rfl) ?_
  exact W.iret (v := 0) hx hb hr (fun t ht hW => ⟨⟨0, (), rfl, rfl, trivial⟩, hS.F ht⟩) hS.2.2 dX9_ones_25
set_option maxHeartbeats 4000000 in
set_option maxRecDepth 100000 in
theorem m_isKind (l : Launch) (dC : Nat → ClassId) (dI : Nat → Nat → Nat) (sz : Nat) (h0 : Nat) (w0 : Value) (w1 : Value) (w2 : Value) (w3 : Value) (w5 : Value) (w6 : Value) (w7 : Value) (w8 : Value) (w9 : Value) (w10 : Value) (w11 : Value) (w12 : Value) (w13 : Value) (w14 : Value) (w15 : Value) (w16 : Value) (w17 : Value) (w18 : Value) (w19 : Value) (w20 : Value) (w21 : Value) (w22 : Value) (w23 : Value) (w24 : Value) (w25 : Value) (w26 : Value) (w27 : Value) (w28 : Value) (w29 : Value) (w30 : Value) (w31 : Value) (w32 : Value) (w33 : Value) (w34 : Value) (n : Int32)  : Met l yX9_isKind (wq yX9_isKind cX9_isKind 2 (some .boolean)) ({ frames := 1, cells := 0, slots := 0, locals := 25 }) (va_Pc [.ref h0, .int n] (pcW dC dI [] [(h0, .inr (8, [w0, w1, w2, w3, .int 0, w5, w6, w7, w8, w9, w10, w11, w12, w13, w14, w15, w16, w17, w18, w19, w20, w21, w22, w23, w24, w25, w26, w27, w28, w29, w30, w31, w32, w33, w34]))] sz)) (va_Qi (fun (r : Int32) (_ : Unit) => r = 0) (fun _ _ => True) (fun q : Nat => sz ≤ q)) 0 0 (fun q : Nat => sz ≤ q) := by
  refine Met.ofW (cc := cX9_isKind) (maxL := 2) (ret := (some .boolean)) (by decide) rfl ?_
  intro p e s m args below meth c s₁ B hml hv
  obtain ⟨rfl, hsz, hN, hP, hK, hD0⟩ := hv
  have hx := B.exec
  have hb := B.bytes
  have hr := B.returns
  have hts0 := atoms_spec (ws := (wq yX9_isKind cX9_isKind 2 (some .boolean))) B.pre
  have hts : ∀ w ∈ BG, w.before _ s = true := fun w h => hts0 w (List.mem_cons_of_mem _ h)
  have hown : s.vm.findClass RX9 = some m.cls := findClass_of_methodNamed B.named
  have hlocks := B.notSynchronized
  subst hsz
  have hA : ∀ q : Nat, s.heap.size ≤ q → (fun q : Nat => s.heap.size ≤ q) q := fun _ h => h
  have hD := hD0
  have hS : va_S (fun q : Nat => s.heap.size ≤ q) s.heap s.heap [] := va_S.rf
  have hP : va_P (dC, dI) vwCl [(h0, .inr (8, [w0, w1, w2, w3, .int 0, w5, w6, w7, w8, w9, w10, w11, w12, w13, w14, w15, w16, w17, w18, w19, w20, w21, w22, w23, w24, w25, w26, w27, w28, w29, w30, w31, w32, w33, w34]))] s.heap := hP
  have hl := lv_entry ([.ref h0, .int n]) (n := 2) (Nat.le_of_ble_eq_true rfl)
  rw [lg_entry_eq]
  generalize (lg_sl ([.ref h0, .int n]) ++ List.replicate (2 - (lg_sl ([.ref h0, .int n])).length) Slot.unset).toArray = ls at hl ⊢
  have hl : lv_has ls 2 [(0, .ref h0), (1, .int n)] := hl
  skip
  refine lv_iload_n hx hb dX9_isKind_0 rfl (lv_at hl 1 rfl) ?_
  refine lv_i2l hx hb dX9_isKind_1 rfl ?_
  refine lv_lconst (v := Int32.toInt64 0) hx hb dX9_isKind_2 (by decide) ?_
  refine lv_aload_n hx hb dX9_isKind_3 rfl (lv_at hl 0 rfl) ?_
  refine va_get (D := (dC, dI)) (ci := 8) (v := .int 0) (C := RX9) (T := TX9) (N := 35) hx hb hts inB_9 hown hK hP 0 rfl rfl 4 (by decide) (hts _ mw_3_186) (fun _ h9 => h9) rfl dX9_isKind_4 ?_
  refine lv_iconst (v := 1) hx hb dX9_isKind_7 (by decide) ?_
  refine lv_isub hx hb dX9_isKind_8 ?_
  refine hx_top (y := (-1)) (by decide) ?_
  refine lv_i2l hx hb dX9_isKind_9 rfl ?_
  have hPc := hP.sub (ws' := []) [] rfl
  have hDc := hD.sub (ws' := []) [] (by decide) rfl
  have hKc := hK.sub (tys' := []) [] rfl
  refine va_calli (va_runS (As := [.long (Int32.toInt64 n), .long (Int32.toInt64 0), .long (Int32.toInt64 (-1))]) (rest := []) ⟨hx, hb, hml, hown, hts⟩ (m_in l dC dI s.heap.size n 0 ((-1)) 0 (-1) (by decide) (by decide)) (va_cwS 3 hts (gS mw_4_57 mw_4_58 mw_1_9 mw_4_59) rfl rfl rfl (by decide +kernel) ⟨Nat.le_of_ble_eq_true rfl, Nat.le_of_ble_eq_true rfl⟩) ⟨pcW_blind, pcW_at hPc hKc hDc hN⟩ rfl rfl hl.1 rfl (lv_room (Nat.le_of_ble_eq_true rfl)) dX9_isKind_10 ⟨Nat.le_of_ble_eq_true rfl, Nat.le_of_ble_eq_true rfl⟩) hS (fun q h1 h2 => absurd h2 (Nat.not_le.mpr h1)) (fun q h => hA q (Nat.le_trans hS.1 h)) (fun r_1 u t H1 locs ht hvm hw_1 hB hz1 hk1 hS => ?_)
  have hP := keepP hP hk1
  clear hz1 hk1 hB ht hvm hPc hDc hKc
  generalize H1 = H at hP hS ⊢
  obtain rfl : r_1 = 0 := hw_1.trans (if_neg (by omega))
  exact W.zret (v := 0) hx hb hr (by decide) (fun t ht hW => ⟨⟨0, (), rfl, rfl, trivial⟩, hS.F ht⟩) hS.2.2 dX9_isKind_13
set_option maxHeartbeats 4000000 in
set_option maxRecDepth 100000 in
theorem m_isName (l : Launch) (dC : Nat → ClassId) (dI : Nat → Nat → Nat) (sz : Nat) (n : Int32)  : Met l yX9_isName (wq yX9_isName cX9_isName 1 (some .boolean)) ({ frames := 1, cells := 0, slots := 0, locals := 25 }) (va_Pc [.int n] (pcW dC dI [] [] sz)) (va_Qi (fun (r : Int32) (_ : Unit) => r = (if 0 ≤ Int32.toInt n ∧ Int32.toInt n ≤ 7 then 1 else 0)) (fun _ _ => True) (fun q : Nat => sz ≤ q)) 0 0 (fun q : Nat => sz ≤ q) := by
  refine Met.ofW (cc := cX9_isName) (maxL := 1) (ret := (some .boolean)) (by decide) rfl ?_
  intro p e s m args below meth c s₁ B hml hv
  obtain ⟨rfl, hsz, hN, hP, hK, hD0⟩ := hv
  have hx := B.exec
  have hb := B.bytes
  have hr := B.returns
  have hts0 := atoms_spec (ws := (wq yX9_isName cX9_isName 1 (some .boolean))) B.pre
  have hts : ∀ w ∈ BG, w.before _ s = true := fun w h => hts0 w (List.mem_cons_of_mem _ h)
  have hown : s.vm.findClass RX9 = some m.cls := findClass_of_methodNamed B.named
  have hlocks := B.notSynchronized
  subst hsz
  have hA : ∀ q : Nat, s.heap.size ≤ q → (fun q : Nat => s.heap.size ≤ q) q := fun _ h => h
  have hD := hD0
  have hS : va_S (fun q : Nat => s.heap.size ≤ q) s.heap s.heap [] := va_S.rf
  have hP : va_P (dC, dI) vwCl [] s.heap := hP
  have hl := lv_entry ([.int n]) (n := 1) (Nat.le_of_ble_eq_true rfl)
  rw [lg_entry_eq]
  generalize (lg_sl ([.int n]) ++ List.replicate (1 - (lg_sl ([.int n])).length) Slot.unset).toArray = ls at hl ⊢
  have hl : lv_has ls 1 [(0, .int n)] := hl
  skip
  refine lv_iload_n hx hb dX9_isName_0 rfl (lv_at hl 0 rfl) ?_
  refine lv_i2l hx hb dX9_isName_1 rfl ?_
  refine lv_lconst (v := Int32.toInt64 0) hx hb dX9_isName_2 (by decide) ?_
  refine lv_ldc2 (v := Int32.toInt64 7) hx hb hown (show (Cond.constantLong RX9 94 (Int32.toInt64 7)).before _ s = true from (hts _ mw_4_118)) dX9_isName_3 ?_
  have hPc := hP.sub (ws' := []) [] rfl
  have hDc := hD.sub (ws' := []) [] (by decide) rfl
  have hKc := hK.sub (tys' := []) [] rfl
  refine va_calli (va_runS (As := [.long (Int32.toInt64 n), .long (Int32.toInt64 0), .long (Int32.toInt64 7)]) (rest := []) ⟨hx, hb, hml, hown, hts⟩ (m_in l dC dI s.heap.size n 0 7 0 7 (by decide) (by decide)) (va_cwS 3 hts (gS mw_4_57 mw_4_58 mw_1_9 mw_4_59) rfl rfl rfl (by decide +kernel) ⟨Nat.le_of_ble_eq_true rfl, Nat.le_of_ble_eq_true rfl⟩) ⟨pcW_blind, pcW_at hPc hKc hDc hN⟩ rfl rfl hl.1 rfl (lv_room (Nat.le_of_ble_eq_true rfl)) dX9_isName_6 ⟨Nat.le_of_ble_eq_true rfl, Nat.le_of_ble_eq_true rfl⟩) hS (fun q h1 h2 => absurd h2 (Nat.not_le.mpr h1)) (fun q h => hA q (Nat.le_trans hS.1 h)) (fun r_1 u t H1 locs ht hvm hw_1 hB hz1 hk1 hS => ?_)
  have hP := keepP hP hk1
  clear hz1 hk1 hB ht hvm hPc hDc hKc
  generalize H1 = H at hP hS ⊢
  rcases fx_bool hw_1 with ⟨rfl, b_2⟩ | ⟨rfl, b_2⟩
  · skip
    exact W.zret (v := 1) hx hb hr (by decide) (fun t ht hW => ⟨⟨1, (), rfl, (by first | exact (if_pos (by omega)).symm | exact (if_neg (by omega)).symm), trivial⟩, hS.F ht⟩) hS.2.2 dX9_isName_9
  · skip
    exact W.zret (v := 0) hx hb hr (by decide) (fun t ht hW => ⟨⟨0, (), rfl, (by first | exact (if_pos (by omega)).symm | exact (if_neg (by omega)).symm), trivial⟩, hS.F ht⟩) hS.2.2 dX9_isName_9
set_option maxHeartbeats 4000000 in
set_option maxRecDepth 100000 in
theorem m_isPlace (l : Launch) (dC : Nat → ClassId) (dI : Nat → Nat → Nat) (sz : Nat) (n : Int32)  : Met l yX9_isPlace (wq yX9_isPlace cX9_isPlace 1 (some .boolean)) ({ frames := 1, cells := 0, slots := 0, locals := 25 }) (va_Pc [.int n] (pcW dC dI [] [] sz)) (va_Qi (fun (r : Int32) (_ : Unit) => r = (if 0 ≤ Int32.toInt n ∧ Int32.toInt n ≤ 3 then 1 else 0)) (fun _ _ => True) (fun q : Nat => sz ≤ q)) 0 0 (fun q : Nat => sz ≤ q) := by
  refine Met.ofW (cc := cX9_isPlace) (maxL := 1) (ret := (some .boolean)) (by decide) rfl ?_
  intro p e s m args below meth c s₁ B hml hv
  obtain ⟨rfl, hsz, hN, hP, hK, hD0⟩ := hv
  have hx := B.exec
  have hb := B.bytes
  have hr := B.returns
  have hts0 := atoms_spec (ws := (wq yX9_isPlace cX9_isPlace 1 (some .boolean))) B.pre
  have hts : ∀ w ∈ BG, w.before _ s = true := fun w h => hts0 w (List.mem_cons_of_mem _ h)
  have hown : s.vm.findClass RX9 = some m.cls := findClass_of_methodNamed B.named
  have hlocks := B.notSynchronized
  subst hsz
  have hA : ∀ q : Nat, s.heap.size ≤ q → (fun q : Nat => s.heap.size ≤ q) q := fun _ h => h
  have hD := hD0
  have hS : va_S (fun q : Nat => s.heap.size ≤ q) s.heap s.heap [] := va_S.rf
  have hP : va_P (dC, dI) vwCl [] s.heap := hP
  have hl := lv_entry ([.int n]) (n := 1) (Nat.le_of_ble_eq_true rfl)
  rw [lg_entry_eq]
  generalize (lg_sl ([.int n]) ++ List.replicate (1 - (lg_sl ([.int n])).length) Slot.unset).toArray = ls at hl ⊢
  have hl : lv_has ls 1 [(0, .int n)] := hl
  skip
  refine lv_iload_n hx hb dX9_isPlace_0 rfl (lv_at hl 0 rfl) ?_
  refine lv_i2l hx hb dX9_isPlace_1 rfl ?_
  refine lv_lconst (v := Int32.toInt64 0) hx hb dX9_isPlace_2 (by decide) ?_
  refine lv_ldc2 (v := Int32.toInt64 3) hx hb hown (show (Cond.constantLong RX9 100 (Int32.toInt64 3)).before _ s = true from (hts _ mw_4_60)) dX9_isPlace_3 ?_
  have hPc := hP.sub (ws' := []) [] rfl
  have hDc := hD.sub (ws' := []) [] (by decide) rfl
  have hKc := hK.sub (tys' := []) [] rfl
  refine va_calli (va_runS (As := [.long (Int32.toInt64 n), .long (Int32.toInt64 0), .long (Int32.toInt64 3)]) (rest := []) ⟨hx, hb, hml, hown, hts⟩ (m_in l dC dI s.heap.size n 0 3 0 3 (by decide) (by decide)) (va_cwS 3 hts (gS mw_4_57 mw_4_58 mw_1_9 mw_4_59) rfl rfl rfl (by decide +kernel) ⟨Nat.le_of_ble_eq_true rfl, Nat.le_of_ble_eq_true rfl⟩) ⟨pcW_blind, pcW_at hPc hKc hDc hN⟩ rfl rfl hl.1 rfl (lv_room (Nat.le_of_ble_eq_true rfl)) dX9_isPlace_6 ⟨Nat.le_of_ble_eq_true rfl, Nat.le_of_ble_eq_true rfl⟩) hS (fun q h1 h2 => absurd h2 (Nat.not_le.mpr h1)) (fun q h => hA q (Nat.le_trans hS.1 h)) (fun r_1 u t H1 locs ht hvm hw_1 hB hz1 hk1 hS => ?_)
  have hP := keepP hP hk1
  clear hz1 hk1 hB ht hvm hPc hDc hKc
  generalize H1 = H at hP hS ⊢
  rcases fx_bool hw_1 with ⟨rfl, b_2⟩ | ⟨rfl, b_2⟩
  · skip
    exact W.zret (v := 1) hx hb hr (by decide) (fun t ht hW => ⟨⟨1, (), rfl, (by first | exact (if_pos (by omega)).symm | exact (if_neg (by omega)).symm), trivial⟩, hS.F ht⟩) hS.2.2 dX9_isPlace_9
  · skip
    exact W.zret (v := 0) hx hb hr (by decide) (fun t ht hW => ⟨⟨0, (), rfl, (by first | exact (if_pos (by omega)).symm | exact (if_neg (by omega)).symm), trivial⟩, hS.F ht⟩) hS.2.2 dX9_isPlace_9
end
