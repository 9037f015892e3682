section
-- ===== PART A: goes FIRST, ahead of the names: the tables' words, and 'selects' of the private methods out of them =====
/-- a private method of a class that the tables say can be made, by its rows of tables_1 -/
def lw_okq (q : MethodName × Nat) : Prop := (q.1.cls ≠ "java/lang/invoke/MethodHandle" ∧ q.1.cls ≠ "java/lang/invoke/VarHandle") ∧ Cond.instantiable q.1.cls q.2 ∈ tables_1 ∧ Cond.privateMethod q.1 ∈ tables_1 ∧ Cond.instanceMethod q.1 ∈ tables_1
theorem lw_p0 : lw_okq (⟨"AnswerLines$Kinds", "layLine", "(II)V"⟩, 8) := ⟨⟨by decide +kernel, by decide +kernel⟩, List.mem_of_getElem? (i := 22) (by decide +kernel), List.mem_of_getElem? (i := 218) (by decide +kernel), List.mem_of_getElem? (i := 219) (by decide +kernel)⟩
theorem lw_p1 : lw_okq (⟨"AnswerLines$Kinds", "layRows", "(I)V"⟩, 8) := ⟨⟨by decide +kernel, by decide +kernel⟩, List.mem_of_getElem? (i := 22) (by decide +kernel), List.mem_of_getElem? (i := 222) (by decide +kernel), List.mem_of_getElem? (i := 223) (by decide +kernel)⟩
theorem lw_p2 : lw_okq (⟨"AnswerLines$Rows", "tail", "(I)I"⟩, 4) := ⟨⟨by decide +kernel, by decide +kernel⟩, List.mem_of_getElem? (i := 28) (by decide +kernel), List.mem_of_getElem? (i := 246) (by decide +kernel), List.mem_of_getElem? (i := 247) (by decide +kernel)⟩
theorem lw_p3 : lw_okq (⟨"AnswerLines$Rows", "head", "(I)I"⟩, 4) := ⟨⟨by decide +kernel, by decide +kernel⟩, List.mem_of_getElem? (i := 28) (by decide +kernel), List.mem_of_getElem? (i := 250) (by decide +kernel), List.mem_of_getElem? (i := 251) (by decide +kernel)⟩
theorem lw_p4 : lw_okq (⟨"AnswerLines$Runner", "work", "(LAnswerLines$Kinds;LAnswerLines$Bodies;III)I"⟩, 4) := ⟨⟨by decide +kernel, by decide +kernel⟩, List.mem_of_getElem? (i := 103) (by decide +kernel), List.mem_of_getElem? (i := 406) (by decide +kernel), List.mem_of_getElem? (i := 407) (by decide +kernel)⟩
theorem lw_p5 : lw_okq (⟨"AnswerLines$Runner", "sayDigit", "(I)I"⟩, 4) := ⟨⟨by decide +kernel, by decide +kernel⟩, List.mem_of_getElem? (i := 103) (by decide +kernel), List.mem_of_getElem? (i := 422) (by decide +kernel), List.mem_of_getElem? (i := 423) (by decide +kernel)⟩
theorem lw_p6 : lw_okq (⟨"AnswerLines$Table", "findTogether", "()V"⟩, 5) := ⟨⟨by decide +kernel, by decide +kernel⟩, List.mem_of_getElem? (i := 122) (by decide +kernel), List.mem_of_getElem? (i := 502) (by decide +kernel), List.mem_of_getElem? (i := 503) (by decide +kernel)⟩
theorem lw_p7 : lw_okq (⟨"AnswerLines$Table", "fitInto", "(III)Z"⟩, 5) := ⟨⟨by decide +kernel, by decide +kernel⟩, List.mem_of_getElem? (i := 122) (by decide +kernel), List.mem_of_getElem? (i := 507) (by decide +kernel), List.mem_of_getElem? (i := 508) (by decide +kernel)⟩
theorem lw_p8 : lw_okq (⟨"AnswerLines$Table", "isFree", "(II)Z"⟩, 5) := ⟨⟨by decide +kernel, by decide +kernel⟩, List.mem_of_getElem? (i := 122) (by decide +kernel), List.mem_of_getElem? (i := 511) (by decide +kernel), List.mem_of_getElem? (i := 512) (by decide +kernel)⟩
theorem lw_p9 : lw_okq (⟨"AnswerLines$Table", "pushRow", "(I)I"⟩, 5) := ⟨⟨by decide +kernel, by decide +kernel⟩, List.mem_of_getElem? (i := 122) (by decide +kernel), List.mem_of_getElem? (i := 529) (by decide +kernel), List.mem_of_getElem? (i := 530) (by decide +kernel)⟩
theorem lw_p10 : lw_okq (⟨"AnswerLines$Table", "leastPlace", "(I)I"⟩, 5) := ⟨⟨by decide +kernel, by decide +kernel⟩, List.mem_of_getElem? (i := 122) (by decide +kernel), List.mem_of_getElem? (i := 533) (by decide +kernel), List.mem_of_getElem? (i := 534) (by decide +kernel)⟩
theorem lw_p11 : lw_okq (⟨"AnswerLines$Table", "isOpen", "(II)Z"⟩, 5) := ⟨⟨by decide +kernel, by decide +kernel⟩, List.mem_of_getElem? (i := 122) (by decide +kernel), List.mem_of_getElem? (i := 537) (by decide +kernel), List.mem_of_getElem? (i := 538) (by decide +kernel)⟩
theorem lw_p12 : lw_okq (⟨"AnswerLines$Places", "whereRecent", "(I)I"⟩, 6) := ⟨⟨by decide +kernel, by decide +kernel⟩, List.mem_of_getElem? (i := 144) (by decide +kernel), List.mem_of_getElem? (i := 612) (by decide +kernel), List.mem_of_getElem? (i := 613) (by decide +kernel)⟩
theorem lw_p13 : lw_okq (⟨"AnswerLines$Places", "putFirst", "(II)V"⟩, 6) := ⟨⟨by decide +kernel, by decide +kernel⟩, List.mem_of_getElem? (i := 144) (by decide +kernel), List.mem_of_getElem? (i := 616) (by decide +kernel), List.mem_of_getElem? (i := 617) (by decide +kernel)⟩
theorem lw_p14 : lw_okq (⟨"AnswerLines$Places", "longestUnused", "(III)I"⟩, 6) := ⟨⟨by decide +kernel, by decide +kernel⟩, List.mem_of_getElem? (i := 144) (by decide +kernel), List.mem_of_getElem? (i := 626) (by decide +kernel), List.mem_of_getElem? (i := 627) (by decide +kernel)⟩
theorem lw_p15 : lw_okq (⟨"AnswerLinesModel", "isKind", "(I)Z"⟩, 35) := ⟨⟨by decide +kernel, by decide +kernel⟩, List.mem_of_getElem? (i := 657) (by decide +kernel), List.mem_of_getElem? (i := 774) (by decide +kernel), List.mem_of_getElem? (i := 775) (by decide +kernel)⟩
def lw_privs_1 : List (MethodName × Nat) := [(⟨"AnswerLines$Kinds", "layLine", "(II)V"⟩, 8), (⟨"AnswerLines$Kinds", "layRows", "(I)V"⟩, 8), (⟨"AnswerLines$Rows", "tail", "(I)I"⟩, 4), (⟨"AnswerLines$Rows", "head", "(I)I"⟩, 4), (⟨"AnswerLines$Runner", "work", "(LAnswerLines$Kinds;LAnswerLines$Bodies;III)I"⟩, 4), (⟨"AnswerLines$Runner", "sayDigit", "(I)I"⟩, 4), (⟨"AnswerLines$Table", "findTogether", "()V"⟩, 5), (⟨"AnswerLines$Table", "fitInto", "(III)Z"⟩, 5), (⟨"AnswerLines$Table", "isFree", "(II)Z"⟩, 5), (⟨"AnswerLines$Table", "pushRow", "(I)I"⟩, 5), (⟨"AnswerLines$Table", "leastPlace", "(I)I"⟩, 5), (⟨"AnswerLines$Table", "isOpen", "(II)Z"⟩, 5), (⟨"AnswerLines$Places", "whereRecent", "(I)I"⟩, 6), (⟨"AnswerLines$Places", "putFirst", "(II)V"⟩, 6), (⟨"AnswerLines$Places", "longestUnused", "(III)I"⟩, 6), (⟨"AnswerLinesModel", "isKind", "(I)Z"⟩, 35)]
theorem lw_r1 : ∀ q ∈ lw_privs_1, lw_okq q := List.forall_mem_cons.mpr ⟨lw_p0, List.forall_mem_cons.mpr ⟨lw_p1, List.forall_mem_cons.mpr ⟨lw_p2, List.forall_mem_cons.mpr ⟨lw_p3, List.forall_mem_cons.mpr ⟨lw_p4, List.forall_mem_cons.mpr ⟨lw_p5, List.forall_mem_cons.mpr ⟨lw_p6, List.forall_mem_cons.mpr ⟨lw_p7, List.forall_mem_cons.mpr ⟨lw_p8, List.forall_mem_cons.mpr ⟨lw_p9, List.forall_mem_cons.mpr ⟨lw_p10, List.forall_mem_cons.mpr ⟨lw_p11, List.forall_mem_cons.mpr ⟨lw_p12, List.forall_mem_cons.mpr ⟨lw_p13, List.forall_mem_cons.mpr ⟨lw_p14, List.forall_mem_cons.mpr ⟨lw_p15, fun _ h => absurd h List.not_mem_nil⟩⟩⟩⟩⟩⟩⟩⟩⟩⟩⟩⟩⟩⟩⟩⟩
theorem lw_p16 : lw_okq (⟨"AnswerLinesModel", "layLine", "(I)V"⟩, 35) := ⟨⟨by decide +kernel, by decide +kernel⟩, List.mem_of_getElem? (i := 657) (by decide +kernel), List.mem_of_getElem? (i := 782) (by decide +kernel), List.mem_of_getElem? (i := 783) (by decide +kernel)⟩
theorem lw_p17 : lw_okq (⟨"AnswerLinesModel", "nextHead", "()I"⟩, 35) := ⟨⟨by decide +kernel, by decide +kernel⟩, List.mem_of_getElem? (i := 657) (by decide +kernel), List.mem_of_getElem? (i := 786) (by decide +kernel), List.mem_of_getElem? (i := 787) (by decide +kernel)⟩
theorem lw_p18 : lw_okq (⟨"AnswerLinesModel", "isWithin", "(I)Z"⟩, 35) := ⟨⟨by decide +kernel, by decide +kernel⟩, List.mem_of_getElem? (i := 657) (by decide +kernel), List.mem_of_getElem? (i := 790) (by decide +kernel), List.mem_of_getElem? (i := 791) (by decide +kernel)⟩
theorem lw_p19 : lw_okq (⟨"AnswerLinesModel", "belowOf", "(I)I"⟩, 35) := ⟨⟨by decide +kernel, by decide +kernel⟩, List.mem_of_getElem? (i := 657) (by decide +kernel), List.mem_of_getElem? (i := 802) (by decide +kernel), List.mem_of_getElem? (i := 803) (by decide +kernel)⟩
theorem lw_p20 : lw_okq (⟨"AnswerLinesModel", "hasName", "(II)Z"⟩, 35) := ⟨⟨by decide +kernel, by decide +kernel⟩, List.mem_of_getElem? (i := 657) (by decide +kernel), List.mem_of_getElem? (i := 844) (by decide +kernel), List.mem_of_getElem? (i := 845) (by decide +kernel)⟩
theorem lw_p21 : lw_okq (⟨"AnswerLinesModel", "answerOf", "(III)I"⟩, 35) := ⟨⟨by decide +kernel, by decide +kernel⟩, List.mem_of_getElem? (i := 657) (by decide +kernel), List.mem_of_getElem? (i := 856) (by decide +kernel), List.mem_of_getElem? (i := 857) (by decide +kernel)⟩
theorem lw_p22 : lw_okq (⟨"AnswerLinesModel", "placeOf", "(III)I"⟩, 35) := ⟨⟨by decide +kernel, by decide +kernel⟩, List.mem_of_getElem? (i := 657) (by decide +kernel), List.mem_of_getElem? (i := 860) (by decide +kernel), List.mem_of_getElem? (i := 861) (by decide +kernel)⟩
theorem lw_p23 : lw_okq (⟨"AnswerLinesModel", "runAll", "(II)V"⟩, 35) := ⟨⟨by decide +kernel, by decide +kernel⟩, List.mem_of_getElem? (i := 657) (by decide +kernel), List.mem_of_getElem? (i := 872) (by decide +kernel), List.mem_of_getElem? (i := 873) (by decide +kernel)⟩
theorem lw_p24 : lw_okq (⟨"AnswerLinesModel", "begin", "(III)V"⟩, 35) := ⟨⟨by decide +kernel, by decide +kernel⟩, List.mem_of_getElem? (i := 657) (by decide +kernel), List.mem_of_getElem? (i := 876) (by decide +kernel), List.mem_of_getElem? (i := 877) (by decide +kernel)⟩
theorem lw_p25 : lw_okq (⟨"AnswerLinesModel", "work", "(III)V"⟩, 35) := ⟨⟨by decide +kernel, by decide +kernel⟩, List.mem_of_getElem? (i := 657) (by decide +kernel), List.mem_of_getElem? (i := 880) (by decide +kernel), List.mem_of_getElem? (i := 881) (by decide +kernel)⟩
theorem lw_p26 : lw_okq (⟨"AnswerLinesModel", "havingOf", "(I)I"⟩, 35) := ⟨⟨by decide +kernel, by decide +kernel⟩, List.mem_of_getElem? (i := 657) (by decide +kernel), List.mem_of_getElem? (i := 888) (by decide +kernel), List.mem_of_getElem? (i := 889) (by decide +kernel)⟩
theorem lw_p27 : lw_okq (⟨"AnswerLinesModel", "nearestOf", "(II)I"⟩, 35) := ⟨⟨by decide +kernel, by decide +kernel⟩, List.mem_of_getElem? (i := 657) (by decide +kernel), List.mem_of_getElem? (i := 892) (by decide +kernel), List.mem_of_getElem? (i := 893) (by decide +kernel)⟩
theorem lw_p28 : lw_okq (⟨"AnswerLinesModel", "doubtBy", "(I)I"⟩, 35) := ⟨⟨by decide +kernel, by decide +kernel⟩, List.mem_of_getElem? (i := 657) (by decide +kernel), List.mem_of_getElem? (i := 900) (by decide +kernel), List.mem_of_getElem? (i := 901) (by decide +kernel)⟩
theorem lw_p29 : lw_okq (⟨"AnswerLinesModel", "findColumns", "()V"⟩, 35) := ⟨⟨by decide +kernel, by decide +kernel⟩, List.mem_of_getElem? (i := 657) (by decide +kernel), List.mem_of_getElem? (i := 919) (by decide +kernel), List.mem_of_getElem? (i := 920) (by decide +kernel)⟩
theorem lw_p30 : lw_okq (⟨"AnswerLinesModel", "answeredBy", "(I)I"⟩, 35) := ⟨⟨by decide +kernel, by decide +kernel⟩, List.mem_of_getElem? (i := 657) (by decide +kernel), List.mem_of_getElem? (i := 923) (by decide +kernel), List.mem_of_getElem? (i := 924) (by decide +kernel)⟩
theorem lw_p31 : lw_okq (⟨"AnswerLinesModel", "isRow", "(I)Z"⟩, 35) := ⟨⟨by decide +kernel, by decide +kernel⟩, List.mem_of_getElem? (i := 657) (by decide +kernel), List.mem_of_getElem? (i := 927) (by decide +kernel), List.mem_of_getElem? (i := 928) (by decide +kernel)⟩
def lw_privs_2 : List (MethodName × Nat) := [(⟨"AnswerLinesModel", "layLine", "(I)V"⟩, 35), (⟨"AnswerLinesModel", "nextHead", "()I"⟩, 35), (⟨"AnswerLinesModel", "isWithin", "(I)Z"⟩, 35), (⟨"AnswerLinesModel", "belowOf", "(I)I"⟩, 35), (⟨"AnswerLinesModel", "hasName", "(II)Z"⟩, 35), (⟨"AnswerLinesModel", "answerOf", "(III)I"⟩, 35), (⟨"AnswerLinesModel", "placeOf", "(III)I"⟩, 35), (⟨"AnswerLinesModel", "runAll", "(II)V"⟩, 35), (⟨"AnswerLinesModel", "begin", "(III)V"⟩, 35), (⟨"AnswerLinesModel", "work", "(III)V"⟩, 35), (⟨"AnswerLinesModel", "havingOf", "(I)I"⟩, 35), (⟨"AnswerLinesModel", "nearestOf", "(II)I"⟩, 35), (⟨"AnswerLinesModel", "doubtBy", "(I)I"⟩, 35), (⟨"AnswerLinesModel", "findColumns", "()V"⟩, 35), (⟨"AnswerLinesModel", "answeredBy", "(I)I"⟩, 35), (⟨"AnswerLinesModel", "isRow", "(I)Z"⟩, 35)]
theorem lw_r2 : ∀ q ∈ lw_privs_2, lw_okq q := List.forall_mem_cons.mpr ⟨lw_p16, List.forall_mem_cons.mpr ⟨lw_p17, List.forall_mem_cons.mpr ⟨lw_p18, List.forall_mem_cons.mpr ⟨lw_p19, List.forall_mem_cons.mpr ⟨lw_p20, List.forall_mem_cons.mpr ⟨lw_p21, List.forall_mem_cons.mpr ⟨lw_p22, List.forall_mem_cons.mpr ⟨lw_p23, List.forall_mem_cons.mpr ⟨lw_p24, List.forall_mem_cons.mpr ⟨lw_p25, List.forall_mem_cons.mpr ⟨lw_p26, List.forall_mem_cons.mpr ⟨lw_p27, List.forall_mem_cons.mpr ⟨lw_p28, List.forall_mem_cons.mpr ⟨lw_p29, List.forall_mem_cons.mpr ⟨lw_p30, List.forall_mem_cons.mpr ⟨lw_p31, fun _ h => absurd h List.not_mem_nil⟩⟩⟩⟩⟩⟩⟩⟩⟩⟩⟩⟩⟩⟩⟩⟩
theorem lw_p32 : lw_okq (⟨"AnswerLinesModel", "fill", "(II)Z"⟩, 35) := ⟨⟨by decide +kernel, by decide +kernel⟩, List.mem_of_getElem? (i := 657) (by decide +kernel), List.mem_of_getElem? (i := 931) (by decide +kernel), List.mem_of_getElem? (i := 932) (by decide +kernel)⟩
theorem lw_p33 : lw_okq (⟨"AnswerLinesModel", "greatestAhead", "(I)I"⟩, 35) := ⟨⟨by decide +kernel, by decide +kernel⟩, List.mem_of_getElem? (i := 657) (by decide +kernel), List.mem_of_getElem? (i := 935) (by decide +kernel), List.mem_of_getElem? (i := 936) (by decide +kernel)⟩
theorem lw_p34 : lw_okq (⟨"AnswerLinesModel", "isFree", "(I)Z"⟩, 35) := ⟨⟨by decide +kernel, by decide +kernel⟩, List.mem_of_getElem? (i := 657) (by decide +kernel), List.mem_of_getElem? (i := 939) (by decide +kernel), List.mem_of_getElem? (i := 940) (by decide +kernel)⟩
theorem lw_p35 : lw_okq (⟨"AnswerLinesModel", "pack", "()V"⟩, 35) := ⟨⟨by decide +kernel, by decide +kernel⟩, List.mem_of_getElem? (i := 657) (by decide +kernel), List.mem_of_getElem? (i := 947) (by decide +kernel), List.mem_of_getElem? (i := 948) (by decide +kernel)⟩
theorem lw_p36 : lw_okq (⟨"AnswerLinesModel", "isOpenAt", "(II)Z"⟩, 35) := ⟨⟨by decide +kernel, by decide +kernel⟩, List.mem_of_getElem? (i := 657) (by decide +kernel), List.mem_of_getElem? (i := 951) (by decide +kernel), List.mem_of_getElem? (i := 952) (by decide +kernel)⟩
theorem lw_p37 : lw_okq (⟨"AnswerLinesModel", "hitsBy", "(IIZ)I"⟩, 35) := ⟨⟨by decide +kernel, by decide +kernel⟩, List.mem_of_getElem? (i := 657) (by decide +kernel), List.mem_of_getElem? (i := 984) (by decide +kernel), List.mem_of_getElem? (i := 985) (by decide +kernel)⟩
theorem lw_p38 : lw_okq (⟨"AnswerLinesModel", "whereIs", "(I)I"⟩, 35) := ⟨⟨by decide +kernel, by decide +kernel⟩, List.mem_of_getElem? (i := 657) (by decide +kernel), List.mem_of_getElem? (i := 988) (by decide +kernel), List.mem_of_getElem? (i := 989) (by decide +kernel)⟩
theorem lw_p39 : lw_okq (⟨"AnswerLinesModel", "takeOut", "(I)V"⟩, 35) := ⟨⟨by decide +kernel, by decide +kernel⟩, List.mem_of_getElem? (i := 657) (by decide +kernel), List.mem_of_getElem? (i := 992) (by decide +kernel), List.mem_of_getElem? (i := 993) (by decide +kernel)⟩
theorem lw_p40 : lw_okq (⟨"AnswerLinesModel", "farthest", "(II)I"⟩, 35) := ⟨⟨by decide +kernel, by decide +kernel⟩, List.mem_of_getElem? (i := 657) (by decide +kernel), List.mem_of_getElem? (i := 996) (by decide +kernel), List.mem_of_getElem? (i := 997) (by decide +kernel)⟩
theorem lw_p41 : lw_okq (⟨"AnswerLinesModel", "nextCall", "(III)I"⟩, 35) := ⟨⟨by decide +kernel, by decide +kernel⟩, List.mem_of_getElem? (i := 657) (by decide +kernel), List.mem_of_getElem? (i := 1000) (by decide +kernel), List.mem_of_getElem? (i := 1001) (by decide +kernel)⟩
theorem lw_p42 : lw_okq (⟨"AnswerLinesModel", "putFirst", "(I)V"⟩, 35) := ⟨⟨by decide +kernel, by decide +kernel⟩, List.mem_of_getElem? (i := 657) (by decide +kernel), List.mem_of_getElem? (i := 1004) (by decide +kernel), List.mem_of_getElem? (i := 1005) (by decide +kernel)⟩
def lw_privs_3 : List (MethodName × Nat) := [(⟨"AnswerLinesModel", "fill", "(II)Z"⟩, 35), (⟨"AnswerLinesModel", "greatestAhead", "(I)I"⟩, 35), (⟨"AnswerLinesModel", "isFree", "(I)Z"⟩, 35), (⟨"AnswerLinesModel", "pack", "()V"⟩, 35), (⟨"AnswerLinesModel", "isOpenAt", "(II)Z"⟩, 35), (⟨"AnswerLinesModel", "hitsBy", "(IIZ)I"⟩, 35), (⟨"AnswerLinesModel", "whereIs", "(I)I"⟩, 35), (⟨"AnswerLinesModel", "takeOut", "(I)V"⟩, 35), (⟨"AnswerLinesModel", "farthest", "(II)I"⟩, 35), (⟨"AnswerLinesModel", "nextCall", "(III)I"⟩, 35), (⟨"AnswerLinesModel", "putFirst", "(I)V"⟩, 35)]
theorem lw_r3 : ∀ q ∈ lw_privs_3, lw_okq q := List.forall_mem_cons.mpr ⟨lw_p32, List.forall_mem_cons.mpr ⟨lw_p33, List.forall_mem_cons.mpr ⟨lw_p34, List.forall_mem_cons.mpr ⟨lw_p35, List.forall_mem_cons.mpr ⟨lw_p36, List.forall_mem_cons.mpr ⟨lw_p37, List.forall_mem_cons.mpr ⟨lw_p38, List.forall_mem_cons.mpr ⟨lw_p39, List.forall_mem_cons.mpr ⟨lw_p40, List.forall_mem_cons.mpr ⟨lw_p41, List.forall_mem_cons.mpr ⟨lw_p42, fun _ h => absurd h List.not_mem_nil⟩⟩⟩⟩⟩⟩⟩⟩⟩⟩⟩
def lw_privs : List (MethodName × Nat) := lw_privs_1 ++ (lw_privs_2 ++ (lw_privs_3))
def lw_tbl : List Cond := k2_sels lw_privs ++ tables_1
theorem lw_privs_ok : ∀ q ∈ lw_privs, lw_okq q := by
  show ∀ q ∈ lw_privs_1 ++ (lw_privs_2 ++ (lw_privs_3)), lw_okq q
  exact List.forall_mem_append.mpr ⟨lw_r1, List.forall_mem_append.mpr ⟨lw_r2, lw_r3⟩⟩
end
section
/-! ===== BEGIN words of one list among another's, by their places ===== -/
theorem goodIn_r {big : List Cond} (ws : List Cond) (ps : List Nat) (hp : ws = ps.filterMap (fun i => big[i]?)) (h : ws.all goodWord = true) : GoodIn big ws := by
  intro w hw
  have h1 := List.all_eq_true.mp h w hw
  rw [hp] at hw
  obtain ⟨i, -, hi⟩ := List.mem_filterMap.mp hw
  have hm : w ∈ big := by first | exact List.mem_of_getElem? hi | exact List.getElem?_mem hi
  exact ⟨hm, good_of_word h1⟩
theorem goodIn_app {big a b : List Cond} (ha : GoodIn big a) (hb : GoodIn big b) : GoodIn big (a ++ b) := fun w h => (List.mem_append.mp h).elim (ha w) (hb w)
theorem goodIn_ca {big a b : List Cond} {c : Cond} (ha : GoodIn big (c :: a)) (hb : GoodIn big b) : GoodIn big (c :: (a ++ b)) := fun w h => (List.mem_cons.mp h).elim (fun e => ha w (List.mem_cons.mpr (Or.inl e))) (fun h => (List.mem_append.mp h).elim (fun h => ha w (List.mem_cons.mpr (Or.inr h))) (hb w))
theorem goodIn_sub {big ws : List Cond} (hm : ∀ w ∈ ws, w ∈ big) (h : ws.all goodWord = true) : GoodIn big ws := fun w hw => ⟨hm w hw, good_of_word (List.all_eq_true.mp h w hw)⟩
/-! ===== END ===== -/

/-! ===== BEGIN printed: names, fields, word lists, decode rows ===== -/
def RX0 : String := "AnswerLines$Bodies"
def TX0 : u_T := fun k => match k with
  | 0 => ("AnswerLines$Bodies", "owners", "[I", true)
  | 1 => ("AnswerLines$Bodies", "lengths", "[I", true)
  | _ => ("AnswerLines$Bodies", "signs", "[C", true)
def tyX0 : Nat → FieldType := fun k => match k with
  | 0 => .array .int
  | 1 => .array .int
  | _ => .array .char
abbrev wsX00 : List Cond := u_ws RX0 TX0 3
theorem nmX0 : ∀ a, a < 3 → ∀ b, b < 3 → a ≠ b → (TX0 a).2.1 ≠ (TX0 b).2.1 := by decide +kernel
theorem tyX0_ok : ∀ k, k < 3 → parseFieldDescriptor (TX0 k).2.2.1 = some (tyX0 k) := by decide +kernel
abbrev cX0_init : ByteArray := prog_2_method_1_code
def yX0_init : MethodName := ⟨RX0, "<init>", "()V"⟩
abbrev cX0_ownersOf : ByteArray := prog_2_method_2_code
def yX0_ownersOf : MethodName := ⟨RX0, "ownersOf", "(I)I"⟩
abbrev cX0_isOwner : ByteArray := prog_2_method_3_code
def yX0_isOwner : MethodName := ⟨RX0, "isOwner", "(II)Z"⟩
abbrev cX0_namesOf : ByteArray := prog_2_method_4_code
def yX0_namesOf : MethodName := ⟨RX0, "namesOf", "(I)I"⟩
abbrev cX0_give : ByteArray := prog_2_method_5_code
def yX0_give : MethodName := ⟨RX0, "give", "(IILAnswerLines$Pad;)V"⟩
abbrev cX0_takeAway : ByteArray := prog_2_method_6_code
def yX0_takeAway : MethodName := ⟨RX0, "takeAway", "(II)I"⟩
abbrev cX0_lengthOf : ByteArray := prog_2_method_7_code
def yX0_lengthOf : MethodName := ⟨RX0, "lengthOf", "(II)I"⟩
abbrev cX0_sign : ByteArray := prog_2_method_8_code
def yX0_sign : MethodName := ⟨RX0, "sign", "(III)C"⟩
abbrev cX0_isBody : ByteArray := prog_2_method_9_code
def yX0_isBody : MethodName := ⟨RX0, "isBody", "(II)Z"⟩
def RX1 : String := "AnswerLines$Kinds"
def TX1 : u_T := fun k => match k with
  | 0 => ("AnswerLines$Kinds", "above", "[I", true)
  | 1 => ("AnswerLines$Kinds", "lengths", "[I", true)
  | 2 => ("AnswerLines$Kinds", "quarrels", "[I", true)
  | 3 => ("AnswerLines$Kinds", "lines", "[I", true)
  | 4 => ("AnswerLines$Kinds", "parents", "[I", true)
  | 5 => ("AnswerLines$Kinds", "rows", "LAnswerLines$Rows;", true)
  | 6 => ("AnswerLines$Kinds", "count", "I", false)
  | _ => ("AnswerLines$Kinds", "bareBits", "I", false)
def tyX1 : Nat → FieldType := fun k => match k with
  | 0 => .array .int
  | 1 => .array .int
  | 2 => .array .int
  | 3 => .array .int
  | 4 => .array .int
  | 5 => .object "AnswerLines$Rows"
  | 6 => .int
  | _ => .int
abbrev wsX10 : List Cond := u_ws RX1 TX1 8
theorem nmX1 : ∀ a, a < 8 → ∀ b, b < 8 → a ≠ b → (TX1 a).2.1 ≠ (TX1 b).2.1 := by decide +kernel
theorem tyX1_ok : ∀ k, k < 8 → parseFieldDescriptor (TX1 k).2.2.1 = some (tyX1 k) := by decide +kernel
abbrev cX1_init : ByteArray := prog_3_method_1_code
def yX1_init : MethodName := ⟨RX1, "<init>", "()V"⟩
abbrev cX1_knows : ByteArray := prog_3_method_2_code
def yX1_knows : MethodName := ⟨RX1, "knows", "(I)Z"⟩
abbrev cX1_isFull : ByteArray := prog_3_method_3_code
def yX1_isFull : MethodName := ⟨RX1, "isFull", "()Z"⟩
abbrev cX1_howMany : ByteArray := prog_3_method_4_code
def yX1_howMany : MethodName := ⟨RX1, "howMany", "()I"⟩
abbrev cX1_isBare : ByteArray := prog_3_method_5_code
def yX1_isBare : MethodName := ⟨RX1, "isBare", "(I)Z"⟩
abbrev cX1_setBare : ByteArray := prog_3_method_6_code
def yX1_setBare : MethodName := ⟨RX1, "setBare", "(IZ)V"⟩
abbrev cX1_aboveOf : ByteArray := prog_3_method_7_code
def yX1_aboveOf : MethodName := ⟨RX1, "aboveOf", "(I)I"⟩
abbrev cX1_belowOf : ByteArray := prog_3_method_8_code
def yX1_belowOf : MethodName := ⟨RX1, "belowOf", "(I)I"⟩
abbrev cX1_quarrelOf : ByteArray := prog_3_method_9_code
def yX1_quarrelOf : MethodName := ⟨RX1, "quarrelOf", "(I)I"⟩
abbrev cX1_isLaid : ByteArray := prog_3_method_10_code
def yX1_isLaid : MethodName := ⟨RX1, "isLaid", "(I)Z"⟩
abbrev cX1_hasRow : ByteArray := prog_3_method_11_code
def yX1_hasRow : MethodName := ⟨RX1, "hasRow", "(I)Z"⟩
abbrev cX1_lengthOf : ByteArray := prog_3_method_12_code
def yX1_lengthOf : MethodName := ⟨RX1, "lengthOf", "(I)I"⟩
abbrev cX1_inLine : ByteArray := prog_3_method_13_code
def yX1_inLine : MethodName := ⟨RX1, "inLine", "(II)I"⟩
abbrev cX1_whereFirst : ByteArray := prog_3_method_14_code
def yX1_whereFirst : MethodName := ⟨RX1, "whereFirst", "(III)I"⟩
abbrev cX1_firstOf : ByteArray := prog_3_method_15_code
def yX1_firstOf : MethodName := ⟨RX1, "firstOf", "(III)I"⟩
abbrev cX1_add : ByteArray := prog_3_method_16_code
def yX1_add : MethodName := ⟨RX1, "add", "(IIII)I"⟩
abbrev cX1_layLine : ByteArray := prog_3_method_17_code
def yX1_layLine : MethodName := ⟨RX1, "layLine", "(II)V"⟩
abbrev cX1_layRows : ByteArray := prog_3_method_18_code
def yX1_layRows : MethodName := ⟨RX1, "layRows", "(I)V"⟩
def RX2 : String := "AnswerLines$Pad"
def TX2 : u_T := fun k => match k with
  | 0 => ("AnswerLines$Pad", "signs", "[C", true)
  | _ => ("AnswerLines$Pad", "count", "I", false)
def tyX2 : Nat → FieldType := fun k => match k with
  | 0 => .array .char
  | _ => .int
abbrev wsX20 : List Cond := u_ws RX2 TX2 2
theorem nmX2 : ∀ a, a < 2 → ∀ b, b < 2 → a ≠ b → (TX2 a).2.1 ≠ (TX2 b).2.1 := by decide +kernel
theorem tyX2_ok : ∀ k, k < 2 → parseFieldDescriptor (TX2 k).2.2.1 = some (tyX2 k) := by decide +kernel
abbrev cX2_init : ByteArray := prog_4_method_1_code
def yX2_init : MethodName := ⟨RX2, "<init>", "()V"⟩
abbrev cX2_isFull : ByteArray := prog_4_method_2_code
def yX2_isFull : MethodName := ⟨RX2, "isFull", "()Z"⟩
abbrev cX2_length : ByteArray := prog_4_method_3_code
def yX2_length : MethodName := ⟨RX2, "length", "()I"⟩
abbrev cX2_put : ByteArray := prog_4_method_4_code
def yX2_put : MethodName := ⟨RX2, "put", "(I)I"⟩
abbrev cX2_empty : ByteArray := prog_4_method_5_code
def yX2_empty : MethodName := ⟨RX2, "empty", "()I"⟩
abbrev cX2_sign : ByteArray := prog_4_method_6_code
def yX2_sign : MethodName := ⟨RX2, "sign", "(I)C"⟩
abbrev cX2_firstFault : ByteArray := prog_4_method_7_code
def yX2_firstFault : MethodName := ⟨RX2, "firstFault", "()I"⟩
abbrev cX2_canStand : ByteArray := prog_4_method_8_code
def yX2_canStand : MethodName := ⟨RX2, "canStand", "(C)Z"⟩
def RX3 : String := "AnswerLines$Places"
def TX3 : u_T := fun k => match k with
  | 0 => ("AnswerLines$Places", "sizes", "[I", true)
  | 1 => ("AnswerLines$Places", "calledPlaces", "[I", true)
  | 2 => ("AnswerLines$Places", "calledKinds", "[I", true)
  | 3 => ("AnswerLines$Places", "recent", "[I", true)
  | 4 => ("AnswerLines$Places", "count", "I", false)
  | _ => ("AnswerLines$Places", "remembered", "I", false)
def tyX3 : Nat → FieldType := fun k => match k with
  | 0 => .array .int
  | 1 => .array .int
  | 2 => .array .int
  | 3 => .array .int
  | 4 => .int
  | _ => .int
abbrev wsX30 : List Cond := u_ws RX3 TX3 6
theorem nmX3 : ∀ a, a < 6 → ∀ b, b < 6 → a ≠ b → (TX3 a).2.1 ≠ (TX3 b).2.1 := by decide +kernel
theorem tyX3_ok : ∀ k, k < 6 → parseFieldDescriptor (TX3 k).2.2.1 = some (tyX3 k) := by decide +kernel
abbrev cX3_init : ByteArray := prog_5_method_1_code
def yX3_init : MethodName := ⟨RX3, "<init>", "()V"⟩
abbrev cX3_isFull : ByteArray := prog_5_method_2_code
def yX3_isFull : MethodName := ⟨RX3, "isFull", "()Z"⟩
abbrev cX3_howMany : ByteArray := prog_5_method_3_code
def yX3_howMany : MethodName := ⟨RX3, "howMany", "()I"⟩
abbrev cX3_record : ByteArray := prog_5_method_4_code
def yX3_record : MethodName := ⟨RX3, "record", "(II)I"⟩
abbrev cX3_clear : ByteArray := prog_5_method_5_code
def yX3_clear : MethodName := ⟨RX3, "clear", "()I"⟩
abbrev cX3_sizeOf : ByteArray := prog_5_method_6_code
def yX3_sizeOf : MethodName := ⟨RX3, "sizeOf", "(I)I"⟩
abbrev cX3_resize : ByteArray := prog_5_method_7_code
def yX3_resize : MethodName := ⟨RX3, "resize", "(II)I"⟩
abbrev cX3_callsAt : ByteArray := prog_5_method_8_code
def yX3_callsAt : MethodName := ⟨RX3, "callsAt", "(I)I"⟩
abbrev cX3_hitsBySize : ByteArray := prog_5_method_9_code
def yX3_hitsBySize : MethodName := ⟨RX3, "hitsBySize", "(II)I"⟩
abbrev cX3_latest : ByteArray := prog_5_method_10_code
def yX3_latest : MethodName := ⟨RX3, "latest", "(I)I"⟩
abbrev cX3_bestHits : ByteArray := prog_5_method_11_code
def yX3_bestHits : MethodName := ⟨RX3, "bestHits", "(I)I"⟩
abbrev cX3_whereRecent : ByteArray := prog_5_method_12_code
def yX3_whereRecent : MethodName := ⟨RX3, "whereRecent", "(I)I"⟩
abbrev cX3_putFirst : ByteArray := prog_5_method_13_code
def yX3_putFirst : MethodName := ⟨RX3, "putFirst", "(II)V"⟩
abbrev cX3_longestUnused : ByteArray := prog_5_method_14_code
def yX3_longestUnused : MethodName := ⟨RX3, "longestUnused", "(III)I"⟩
def RX4 : String := "AnswerLines$Rows"
def TX4 : u_T := fun k => match k with
  | 0 => ("AnswerLines$Rows", "cells", "[I", true)
  | 1 => ("AnswerLines$Rows", "heads", "[I", true)
  | 2 => ("AnswerLines$Rows", "lengths", "[I", true)
  | _ => ("AnswerLines$Rows", "count", "I", false)
def tyX4 : Nat → FieldType := fun k => match k with
  | 0 => .array .int
  | 1 => .array .int
  | 2 => .array .int
  | _ => .int
abbrev wsX40 : List Cond := u_ws RX4 TX4 4
theorem nmX4 : ∀ a, a < 4 → ∀ b, b < 4 → a ≠ b → (TX4 a).2.1 ≠ (TX4 b).2.1 := by decide +kernel
theorem tyX4_ok : ∀ k, k < 4 → parseFieldDescriptor (TX4 k).2.2.1 = some (tyX4 k) := by decide +kernel
abbrev cX4_init : ByteArray := prog_6_method_1_code
def yX4_init : MethodName := ⟨RX4, "<init>", "()V"⟩
abbrev cX4_clear : ByteArray := prog_6_method_2_code
def yX4_clear : MethodName := ⟨RX4, "clear", "()V"⟩
abbrev cX4_begin : ByteArray := prog_6_method_3_code
def yX4_begin : MethodName := ⟨RX4, "begin", "()V"⟩
abbrev cX4_put : ByteArray := prog_6_method_4_code
def yX4_put : MethodName := ⟨RX4, "put", "(I)V"⟩
abbrev cX4_beginnings : ByteArray := prog_6_method_5_code
def yX4_beginnings : MethodName := ⟨RX4, "beginnings", "()I"⟩
abbrev cX4_firstFree : ByteArray := prog_6_method_6_code
def yX4_firstFree : MethodName := ⟨RX4, "firstFree", "()I"⟩
abbrev cX4_take : ByteArray := prog_6_method_7_code
def yX4_take : MethodName := ⟨RX4, "take", "(I)V"⟩
abbrev cX4_head : ByteArray := prog_6_method_8_code
def yX4_head : MethodName := ⟨RX4, "head", "(I)I"⟩
abbrev cX4_tail : ByteArray := prog_6_method_9_code
def yX4_tail : MethodName := ⟨RX4, "tail", "(I)I"⟩
def RX5 : String := "AnswerLines$Runner"
def TX5 : u_T := fun k => match k with
  | 0 => ("AnswerLines$Runner", "digits", "[I", true)
  | 1 => ("AnswerLines$Runner", "said", "I", false)
  | 2 => ("AnswerLines$Runner", "made", "I", false)
  | _ => ("AnswerLines$Runner", "lined", "I", false)
def tyX5 : Nat → FieldType := fun k => match k with
  | 0 => .array .int
  | 1 => .int
  | 2 => .int
  | _ => .int
abbrev wsX50 : List Cond := u_ws RX5 TX5 4
theorem nmX5 : ∀ a, a < 4 → ∀ b, b < 4 → a ≠ b → (TX5 a).2.1 ≠ (TX5 b).2.1 := by decide +kernel
theorem tyX5_ok : ∀ k, k < 4 → parseFieldDescriptor (TX5 k).2.2.1 = some (tyX5 k) := by decide +kernel
abbrev cX5_init : ByteArray := prog_7_method_1_code
def yX5_init : MethodName := ⟨RX5, "<init>", "()V"⟩
abbrev cX5_start : ByteArray := prog_7_method_2_code
def yX5_start : MethodName := ⟨RX5, "start", "(LAnswerLines$Kinds;LAnswerLines$Bodies;II)I"⟩
abbrev cX5_howManySaid : ByteArray := prog_7_method_3_code
def yX5_howManySaid : MethodName := ⟨RX5, "howManySaid", "()I"⟩
abbrev cX5_digit : ByteArray := prog_7_method_4_code
def yX5_digit : MethodName := ⟨RX5, "digit", "(I)I"⟩
abbrev cX5_work : ByteArray := prog_7_method_5_code
def yX5_work : MethodName := ⟨RX5, "work", "(LAnswerLines$Kinds;LAnswerLines$Bodies;III)I"⟩
abbrev cX5_sayDigit : ByteArray := prog_7_method_6_code
def yX5_sayDigit : MethodName := ⟨RX5, "sayDigit", "(I)I"⟩
def RX6 : String := "AnswerLines$Sides"
def TX6 : u_T := fun k => match k with
  | _ => ("", "", "", false)
def tyX6 : Nat → FieldType := fun k => match k with
  | _ => .int
abbrev wsX60 : List Cond := u_ws RX6 TX6 0
theorem nmX6 : ∀ a, a < 0 → ∀ b, b < 0 → a ≠ b → (TX6 a).2.1 ≠ (TX6 b).2.1 := by decide +kernel
theorem tyX6_ok : ∀ k, k < 0 → parseFieldDescriptor (TX6 k).2.2.1 = some (tyX6 k) := by decide +kernel
abbrev cX6_nearestOf : ByteArray := prog_8_method_2_code
def yX6_nearestOf : MethodName := ⟨RX6, "nearestOf", "(LAnswerLines$Kinds;II)I"⟩
abbrev cX6_doubtful : ByteArray := prog_8_method_3_code
def yX6_doubtful : MethodName := ⟨RX6, "doubtful", "(LAnswerLines$Kinds;I)I"⟩
abbrev cX6_settlers : ByteArray := prog_8_method_4_code
def yX6_settlers : MethodName := ⟨RX6, "settlers", "(LAnswerLines$Kinds;I)I"⟩
abbrev cX6_shifted : ByteArray := prog_8_method_5_code
def yX6_shifted : MethodName := ⟨RX6, "shifted", "(LAnswerLines$Kinds;II)I"⟩
abbrev cX6_unlikeAnswers : ByteArray := prog_8_method_6_code
def yX6_unlikeAnswers : MethodName := ⟨RX6, "unlikeAnswers", "(LAnswerLines$Kinds;II)I"⟩
abbrev cX6_isInDoubt : ByteArray := prog_8_method_7_code
def yX6_isInDoubt : MethodName := ⟨RX6, "isInDoubt", "(LAnswerLines$Kinds;II)Z"⟩
def RX7 : String := "AnswerLines$Table"
def TX7 : u_T := fun k => match k with
  | 0 => ("AnswerLines$Table", "rows", "[I", true)
  | 1 => ("AnswerLines$Table", "together", "[I", true)
  | 2 => ("AnswerLines$Table", "columns", "[I", true)
  | 3 => ("AnswerLines$Table", "pushedTo", "[I", true)
  | _ => ("AnswerLines$Table", "slots", "[I", true)
def tyX7 : Nat → FieldType := fun k => match k with
  | 0 => .array .int
  | 1 => .array .int
  | 2 => .array .int
  | 3 => .array .int
  | _ => .array .int
abbrev wsX70 : List Cond := u_ws RX7 TX7 5
theorem nmX7 : ∀ a, a < 5 → ∀ b, b < 5 → a ≠ b → (TX7 a).2.1 ≠ (TX7 b).2.1 := by decide +kernel
theorem tyX7_ok : ∀ k, k < 5 → parseFieldDescriptor (TX7 k).2.2.1 = some (tyX7 k) := by decide +kernel
abbrev cX7_init : ByteArray := prog_9_method_1_code
def yX7_init : MethodName := ⟨RX7, "<init>", "()V"⟩
abbrev cX7_fill : ByteArray := prog_9_method_2_code
def yX7_fill : MethodName := ⟨RX7, "fill", "(LAnswerLines$Kinds;LAnswerLines$Bodies;)V"⟩
abbrev cX7_spread : ByteArray := prog_9_method_3_code
def yX7_spread : MethodName := ⟨RX7, "spread", "()I"⟩
abbrev cX7_columnOf : ByteArray := prog_9_method_4_code
def yX7_columnOf : MethodName := ⟨RX7, "columnOf", "(I)I"⟩
abbrev cX7_push : ByteArray := prog_9_method_5_code
def yX7_push : MethodName := ⟨RX7, "push", "()I"⟩
abbrev cX7_placeOfRow : ByteArray := prog_9_method_6_code
def yX7_placeOfRow : MethodName := ⟨RX7, "placeOfRow", "(I)I"⟩
abbrev cX7_standsAt : ByteArray := prog_9_method_7_code
def yX7_standsAt : MethodName := ⟨RX7, "standsAt", "(I)I"⟩
abbrev cX7_findTogether : ByteArray := prog_9_method_8_code
def yX7_findTogether : MethodName := ⟨RX7, "findTogether", "()V"⟩
abbrev cX7_fitInto : ByteArray := prog_9_method_9_code
def yX7_fitInto : MethodName := ⟨RX7, "fitInto", "(III)Z"⟩
abbrev cX7_isFree : ByteArray := prog_9_method_10_code
def yX7_isFree : MethodName := ⟨RX7, "isFree", "(II)Z"⟩
abbrev cX7_pushRow : ByteArray := prog_9_method_11_code
def yX7_pushRow : MethodName := ⟨RX7, "pushRow", "(I)I"⟩
abbrev cX7_leastPlace : ByteArray := prog_9_method_12_code
def yX7_leastPlace : MethodName := ⟨RX7, "leastPlace", "(I)I"⟩
abbrev cX7_isOpen : ByteArray := prog_9_method_13_code
def yX7_isOpen : MethodName := ⟨RX7, "isOpen", "(II)Z"⟩
def RX8 : String := "AnswerLines"
def TX8 : u_T := fun k => match k with
  | 0 => ("AnswerLines", "kinds", "LAnswerLines$Kinds;", true)
  | 1 => ("AnswerLines", "pad", "LAnswerLines$Pad;", true)
  | 2 => ("AnswerLines", "bodies", "LAnswerLines$Bodies;", true)
  | 3 => ("AnswerLines", "runner", "LAnswerLines$Runner;", true)
  | 4 => ("AnswerLines", "table", "LAnswerLines$Table;", true)
  | _ => ("AnswerLines", "places", "LAnswerLines$Places;", true)
def tyX8 : Nat → FieldType := fun k => match k with
  | 0 => .object "AnswerLines$Kinds"
  | 1 => .object "AnswerLines$Pad"
  | 2 => .object "AnswerLines$Bodies"
  | 3 => .object "AnswerLines$Runner"
  | 4 => .object "AnswerLines$Table"
  | _ => .object "AnswerLines$Places"
abbrev wsX80 : List Cond := u_ws RX8 TX8 6
theorem nmX8 : ∀ a, a < 6 → ∀ b, b < 6 → a ≠ b → (TX8 a).2.1 ≠ (TX8 b).2.1 := by decide +kernel
theorem tyX8_ok : ∀ k, k < 6 → parseFieldDescriptor (TX8 k).2.2.1 = some (tyX8 k) := by decide +kernel
abbrev cX8_init : ByteArray := prog_1_method_1_code
def yX8_init : MethodName := ⟨RX8, "<init>", "()V"⟩
abbrev cX8_kind : ByteArray := prog_1_method_2_code
def yX8_kind : MethodName := ⟨RX8, "kind", "(IIII)I"⟩
abbrev cX8_bare : ByteArray := prog_1_method_3_code
def yX8_bare : MethodName := ⟨RX8, "bare", "(IZ)I"⟩
abbrev cX8_of : ByteArray := prog_1_method_4_code
def yX8_of : MethodName := ⟨RX8, "of", "(II)I"⟩
abbrev cX8_line : ByteArray := prog_1_method_5_code
def yX8_line : MethodName := ⟨RX8, "line", "(II)I"⟩
abbrev cX8_quarrel : ByteArray := prog_1_method_6_code
def yX8_quarrel : MethodName := ⟨RX8, "quarrel", "(I)I"⟩
abbrev cX8_say : ByteArray := prog_1_method_7_code
def yX8_say : MethodName := ⟨RX8, "say", "(I)I"⟩
abbrev cX8_wipe : ByteArray := prog_1_method_8_code
def yX8_wipe : MethodName := ⟨RX8, "wipe", "()I"⟩
abbrev cX8_fault : ByteArray := prog_1_method_9_code
def yX8_fault : MethodName := ⟨RX8, "fault", "()I"⟩
abbrev cX8_has : ByteArray := prog_1_method_10_code
def yX8_has : MethodName := ⟨RX8, "has", "(II)I"⟩
abbrev cX8_drop : ByteArray := prog_1_method_11_code
def yX8_drop : MethodName := ⟨RX8, "drop", "(II)I"⟩
abbrev cX8_answer : ByteArray := prog_1_method_12_code
def yX8_answer : MethodName := ⟨RX8, "answer", "(II)I"⟩
abbrev cX8_next : ByteArray := prog_1_method_13_code
def yX8_next : MethodName := ⟨RX8, "next", "(III)I"⟩
abbrev cX8_run : ByteArray := prog_1_method_14_code
def yX8_run : MethodName := ⟨RX8, "run", "(III)I"⟩
abbrev cX8_nearest : ByteArray := prog_1_method_15_code
def yX8_nearest : MethodName := ⟨RX8, "nearest", "(II)I"⟩
abbrev cX8_doubt : ByteArray := prog_1_method_16_code
def yX8_doubt : MethodName := ⟨RX8, "doubt", "(I)I"⟩
abbrev cX8_settle : ByteArray := prog_1_method_17_code
def yX8_settle : MethodName := ⟨RX8, "settle", "(II)I"⟩
abbrev cX8_shift : ByteArray := prog_1_method_18_code
def yX8_shift : MethodName := ⟨RX8, "shift", "(II)I"⟩
abbrev cX8_column : ByteArray := prog_1_method_19_code
def yX8_column : MethodName := ⟨RX8, "column", "(I)I"⟩
abbrev cX8_packed : ByteArray := prog_1_method_20_code
def yX8_packed : MethodName := ⟨RX8, "packed", "(I)I"⟩
abbrev cX8_slot : ByteArray := prog_1_method_21_code
def yX8_slot : MethodName := ⟨RX8, "slot", "(I)I"⟩
abbrev cX8_one : ByteArray := prog_1_method_22_code
def yX8_one : MethodName := ⟨RX8, "one", "(III)I"⟩
abbrev cX8_call : ByteArray := prog_1_method_23_code
def yX8_call : MethodName := ⟨RX8, "call", "(II)I"⟩
abbrev cX8_forget : ByteArray := prog_1_method_24_code
def yX8_forget : MethodName := ⟨RX8, "forget", "()I"⟩
abbrev cX8_size : ByteArray := prog_1_method_25_code
def yX8_size : MethodName := ⟨RX8, "size", "(II)I"⟩
abbrev cX8_hits : ByteArray := prog_1_method_26_code
def yX8_hits : MethodName := ⟨RX8, "hits", "(II)I"⟩
abbrev cX8_need : ByteArray := prog_1_method_27_code
def yX8_need : MethodName := ⟨RX8, "need", "(II)I"⟩
abbrev cX8_told : ByteArray := prog_1_method_28_code
def yX8_told : MethodName := ⟨RX8, "told", "(I)I"⟩
abbrev cX8_isName : ByteArray := prog_1_method_29_code
def yX8_isName : MethodName := ⟨RX8, "isName", "(I)Z"⟩
abbrev cX8_isPlace : ByteArray := prog_1_method_30_code
def yX8_isPlace : MethodName := ⟨RX8, "isPlace", "(I)Z"⟩
abbrev cX8_bitsOrCount : ByteArray := prog_1_method_31_code
def yX8_bitsOrCount : MethodName := ⟨RX8, "bitsOrCount", "(II)I"⟩
abbrev cX8_isIn : ByteArray := prog_1_method_32_code
def yX8_isIn : MethodName := ⟨RX8, "isIn", "(II)Z"⟩
def RX9 : String := "AnswerLinesModel"
def TX9 : u_T := fun k => match k with
  | 0 => ("AnswerLinesModel", "parents", "[I", true)
  | 1 => ("AnswerLinesModel", "parentMany", "[I", true)
  | 2 => ("AnswerLinesModel", "above", "[I", true)
  | 3 => ("AnswerLinesModel", "isBare", "[Z", true)
  | 4 => ("AnswerLinesModel", "kinds", "I", false)
  | 5 => ("AnswerLinesModel", "lines", "[I", true)
  | 6 => ("AnswerLinesModel", "lineLong", "[I", true)
  | 7 => ("AnswerLinesModel", "quarrels", "[I", true)
  | 8 => ("AnswerLinesModel", "rows", "[I", true)
  | 9 => ("AnswerLinesModel", "rowAt", "[I", true)
  | 10 => ("AnswerLinesModel", "rowEnd", "[I", true)
  | 11 => ("AnswerLinesModel", "rowMany", "I", false)
  | 12 => ("AnswerLinesModel", "signs", "[I", true)
  | 13 => ("AnswerLinesModel", "signMany", "[I", true)
  | 14 => ("AnswerLinesModel", "names", "[I", true)
  | 15 => ("AnswerLinesModel", "openPlace", "[I", true)
  | 16 => ("AnswerLinesModel", "openName", "[I", true)
  | 17 => ("AnswerLinesModel", "openSign", "[I", true)
  | 18 => ("AnswerLinesModel", "open", "I", false)
  | 19 => ("AnswerLinesModel", "worked", "I", false)
  | 20 => ("AnswerLinesModel", "said", "[I", true)
  | 21 => ("AnswerLinesModel", "saidMany", "I", false)
  | 22 => ("AnswerLinesModel", "endIs", "I", false)
  | 23 => ("AnswerLinesModel", "against", "[I", true)
  | 24 => ("AnswerLinesModel", "columns", "[I", true)
  | 25 => ("AnswerLinesModel", "columnMany", "I", false)
  | 26 => ("AnswerLinesModel", "slots", "[I", true)
  | 27 => ("AnswerLinesModel", "pushed", "[I", true)
  | 28 => ("AnswerLinesModel", "packedLong", "I", false)
  | 29 => ("AnswerLinesModel", "callPlace", "[I", true)
  | 30 => ("AnswerLinesModel", "callKind", "[I", true)
  | 31 => ("AnswerLinesModel", "calls", "I", false)
  | 32 => ("AnswerLinesModel", "sizes", "[I", true)
  | 33 => ("AnswerLinesModel", "remembered", "[I", true)
  | _ => ("AnswerLinesModel", "rememberedMany", "I", false)
def tyX9 : Nat → FieldType := fun k => match k with
  | 0 => .array .int
  | 1 => .array .int
  | 2 => .array .int
  | 3 => .array .boolean
  | 4 => .int
  | 5 => .array .int
  | 6 => .array .int
  | 7 => .array .int
  | 8 => .array .int
  | 9 => .array .int
  | 10 => .array .int
  | 11 => .int
  | 12 => .array .int
  | 13 => .array .int
  | 14 => .array .int
  | 15 => .array .int
  | 16 => .array .int
  | 17 => .array .int
  | 18 => .int
  | 19 => .int
  | 20 => .array .int
  | 21 => .int
  | 22 => .int
  | 23 => .array .int
  | 24 => .array .int
  | 25 => .int
  | 26 => .array .int
  | 27 => .array .int
  | 28 => .int
  | 29 => .array .int
  | 30 => .array .int
  | 31 => .int
  | 32 => .array .int
  | 33 => .array .int
  | _ => .int
abbrev wsX90 : List Cond := u_ws RX9 TX9 35
theorem nmX9 : ∀ a, a < 35 → ∀ b, b < 35 → a ≠ b → (TX9 a).2.1 ≠ (TX9 b).2.1 := by decide +kernel
theorem tyX9_ok : ∀ k, k < 35 → parseFieldDescriptor (TX9 k).2.2.1 = some (tyX9 k) := by decide +kernel
abbrev cX9_init : ByteArray := prog_11_method_1_code
def yX9_init : MethodName := ⟨RX9, "<init>", "()V"⟩
abbrev cX9_in : ByteArray := prog_11_method_3_code
def yX9_in : MethodName := ⟨RX9, "in", "(JJJ)Z"⟩
abbrev cX9_ones : ByteArray := prog_11_method_4_code
def yX9_ones : MethodName := ⟨RX9, "ones", "(I)I"⟩
abbrev cX9_isKind : ByteArray := prog_11_method_5_code
def yX9_isKind : MethodName := ⟨RX9, "isKind", "(I)Z"⟩
abbrev cX9_isName : ByteArray := prog_11_method_6_code
def yX9_isName : MethodName := ⟨RX9, "isName", "(I)Z"⟩
abbrev cX9_kind : ByteArray := prog_11_method_7_code
def yX9_kind : MethodName := ⟨RX9, "kind", "(IIII)I"⟩
abbrev cX9_bare : ByteArray := prog_11_method_8_code
def yX9_bare : MethodName := ⟨RX9, "bare", "(IZ)I"⟩
abbrev cX9_belowOf : ByteArray := prog_11_method_9_code
def yX9_belowOf : MethodName := ⟨RX9, "belowOf", "(I)I"⟩
abbrev cX9_of : ByteArray := prog_11_method_10_code
def yX9_of : MethodName := ⟨RX9, "of", "(II)I"⟩
abbrev cX9_isWithin : ByteArray := prog_11_method_11_code
def yX9_isWithin : MethodName := ⟨RX9, "isWithin", "(I)Z"⟩
abbrev cX9_nextHead : ByteArray := prog_11_method_12_code
def yX9_nextHead : MethodName := ⟨RX9, "nextHead", "()I"⟩
abbrev cX9_layLine : ByteArray := prog_11_method_13_code
def yX9_layLine : MethodName := ⟨RX9, "layLine", "(I)V"⟩
abbrev cX9_line : ByteArray := prog_11_method_14_code
def yX9_line : MethodName := ⟨RX9, "line", "(II)I"⟩
abbrev cX9_quarrel : ByteArray := prog_11_method_15_code
def yX9_quarrel : MethodName := ⟨RX9, "quarrel", "(I)I"⟩
abbrev cX9_bodyOf : ByteArray := prog_11_method_16_code
def yX9_bodyOf : MethodName := ⟨RX9, "bodyOf", "(II)I"⟩
abbrev cX9_say : ByteArray := prog_11_method_17_code
def yX9_say : MethodName := ⟨RX9, "say", "(I)I"⟩
abbrev cX9_wipe : ByteArray := prog_11_method_18_code
def yX9_wipe : MethodName := ⟨RX9, "wipe", "()I"⟩
abbrev cX9_fault : ByteArray := prog_11_method_19_code
def yX9_fault : MethodName := ⟨RX9, "fault", "()I"⟩
abbrev cX9_hasName : ByteArray := prog_11_method_20_code
def yX9_hasName : MethodName := ⟨RX9, "hasName", "(II)Z"⟩
abbrev cX9_has : ByteArray := prog_11_method_21_code
def yX9_has : MethodName := ⟨RX9, "has", "(II)I"⟩
abbrev cX9_drop : ByteArray := prog_11_method_22_code
def yX9_drop : MethodName := ⟨RX9, "drop", "(II)I"⟩
abbrev cX9_placeOf : ByteArray := prog_11_method_23_code
def yX9_placeOf : MethodName := ⟨RX9, "placeOf", "(III)I"⟩
abbrev cX9_answerOf : ByteArray := prog_11_method_24_code
def yX9_answerOf : MethodName := ⟨RX9, "answerOf", "(III)I"⟩
abbrev cX9_answer : ByteArray := prog_11_method_25_code
def yX9_answer : MethodName := ⟨RX9, "answer", "(II)I"⟩
abbrev cX9_next : ByteArray := prog_11_method_26_code
def yX9_next : MethodName := ⟨RX9, "next", "(III)I"⟩
abbrev cX9_begin : ByteArray := prog_11_method_27_code
def yX9_begin : MethodName := ⟨RX9, "begin", "(III)V"⟩
abbrev cX9_runAll : ByteArray := prog_11_method_28_code
def yX9_runAll : MethodName := ⟨RX9, "runAll", "(II)V"⟩
abbrev cX9_work : ByteArray := prog_11_method_29_code
def yX9_work : MethodName := ⟨RX9, "work", "(III)V"⟩
abbrev cX9_run : ByteArray := prog_11_method_30_code
def yX9_run : MethodName := ⟨RX9, "run", "(III)I"⟩
abbrev cX9_nearestOf : ByteArray := prog_11_method_31_code
def yX9_nearestOf : MethodName := ⟨RX9, "nearestOf", "(II)I"⟩
abbrev cX9_havingOf : ByteArray := prog_11_method_32_code
def yX9_havingOf : MethodName := ⟨RX9, "havingOf", "(I)I"⟩
abbrev cX9_nearest : ByteArray := prog_11_method_33_code
def yX9_nearest : MethodName := ⟨RX9, "nearest", "(II)I"⟩
abbrev cX9_doubtBy : ByteArray := prog_11_method_34_code
def yX9_doubtBy : MethodName := ⟨RX9, "doubtBy", "(I)I"⟩
abbrev cX9_doubt : ByteArray := prog_11_method_35_code
def yX9_doubt : MethodName := ⟨RX9, "doubt", "(I)I"⟩
abbrev cX9_settle : ByteArray := prog_11_method_36_code
def yX9_settle : MethodName := ⟨RX9, "settle", "(II)I"⟩
abbrev cX9_shift : ByteArray := prog_11_method_37_code
def yX9_shift : MethodName := ⟨RX9, "shift", "(II)I"⟩
abbrev cX9_isRow : ByteArray := prog_11_method_38_code
def yX9_isRow : MethodName := ⟨RX9, "isRow", "(I)Z"⟩
abbrev cX9_answeredBy : ByteArray := prog_11_method_39_code
def yX9_answeredBy : MethodName := ⟨RX9, "answeredBy", "(I)I"⟩
abbrev cX9_findColumns : ByteArray := prog_11_method_40_code
def yX9_findColumns : MethodName := ⟨RX9, "findColumns", "()V"⟩
abbrev cX9_greatestAhead : ByteArray := prog_11_method_41_code
def yX9_greatestAhead : MethodName := ⟨RX9, "greatestAhead", "(I)I"⟩
abbrev cX9_isFree : ByteArray := prog_11_method_42_code
def yX9_isFree : MethodName := ⟨RX9, "isFree", "(I)Z"⟩
abbrev cX9_fill : ByteArray := prog_11_method_43_code
def yX9_fill : MethodName := ⟨RX9, "fill", "(II)Z"⟩
abbrev cX9_column : ByteArray := prog_11_method_44_code
def yX9_column : MethodName := ⟨RX9, "column", "(I)I"⟩
abbrev cX9_isOpenAt : ByteArray := prog_11_method_45_code
def yX9_isOpenAt : MethodName := ⟨RX9, "isOpenAt", "(II)Z"⟩
abbrev cX9_pack : ByteArray := prog_11_method_46_code
def yX9_pack : MethodName := ⟨RX9, "pack", "()V"⟩
abbrev cX9_packed : ByteArray := prog_11_method_47_code
def yX9_packed : MethodName := ⟨RX9, "packed", "(I)I"⟩
abbrev cX9_slot : ByteArray := prog_11_method_48_code
def yX9_slot : MethodName := ⟨RX9, "slot", "(I)I"⟩
abbrev cX9_one : ByteArray := prog_11_method_49_code
def yX9_one : MethodName := ⟨RX9, "one", "(III)I"⟩
abbrev cX9_isPlace : ByteArray := prog_11_method_50_code
def yX9_isPlace : MethodName := ⟨RX9, "isPlace", "(I)Z"⟩
abbrev cX9_call : ByteArray := prog_11_method_51_code
def yX9_call : MethodName := ⟨RX9, "call", "(II)I"⟩
abbrev cX9_forget : ByteArray := prog_11_method_52_code
def yX9_forget : MethodName := ⟨RX9, "forget", "()I"⟩
abbrev cX9_size : ByteArray := prog_11_method_53_code
def yX9_size : MethodName := ⟨RX9, "size", "(II)I"⟩
abbrev cX9_whereIs : ByteArray := prog_11_method_54_code
def yX9_whereIs : MethodName := ⟨RX9, "whereIs", "(I)I"⟩
abbrev cX9_takeOut : ByteArray := prog_11_method_55_code
def yX9_takeOut : MethodName := ⟨RX9, "takeOut", "(I)V"⟩
abbrev cX9_putFirst : ByteArray := prog_11_method_56_code
def yX9_putFirst : MethodName := ⟨RX9, "putFirst", "(I)V"⟩
abbrev cX9_nextCall : ByteArray := prog_11_method_57_code
def yX9_nextCall : MethodName := ⟨RX9, "nextCall", "(III)I"⟩
abbrev cX9_farthest : ByteArray := prog_11_method_58_code
def yX9_farthest : MethodName := ⟨RX9, "farthest", "(II)I"⟩
abbrev cX9_hitsBy : ByteArray := prog_11_method_59_code
def yX9_hitsBy : MethodName := ⟨RX9, "hitsBy", "(IIZ)I"⟩
abbrev cX9_hits : ByteArray := prog_11_method_60_code
def yX9_hits : MethodName := ⟨RX9, "hits", "(II)I"⟩
abbrev cX9_need : ByteArray := prog_11_method_61_code
def yX9_need : MethodName := ⟨RX9, "need", "(II)I"⟩
abbrev cX9_told : ByteArray := prog_11_method_62_code
def yX9_told : MethodName := ⟨RX9, "told", "(I)I"⟩
def RJ6 : String := "java/lang/Integer"
def TJ6 : u_T := fun k => match k with
  | _ => ("", "", "", false)
def tyJ6 : Nat → FieldType := fun k => match k with
  | _ => .int
abbrev wsJ60 : List Cond := u_ws RJ6 TJ6 0
theorem nmJ6 : ∀ a, a < 0 → ∀ b, b < 0 → a ≠ b → (TJ6 a).2.1 ≠ (TJ6 b).2.1 := by decide +kernel
theorem tyJ6_ok : ∀ k, k < 0 → parseFieldDescriptor (TJ6 k).2.2.1 = some (tyJ6 k) := by decide +kernel
abbrev cJ6_numberOfTrailingZeros_0f7a4 : ByteArray := prog_12_method_48_code
def yJ6_numberOfTrailingZeros_0f7a4 : MethodName := ⟨RJ6, "numberOfTrailingZeros", "(I)I"⟩
abbrev cJ6_bitCount_0f7a4 : ByteArray := prog_12_method_49_code
def yJ6_bitCount_0f7a4 : MethodName := ⟨RJ6, "bitCount", "(I)I"⟩
def RJ9 : String := "java/lang/Math"
def TJ9 : u_T := fun k => match k with
  | _ => ("", "", "", false)
def tyJ9 : Nat → FieldType := fun k => match k with
  | _ => .int
abbrev wsJ90 : List Cond := u_ws RJ9 TJ9 0
theorem nmJ9 : ∀ a, a < 0 → ∀ b, b < 0 → a ≠ b → (TJ9 a).2.1 ≠ (TJ9 b).2.1 := by decide +kernel
theorem tyJ9_ok : ∀ k, k < 0 → parseFieldDescriptor (TJ9 k).2.2.1 = some (tyJ9 k) := by decide +kernel
abbrev cJ9_max_7cf53 : ByteArray := prog_13_method_65_code
def yJ9_max_7cf53 : MethodName := ⟨RJ9, "max", "(II)I"⟩
abbrev cJ9_min_7cf53 : ByteArray := prog_13_method_69_code
def yJ9_min_7cf53 : MethodName := ⟨RJ9, "min", "(II)I"⟩
def RL : String := "AnswerLinesLaw"
abbrev cL_law : ByteArray := code
def yL_law : MethodName := ⟨RL, "law", "([I)Z"⟩
theorem inJ6 : ∀ w ∈ wsJ60, w ∈ lw_tbl := by decide +kernel
theorem inJ9 : ∀ w ∈ wsJ90, w ∈ lw_tbl := by decide +kernel
abbrev vwCl : List vw_C := [(RX0, TX0, 3), (RX1, TX1, 8), (RX2, TX2, 2), (RX3, TX3, 6), (RX4, TX4, 4), (RX5, TX5, 4), (RX7, TX7, 5), (RX8, TX8, 6), (RX9, TX9, 35)]
end
section
/-! small rows of our own: tops of the stack, Int facts, worlds of contracts -/
section HLP
variable {p : Program} {l : Launch} {e : Env} {R : Room} {s : State} {m : MethodId} {args : Array Value} {below : List Frame} {meth : Method} {c : Code} {H : Heap} {locs : List Loc} {cells slots : Nat} {Q : State → Prop} {pc : Nat} {ls : Array Slot} {rest : List Value}
theorem hx_top {x y : Int32} (h : x = y) (k : W p l e R s m args below meth c H locs cells slots Q (F0 m pc ls (.int y :: rest))) : W p l e R s m args below meth c H locs cells slots Q (F0 m pc ls (.int x :: rest)) := by
  rw [h]; exact k
end HLP
theorem fx_lt {x c : Int32} {C : Int} (hc : c.toInt = C) (h : x < c) : x.toInt < C := hc ▸ Int32.lt_iff_toInt_lt.mp h
theorem fx_le {x c : Int32} {C : Int} (hc : c.toInt = C) (h : x ≤ c) : x.toInt ≤ C := hc ▸ Int32.le_iff_toInt_le.mp h
theorem fx_gt {x c : Int32} {C : Int} (hc : c.toInt = C) (h : c < x) : C < x.toInt := hc ▸ Int32.lt_iff_toInt_lt.mp h
theorem fx_ge {x c : Int32} {C : Int} (hc : c.toInt = C) (h : c ≤ x) : C ≤ x.toInt := hc ▸ Int32.le_iff_toInt_le.mp h
theorem fx_eq {x c : Int32} {C : Int} (hc : c.toInt = C) (h : x = c) : x.toInt = C := by rw [h]; exact hc
theorem fx_ne {x c : Int32} {C : Int} (hc : c.toInt = C) (h : ¬ x = c) : x.toInt ≠ C := fun e => h (Int32.toInt_inj.mp (e.trans hc.symm))
theorem fn_lt {x c : Int32} {C : Int} (hc : c.toInt = C) (h : ¬ x < c) : C ≤ x.toInt := by have h1 := mt Int32.lt_iff_toInt_lt.mpr h; rw [hc] at h1; omega
theorem fn_le {x c : Int32} {C : Int} (hc : c.toInt = C) (h : ¬ x ≤ c) : C < x.toInt := by have h1 := mt Int32.le_iff_toInt_le.mpr h; rw [hc] at h1; omega
theorem fn_gt {x c : Int32} {C : Int} (hc : c.toInt = C) (h : ¬ c < x) : x.toInt ≤ C := by have h1 := mt Int32.lt_iff_toInt_lt.mpr h; rw [hc] at h1; omega
theorem fn_ge {x c : Int32} {C : Int} (hc : c.toInt = C) (h : ¬ c ≤ x) : x.toInt < C := by have h1 := mt Int32.le_iff_toInt_le.mpr h; rw [hc] at h1; omega
theorem fn_eq {x c : Int32} {C : Int} (hc : c.toInt = C) (h : ¬ x = c) : x.toInt ≠ C := fx_ne hc h
theorem fn_ne {x c : Int32} {C : Int} (hc : c.toInt = C) (h : x = c) : x.toInt = C := fx_eq hc h
theorem fx_rng (x : Int32) : -2147483648 ≤ x.toInt ∧ x.toInt < 2147483648 := by
  have h1 := Int32.le_toInt x
  have h2 := Int32.toInt_lt x
  omega
theorem fx_in {x : Int32} {n : Nat} (h0 : 0 ≤ x.toInt) (h : x.toInt < n) : vp_in x n := vp_in_iff.mpr ⟨h0, h⟩
theorem fx_cl {x : Int32} {n : Nat} (h0 : 0 ≤ x.toInt) (h : x.toInt < n) : x.toNatClampNeg < n := by
  have h1 : x.toNatClampNeg = x.toInt.toNat := rfl
  omega
theorem fx_sub {x c : Int32} {C : Int} (hc : c.toInt = C) (h1 : -2147483648 ≤ x.toInt - C) (h2 : x.toInt - C < 2147483648) : (x - c).toInt = x.toInt - C := by
  rw [Int32.toInt_sub, hc, Int.bmod_eq_of_le (by omega) (by omega)]
theorem fx_bool {P : Prop} [Decidable P] {r : Int32} (h : r = if P then 1 else 0) : (r = 1 ∧ P) ∨ (r = 0 ∧ ¬ P) := by
  by_cases hp : P
  · rw [if_pos hp] at h; exact Or.inl ⟨h, hp⟩
  · rw [if_neg hp] at h; exact Or.inr ⟨h, hp⟩
theorem nz_lt {a b : Nat} (ha : a < 2 ^ 31) (hb : b < 2 ^ 31) (h : nI a < nI b) : a < b := (nI_ltI ha hb).mp h
theorem nz_ltn {a b : Nat} (ha : a < 2 ^ 31) (hb : b < 2 ^ 31) (h : ¬ nI a < nI b) : ¬ (a < b) := fun q => h ((nI_ltI ha hb).mpr q)
theorem nz_le {a b : Nat} (ha : a < 2 ^ 31) (hb : b < 2 ^ 31) (h : nI a ≤ nI b) : a ≤ b := (nI_leI ha hb).mp h
theorem nz_len {a b : Nat} (ha : a < 2 ^ 31) (hb : b < 2 ^ 31) (h : ¬ nI a ≤ nI b) : ¬ (a ≤ b) := fun q => h ((nI_leI ha hb).mpr q)
theorem nz_ge {a b : Nat} (ha : a < 2 ^ 31) (hb : b < 2 ^ 31) (h : nI b ≤ nI a) : a ≥ b := (nI_leI hb ha).mp h
theorem nz_gen {a b : Nat} (ha : a < 2 ^ 31) (hb : b < 2 ^ 31) (h : ¬ nI b ≤ nI a) : ¬ (a ≥ b) := fun q => h ((nI_leI hb ha).mpr q)
theorem nz_gt {a b : Nat} (ha : a < 2 ^ 31) (hb : b < 2 ^ 31) (h : nI b < nI a) : a > b := (nI_ltI hb ha).mp h
theorem nz_gtn {a b : Nat} (ha : a < 2 ^ 31) (hb : b < 2 ^ 31) (h : ¬ nI b < nI a) : ¬ (a > b) := fun q => h ((nI_ltI hb ha).mpr q)
theorem nz_eq {a b : Nat} (ha : a < 2 ^ 31) (hb : b < 2 ^ 31) (h : nI a = nI b) : a = b := (nI_eq ha hb).mp h
theorem nz_eqn {a b : Nat} (ha : a < 2 ^ 31) (hb : b < 2 ^ 31) (h : ¬ nI a = nI b) : ¬ (a = b) := fun q => h ((nI_eq ha hb).mpr q)
theorem z_and (x : Int32) : (0 : Int32) &&& x = 0 := by apply Int32.toBitVec_inj.mp; simp
theorem z_shr (x : Int32) : (0 : Int32) >>> (x &&& 31) = 0 := by apply Int32.toBitVec_inj.mp; simp
def slF (a b : Int32) (k : Nat) : Nat → Int32 := fun j => if j < k then a else b
theorem slF_0 (a b : Int32) : slF a b 0 = fun _ => b := by funext j; simp [slF]
theorem slF_in {a b : Int32} {k j : Nat} (h : j < k) : slF a b k j = a := if_pos h
theorem slF_u (a b : Int32) (k : Nat) : upd (slF a b k) k a = slF a b (k + 1) := by
  funext j
  unfold upd slF
  by_cases h : j = k
  · rw [if_pos h, if_pos (by omega)]
  · rw [if_neg h]
    by_cases h2 : j < k
    · rw [if_pos h2, if_pos (by omega)]
    · rw [if_neg h2, if_neg (by omega)]
theorem slF_u0 (a b : Int32) : upd (fun _ => b) 0 a = slF a b 1 := by
  rw [← slF_0 a b]; exact slF_u a b 0
theorem slF_n {a b : Int32} {k : Nat} (h : k < 2 ^ 31) : upd (slF a b k) (Int32.toNatClampNeg (nI k)) a = slF a b (k + 1) := by
  rw [nI_clamp h]; exact slF_u a b k
theorem upd_const (v : Int32) (k : Nat) : upd (fun _ => v) k v = fun _ => v := by funext j; unfold upd; split <;> rfl
/-- the nest mates' links -/
def nw_list : List (String × Nat × MethodName × String) := [(RX8, 9, yX1_init, RX8), (RX1, 29, yX4_init, RX8), (RX8, 18, yX2_init, RX8), (RX8, 25, yX0_init, RX8), (RX8, 32, yX5_init, RX8), (RX8, 39, yX7_init, RX8), (RX4, 32, yX8_isIn, RX8), (RX1, 45, yX8_isIn, RX8), (RX0, 22, yX8_isName, RX8), (RX0, 30, yX8_isIn, RX8), (RX6, 15, yX8_isIn, RX8), (RX7, 62, yX8_isIn, RX8), (RX7, 50, yX8_isName, RX8), (RX3, 32, yX8_isPlace, RX8), (RX3, 50, yX8_isIn, RX8)]
def nw_ok (U : State) : Prop := ∀ q ∈ nw_list, va_Nw (.methodLinkNest q.1 q.2.1 q.2.2.1 q.2.2.2) U
theorem nw_ok.warm {s U : State} (hW : s.WarmedH U.vm) (h : nw_ok s) : nw_ok U := fun q hq => va_Nw.warmM hW (h q hq)
theorem nw_ok.calling {U : State} {g : JFrame} {mk : MethodId} {a : Array Value} (h : nw_ok U) : nw_ok (U.calling g mk a) := fun q hq => va_Nw.same rfl rfl (h q hq)
def pcW (dC : Nat → ClassId) (dI : Nat → Nat → Nat) (tys : List (ClassId × FieldType)) (ws : va_W) (sz : Nat) (U : State) : Prop := U.heap.size = sz ∧ nw_ok U ∧ va_P (dC, dI) vwCl ws U.heap ∧ va_K (dC, dI) vwCl tys U ∧ va_D (fun _ => True) ws
theorem pcW_blind {av : List Value} {dC : Nat → ClassId} {dI : Nat → Nat → Nat} {tys : List (ClassId × FieldType)} {ws : va_W} {sz : Nat} : FrameBlind (va_Pc av (pcW dC dI tys ws sz)) := by
  intro a U g mk q
  obtain ⟨q0, q1, q2, q3, q4, q5⟩ := q
  exact ⟨q0, q1, q2.calling, q3, va_K.moved (u := U) (U := U.calling g mk a) (Vm.Alike.refl U.vm) q4, q5⟩
theorem pcW_at {av : List Value} {dC : Nat → ClassId} {dI : Nat → Nat → Nat} {tys : List (ClassId × FieldType)} {ws : va_W} {H : Heap} {s : State} {A : Nat → Prop} (hP : va_P (dC, dI) vwCl ws H) (hK : va_K (dC, dI) vwCl tys s) (hD : va_D A ws) (hN : nw_ok s) : ∀ U : State, U.heap = H → s.WarmedH U.vm → va_Pc av (pcW dC dI tys ws H.size) av.toArray U :=
  fun U hU hW => ⟨rfl, by rw [hU], hN.warm hW, by rw [hU]; exact hP, va_K.moved hW.alike hK, hD.weaken (fun _ _ _ _ => trivial)⟩
theorem keepP {D : va_G} {cl : List vw_C} {ws : va_W} {H H1 : Heap} (hP : va_P D cl ws H) (hk : ∀ q : Nat, q < H.size → ¬ (H.size ≤ q) → H1[q]? = H[q]?) : va_P D cl ws H1 :=
  hP.kept (fun k q h => hk q.1 (hP k q h).lt (Nat.not_le.mpr (hP k q h).lt))
theorem nilP {D : va_G} {cl : List vw_C} {H : Heap} : va_P D cl [] H := fun k q h => by simp at h
theorem nilD {A : Nat → Prop} : va_D A [] := ⟨fun i j p q h => by simp at h, fun k q h => by simp at h⟩
/-- the tables' good words: every contract stands on all of them -/
def BG : List Cond := lw_tbl.filter goodWord
def wq (y : MethodName) (b : ByteArray) (n : Nat) (r : Option FieldType) : List Cond := .code y b n r :: BG
theorem mB {w : Cond} (h : w ∈ lw_tbl) (g : goodWord w = true) : w ∈ BG := List.mem_filter.mpr ⟨h, g⟩
theorem BG_lw {w : Cond} (h : w ∈ BG) : w ∈ lw_tbl := (List.mem_filter.mp h).1
theorem t0 {w : Cond} {i : Nat} (h : (k2_sels lw_privs)[i]? = some w) : w ∈ lw_tbl := List.mem_append_left _ (List.mem_of_getElem? h)
theorem t1 {w : Cond} {i : Nat} (h : tables_1_1[i]? = some w) : w ∈ lw_tbl := List.mem_append_right _ (List.mem_append_left _ (List.mem_of_getElem? h))
theorem t2 {w : Cond} {i : Nat} (h : tables_1_2[i]? = some w) : w ∈ lw_tbl := List.mem_append_right _ (List.mem_append_right _ (List.mem_append_left _ (List.mem_of_getElem? h)))
theorem t3 {w : Cond} {i : Nat} (h : tables_1_3[i]? = some w) : w ∈ lw_tbl := List.mem_append_right _ (List.mem_append_right _ (List.mem_append_right _ (List.mem_append_left _ (List.mem_of_getElem? h))))
theorem t4 {w : Cond} {i : Nat} (h : tables_1_4[i]? = some w) : w ∈ lw_tbl := List.mem_append_right _ (List.mem_append_right _ (List.mem_append_right _ (List.mem_append_right _ (List.mem_append_left _ (List.mem_of_getElem? h)))))
theorem t5 {w : Cond} {i : Nat} (h : tables_1_5[i]? = some w) : w ∈ lw_tbl := List.mem_append_right _ (List.mem_append_right _ (List.mem_append_right _ (List.mem_append_right _ (List.mem_append_right _ (List.mem_of_getElem? h)))))
theorem BG_good {w : Cond} (h : w ∈ BG) : (w.onTables && w.keeps) = true ∨ ∃ ty, w = .arrayClass ty := good_of_word (List.mem_filter.mp h).2
theorem gN {y : MethodName} {b : ByteArray} {n : Nat} {r : Option FieldType} (h : Cond.code y b n r ∈ BG) : GoodIn BG (wq y b n r) := by
  intro w hw
  have h1 : w ∈ BG := (List.mem_cons.mp hw).elim (fun e => e ▸ h) id
  exact ⟨h1, BG_good h1⟩
theorem gApp {a b : List Cond} (ha : ∀ w ∈ a, w ∈ BG) (hb : GoodIn BG b) : GoodIn BG (a ++ b) := fun w h => (List.mem_append.mp h).elim (fun q => ⟨ha w q, BG_good (ha w q)⟩) (hb w)
theorem gV {own C : String} {idx : Nat} {y : MethodName} {b : ByteArray} {n : Nat} {r : Option FieldType} (h1 : Cond.methodLink own idx y ∈ BG) (h2 : Cond.instanceMethod y ∈ BG) (h3 : Cond.selects C y y ∈ BG) (h4 : Cond.initialized C ∈ BG) (h5 : Cond.code y b n r ∈ BG) : GoodIn BG (wsV own idx C y (wq y b n r)) :=
  gApp (List.forall_mem_cons.mpr ⟨h1, List.forall_mem_cons.mpr ⟨h2, List.forall_mem_cons.mpr ⟨h3, List.forall_mem_cons.mpr ⟨h4, fun _ h => absurd h List.not_mem_nil⟩⟩⟩⟩) (gN h5)
theorem gS {own : String} {idx : Nat} {y : MethodName} {b : ByteArray} {n : Nat} {r : Option FieldType} (h1 : Cond.methodLink own idx y ∈ BG) (h2 : Cond.static y ∈ BG) (h4 : Cond.initialized y.cls ∈ BG) (h5 : Cond.code y b n r ∈ BG) : GoodIn BG (va_wsS own idx y (wq y b n r)) :=
  gApp (List.forall_mem_cons.mpr ⟨h1, List.forall_mem_cons.mpr ⟨h2, List.forall_mem_cons.mpr ⟨h4, fun _ h => absurd h List.not_mem_nil⟩⟩⟩) (gN h5)
theorem lc_lt {x y : Int32} (h : lg_cmp (Int32.toInt64 x) (Int32.toInt64 y) < 0) : x.toInt < y.toInt := by
  rw [lg_cmp_lt, Int64.lt_iff_toInt_lt, Int32.toInt_toInt64, Int32.toInt_toInt64] at h
  exact h
theorem lc_ltn {x y : Int32} (h : ¬ lg_cmp (Int32.toInt64 x) (Int32.toInt64 y) < 0) : y.toInt ≤ x.toInt := by
  rw [lg_cmp_lt, Int64.lt_iff_toInt_lt, Int32.toInt_toInt64, Int32.toInt_toInt64] at h
  omega
theorem lc_gt {x y : Int32} (h : 0 < lg_cmp (Int32.toInt64 x) (Int32.toInt64 y)) : y.toInt < x.toInt := by
  rw [lg_cmp_gt, Int64.lt_iff_toInt_lt, Int32.toInt_toInt64, Int32.toInt_toInt64] at h
  exact h
theorem lc_gtn {x y : Int32} (h : ¬ 0 < lg_cmp (Int32.toInt64 x) (Int32.toInt64 y)) : x.toInt ≤ y.toInt := by
  rw [lg_cmp_gt, Int64.lt_iff_toInt_lt, Int32.toInt_toInt64, Int32.toInt_toInt64] at h
  omega
end
section
theorem mw_2_220 : Cond.constant RJ6 265 (1431655765) ∈ BG := mB (t2 (i := 220) (by decide +kernel)) (by decide +kernel)
theorem mw_2_221 : Cond.constant RJ6 266 (858993459) ∈ BG := mB (t2 (i := 221) (by decide +kernel)) (by decide +kernel)
theorem mw_2_222 : Cond.constant RJ6 267 (252645135) ∈ BG := mB (t2 (i := 222) (by decide +kernel)) (by decide +kernel)
theorem mw_2_219 : Cond.code yJ6_bitCount_0f7a4 cJ6_bitCount_0f7a4 1 (some .int) ∈ BG := mB (t2 (i := 219) rfl) (by decide +kernel)
theorem mw_2_233 : Cond.methodLink RX8 214 yJ6_bitCount_0f7a4 ∈ BG := mB (t2 (i := 233) (by decide +kernel)) (by decide +kernel)
theorem mw_2_218 : Cond.static yJ6_bitCount_0f7a4 ∈ BG := mB (t2 (i := 218) (by decide +kernel)) (by decide +kernel)
theorem mw_1_12 : Cond.initialized RJ6 ∈ BG := mB (t1 (i := 12) (by decide +kernel)) (by decide +kernel)
theorem dX8_isName_0 : decode cX8_isName 0 = .ok (.iload_n 0, 1) := by decide +kernel
theorem dX8_isName_1 : decode cX8_isName 1 = .ok (.ifCond .lt 13, 3) := by decide +kernel
theorem dX8_isName_14 : decode cX8_isName 14 = .ok (.iconst 0, 1) := by decide +kernel
theorem dX8_isName_15 : decode cX8_isName 15 = .ok (.ireturn, 1) := by decide +kernel
theorem dX8_isName_4 : decode cX8_isName 4 = .ok (.iload_n 0, 1) := by decide +kernel
theorem dX8_isName_5 : decode cX8_isName 5 = .ok (.bipush 8, 2) := by decide +kernel
theorem dX8_isName_7 : decode cX8_isName 7 = .ok (.if_icmp .ge 7, 3) := by decide +kernel
theorem dX8_isName_10 : decode cX8_isName 10 = .ok (.iconst 1, 1) := by decide +kernel
theorem dX8_isName_11 : decode cX8_isName 11 = .ok (.goto 4, 3) := by decide +kernel
theorem dX8_isPlace_0 : decode cX8_isPlace 0 = .ok (.iload_n 0, 1) := by decide +kernel
theorem dX8_isPlace_1 : decode cX8_isPlace 1 = .ok (.ifCond .lt 12, 3) := by decide +kernel
theorem dX8_isPlace_13 : decode cX8_isPlace 13 = .ok (.iconst 0, 1) := by decide +kernel
theorem dX8_isPlace_14 : decode cX8_isPlace 14 = .ok (.ireturn, 1) := by decide +kernel
theorem dX8_isPlace_4 : decode cX8_isPlace 4 = .ok (.iload_n 0, 1) := by decide +kernel
theorem dX8_isPlace_5 : decode cX8_isPlace 5 = .ok (.iconst 4, 1) := by decide +kernel
theorem dX8_isPlace_6 : decode cX8_isPlace 6 = .ok (.if_icmp .ge 7, 3) := by decide +kernel
theorem dX8_isPlace_9 : decode cX8_isPlace 9 = .ok (.iconst 1, 1) := by decide +kernel
theorem dX8_isPlace_10 : decode cX8_isPlace 10 = .ok (.goto 4, 3) := by decide +kernel
theorem dX8_isIn_0 : decode cX8_isIn 0 = .ok (.iload_n 1, 1) := by decide +kernel
theorem dX8_isIn_1 : decode cX8_isIn 1 = .ok (.iload_n 0, 1) := by decide +kernel
theorem dX8_isIn_2 : decode cX8_isIn 2 = .ok (.ishr, 1) := by decide +kernel
theorem dX8_isIn_3 : decode cX8_isIn 3 = .ok (.iconst 1, 1) := by decide +kernel
theorem dX8_isIn_4 : decode cX8_isIn 4 = .ok (.iand, 1) := by decide +kernel
theorem dX8_isIn_5 : decode cX8_isIn 5 = .ok (.ifCond .eq 7, 3) := by decide +kernel
theorem dX8_isIn_12 : decode cX8_isIn 12 = .ok (.iconst 0, 1) := by decide +kernel
theorem dX8_isIn_13 : decode cX8_isIn 13 = .ok (.ireturn, 1) := by decide +kernel
theorem dJ6_bitCount_0f7a4_0 : decode cJ6_bitCount_0f7a4 0 = .ok (.iload_n 0, 1) := by decide +kernel
theorem dJ6_bitCount_0f7a4_1 : decode cJ6_bitCount_0f7a4 1 = .ok (.iload_n 0, 1) := by decide +kernel
theorem dJ6_bitCount_0f7a4_2 : decode cJ6_bitCount_0f7a4 2 = .ok (.iconst 1, 1) := by decide +kernel
theorem dJ6_bitCount_0f7a4_3 : decode cJ6_bitCount_0f7a4 3 = .ok (.iushr, 1) := by decide +kernel
theorem dJ6_bitCount_0f7a4_4 : decode cJ6_bitCount_0f7a4 4 = .ok (.ldc_w 265, 3) := by decide +kernel
theorem dJ6_bitCount_0f7a4_7 : decode cJ6_bitCount_0f7a4 7 = .ok (.iand, 1) := by decide +kernel
theorem dJ6_bitCount_0f7a4_8 : decode cJ6_bitCount_0f7a4 8 = .ok (.isub, 1) := by decide +kernel
theorem dJ6_bitCount_0f7a4_9 : decode cJ6_bitCount_0f7a4 9 = .ok (.istore_n 0, 1) := by decide +kernel
theorem dJ6_bitCount_0f7a4_10 : decode cJ6_bitCount_0f7a4 10 = .ok (.iload_n 0, 1) := by decide +kernel
theorem dJ6_bitCount_0f7a4_11 : decode cJ6_bitCount_0f7a4 11 = .ok (.ldc_w 266, 3) := by decide +kernel
theorem dJ6_bitCount_0f7a4_14 : decode cJ6_bitCount_0f7a4 14 = .ok (.iand, 1) := by decide +kernel
theorem dJ6_bitCount_0f7a4_15 : decode cJ6_bitCount_0f7a4 15 = .ok (.iload_n 0, 1) := by decide +kernel
theorem dJ6_bitCount_0f7a4_16 : decode cJ6_bitCount_0f7a4 16 = .ok (.iconst 2, 1) := by decide +kernel
theorem dJ6_bitCount_0f7a4_17 : decode cJ6_bitCount_0f7a4 17 = .ok (.iushr, 1) := by decide +kernel
theorem dJ6_bitCount_0f7a4_18 : decode cJ6_bitCount_0f7a4 18 = .ok (.ldc_w 266, 3) := by decide +kernel
theorem dJ6_bitCount_0f7a4_21 : decode cJ6_bitCount_0f7a4 21 = .ok (.iand, 1) := by decide +kernel
theorem dJ6_bitCount_0f7a4_22 : decode cJ6_bitCount_0f7a4 22 = .ok (.iadd, 1) := by decide +kernel
theorem dJ6_bitCount_0f7a4_23 : decode cJ6_bitCount_0f7a4 23 = .ok (.istore_n 0, 1) := by decide +kernel
theorem dJ6_bitCount_0f7a4_24 : decode cJ6_bitCount_0f7a4 24 = .ok (.iload_n 0, 1) := by decide +kernel
theorem dJ6_bitCount_0f7a4_25 : decode cJ6_bitCount_0f7a4 25 = .ok (.iload_n 0, 1) := by decide +kernel
theorem dJ6_bitCount_0f7a4_26 : decode cJ6_bitCount_0f7a4 26 = .ok (.iconst 4, 1) := by decide +kernel
theorem dJ6_bitCount_0f7a4_27 : decode cJ6_bitCount_0f7a4 27 = .ok (.iushr, 1) := by decide +kernel
theorem dJ6_bitCount_0f7a4_28 : decode cJ6_bitCount_0f7a4 28 = .ok (.iadd, 1) := by decide +kernel
theorem dJ6_bitCount_0f7a4_29 : decode cJ6_bitCount_0f7a4 29 = .ok (.ldc_w 267, 3) := by decide +kernel
theorem dJ6_bitCount_0f7a4_32 : decode cJ6_bitCount_0f7a4 32 = .ok (.iand, 1) := by decide +kernel
theorem dJ6_bitCount_0f7a4_33 : decode cJ6_bitCount_0f7a4 33 = .ok (.istore_n 0, 1) := by decide +kernel
theorem dJ6_bitCount_0f7a4_34 : decode cJ6_bitCount_0f7a4 34 = .ok (.iload_n 0, 1) := by decide +kernel
theorem dJ6_bitCount_0f7a4_35 : decode cJ6_bitCount_0f7a4 35 = .ok (.iload_n 0, 1) := by decide +kernel
theorem dJ6_bitCount_0f7a4_36 : decode cJ6_bitCount_0f7a4 36 = .ok (.bipush 8, 2) := by decide +kernel
theorem dJ6_bitCount_0f7a4_38 : decode cJ6_bitCount_0f7a4 38 = .ok (.iushr, 1) := by decide +kernel
theorem dJ6_bitCount_0f7a4_39 : decode cJ6_bitCount_0f7a4 39 = .ok (.iadd, 1) := by decide +kernel
theorem dJ6_bitCount_0f7a4_40 : decode cJ6_bitCount_0f7a4 40 = .ok (.istore_n 0, 1) := by decide +kernel
theorem dJ6_bitCount_0f7a4_41 : decode cJ6_bitCount_0f7a4 41 = .ok (.iload_n 0, 1) := by decide +kernel
theorem dJ6_bitCount_0f7a4_42 : decode cJ6_bitCount_0f7a4 42 = .ok (.iload_n 0, 1) := by decide +kernel
theorem dJ6_bitCount_0f7a4_43 : decode cJ6_bitCount_0f7a4 43 = .ok (.bipush 16, 2) := by decide +kernel
theorem dJ6_bitCount_0f7a4_45 : decode cJ6_bitCount_0f7a4 45 = .ok (.iushr, 1) := by decide +kernel
theorem dJ6_bitCount_0f7a4_46 : decode cJ6_bitCount_0f7a4 46 = .ok (.iadd, 1) := by decide +kernel
theorem dJ6_bitCount_0f7a4_47 : decode cJ6_bitCount_0f7a4 47 = .ok (.istore_n 0, 1) := by decide +kernel
theorem dJ6_bitCount_0f7a4_48 : decode cJ6_bitCount_0f7a4 48 = .ok (.iload_n 0, 1) := by decide +kernel
theorem dJ6_bitCount_0f7a4_49 : decode cJ6_bitCount_0f7a4 49 = .ok (.bipush 63, 2) := by decide +kernel
theorem dJ6_bitCount_0f7a4_51 : decode cJ6_bitCount_0f7a4 51 = .ok (.iand, 1) := by decide +kernel
theorem dJ6_bitCount_0f7a4_52 : decode cJ6_bitCount_0f7a4 52 = .ok (.ireturn, 1) := by decide +kernel
theorem dX8_bitsOrCount_0 : decode cX8_bitsOrCount 0 = .ok (.iload_n 1, 1) := by decide +kernel
theorem dX8_bitsOrCount_1 : decode cX8_bitsOrCount 1 = .ok (.ifCond .ne 7, 3) := by decide +kernel
theorem dX8_bitsOrCount_8 : decode cX8_bitsOrCount 8 = .ok (.iload_n 0, 1) := by decide +kernel
theorem dX8_bitsOrCount_9 : decode cX8_bitsOrCount 9 = .ok (.invokestatic 214, 3) := by decide +kernel
theorem dX8_bitsOrCount_12 : decode cX8_bitsOrCount 12 = .ok (.ireturn, 1) := by decide +kernel
theorem dX8_bitsOrCount_4 : decode cX8_bitsOrCount 4 = .ok (.iload_n 0, 1) := by decide +kernel
theorem dX8_bitsOrCount_5 : decode cX8_bitsOrCount 5 = .ok (.goto 7, 3) := by decide +kernel
set_option maxHeartbeats 4000000 in
set_option maxRecDepth 100000 in
theorem c_isName (l : Launch) (dC : Nat → ClassId) (dI : Nat → Nat → Nat) (sz : Nat) (n : Int32)  : Met l yX8_isName (wq yX8_isName cX8_isName 1 (some .boolean)) ({ frames := 0, cells := 0, slots := 0, locals := 0 }) (va_Pc [.int n] (pcW dC dI [] [] sz)) (va_Qi (fun (r : Int32) (_ : Unit) => r = (if 0 ≤ Int32.toInt n ∧ Int32.toInt n ≤ 7 then 1 else 0)) (fun _ _ => True) (fun q : Nat => sz ≤ q)) 0 0 (fun q : Nat => sz ≤ q) := by
  refine Met.ofW (cc := cX8_isName) (maxL := 1) (ret := (some .boolean)) (by decide) rfl ?_
  intro p e s m args below meth c s₁ B hml hv
  obtain ⟨rfl, hsz, hN, hP, hK, hD0⟩ := hv
  have hx := B.exec
  have hb := B.bytes
  have hr := B.returns
  have hts0 := atoms_spec (ws := (wq yX8_isName cX8_isName 1 (some .boolean))) B.pre
  have hts : ∀ w ∈ BG, w.before _ s = true := fun w h => hts0 w (List.mem_cons_of_mem _ h)
  have hown : s.vm.findClass RX8 = some m.cls := findClass_of_methodNamed B.named
  have hlocks := B.notSynchronized
  subst hsz
  have hA : ∀ q : Nat, s.heap.size ≤ q → (fun q : Nat => s.heap.size ≤ q) q := fun _ h => h
  have hD := hD0
  have hS : va_S (fun q : Nat => s.heap.size ≤ q) s.heap s.heap [] := va_S.rf
  have hP : va_P (dC, dI) vwCl [] s.heap := hP
  have hl := lv_entry ([.int n]) (n := 1) (Nat.le_of_ble_eq_true rfl)
  rw [lg_entry_eq]
  generalize (lg_sl ([.int n]) ++ List.replicate (1 - (lg_sl ([.int n])).length) Slot.unset).toArray = ls at hl ⊢
  have hl : lv_has ls 1 [(0, .int n)] := hl
  skip
  refine lv_iload_n hx hb dX8_isName_0 rfl (lv_at hl 0 rfl) ?_
  refine lv_if_lt (tgt := 14) hx hb dX8_isName_1 (by decide) (fun c_1 => ?_) (fun c_1 => ?_)
  · have b_2 := fx_lt (x := n) (C := 0) (by decide) c_1
    refine lv_iconst (v := 0) hx hb dX8_isName_14 (by decide) ?_
    exact W.zret (v := 0) hx hb hr (by decide) (fun t ht hW => ⟨⟨0, (), rfl, (by first | exact (if_pos (by omega)).symm | exact (if_neg (by omega)).symm), trivial⟩, hS.F ht⟩) hS.2.2 dX8_isName_15
  · have b_2 := fn_lt (x := n) (C := 0) (by decide) c_1
    refine lv_iload_n hx hb dX8_isName_4 rfl (lv_at hl 0 rfl) ?_
    refine lv_bipush (v := 8) hx hb dX8_isName_5 (by decide) ?_
    refine lv_icmp_ge (tgt := 14) hx hb dX8_isName_7 (by decide) (fun c_3 => ?_) (fun c_3 => ?_)
    · have b_4 := fx_ge (x := n) (C := 8) (by decide) c_3
      refine lv_iconst (v := 0) hx hb dX8_isName_14 (by decide) ?_
      exact W.zret (v := 0) hx hb hr (by decide) (fun t ht hW => ⟨⟨0, (), rfl, (by first | exact (if_pos (by omega)).symm | exact (if_neg (by omega)).symm), trivial⟩, hS.F ht⟩) hS.2.2 dX8_isName_15
    · have b_4 := fn_ge (x := n) (C := 8) (by decide) c_3
      refine lv_iconst (v := 1) hx hb dX8_isName_10 (by decide) ?_
      refine lv_goto (tgt := 15) hx hb dX8_isName_11 (by decide) ?_
      exact W.zret (v := 1) hx hb hr (by decide) (fun t ht hW => ⟨⟨1, (), rfl, (by first | exact (if_pos (by omega)).symm | exact (if_neg (by omega)).symm), trivial⟩, hS.F ht⟩) hS.2.2 dX8_isName_15
set_option maxHeartbeats 4000000 in
set_option maxRecDepth 100000 in
theorem c_isPlace (l : Launch) (dC : Nat → ClassId) (dI : Nat → Nat → Nat) (sz : Nat) (n : Int32)  : Met l yX8_isPlace (wq yX8_isPlace cX8_isPlace 1 (some .boolean)) ({ frames := 0, cells := 0, slots := 0, locals := 0 }) (va_Pc [.int n] (pcW dC dI [] [] sz)) (va_Qi (fun (r : Int32) (_ : Unit) => r = (if 0 ≤ Int32.toInt n ∧ Int32.toInt n ≤ 3 then 1 else 0)) (fun _ _ => True) (fun q : Nat => sz ≤ q)) 0 0 (fun q : Nat => sz ≤ q) := by
  refine Met.ofW (cc := cX8_isPlace) (maxL := 1) (ret := (some .boolean)) (by decide) rfl ?_
  intro p e s m args below meth c s₁ B hml hv
  obtain ⟨rfl, hsz, hN, hP, hK, hD0⟩ := hv
  have hx := B.exec
  have hb := B.bytes
  have hr := B.returns
  have hts0 := atoms_spec (ws := (wq yX8_isPlace cX8_isPlace 1 (some .boolean))) B.pre
  have hts : ∀ w ∈ BG, w.before _ s = true := fun w h => hts0 w (List.mem_cons_of_mem _ h)
  have hown : s.vm.findClass RX8 = some m.cls := findClass_of_methodNamed B.named
  have hlocks := B.notSynchronized
  subst hsz
  have hA : ∀ q : Nat, s.heap.size ≤ q → (fun q : Nat => s.heap.size ≤ q) q := fun _ h => h
  have hD := hD0
  have hS : va_S (fun q : Nat => s.heap.size ≤ q) s.heap s.heap [] := va_S.rf
  have hP : va_P (dC, dI) vwCl [] s.heap := hP
  have hl := lv_entry ([.int n]) (n := 1) (Nat.le_of_ble_eq_true rfl)
  rw [lg_entry_eq]
  generalize (lg_sl ([.int n]) ++ List.replicate (1 - (lg_sl ([.int n])).length) Slot.unset).toArray = ls at hl ⊢
  have hl : lv_has ls 1 [(0, .int n)] := hl
  skip
  refine lv_iload_n hx hb dX8_isPlace_0 rfl (lv_at hl 0 rfl) ?_
  refine lv_if_lt (tgt := 13) hx hb dX8_isPlace_1 (by decide) (fun c_1 => ?_) (fun c_1 => ?_)
  · have b_2 := fx_lt (x := n) (C := 0) (by decide) c_1
    refine lv_iconst (v := 0) hx hb dX8_isPlace_13 (by decide) ?_
    exact W.zret (v := 0) hx hb hr (by decide) (fun t ht hW => ⟨⟨0, (), rfl, (by first | exact (if_pos (by omega)).symm | exact (if_neg (by omega)).symm), trivial⟩, hS.F ht⟩) hS.2.2 dX8_isPlace_14
  · have b_2 := fn_lt (x := n) (C := 0) (by decide) c_1
    refine lv_iload_n hx hb dX8_isPlace_4 rfl (lv_at hl 0 rfl) ?_
    refine lv_iconst (v := 4) hx hb dX8_isPlace_5 (by decide) ?_
    refine lv_icmp_ge (tgt := 13) hx hb dX8_isPlace_6 (by decide) (fun c_3 => ?_) (fun c_3 => ?_)
    · have b_4 := fx_ge (x := n) (C := 4) (by decide) c_3
      refine lv_iconst (v := 0) hx hb dX8_isPlace_13 (by decide) ?_
      exact W.zret (v := 0) hx hb hr (by decide) (fun t ht hW => ⟨⟨0, (), rfl, (by first | exact (if_pos (by omega)).symm | exact (if_neg (by omega)).symm), trivial⟩, hS.F ht⟩) hS.2.2 dX8_isPlace_14
    · have b_4 := fn_ge (x := n) (C := 4) (by decide) c_3
      refine lv_iconst (v := 1) hx hb dX8_isPlace_9 (by decide) ?_
      refine lv_goto (tgt := 14) hx hb dX8_isPlace_10 (by decide) ?_
      exact W.zret (v := 1) hx hb hr (by decide) (fun t ht hW => ⟨⟨1, (), rfl, (by first | exact (if_pos (by omega)).symm | exact (if_neg (by omega)).symm), trivial⟩, hS.F ht⟩) hS.2.2 dX8_isPlace_14
set_option maxHeartbeats 4000000 in
set_option maxRecDepth 100000 in
theorem c_isIn0 (l : Launch) (dC : Nat → ClassId) (dI : Nat → Nat → Nat) (sz : Nat) (n : Int32)  : Met l yX8_isIn (wq yX8_isIn cX8_isIn 2 (some .boolean)) ({ frames := 0, cells := 0, slots := 0, locals := 0 }) (va_Pc [.int n, .int 0] (pcW dC dI [] [] sz)) (va_Qi (fun (r : Int32) (_ : Unit) => r = 0) (fun _ _ => True) (fun q : Nat => sz ≤ q)) 0 0 (fun q : Nat => sz ≤ q) := by
  refine Met.ofW (cc := cX8_isIn) (maxL := 2) (ret := (some .boolean)) (by decide) rfl ?_
  intro p e s m args below meth c s₁ B hml hv
  obtain ⟨rfl, hsz, hN, hP, hK, hD0⟩ := hv
  have hx := B.exec
  have hb := B.bytes
  have hr := B.returns
  have hts0 := atoms_spec (ws := (wq yX8_isIn cX8_isIn 2 (some .boolean))) B.pre
  have hts : ∀ w ∈ BG, w.before _ s = true := fun w h => hts0 w (List.mem_cons_of_mem _ h)
  have hown : s.vm.findClass RX8 = some m.cls := findClass_of_methodNamed B.named
  have hlocks := B.notSynchronized
  subst hsz
  have hA : ∀ q : Nat, s.heap.size ≤ q → (fun q : Nat => s.heap.size ≤ q) q := fun _ h => h
  have hD := hD0
  have hS : va_S (fun q : Nat => s.heap.size ≤ q) s.heap s.heap [] := va_S.rf
  have hP : va_P (dC, dI) vwCl [] s.heap := hP
  have hl := lv_entry ([.int n, .int 0]) (n := 2) (Nat.le_of_ble_eq_true rfl)
  rw [lg_entry_eq]
  generalize (lg_sl ([.int n, .int 0]) ++ List.replicate (2 - (lg_sl ([.int n, .int 0])).length) Slot.unset).toArray = ls at hl ⊢
  have hl : lv_has ls 2 [(0, .int n), (1, .int 0)] := hl
  skip
  refine lv_iload_n hx hb dX8_isIn_0 rfl (lv_at hl 1 rfl) ?_
  refine lv_iload_n hx hb dX8_isIn_1 rfl (lv_at hl 0 rfl) ?_
  refine lv_ishr hx hb dX8_isIn_2 ?_
  refine hx_top (y := 0) (z_shr _) ?_
  refine lv_iconst (v := 1) hx hb dX8_isIn_3 (by decide) ?_
  refine lv_iand hx hb dX8_isIn_4 ?_
  refine hx_top (y := 0) (by decide) ?_
  refine lv_if_eq (tgt := 12) hx hb dX8_isIn_5 (by decide) (fun _ => ?_) (fun h => absurd (by decide) h)
  refine lv_iconst (v := 0) hx hb dX8_isIn_12 (by decide) ?_
  exact W.zret (v := 0) hx hb hr (by decide) (fun t ht hW => ⟨⟨0, (), rfl, rfl, trivial⟩, hS.F ht⟩) hS.2.2 dX8_isIn_13
set_option maxHeartbeats 4000000 in
set_option maxRecDepth 100000 in
theorem c_bit0 (l : Launch) (dC : Nat → ClassId) (dI : Nat → Nat → Nat) (sz : Nat)   : Met l yJ6_bitCount_0f7a4 (wq yJ6_bitCount_0f7a4 cJ6_bitCount_0f7a4 1 (some .int)) ({ frames := 0, cells := 0, slots := 0, locals := 0 }) (va_Pc [.int 0] (pcW dC dI [] [] sz)) (va_Qi (fun (r : Int32) (_ : Unit) => r = 0) (fun _ _ => True) (fun q : Nat => sz ≤ q)) 0 0 (fun q : Nat => sz ≤ q) := by
  refine Met.ofW (cc := cJ6_bitCount_0f7a4) (maxL := 1) (ret := (some .int)) (by decide) rfl ?_
  intro p e s m args below meth c s₁ B hml hv
  obtain ⟨rfl, hsz, hN, hP, hK, hD0⟩ := hv
  have hx := B.exec
  have hb := B.bytes
  have hr := B.returns
  have hts0 := atoms_spec (ws := (wq yJ6_bitCount_0f7a4 cJ6_bitCount_0f7a4 1 (some .int))) B.pre
  have hts : ∀ w ∈ BG, w.before _ s = true := fun w h => hts0 w (List.mem_cons_of_mem _ h)
  have hown : s.vm.findClass RJ6 = some m.cls := findClass_of_methodNamed B.named
  have hlocks := B.notSynchronized
  subst hsz
  have hA : ∀ q : Nat, s.heap.size ≤ q → (fun q : Nat => s.heap.size ≤ q) q := fun _ h => h
  have hD := hD0
  have hS : va_S (fun q : Nat => s.heap.size ≤ q) s.heap s.heap [] := va_S.rf
  have hP : va_P (dC, dI) vwCl [] s.heap := hP
  have hl := lv_entry ([.int 0]) (n := 1) (Nat.le_of_ble_eq_true rfl)
  rw [lg_entry_eq]
  generalize (lg_sl ([.int 0]) ++ List.replicate (1 - (lg_sl ([.int 0])).length) Slot.unset).toArray = ls at hl ⊢
  have hl : lv_has ls 1 [(0, .int 0)] := hl
  skip
  refine lv_iload_n hx hb dJ6_bitCount_0f7a4_0 rfl (lv_at hl 0 rfl) ?_
  refine lv_iload_n hx hb dJ6_bitCount_0f7a4_1 rfl (lv_at hl 0 rfl) ?_
  refine lv_iconst (v := 1) hx hb dJ6_bitCount_0f7a4_2 (by decide) ?_
  refine lv_iushr (v := 0) hx hb dJ6_bitCount_0f7a4_3 (by decide) ?_
  refine lv_ldcw (v := 1431655765) hx hb hown (hts _ mw_2_220) dJ6_bitCount_0f7a4_4 ?_
  refine lv_iand hx hb dJ6_bitCount_0f7a4_7 ?_
  refine hx_top (y := 0) (by decide) ?_
  refine lv_isub hx hb dJ6_bitCount_0f7a4_8 ?_
  refine hx_top (y := 0) (by decide) ?_
  refine lv_istore_n (lv' := [(0, .int 0)]) hx hb dJ6_bitCount_0f7a4_9 rfl hl (by decide) rfl (fun ls hl => ?_)
  refine lv_iload_n hx hb dJ6_bitCount_0f7a4_10 rfl (lv_at hl 0 rfl) ?_
  refine lv_ldcw (v := 858993459) hx hb hown (hts _ mw_2_221) dJ6_bitCount_0f7a4_11 ?_
  refine lv_iand hx hb dJ6_bitCount_0f7a4_14 ?_
  refine hx_top (y := 0) (by decide) ?_
  refine lv_iload_n hx hb dJ6_bitCount_0f7a4_15 rfl (lv_at hl 0 rfl) ?_
  refine lv_iconst (v := 2) hx hb dJ6_bitCount_0f7a4_16 (by decide) ?_
  refine lv_iushr (v := 0) hx hb dJ6_bitCount_0f7a4_17 (by decide) ?_
  refine lv_ldcw (v := 858993459) hx hb hown (hts _ mw_2_221) dJ6_bitCount_0f7a4_18 ?_
  refine lv_iand hx hb dJ6_bitCount_0f7a4_21 ?_
  refine hx_top (y := 0) (by decide) ?_
  refine lv_iadd hx hb dJ6_bitCount_0f7a4_22 ?_
  refine hx_top (y := 0) (by decide) ?_
  refine lv_istore_n (lv' := [(0, .int 0)]) hx hb dJ6_bitCount_0f7a4_23 rfl hl (by decide) rfl (fun ls hl => ?_)
  refine lv_iload_n hx hb dJ6_bitCount_0f7a4_24 rfl (lv_at hl 0 rfl) ?_
  refine lv_iload_n hx hb dJ6_bitCount_0f7a4_25 rfl (lv_at hl 0 rfl) ?_
  refine lv_iconst (v := 4) hx hb dJ6_bitCount_0f7a4_26 (by decide) ?_
  refine lv_iushr (v := 0) hx hb dJ6_bitCount_0f7a4_27 (by decide) ?_
  refine lv_iadd hx hb dJ6_bitCount_0f7a4_28 ?_
  refine hx_top (y := 0) (by decide) ?_
  refine lv_ldcw (v := 252645135) hx hb hown (hts _ mw_2_222) dJ6_bitCount_0f7a4_29 ?_
  refine lv_iand hx hb dJ6_bitCount_0f7a4_32 ?_
  refine hx_top (y := 0) (by decide) ?_
  refine lv_istore_n (lv' := [(0, .int 0)]) hx hb dJ6_bitCount_0f7a4_33 rfl hl (by decide) rfl (fun ls hl => ?_)
  refine lv_iload_n hx hb dJ6_bitCount_0f7a4_34 rfl (lv_at hl 0 rfl) ?_
  refine lv_iload_n hx hb dJ6_bitCount_0f7a4_35 rfl (lv_at hl 0 rfl) ?_
  refine lv_bipush (v := 8) hx hb dJ6_bitCount_0f7a4_36 (by decide) ?_
  refine lv_iushr (v := 0) hx hb dJ6_bitCount_0f7a4_38 (by decide) ?_
  refine lv_iadd hx hb dJ6_bitCount_0f7a4_39 ?_
  refine hx_top (y := 0) (by decide) ?_
  refine lv_istore_n (lv' := [(0, .int 0)]) hx hb dJ6_bitCount_0f7a4_40 rfl hl (by decide) rfl (fun ls hl => ?_)
  refine lv_iload_n hx hb dJ6_bitCount_0f7a4_41 rfl (lv_at hl 0 rfl) ?_
  refine lv_iload_n hx hb dJ6_bitCount_0f7a4_42 rfl (lv_at hl 0 rfl) ?_
  refine lv_bipush (v := 16) hx hb dJ6_bitCount_0f7a4_43 (by decide) ?_
  refine lv_iushr (v := 0) hx hb dJ6_bitCount_0f7a4_45 (by decide) ?_
  refine lv_iadd hx hb dJ6_bitCount_0f7a4_46 ?_
  refine hx_top (y := 0) (by decide) ?_
  refine lv_istore_n (lv' := [(0, .int 0)]) hx hb dJ6_bitCount_0f7a4_47 rfl hl (by decide) rfl (fun ls hl => ?_)
  refine lv_iload_n hx hb dJ6_bitCount_0f7a4_48 rfl (lv_at hl 0 rfl) ?_
  refine lv_bipush (v := 63) hx hb dJ6_bitCount_0f7a4_49 (by decide) ?_
  refine lv_iand hx hb dJ6_bitCount_0f7a4_51 ?_
  refine hx_top (y := 0) (by decide) ?_
  exact W.iret (v := 0) hx hb hr (fun t ht hW => ⟨⟨0, (), rfl, rfl, trivial⟩, hS.F ht⟩) hS.2.2 dJ6_bitCount_0f7a4_52
set_option maxHeartbeats 4000000 in
set_option maxRecDepth 100000 in
theorem c_boc (l : Launch) (dC : Nat → ClassId) (dI : Nat → Nat → Nat) (sz : Nat) (n : Int32)  : Met l yX8_bitsOrCount (wq yX8_bitsOrCount cX8_bitsOrCount 2 (some .int)) ({ frames := 1, cells := 0, slots := 0, locals := 20 }) (va_Pc [.int 0, .int n] (pcW dC dI [] [] sz)) (va_Qi (fun (r : Int32) (_ : Unit) => r = 0) (fun _ _ => True) (fun q : Nat => sz ≤ q)) 0 0 (fun q : Nat => sz ≤ q) := by
  refine Met.ofW (cc := cX8_bitsOrCount) (maxL := 2) (ret := (some .int)) (by decide) rfl ?_
  intro p e s m args below meth c s₁ B hml hv
  obtain ⟨rfl, hsz, hN, hP, hK, hD0⟩ := hv
  have hx := B.exec
  have hb := B.bytes
  have hr := B.returns
  have hts0 := atoms_spec (ws := (wq yX8_bitsOrCount cX8_bitsOrCount 2 (some .int))) B.pre
  have hts : ∀ w ∈ BG, w.before _ s = true := fun w h => hts0 w (List.mem_cons_of_mem _ h)
  have hown : s.vm.findClass RX8 = some m.cls := findClass_of_methodNamed B.named
  have hlocks := B.notSynchronized
  subst hsz
  have hA : ∀ q : Nat, s.heap.size ≤ q → (fun q : Nat => s.heap.size ≤ q) q := fun _ h => h
  have hD := hD0
  have hS : va_S (fun q : Nat => s.heap.size ≤ q) s.heap s.heap [] := va_S.rf
  have hP : va_P (dC, dI) vwCl [] s.heap := hP
  have hl := lv_entry ([.int 0, .int n]) (n := 2) (Nat.le_of_ble_eq_true rfl)
  rw [lg_entry_eq]
  generalize (lg_sl ([.int 0, .int n]) ++ List.replicate (2 - (lg_sl ([.int 0, .int n])).length) Slot.unset).toArray = ls at hl ⊢
  have hl : lv_has ls 2 [(0, .int 0), (1, .int n)] := hl
  skip
  refine lv_iload_n hx hb dX8_bitsOrCount_0 rfl (lv_at hl 1 rfl) ?_
  refine lv_if_ne (tgt := 8) hx hb dX8_bitsOrCount_1 (by decide) (fun c_1 => ?_) (fun c_1 => ?_)
  · have b_2 := fx_ne (x := n) (C := 0) (by decide) c_1
    refine lv_iload_n hx hb dX8_bitsOrCount_8 rfl (lv_at hl 0 rfl) ?_
    have hPc := hP.sub (ws' := []) [] rfl
    have hDc := hD.sub (ws' := []) [] (by decide) rfl
    have hKc := hK.sub (tys' := []) [] rfl
    refine va_calli (va_runS (As := [.int 0]) (rest := []) ⟨hx, hb, hml, hown, hts⟩ (c_bit0 l dC dI s.heap.size ) (va_cwS 1 hts (gS mw_2_233 mw_2_218 mw_1_12 mw_2_219) rfl rfl rfl (by decide +kernel) ⟨Nat.le_of_ble_eq_true rfl, Nat.le_of_ble_eq_true rfl⟩) ⟨pcW_blind, pcW_at hPc hKc hDc hN⟩ rfl rfl hl.1 rfl (lv_room (Nat.le_of_ble_eq_true rfl)) dX8_bitsOrCount_9 ⟨Nat.le_of_ble_eq_true rfl, Nat.le_of_ble_eq_true rfl⟩) hS (fun q h1 h2 => absurd h2 (Nat.not_le.mpr h1)) (fun q h => hA q (Nat.le_trans hS.1 h)) (fun r_3 u t H1 locs ht hvm hw_3 hB hz1 hk1 hS => ?_)
    have hP := keepP hP hk1
    clear hz1 hk1 hB ht hvm hPc hDc hKc
    generalize H1 = H at hP hS ⊢
    obtain rfl : r_3 = 0 := hw_3
    exact W.iret (v := 0) hx hb hr (fun t ht hW => ⟨⟨0, (), rfl, rfl, trivial⟩, hS.F ht⟩) hS.2.2 dX8_bitsOrCount_12
  · have b_2 := fn_ne (x := n) (C := 0) (by decide) c_1
    refine lv_iload_n hx hb dX8_bitsOrCount_4 rfl (lv_at hl 0 rfl) ?_
    refine lv_goto (tgt := 12) hx hb dX8_bitsOrCount_5 (by decide) ?_
    exact W.iret (v := 0) hx hb hr (fun t ht hW => ⟨⟨0, (), rfl, rfl, trivial⟩, hS.F ht⟩) hS.2.2 dX8_bitsOrCount_12
end
section
theorem mw_1_55 : Cond.laysFinal RX1 "AnswerLines$Kinds" "above" "[I" ∈ BG := mB (t1 (i := 55) (by decide +kernel)) (by decide +kernel)
theorem mw_1_57 : Cond.laysFinal RX1 "AnswerLines$Kinds" "lengths" "[I" ∈ BG := mB (t1 (i := 57) (by decide +kernel)) (by decide +kernel)
theorem mw_1_59 : Cond.laysFinal RX1 "AnswerLines$Kinds" "quarrels" "[I" ∈ BG := mB (t1 (i := 59) (by decide +kernel)) (by decide +kernel)
theorem mw_1_61 : Cond.laysFinal RX1 "AnswerLines$Kinds" "lines" "[I" ∈ BG := mB (t1 (i := 61) (by decide +kernel)) (by decide +kernel)
theorem mw_1_63 : Cond.laysFinal RX1 "AnswerLines$Kinds" "parents" "[I" ∈ BG := mB (t1 (i := 63) (by decide +kernel)) (by decide +kernel)
theorem mw_1_65 : Cond.laysFinal RX1 "AnswerLines$Kinds" "rows" "LAnswerLines$Rows;" ∈ BG := mB (t1 (i := 65) (by decide +kernel)) (by decide +kernel)
theorem mw_1_67 : Cond.lays RX1 "AnswerLines$Kinds" "count" "I" ∈ BG := mB (t1 (i := 67) (by decide +kernel)) (by decide +kernel)
theorem mw_1_69 : Cond.lays RX1 "AnswerLines$Kinds" "bareBits" "I" ∈ BG := mB (t1 (i := 69) (by decide +kernel)) (by decide +kernel)
theorem inB_1 : ∀ w ∈ u_ws RX1 TX1 8, w ∈ BG := fun w hw => by
  obtain ⟨k, hk, rfl⟩ := List.mem_map.mp hw
  have hk := List.mem_range.mp hk
  rcases (by omega : k = 0 ∨ k = 1 ∨ k = 2 ∨ k = 3 ∨ k = 4 ∨ k = 5 ∨ k = 6 ∨ k = 7) with rfl | rfl | rfl | rfl | rfl | rfl | rfl | rfl
  · exact mw_1_55
  · exact mw_1_57
  · exact mw_1_59
  · exact mw_1_61
  · exact mw_1_63
  · exact mw_1_65
  · exact mw_1_67
  · exact mw_1_69
theorem mw_1_53 : Cond.fieldLink RX1 34 "AnswerLines$Kinds" "count" "I" ∈ BG := mB (t1 (i := 53) (by decide +kernel)) (by decide +kernel)
theorem mw_1_194 : Cond.code yX1_knows cX1_knows 2 (some .boolean) ∈ BG := mB (t1 (i := 194) rfl) (by decide +kernel)
theorem mw_1_208 : Cond.methodLink RX1 38 yX1_knows ∈ BG := mB (t1 (i := 208) (by decide +kernel)) (by decide +kernel)
theorem mw_1_192 : Cond.instanceMethod yX1_knows ∈ BG := mB (t1 (i := 192) (by decide +kernel)) (by decide +kernel)
theorem mw_1_193 : Cond.selects RX1 yX1_knows yX1_knows ∈ BG := mB (t1 (i := 193) (by decide +kernel)) (by decide +kernel)
theorem mw_1_2 : Cond.initialized RX1 ∈ BG := mB (t1 (i := 2) (by decide +kernel)) (by decide +kernel)
theorem mw_1_216 : Cond.code yX1_lengthOf cX1_lengthOf 2 (some .int) ∈ BG := mB (t1 (i := 216) rfl) (by decide +kernel)
theorem mw_1_213 : Cond.methodLink RX1 49 yX1_lengthOf ∈ BG := mB (t1 (i := 213) (by decide +kernel)) (by decide +kernel)
theorem mw_1_214 : Cond.instanceMethod yX1_lengthOf ∈ BG := mB (t1 (i := 214) (by decide +kernel)) (by decide +kernel)
theorem mw_1_215 : Cond.selects RX1 yX1_lengthOf yX1_lengthOf ∈ BG := mB (t1 (i := 215) (by decide +kernel)) (by decide +kernel)
theorem mw_1_212 : Cond.code yX1_isLaid cX1_isLaid 2 (some .boolean) ∈ BG := mB (t1 (i := 212) rfl) (by decide +kernel)
theorem mw_1_209 : Cond.methodLink RX1 53 yX1_isLaid ∈ BG := mB (t1 (i := 209) (by decide +kernel)) (by decide +kernel)
theorem mw_1_210 : Cond.instanceMethod yX1_isLaid ∈ BG := mB (t1 (i := 210) (by decide +kernel)) (by decide +kernel)
theorem mw_1_211 : Cond.selects RX1 yX1_isLaid yX1_isLaid ∈ BG := mB (t1 (i := 211) (by decide +kernel)) (by decide +kernel)
theorem dX1_knows_0 : decode cX1_knows 0 = .ok (.iload_n 1, 1) := by decide +kernel
theorem dX1_knows_1 : decode cX1_knows 1 = .ok (.ifCond .lt 15, 3) := by decide +kernel
theorem dX1_knows_16 : decode cX1_knows 16 = .ok (.iconst 0, 1) := by decide +kernel
theorem dX1_knows_17 : decode cX1_knows 17 = .ok (.ireturn, 1) := by decide +kernel
theorem dX1_knows_4 : decode cX1_knows 4 = .ok (.iload_n 1, 1) := by decide +kernel
theorem dX1_knows_5 : decode cX1_knows 5 = .ok (.aload_n 0, 1) := by decide +kernel
theorem dX1_knows_6 : decode cX1_knows 6 = .ok (.getfield 34, 3) := by decide +kernel
theorem dX1_knows_9 : decode cX1_knows 9 = .ok (.if_icmp .ge 7, 3) := by decide +kernel
theorem dX1_isFull_0 : decode cX1_isFull 0 = .ok (.aload_n 0, 1) := by decide +kernel
theorem dX1_isFull_1 : decode cX1_isFull 1 = .ok (.getfield 34, 3) := by decide +kernel
theorem dX1_isFull_4 : decode cX1_isFull 4 = .ok (.bipush 10, 2) := by decide +kernel
theorem dX1_isFull_6 : decode cX1_isFull 6 = .ok (.if_icmp .lt 7, 3) := by decide +kernel
theorem dX1_isFull_13 : decode cX1_isFull 13 = .ok (.iconst 0, 1) := by decide +kernel
theorem dX1_isFull_14 : decode cX1_isFull 14 = .ok (.ireturn, 1) := by decide +kernel
theorem dX1_howMany_0 : decode cX1_howMany 0 = .ok (.aload_n 0, 1) := by decide +kernel
theorem dX1_howMany_1 : decode cX1_howMany 1 = .ok (.getfield 34, 3) := by decide +kernel
theorem dX1_howMany_4 : decode cX1_howMany 4 = .ok (.ireturn, 1) := by decide +kernel
theorem dX1_isBare_0 : decode cX1_isBare 0 = .ok (.aload_n 0, 1) := by decide +kernel
theorem dX1_isBare_1 : decode cX1_isBare 1 = .ok (.iload_n 1, 1) := by decide +kernel
theorem dX1_isBare_2 : decode cX1_isBare 2 = .ok (.invokevirtual 38, 3) := by decide +kernel
theorem dX1_isBare_5 : decode cX1_isBare 5 = .ok (.ifCond .eq 18, 3) := by decide +kernel
theorem dX1_isBare_23 : decode cX1_isBare 23 = .ok (.iconst 0, 1) := by decide +kernel
theorem dX1_isBare_24 : decode cX1_isBare 24 = .ok (.ireturn, 1) := by decide +kernel
theorem dX1_lengthOf_0 : decode cX1_lengthOf 0 = .ok (.aload_n 0, 1) := by decide +kernel
theorem dX1_lengthOf_1 : decode cX1_lengthOf 1 = .ok (.iload_n 1, 1) := by decide +kernel
theorem dX1_lengthOf_2 : decode cX1_lengthOf 2 = .ok (.invokevirtual 38, 3) := by decide +kernel
theorem dX1_lengthOf_5 : decode cX1_lengthOf 5 = .ok (.ifCond .eq 12, 3) := by decide +kernel
theorem dX1_lengthOf_17 : decode cX1_lengthOf 17 = .ok (.iconst 0, 1) := by decide +kernel
theorem dX1_lengthOf_18 : decode cX1_lengthOf 18 = .ok (.ireturn, 1) := by decide +kernel
theorem dX1_isLaid_0 : decode cX1_isLaid 0 = .ok (.aload_n 0, 1) := by decide +kernel
theorem dX1_isLaid_1 : decode cX1_isLaid 1 = .ok (.iload_n 1, 1) := by decide +kernel
theorem dX1_isLaid_2 : decode cX1_isLaid 2 = .ok (.invokevirtual 49, 3) := by decide +kernel
theorem dX1_isLaid_5 : decode cX1_isLaid 5 = .ok (.ifCond .le 7, 3) := by decide +kernel
theorem dX1_isLaid_12 : decode cX1_isLaid 12 = .ok (.iconst 0, 1) := by decide +kernel
theorem dX1_isLaid_13 : decode cX1_isLaid 13 = .ok (.ireturn, 1) := by decide +kernel
theorem dX1_hasRow_0 : decode cX1_hasRow 0 = .ok (.aload_n 0, 1) := by decide +kernel
theorem dX1_hasRow_1 : decode cX1_hasRow 1 = .ok (.iload_n 1, 1) := by decide +kernel
theorem dX1_hasRow_2 : decode cX1_hasRow 2 = .ok (.invokevirtual 53, 3) := by decide +kernel
theorem dX1_hasRow_5 : decode cX1_hasRow 5 = .ok (.ifCond .eq 15, 3) := by decide +kernel
theorem dX1_hasRow_20 : decode cX1_hasRow 20 = .ok (.iconst 0, 1) := by decide +kernel
theorem dX1_hasRow_21 : decode cX1_hasRow 21 = .ok (.ireturn, 1) := by decide +kernel
set_option maxHeartbeats 4000000 in
set_option maxRecDepth 100000 in
theorem c_knows0 (l : Launch) (dC : Nat → ClassId) (dI : Nat → Nat → Nat) (sz : Nat) (h0 : Nat) (w0 : Value) (w1 : Value) (w2 : Value) (w3 : Value) (w4 : Value) (w5 : Value) (w7 : Value) (n : Int32)  : Met l yX1_knows (wq yX1_knows cX1_knows 2 (some .boolean)) ({ frames := 0, cells := 0, slots := 0, locals := 0 }) (va_Pc [.ref h0, .int n] (pcW dC dI [] [(h0, .inr (1, [w0, w1, w2, w3, w4, w5, .int 0, w7]))] sz)) (va_Qi (fun (r : Int32) (_ : Unit) => r = 0) (fun _ _ => True) (fun q : Nat => sz ≤ q)) 0 0 (fun q : Nat => sz ≤ q) := by
  refine Met.ofW (cc := cX1_knows) (maxL := 2) (ret := (some .boolean)) (by decide) rfl ?_
  intro p e s m args below meth c s₁ B hml hv
  obtain ⟨rfl, hsz, hN, hP, hK, hD0⟩ := hv
  have hx := B.exec
  have hb := B.bytes
  have hr := B.returns
  have hts0 := atoms_spec (ws := (wq yX1_knows cX1_knows 2 (some .boolean))) B.pre
  have hts : ∀ w ∈ BG, w.before _ s = true := fun w h => hts0 w (List.mem_cons_of_mem _ h)
  have hown : s.vm.findClass RX1 = some m.cls := findClass_of_methodNamed B.named
  have hlocks := B.notSynchronized
  subst hsz
  have hA : ∀ q : Nat, s.heap.size ≤ q → (fun q : Nat => s.heap.size ≤ q) q := fun _ h => h
  have hD := hD0
  have hS : va_S (fun q : Nat => s.heap.size ≤ q) s.heap s.heap [] := va_S.rf
  have hP : va_P (dC, dI) vwCl [(h0, .inr (1, [w0, w1, w2, w3, w4, w5, .int 0, w7]))] s.heap := hP
  have hl := lv_entry ([.ref h0, .int n]) (n := 2) (Nat.le_of_ble_eq_true rfl)
  rw [lg_entry_eq]
  generalize (lg_sl ([.ref h0, .int n]) ++ List.replicate (2 - (lg_sl ([.ref h0, .int n])).length) Slot.unset).toArray = ls at hl ⊢
  have hl : lv_has ls 2 [(0, .ref h0), (1, .int n)] := hl
  skip
  refine lv_iload_n hx hb dX1_knows_0 rfl (lv_at hl 1 rfl) ?_
  refine lv_if_lt (tgt := 16) hx hb dX1_knows_1 (by decide) (fun c_1 => ?_) (fun c_1 => ?_)
  · have b_2 := fx_lt (x := n) (C := 0) (by decide) c_1
    refine lv_iconst (v := 0) hx hb dX1_knows_16 (by decide) ?_
    exact W.zret (v := 0) hx hb hr (by decide) (fun t ht hW => ⟨⟨0, (), rfl, rfl, trivial⟩, hS.F ht⟩) hS.2.2 dX1_knows_17
  · have b_2 := fn_lt (x := n) (C := 0) (by decide) c_1
    refine lv_iload_n hx hb dX1_knows_4 rfl (lv_at hl 1 rfl) ?_
    refine lv_aload_n hx hb dX1_knows_5 rfl (lv_at hl 0 rfl) ?_
    refine va_get (D := (dC, dI)) (ci := 1) (v := .int 0) (C := RX1) (T := TX1) (N := 8) hx hb hts inB_1 hown hK hP 0 rfl rfl 6 (by decide) (hts _ mw_1_53) (fun _ h9 => h9) rfl dX1_knows_6 ?_
    refine lv_icmp_ge (tgt := 16) hx hb dX1_knows_9 (by decide) (fun _ => ?_) (fun h => absurd (fn_ge (x := n) (C := 0) (by decide) h) (by omega))
    refine lv_iconst (v := 0) hx hb dX1_knows_16 (by decide) ?_
    exact W.zret (v := 0) hx hb hr (by decide) (fun t ht hW => ⟨⟨0, (), rfl, rfl, trivial⟩, hS.F ht⟩) hS.2.2 dX1_knows_17
set_option maxHeartbeats 4000000 in
set_option maxRecDepth 100000 in
theorem c_isFull (l : Launch) (dC : Nat → ClassId) (dI : Nat → Nat → Nat) (sz : Nat) (h0 : Nat) (w0 : Value) (w1 : Value) (w2 : Value) (w3 : Value) (w4 : Value) (w5 : Value) (w7 : Value)  : Met l yX1_isFull (wq yX1_isFull cX1_isFull 1 (some .boolean)) ({ frames := 0, cells := 0, slots := 0, locals := 0 }) (va_Pc [.ref h0] (pcW dC dI [] [(h0, .inr (1, [w0, w1, w2, w3, w4, w5, .int 0, w7]))] sz)) (va_Qi (fun (r : Int32) (_ : Unit) => r = 0) (fun _ _ => True) (fun q : Nat => sz ≤ q)) 0 0 (fun q : Nat => sz ≤ q) := by
  refine Met.ofW (cc := cX1_isFull) (maxL := 1) (ret := (some .boolean)) (by decide) rfl ?_
  intro p e s m args below meth c s₁ B hml hv
  obtain ⟨rfl, hsz, hN, hP, hK, hD0⟩ := hv
  have hx := B.exec
  have hb := B.bytes
  have hr := B.returns
  have hts0 := atoms_spec (ws := (wq yX1_isFull cX1_isFull 1 (some .boolean))) B.pre
  have hts : ∀ w ∈ BG, w.before _ s = true := fun w h => hts0 w (List.mem_cons_of_mem _ h)
  have hown : s.vm.findClass RX1 = some m.cls := findClass_of_methodNamed B.named
  have hlocks := B.notSynchronized
  subst hsz
  have hA : ∀ q : Nat, s.heap.size ≤ q → (fun q : Nat => s.heap.size ≤ q) q := fun _ h => h
  have hD := hD0
  have hS : va_S (fun q : Nat => s.heap.size ≤ q) s.heap s.heap [] := va_S.rf
  have hP : va_P (dC, dI) vwCl [(h0, .inr (1, [w0, w1, w2, w3, w4, w5, .int 0, w7]))] s.heap := hP
  have hl := lv_entry ([.ref h0]) (n := 1) (Nat.le_of_ble_eq_true rfl)
  rw [lg_entry_eq]
  generalize (lg_sl ([.ref h0]) ++ List.replicate (1 - (lg_sl ([.ref h0])).length) Slot.unset).toArray = ls at hl ⊢
  have hl : lv_has ls 1 [(0, .ref h0)] := hl
  skip
  refine lv_aload_n hx hb dX1_isFull_0 rfl (lv_at hl 0 rfl) ?_
  refine va_get (D := (dC, dI)) (ci := 1) (v := .int 0) (C := RX1) (T := TX1) (N := 8) hx hb hts inB_1 hown hK hP 0 rfl rfl 6 (by decide) (hts _ mw_1_53) (fun _ h9 => h9) rfl dX1_isFull_1 ?_
  refine lv_bipush (v := 10) hx hb dX1_isFull_4 (by decide) ?_
  refine lv_icmp_lt (tgt := 13) hx hb dX1_isFull_6 (by decide) (fun _ => ?_) (fun h => absurd (by decide) h)
  refine lv_iconst (v := 0) hx hb dX1_isFull_13 (by decide) ?_
  exact W.zret (v := 0) hx hb hr (by decide) (fun t ht hW => ⟨⟨0, (), rfl, rfl, trivial⟩, hS.F ht⟩) hS.2.2 dX1_isFull_14
set_option maxHeartbeats 4000000 in
set_option maxRecDepth 100000 in
theorem c_howMany (l : Launch) (dC : Nat → ClassId) (dI : Nat → Nat → Nat) (sz : Nat) (h0 : Nat) (w0 : Value) (w1 : Value) (w2 : Value) (w3 : Value) (w4 : Value) (w5 : Value) (w7 : Value)  : Met l yX1_howMany (wq yX1_howMany cX1_howMany 1 (some .int)) ({ frames := 0, cells := 0, slots := 0, locals := 0 }) (va_Pc [.ref h0] (pcW dC dI [] [(h0, .inr (1, [w0, w1, w2, w3, w4, w5, .int 0, w7]))] sz)) (va_Qi (fun (r : Int32) (_ : Unit) => r = 0) (fun _ _ => True) (fun q : Nat => sz ≤ q)) 0 0 (fun q : Nat => sz ≤ q) := by
  refine Met.ofW (cc := cX1_howMany) (maxL := 1) (ret := (some .int)) (by decide) rfl ?_
  intro p e s m args below meth c s₁ B hml hv
  obtain ⟨rfl, hsz, hN, hP, hK, hD0⟩ := hv
  have hx := B.exec
  have hb := B.bytes
  have hr := B.returns
  have hts0 := atoms_spec (ws := (wq yX1_howMany cX1_howMany 1 (some .int))) B.pre
  have hts : ∀ w ∈ BG, w.before _ s = true := fun w h => hts0 w (List.mem_cons_of_mem _ h)
  have hown : s.vm.findClass RX1 = some m.cls := findClass_of_methodNamed B.named
  have hlocks := B.notSynchronized
  subst hsz
  have hA : ∀ q : Nat, s.heap.size ≤ q → (fun q : Nat => s.heap.size ≤ q) q := fun _ h => h
  have hD := hD0
  have hS : va_S (fun q : Nat => s.heap.size ≤ q) s.heap s.heap [] := va_S.rf
  have hP : va_P (dC, dI) vwCl [(h0, .inr (1, [w0, w1, w2, w3, w4, w5, .int 0, w7]))] s.heap := hP
  have hl := lv_entry ([.ref h0]) (n := 1) (Nat.le_of_ble_eq_true rfl)
  rw [lg_entry_eq]
  generalize (lg_sl ([.ref h0]) ++ List.replicate (1 - (lg_sl ([.ref h0])).length) Slot.unset).toArray = ls at hl ⊢
  have hl : lv_has ls 1 [(0, .ref h0)] := hl
  skip
  refine lv_aload_n hx hb dX1_howMany_0 rfl (lv_at hl 0 rfl) ?_
  refine va_get (D := (dC, dI)) (ci := 1) (v := .int 0) (C := RX1) (T := TX1) (N := 8) hx hb hts inB_1 hown hK hP 0 rfl rfl 6 (by decide) (hts _ mw_1_53) (fun _ h9 => h9) rfl dX1_howMany_1 ?_
  exact W.iret (v := 0) hx hb hr (fun t ht hW => ⟨⟨0, (), rfl, rfl, trivial⟩, hS.F ht⟩) hS.2.2 dX1_howMany_4
set_option maxHeartbeats 4000000 in
set_option maxRecDepth 100000 in
theorem c_isBare0 (l : Launch) (dC : Nat → ClassId) (dI : Nat → Nat → Nat) (sz : Nat) (h0 : Nat) (w0 : Value) (w1 : Value) (w2 : Value) (w3 : Value) (w4 : Value) (w5 : Value) (w7 : Value) (n : Int32)  : Met l yX1_isBare (wq yX1_isBare cX1_isBare 2 (some .boolean)) ({ frames := 1, cells := 0, slots := 0, locals := 21 }) (va_Pc [.ref h0, .int n] (pcW dC dI [] [(h0, .inr (1, [w0, w1, w2, w3, w4, w5, .int 0, w7]))] sz)) (va_Qi (fun (r : Int32) (_ : Unit) => r = 0) (fun _ _ => True) (fun q : Nat => sz ≤ q)) 0 0 (fun q : Nat => sz ≤ q) := by
  refine Met.ofW (cc := cX1_isBare) (maxL := 2) (ret := (some .boolean)) (by decide) rfl ?_
  intro p e s m args below meth c s₁ B hml hv
  obtain ⟨rfl, hsz, hN, hP, hK, hD0⟩ := hv
  have hx := B.exec
  have hb := B.bytes
  have hr := B.returns
  have hts0 := atoms_spec (ws := (wq yX1_isBare cX1_isBare 2 (some .boolean))) B.pre
  have hts : ∀ w ∈ BG, w.before _ s = true := fun w h => hts0 w (List.mem_cons_of_mem _ h)
  have hown : s.vm.findClass RX1 = some m.cls := findClass_of_methodNamed B.named
  have hlocks := B.notSynchronized
  subst hsz
  have hA : ∀ q : Nat, s.heap.size ≤ q → (fun q : Nat => s.heap.size ≤ q) q := fun _ h => h
  have hD := hD0
  have hS : va_S (fun q : Nat => s.heap.size ≤ q) s.heap s.heap [] := va_S.rf
  have hP : va_P (dC, dI) vwCl [(h0, .inr (1, [w0, w1, w2, w3, w4, w5, .int 0, w7]))] s.heap := hP
  have hl := lv_entry ([.ref h0, .int n]) (n := 2) (Nat.le_of_ble_eq_true rfl)
  rw [lg_entry_eq]
  generalize (lg_sl ([.ref h0, .int n]) ++ List.replicate (2 - (lg_sl ([.ref h0, .int n])).length) Slot.unset).toArray = ls at hl ⊢
  have hl : lv_has ls 2 [(0, .ref h0), (1, .int n)] := hl
  skip
  refine lv_aload_n hx hb dX1_isBare_0 rfl (lv_at hl 0 rfl) ?_
  refine lv_iload_n hx hb dX1_isBare_1 rfl (lv_at hl 1 rfl) ?_
  have hPc := hP.sub (ws' := [(h0, .inr (1, [w0, w1, w2, w3, w4, w5, .int 0, w7]))]) [0] rfl
  have hDc := hD.sub (ws' := [(h0, .inr (1, [w0, w1, w2, w3, w4, w5, .int 0, w7]))]) [0] (by decide) rfl
  have hKc := hK.sub (tys' := []) [] rfl
  refine va_calli (va_runV (As := [.int n]) (rest := []) ⟨hx, hb, hml, hown, hts⟩ (c_knows0 l dC dI s.heap.size h0 (w0) (w1) (w2) (w3) (w4) (w5) (w7) n) (cwV 1 hts (gV mw_1_208 mw_1_192 mw_1_193 mw_1_2 mw_1_194) rfl rfl rfl (by decide +kernel) ⟨Nat.le_of_ble_eq_true rfl, Nat.le_of_ble_eq_true rfl⟩) ⟨pcW_blind, va_recv hKc hPc (ci := 1) (q0 := 0) rfl rfl, pcW_at hPc hKc hDc hN⟩ rfl rfl hl.1 rfl (lv_room (Nat.le_of_ble_eq_true rfl)) dX1_isBare_2 ⟨Nat.le_of_ble_eq_true rfl, Nat.le_of_ble_eq_true rfl⟩) hS (fun q h1 h2 => absurd h2 (Nat.not_le.mpr h1)) (fun q h => hA q (Nat.le_trans hS.1 h)) (fun r_1 u t H1 locs ht hvm hw_1 hB hz1 hk1 hS => ?_)
  have hP := keepP hP hk1
  clear hz1 hk1 hB ht hvm hPc hDc hKc
  generalize H1 = H at hP hS ⊢
  obtain rfl : r_1 = 0 := hw_1
  refine lv_if_eq (tgt := 23) hx hb dX1_isBare_5 (by decide) (fun _ => ?_) (fun h => absurd (by decide) h)
  refine lv_iconst (v := 0) hx hb dX1_isBare_23 (by decide) ?_
  exact W.zret (v := 0) hx hb hr (by decide) (fun t ht hW => ⟨⟨0, (), rfl, rfl, trivial⟩, hS.F ht⟩) hS.2.2 dX1_isBare_24
set_option maxHeartbeats 4000000 in
set_option maxRecDepth 100000 in
theorem c_lengthOf0 (l : Launch) (dC : Nat → ClassId) (dI : Nat → Nat → Nat) (sz : Nat) (h0 : Nat) (w0 : Value) (w1 : Value) (w2 : Value) (w3 : Value) (w4 : Value) (w5 : Value) (w7 : Value) (n : Int32)  : Met l yX1_lengthOf (wq yX1_lengthOf cX1_lengthOf 2 (some .int)) ({ frames := 1, cells := 0, slots := 0, locals := 21 }) (va_Pc [.ref h0, .int n] (pcW dC dI [] [(h0, .inr (1, [w0, w1, w2, w3, w4, w5, .int 0, w7]))] sz)) (va_Qi (fun (r : Int32) (_ : Unit) => r = 0) (fun _ _ => True) (fun q : Nat => sz ≤ q)) 0 0 (fun q : Nat => sz ≤ q) := by
  refine Met.ofW (cc := cX1_lengthOf) (maxL := 2) (ret := (some .int)) (by decide) rfl ?_
  intro p e s m args below meth c s₁ B hml hv
  obtain ⟨rfl, hsz, hN, hP, hK, hD0⟩ := hv
  have hx := B.exec
  have hb := B.bytes
  have hr := B.returns
  have hts0 := atoms_spec (ws := (wq yX1_lengthOf cX1_lengthOf 2 (some .int))) B.pre
  have hts : ∀ w ∈ BG, w.before _ s = true := fun w h => hts0 w (List.mem_cons_of_mem _ h)
  have hown : s.vm.findClass RX1 = some m.cls := findClass_of_methodNamed B.named
  have hlocks := B.notSynchronized
  subst hsz
  have hA : ∀ q : Nat, s.heap.size ≤ q → (fun q : Nat => s.heap.size ≤ q) q := fun _ h => h
  have hD := hD0
  have hS : va_S (fun q : Nat => s.heap.size ≤ q) s.heap s.heap [] := va_S.rf
  have hP : va_P (dC, dI) vwCl [(h0, .inr (1, [w0, w1, w2, w3, w4, w5, .int 0, w7]))] s.heap := hP
  have hl := lv_entry ([.ref h0, .int n]) (n := 2) (Nat.le_of_ble_eq_true rfl)
  rw [lg_entry_eq]
  generalize (lg_sl ([.ref h0, .int n]) ++ List.replicate (2 - (lg_sl ([.ref h0, .int n])).length) Slot.unset).toArray = ls at hl ⊢
  have hl : lv_has ls 2 [(0, .ref h0), (1, .int n)] := hl
  skip
  refine lv_aload_n hx hb dX1_lengthOf_0 rfl (lv_at hl 0 rfl) ?_
  refine lv_iload_n hx hb dX1_lengthOf_1 rfl (lv_at hl 1 rfl) ?_
  have hPc := hP.sub (ws' := [(h0, .inr (1, [w0, w1, w2, w3, w4, w5, .int 0, w7]))]) [0] rfl
  have hDc := hD.sub (ws' := [(h0, .inr (1, [w0, w1, w2, w3, w4, w5, .int 0, w7]))]) [0] (by decide) rfl
  have hKc := hK.sub (tys' := []) [] rfl
  refine va_calli (va_runV (As := [.int n]) (rest := []) ⟨hx, hb, hml, hown, hts⟩ (c_knows0 l dC dI s.heap.size h0 (w0) (w1) (w2) (w3) (w4) (w5) (w7) n) (cwV 1 hts (gV mw_1_208 mw_1_192 mw_1_193 mw_1_2 mw_1_194) rfl rfl rfl (by decide +kernel) ⟨Nat.le_of_ble_eq_true rfl, Nat.le_of_ble_eq_true rfl⟩) ⟨pcW_blind, va_recv hKc hPc (ci := 1) (q0 := 0) rfl rfl, pcW_at hPc hKc hDc hN⟩ rfl rfl hl.1 rfl (lv_room (Nat.le_of_ble_eq_true rfl)) dX1_lengthOf_2 ⟨Nat.le_of_ble_eq_true rfl, Nat.le_of_ble_eq_true rfl⟩) hS (fun q h1 h2 => absurd h2 (Nat.not_le.mpr h1)) (fun q h => hA q (Nat.le_trans hS.1 h)) (fun r_1 u t H1 locs ht hvm hw_1 hB hz1 hk1 hS => ?_)
  have hP := keepP hP hk1
  clear hz1 hk1 hB ht hvm hPc hDc hKc
  generalize H1 = H at hP hS ⊢
  obtain rfl : r_1 = 0 := hw_1
  refine lv_if_eq (tgt := 17) hx hb dX1_lengthOf_5 (by decide) (fun _ => ?_) (fun h => absurd (by decide) h)
  refine lv_iconst (v := 0) hx hb dX1_lengthOf_17 (by decide) ?_
  exact W.iret (v := 0) hx hb hr (fun t ht hW => ⟨⟨0, (), rfl, rfl, trivial⟩, hS.F ht⟩) hS.2.2 dX1_lengthOf_18
set_option maxHeartbeats 4000000 in
set_option maxRecDepth 100000 in
theorem c_isLaid0 (l : Launch) (dC : Nat → ClassId) (dI : Nat → Nat → Nat) (sz : Nat) (h0 : Nat) (w0 : Value) (w1 : Value) (w2 : Value) (w3 : Value) (w4 : Value) (w5 : Value) (w7 : Value) (n : Int32)  : Met l yX1_isLaid (wq yX1_isLaid cX1_isLaid 2 (some .boolean)) ({ frames := 2, cells := 0, slots := 0, locals := 42 }) (va_Pc [.ref h0, .int n] (pcW dC dI [] [(h0, .inr (1, [w0, w1, w2, w3, w4, w5, .int 0, w7]))] sz)) (va_Qi (fun (r : Int32) (_ : Unit) => r = 0) (fun _ _ => True) (fun q : Nat => sz ≤ q)) 0 0 (fun q : Nat => sz ≤ q) := by
  refine Met.ofW (cc := cX1_isLaid) (maxL := 2) (ret := (some .boolean)) (by decide) rfl ?_
  intro p e s m args below meth c s₁ B hml hv
  obtain ⟨rfl, hsz, hN, hP, hK, hD0⟩ := hv
  have hx := B.exec
  have hb := B.bytes
  have hr := B.returns
  have hts0 := atoms_spec (ws := (wq yX1_isLaid cX1_isLaid 2 (some .boolean))) B.pre
  have hts : ∀ w ∈ BG, w.before _ s = true := fun w h => hts0 w (List.mem_cons_of_mem _ h)
  have hown : s.vm.findClass RX1 = some m.cls := findClass_of_methodNamed B.named
  have hlocks := B.notSynchronized
  subst hsz
  have hA : ∀ q : Nat, s.heap.size ≤ q → (fun q : Nat => s.heap.size ≤ q) q := fun _ h => h
  have hD := hD0
  have hS : va_S (fun q : Nat => s.heap.size ≤ q) s.heap s.heap [] := va_S.rf
  have hP : va_P (dC, dI) vwCl [(h0, .inr (1, [w0, w1, w2, w3, w4, w5, .int 0, w7]))] s.heap := hP
  have hl := lv_entry ([.ref h0, .int n]) (n := 2) (Nat.le_of_ble_eq_true rfl)
  rw [lg_entry_eq]
  generalize (lg_sl ([.ref h0, .int n]) ++ List.replicate (2 - (lg_sl ([.ref h0, .int n])).length) Slot.unset).toArray = ls at hl ⊢
  have hl : lv_has ls 2 [(0, .ref h0), (1, .int n)] := hl
  skip
  refine lv_aload_n hx hb dX1_isLaid_0 rfl (lv_at hl 0 rfl) ?_
  refine lv_iload_n hx hb dX1_isLaid_1 rfl (lv_at hl 1 rfl) ?_
  have hPc := hP.sub (ws' := [(h0, .inr (1, [w0, w1, w2, w3, w4, w5, .int 0, w7]))]) [0] rfl
  have hDc := hD.sub (ws' := [(h0, .inr (1, [w0, w1, w2, w3, w4, w5, .int 0, w7]))]) [0] (by decide) rfl
  have hKc := hK.sub (tys' := []) [] rfl
  refine va_calli (va_runV (As := [.int n]) (rest := []) ⟨hx, hb, hml, hown, hts⟩ (c_lengthOf0 l dC dI s.heap.size h0 (w0) (w1) (w2) (w3) (w4) (w5) (w7) n) (cwV 1 hts (gV mw_1_213 mw_1_214 mw_1_215 mw_1_2 mw_1_216) rfl rfl rfl (by decide +kernel) ⟨Nat.le_of_ble_eq_true rfl, Nat.le_of_ble_eq_true rfl⟩) ⟨pcW_blind, va_recv hKc hPc (ci := 1) (q0 := 0) rfl rfl, pcW_at hPc hKc hDc hN⟩ rfl rfl hl.1 rfl (lv_room (Nat.le_of_ble_eq_true rfl)) dX1_isLaid_2 ⟨Nat.le_of_ble_eq_true rfl, Nat.le_of_ble_eq_true rfl⟩) hS (fun q h1 h2 => absurd h2 (Nat.not_le.mpr h1)) (fun q h => hA q (Nat.le_trans hS.1 h)) (fun r_1 u t H1 locs ht hvm hw_1 hB hz1 hk1 hS => ?_)
  have hP := keepP hP hk1
  clear hz1 hk1 hB ht hvm hPc hDc hKc
  generalize H1 = H at hP hS ⊢
  obtain rfl : r_1 = 0 := hw_1
  refine lv_if_le (tgt := 12) hx hb dX1_isLaid_5 (by decide) (fun _ => ?_) (fun h => absurd (by decide) h)
  refine lv_iconst (v := 0) hx hb dX1_isLaid_12 (by decide) ?_
  exact W.zret (v := 0) hx hb hr (by decide) (fun t ht hW => ⟨⟨0, (), rfl, rfl, trivial⟩, hS.F ht⟩) hS.2.2 dX1_isLaid_13
set_option maxHeartbeats 4000000 in
set_option maxRecDepth 100000 in
theorem c_hasRow0 (l : Launch) (dC : Nat → ClassId) (dI : Nat → Nat → Nat) (sz : Nat) (h0 : Nat) (w0 : Value) (w1 : Value) (w2 : Value) (w3 : Value) (w4 : Value) (w5 : Value) (w7 : Value) (n : Int32)  : Met l yX1_hasRow (wq yX1_hasRow cX1_hasRow 2 (some .boolean)) ({ frames := 3, cells := 0, slots := 0, locals := 63 }) (va_Pc [.ref h0, .int n] (pcW dC dI [] [(h0, .inr (1, [w0, w1, w2, w3, w4, w5, .int 0, w7]))] sz)) (va_Qi (fun (r : Int32) (_ : Unit) => r = 0) (fun _ _ => True) (fun q : Nat => sz ≤ q)) 0 0 (fun q : Nat => sz ≤ q) := by
  refine Met.ofW (cc := cX1_hasRow) (maxL := 2) (ret := (some .boolean)) (by decide) rfl ?_
  intro p e s m args below meth c s₁ B hml hv
  obtain ⟨rfl, hsz, hN, hP, hK, hD0⟩ := hv
  have hx := B.exec
  have hb := B.bytes
  have hr := B.returns
  have hts0 := atoms_spec (ws := (wq yX1_hasRow cX1_hasRow 2 (some .boolean))) B.pre
  have hts : ∀ w ∈ BG, w.before _ s = true := fun w h => hts0 w (List.mem_cons_of_mem _ h)
  have hown : s.vm.findClass RX1 = some m.cls := findClass_of_methodNamed B.named
  have hlocks := B.notSynchronized
  subst hsz
  have hA : ∀ q : Nat, s.heap.size ≤ q → (fun q : Nat => s.heap.size ≤ q) q := fun _ h => h
  have hD := hD0
  have hS : va_S (fun q : Nat => s.heap.size ≤ q) s.heap s.heap [] := va_S.rf
  have hP : va_P (dC, dI) vwCl [(h0, .inr (1, [w0, w1, w2, w3, w4, w5, .int 0, w7]))] s.heap := hP
  have hl := lv_entry ([.ref h0, .int n]) (n := 2) (Nat.le_of_ble_eq_true rfl)
  rw [lg_entry_eq]
  generalize (lg_sl ([.ref h0, .int n]) ++ List.replicate (2 - (lg_sl ([.ref h0, .int n])).length) Slot.unset).toArray = ls at hl ⊢
  have hl : lv_has ls 2 [(0, .ref h0), (1, .int n)] := hl
  skip
  refine lv_aload_n hx hb dX1_hasRow_0 rfl (lv_at hl 0 rfl) ?_
  refine lv_iload_n hx hb dX1_hasRow_1 rfl (lv_at hl 1 rfl) ?_
  have hPc := hP.sub (ws' := [(h0, .inr (1, [w0, w1, w2, w3, w4, w5, .int 0, w7]))]) [0] rfl
  have hDc := hD.sub (ws' := [(h0, .inr (1, [w0, w1, w2, w3, w4, w5, .int 0, w7]))]) [0] (by decide) rfl
  have hKc := hK.sub (tys' := []) [] rfl
  refine va_calli (va_runV (As := [.int n]) (rest := []) ⟨hx, hb, hml, hown, hts⟩ (c_isLaid0 l dC dI s.heap.size h0 (w0) (w1) (w2) (w3) (w4) (w5) (w7) n) (cwV 1 hts (gV mw_1_209 mw_1_210 mw_1_211 mw_1_2 mw_1_212) rfl rfl rfl (by decide +kernel) ⟨Nat.le_of_ble_eq_true rfl, Nat.le_of_ble_eq_true rfl⟩) ⟨pcW_blind, va_recv hKc hPc (ci := 1) (q0 := 0) rfl rfl, pcW_at hPc hKc hDc hN⟩ rfl rfl hl.1 rfl (lv_room (Nat.le_of_ble_eq_true rfl)) dX1_hasRow_2 ⟨Nat.le_of_ble_eq_true rfl, Nat.le_of_ble_eq_true rfl⟩) hS (fun q h1 h2 => absurd h2 (Nat.not_le.mpr h1)) (fun q h => hA q (Nat.le_trans hS.1 h)) (fun r_1 u t H1 locs ht hvm hw_1 hB hz1 hk1 hS => ?_)
  have hP := keepP hP hk1
  clear hz1 hk1 hB ht hvm hPc hDc hKc
  generalize H1 = H at hP hS ⊢
  obtain rfl : r_1 = 0 := hw_1
  refine lv_if_eq (tgt := 20) hx hb dX1_hasRow_5 (by decide) (fun _ => ?_) (fun h => absurd (by decide) h)
  refine lv_iconst (v := 0) hx hb dX1_hasRow_20 (by decide) ?_
  exact W.zret (v := 0) hx hb hr (by decide) (fun t ht hW => ⟨⟨0, (), rfl, rfl, trivial⟩, hS.F ht⟩) hS.2.2 dX1_hasRow_21
end
section
theorem mw_1_80 : Cond.laysFinal RX2 "AnswerLines$Pad" "signs" "[C" ∈ BG := mB (t1 (i := 80) (by decide +kernel)) (by decide +kernel)
theorem mw_1_82 : Cond.lays RX2 "AnswerLines$Pad" "count" "I" ∈ BG := mB (t1 (i := 82) (by decide +kernel)) (by decide +kernel)
theorem inB_2 : ∀ w ∈ u_ws RX2 TX2 2, w ∈ BG := fun w hw => by
  obtain ⟨k, hk, rfl⟩ := List.mem_map.mp hw
  have hk := List.mem_range.mp hk
  rcases (by omega : k = 0 ∨ k = 1) with rfl | rfl
  · exact mw_1_80
  · exact mw_1_82
theorem mw_1_79 : Cond.fieldLink RX2 15 "AnswerLines$Pad" "count" "I" ∈ BG := mB (t1 (i := 79) (by decide +kernel)) (by decide +kernel)
theorem mw_2_68 : Cond.code yX2_isFull cX2_isFull 1 (some .boolean) ∈ BG := mB (t2 (i := 68) rfl) (by decide +kernel)
theorem mw_2_73 : Cond.methodLink RX2 19 yX2_isFull ∈ BG := mB (t2 (i := 73) (by decide +kernel)) (by decide +kernel)
theorem mw_2_66 : Cond.instanceMethod yX2_isFull ∈ BG := mB (t2 (i := 66) (by decide +kernel)) (by decide +kernel)
theorem mw_2_67 : Cond.selects RX2 yX2_isFull yX2_isFull ∈ BG := mB (t2 (i := 67) (by decide +kernel)) (by decide +kernel)
theorem mw_1_4 : Cond.initialized RX2 ∈ BG := mB (t1 (i := 4) (by decide +kernel)) (by decide +kernel)
theorem mw_1_78 : Cond.fieldLink RX2 9 "AnswerLines$Pad" "signs" "[C" ∈ BG := mB (t1 (i := 78) (by decide +kernel)) (by decide +kernel)
theorem dX2_isFull_0 : decode cX2_isFull 0 = .ok (.aload_n 0, 1) := by decide +kernel
theorem dX2_isFull_1 : decode cX2_isFull 1 = .ok (.getfield 15, 3) := by decide +kernel
theorem dX2_isFull_4 : decode cX2_isFull 4 = .ok (.bipush 12, 2) := by decide +kernel
theorem dX2_isFull_6 : decode cX2_isFull 6 = .ok (.if_icmp .lt 7, 3) := by decide +kernel
theorem dX2_isFull_13 : decode cX2_isFull 13 = .ok (.iconst 0, 1) := by decide +kernel
theorem dX2_isFull_14 : decode cX2_isFull 14 = .ok (.ireturn, 1) := by decide +kernel
theorem dX2_length_0 : decode cX2_length 0 = .ok (.aload_n 0, 1) := by decide +kernel
theorem dX2_length_1 : decode cX2_length 1 = .ok (.getfield 15, 3) := by decide +kernel
theorem dX2_length_4 : decode cX2_length 4 = .ok (.ireturn, 1) := by decide +kernel
theorem dX2_put_0 : decode cX2_put 0 = .ok (.aload_n 0, 1) := by decide +kernel
theorem dX2_put_1 : decode cX2_put 1 = .ok (.invokevirtual 19, 3) := by decide +kernel
theorem dX2_put_4 : decode cX2_put 4 = .ok (.ifCond .eq 6, 3) := by decide +kernel
theorem dX2_put_10 : decode cX2_put 10 = .ok (.aload_n 0, 1) := by decide +kernel
theorem dX2_put_11 : decode cX2_put 11 = .ok (.getfield 9, 3) := by decide +kernel
theorem dX2_put_14 : decode cX2_put 14 = .ok (.aload_n 0, 1) := by decide +kernel
theorem dX2_put_15 : decode cX2_put 15 = .ok (.getfield 15, 3) := by decide +kernel
theorem dX2_put_18 : decode cX2_put 18 = .ok (.iload_n 1, 1) := by decide +kernel
theorem dX2_put_19 : decode cX2_put 19 = .ok (.i2c, 1) := by decide +kernel
theorem dX2_put_20 : decode cX2_put 20 = .ok (.castore, 1) := by decide +kernel
theorem dX2_put_21 : decode cX2_put 21 = .ok (.aload_n 0, 1) := by decide +kernel
theorem dX2_put_22 : decode cX2_put 22 = .ok (.dup, 1) := by decide +kernel
theorem dX2_put_23 : decode cX2_put 23 = .ok (.getfield 15, 3) := by decide +kernel
theorem dX2_put_26 : decode cX2_put 26 = .ok (.iconst 1, 1) := by decide +kernel
theorem dX2_put_27 : decode cX2_put 27 = .ok (.iadd, 1) := by decide +kernel
theorem dX2_put_28 : decode cX2_put 28 = .ok (.putfield 15, 3) := by decide +kernel
theorem dX2_put_31 : decode cX2_put 31 = .ok (.aload_n 0, 1) := by decide +kernel
theorem dX2_put_32 : decode cX2_put 32 = .ok (.getfield 15, 3) := by decide +kernel
theorem dX2_put_35 : decode cX2_put 35 = .ok (.ireturn, 1) := by decide +kernel
theorem dX2_empty_0 : decode cX2_empty 0 = .ok (.aload_n 0, 1) := by decide +kernel
theorem dX2_empty_1 : decode cX2_empty 1 = .ok (.getfield 15, 3) := by decide +kernel
theorem dX2_empty_4 : decode cX2_empty 4 = .ok (.istore_n 1, 1) := by decide +kernel
theorem dX2_empty_5 : decode cX2_empty 5 = .ok (.aload_n 0, 1) := by decide +kernel
theorem dX2_empty_6 : decode cX2_empty 6 = .ok (.iconst 0, 1) := by decide +kernel
theorem dX2_empty_7 : decode cX2_empty 7 = .ok (.putfield 15, 3) := by decide +kernel
theorem dX2_empty_10 : decode cX2_empty 10 = .ok (.iload_n 1, 1) := by decide +kernel
theorem dX2_empty_11 : decode cX2_empty 11 = .ok (.ireturn, 1) := by decide +kernel
theorem dX2_firstFault_0 : decode cX2_firstFault 0 = .ok (.iconst 0, 1) := by decide +kernel
theorem dX2_firstFault_1 : decode cX2_firstFault 1 = .ok (.istore_n 1, 1) := by decide +kernel
theorem dX2_firstFault_2 : decode cX2_firstFault 2 = .ok (.iload_n 1, 1) := by decide +kernel
theorem dX2_firstFault_3 : decode cX2_firstFault 3 = .ok (.aload_n 0, 1) := by decide +kernel
theorem dX2_firstFault_4 : decode cX2_firstFault 4 = .ok (.getfield 15, 3) := by decide +kernel
theorem dX2_firstFault_7 : decode cX2_firstFault 7 = .ok (.if_icmp .ge 23, 3) := by decide +kernel
theorem dX2_firstFault_30 : decode cX2_firstFault 30 = .ok (.bipush (-6), 2) := by decide +kernel
theorem dX2_firstFault_32 : decode cX2_firstFault 32 = .ok (.ireturn, 1) := by decide +kernel
set_option maxHeartbeats 4000000 in
set_option maxRecDepth 100000 in
theorem c_pFull (l : Launch) (dC : Nat → ClassId) (dI : Nat → Nat → Nat) (sz : Nat) (h0 : Nat) (w0 : Value)  : Met l yX2_isFull (wq yX2_isFull cX2_isFull 1 (some .boolean)) ({ frames := 0, cells := 0, slots := 0, locals := 0 }) (va_Pc [.ref h0] (pcW dC dI [] [(h0, .inr (2, [w0, .int 0]))] sz)) (va_Qi (fun (r : Int32) (_ : Unit) => r = 0) (fun _ _ => True) (fun q : Nat => sz ≤ q)) 0 0 (fun q : Nat => sz ≤ q) := by
  refine Met.ofW (cc := cX2_isFull) (maxL := 1) (ret := (some .boolean)) (by decide) rfl ?_
  intro p e s m args below meth c s₁ B hml hv
  obtain ⟨rfl, hsz, hN, hP, hK, hD0⟩ := hv
  have hx := B.exec
  have hb := B.bytes
  have hr := B.returns
  have hts0 := atoms_spec (ws := (wq yX2_isFull cX2_isFull 1 (some .boolean))) B.pre
  have hts : ∀ w ∈ BG, w.before _ s = true := fun w h => hts0 w (List.mem_cons_of_mem _ h)
  have hown : s.vm.findClass RX2 = some m.cls := findClass_of_methodNamed B.named
  have hlocks := B.notSynchronized
  subst hsz
  have hA : ∀ q : Nat, s.heap.size ≤ q → (fun q : Nat => s.heap.size ≤ q) q := fun _ h => h
  have hD := hD0
  have hS : va_S (fun q : Nat => s.heap.size ≤ q) s.heap s.heap [] := va_S.rf
  have hP : va_P (dC, dI) vwCl [(h0, .inr (2, [w0, .int 0]))] s.heap := hP
  have hl := lv_entry ([.ref h0]) (n := 1) (Nat.le_of_ble_eq_true rfl)
  rw [lg_entry_eq]
  generalize (lg_sl ([.ref h0]) ++ List.replicate (1 - (lg_sl ([.ref h0])).length) Slot.unset).toArray = ls at hl ⊢
  have hl : lv_has ls 1 [(0, .ref h0)] := hl
  skip
  refine lv_aload_n hx hb dX2_isFull_0 rfl (lv_at hl 0 rfl) ?_
  refine va_get (D := (dC, dI)) (ci := 2) (v := .int 0) (C := RX2) (T := TX2) (N := 2) hx hb hts inB_2 hown hK hP 0 rfl rfl 1 (by decide) (hts _ mw_1_79) (fun _ h9 => h9) rfl dX2_isFull_1 ?_
  refine lv_bipush (v := 12) hx hb dX2_isFull_4 (by decide) ?_
  refine lv_icmp_lt (tgt := 13) hx hb dX2_isFull_6 (by decide) (fun _ => ?_) (fun h => absurd (by decide) h)
  refine lv_iconst (v := 0) hx hb dX2_isFull_13 (by decide) ?_
  exact W.zret (v := 0) hx hb hr (by decide) (fun t ht hW => ⟨⟨0, (), rfl, rfl, trivial⟩, hS.F ht⟩) hS.2.2 dX2_isFull_14
set_option maxHeartbeats 4000000 in
set_option maxRecDepth 100000 in
theorem c_pLen (l : Launch) (dC : Nat → ClassId) (dI : Nat → Nat → Nat) (sz : Nat) (h0 : Nat) (w0 : Value)  : Met l yX2_length (wq yX2_length cX2_length 1 (some .int)) ({ frames := 0, cells := 0, slots := 0, locals := 0 }) (va_Pc [.ref h0] (pcW dC dI [] [(h0, .inr (2, [w0, .int 0]))] sz)) (va_Qi (fun (r : Int32) (_ : Unit) => r = 0) (fun _ _ => True) (fun q : Nat => sz ≤ q)) 0 0 (fun q : Nat => sz ≤ q) := by
  refine Met.ofW (cc := cX2_length) (maxL := 1) (ret := (some .int)) (by decide) rfl ?_
  intro p e s m args below meth c s₁ B hml hv
  obtain ⟨rfl, hsz, hN, hP, hK, hD0⟩ := hv
  have hx := B.exec
  have hb := B.bytes
  have hr := B.returns
  have hts0 := atoms_spec (ws := (wq yX2_length cX2_length 1 (some .int))) B.pre
  have hts : ∀ w ∈ BG, w.before _ s = true := fun w h => hts0 w (List.mem_cons_of_mem _ h)
  have hown : s.vm.findClass RX2 = some m.cls := findClass_of_methodNamed B.named
  have hlocks := B.notSynchronized
  subst hsz
  have hA : ∀ q : Nat, s.heap.size ≤ q → (fun q : Nat => s.heap.size ≤ q) q := fun _ h => h
  have hD := hD0
  have hS : va_S (fun q : Nat => s.heap.size ≤ q) s.heap s.heap [] := va_S.rf
  have hP : va_P (dC, dI) vwCl [(h0, .inr (2, [w0, .int 0]))] s.heap := hP
  have hl := lv_entry ([.ref h0]) (n := 1) (Nat.le_of_ble_eq_true rfl)
  rw [lg_entry_eq]
  generalize (lg_sl ([.ref h0]) ++ List.replicate (1 - (lg_sl ([.ref h0])).length) Slot.unset).toArray = ls at hl ⊢
  have hl : lv_has ls 1 [(0, .ref h0)] := hl
  skip
  refine lv_aload_n hx hb dX2_length_0 rfl (lv_at hl 0 rfl) ?_
  refine va_get (D := (dC, dI)) (ci := 2) (v := .int 0) (C := RX2) (T := TX2) (N := 2) hx hb hts inB_2 hown hK hP 0 rfl rfl 1 (by decide) (hts _ mw_1_79) (fun _ h9 => h9) rfl dX2_length_1 ?_
  exact W.iret (v := 0) hx hb hr (fun t ht hW => ⟨⟨0, (), rfl, rfl, trivial⟩, hS.F ht⟩) hS.2.2 dX2_length_4
set_option maxHeartbeats 4000000 in
set_option maxRecDepth 100000 in
theorem c_pPut (l : Launch) (dC : Nat → ClassId) (dI : Nat → Nat → Nat) (sz : Nat) (h0 : Nat) (a0 : Nat) (ka0 : ClassId) (n : Int32)  : Met l yX2_put (wq yX2_put cX2_put 2 (some .int)) ({ frames := 1, cells := 0, slots := 0, locals := 20 }) (va_Pc [.ref h0, .int n] (pcW dC dI [(ka0, .char)] [(h0, .inr (2, [.ref a0, .int 0])), (a0, .inl (ka0, 12, .inl (fun _ => 0)))] sz)) (va_Qi (fun (r : Int32) (_ : Unit) => r = 1) (fun _ _ => True) (va_A [(h0, .inr (2, [.ref a0, .int 0])), (a0, .inl (ka0, 12, .inl (fun _ => 0)))] sz)) 0 0 (va_A [(h0, .inr (2, [.ref a0, .int 0])), (a0, .inl (ka0, 12, .inl (fun _ => 0)))] sz) := by
  refine Met.ofW (cc := cX2_put) (maxL := 2) (ret := (some .int)) (by decide) rfl ?_
  intro p e s m args below meth c s₁ B hml hv
  obtain ⟨rfl, hsz, hN, hP, hK, hD0⟩ := hv
  have hx := B.exec
  have hb := B.bytes
  have hr := B.returns
  have hts0 := atoms_spec (ws := (wq yX2_put cX2_put 2 (some .int))) B.pre
  have hts : ∀ w ∈ BG, w.before _ s = true := fun w h => hts0 w (List.mem_cons_of_mem _ h)
  have hown : s.vm.findClass RX2 = some m.cls := findClass_of_methodNamed B.named
  have hlocks := B.notSynchronized
  subst hsz
  have hD := hD0.self (sz := s.heap.size)
  generalize hAe : va_A [(h0, .inr (2, [.ref a0, .int 0])), (a0, .inl (ka0, 12, .inl (fun _ => 0)))] s.heap.size = A at hD ⊢
  have hA : ∀ q : Nat, s.heap.size ≤ q → A q := fun q h => by rw [← hAe]; exact Or.inr h
  have hS : va_S A s.heap s.heap [] := va_S.rf
  have hP : va_P (dC, dI) vwCl [(h0, .inr (2, [.ref a0, .int 0])), (a0, .inl (ka0, 12, .inl (fun _ => 0)))] s.heap := hP
  have hl := lv_entry ([.ref h0, .int n]) (n := 2) (Nat.le_of_ble_eq_true rfl)
  rw [lg_entry_eq]
  generalize (lg_sl ([.ref h0, .int n]) ++ List.replicate (2 - (lg_sl ([.ref h0, .int n])).length) Slot.unset).toArray = ls at hl ⊢
  have hl : lv_has ls 2 [(0, .ref h0), (1, .int n)] := hl
  skip
  refine lv_aload_n hx hb dX2_put_0 rfl (lv_at hl 0 rfl) ?_
  have hPc := hP.sub (ws' := [(h0, .inr (2, [.ref a0, .int 0]))]) [0] rfl
  have hDc := hD.sub (ws' := [(h0, .inr (2, [.ref a0, .int 0]))]) [0] (by decide) rfl
  have hKc := hK.sub (tys' := []) [] rfl
  refine va_calli (va_runV (As := []) (rest := []) ⟨hx, hb, hml, hown, hts⟩ (c_pFull l dC dI s.heap.size h0 (.ref a0)) (cwV 0 hts (gV mw_2_73 mw_2_66 mw_2_67 mw_1_4 mw_2_68) rfl rfl rfl (by decide +kernel) ⟨Nat.le_of_ble_eq_true rfl, Nat.le_of_ble_eq_true rfl⟩) ⟨pcW_blind, va_recv hKc hPc (ci := 2) (q0 := 0) rfl rfl, pcW_at hPc hKc hDc hN⟩ rfl rfl hl.1 rfl (lv_room (Nat.le_of_ble_eq_true rfl)) dX2_put_1 ⟨Nat.le_of_ble_eq_true rfl, Nat.le_of_ble_eq_true rfl⟩) hS (fun q h1 h2 => absurd h2 (Nat.not_le.mpr h1)) (fun q h => hA q (Nat.le_trans hS.1 h)) (fun r_1 u t H1 locs ht hvm hw_1 hB hz1 hk1 hS => ?_)
  have hP := keepP hP hk1
  clear hz1 hk1 hB ht hvm hPc hDc hKc
  generalize H1 = H at hP hS ⊢
  obtain rfl : r_1 = 0 := hw_1
  refine lv_if_eq (tgt := 10) hx hb dX2_put_4 (by decide) (fun _ => ?_) (fun h => absurd (by decide) h)
  refine lv_aload_n hx hb dX2_put_10 rfl (lv_at hl 0 rfl) ?_
  refine va_get (D := (dC, dI)) (ci := 2) (v := .ref a0) (C := RX2) (T := TX2) (N := 2) hx hb hts inB_2 hown hK hP 0 rfl rfl 0 (by decide) (hts _ mw_1_78) (fun _ h9 => h9) rfl dX2_put_11 ?_
  refine lv_aload_n hx hb dX2_put_14 rfl (lv_at hl 0 rfl) ?_
  refine va_get (D := (dC, dI)) (ci := 2) (v := .int 0) (C := RX2) (T := TX2) (N := 2) hx hb hts inB_2 hown hK hP 0 rfl rfl 1 (by decide) (hts _ mw_1_79) (fun _ h9 => h9) rfl dX2_put_15 ?_
  refine lv_iload_n hx hb dX2_put_18 rfl (lv_at hl 1 rfl) ?_
  refine lv_i2c hx hb dX2_put_19 rfl ?_
  refine va_cast hx hb hK hP hD hS 1 0 rfl rfl (show vp_in 0 12 by unfold vp_in; decide) dX2_put_20 (fun H locs hP hD hS => ?_)
  have hP : va_P (dC, dI) vwCl [(h0, .inr (2, [.ref a0, .int 0])), (a0, .inl (ka0, 12, .inl (upd (fun _ => 0) 0 (vp_nar .char (n.toUInt32 % 65536).toInt32))))] H := hP
  have hD : va_D A [(h0, .inr (2, [.ref a0, .int 0])), (a0, .inl (ka0, 12, .inl (upd (fun _ => 0) 0 (vp_nar .char (n.toUInt32 % 65536).toInt32))))] := hD
  refine lv_aload_n hx hb dX2_put_21 rfl (lv_at hl 0 rfl) ?_
  refine lv_dup hx hb dX2_put_22 rfl ?_
  refine va_get (D := (dC, dI)) (ci := 2) (v := .int 0) (C := RX2) (T := TX2) (N := 2) hx hb hts inB_2 hown hK hP 0 rfl rfl 1 (by decide) (hts _ mw_1_79) (fun _ h9 => h9) rfl dX2_put_23 ?_
  refine lv_iconst (v := 1) hx hb dX2_put_26 (by decide) ?_
  refine lv_iadd hx hb dX2_put_27 ?_
  refine hx_top (y := 1) (by decide) ?_
  refine va_put (D := (dC, dI)) (ci := 2) (v := .int 1) (ty := .int) (C := RX2) (T := TX2) (N := 2) hx hb hts inB_2 tyX2 tyX2_ok nmX2 hown hK hP hD hS 0 rfl rfl 1 (by decide) (hts _ mw_1_79) (fun _ h9 => h9) rfl (by decide +kernel) rfl rfl (Nat.le_of_ble_eq_true rfl) dX2_put_28 (fun H locs hP hD hS => ?_)
  have hP : va_P (dC, dI) vwCl [(h0, .inr (2, [.ref a0, .int 1])), (a0, .inl (ka0, 12, .inl (upd (fun _ => 0) 0 (vp_nar .char (n.toUInt32 % 65536).toInt32))))] H := hP
  have hD : va_D A [(h0, .inr (2, [.ref a0, .int 1])), (a0, .inl (ka0, 12, .inl (upd (fun _ => 0) 0 (vp_nar .char (n.toUInt32 % 65536).toInt32))))] := hD
  refine lv_aload_n hx hb dX2_put_31 rfl (lv_at hl 0 rfl) ?_
  refine va_get (D := (dC, dI)) (ci := 2) (v := .int 1) (C := RX2) (T := TX2) (N := 2) hx hb hts inB_2 hown hK hP 0 rfl rfl 1 (by decide) (hts _ mw_1_79) (fun _ h9 => h9) rfl dX2_put_32 ?_
  exact W.iret (v := 1) hx hb hr (fun t ht hW => ⟨⟨1, (), rfl, rfl, trivial⟩, hS.F ht⟩) hS.2.2 dX2_put_35
set_option maxHeartbeats 4000000 in
set_option maxRecDepth 100000 in
theorem c_pEmpty (l : Launch) (dC : Nat → ClassId) (dI : Nat → Nat → Nat) (sz : Nat) (h0 : Nat) (w0 : Value)  : Met l yX2_empty (wq yX2_empty cX2_empty 2 (some .int)) ({ frames := 0, cells := 0, slots := 0, locals := 0 }) (va_Pc [.ref h0] (pcW dC dI [] [(h0, .inr (2, [w0, .int 0]))] sz)) (va_Qi (fun (r : Int32) (_ : Unit) => r = 0) (fun _ _ => True) (va_A [(h0, .inr (2, [w0, .int 0]))] sz)) 0 0 (va_A [(h0, .inr (2, [w0, .int 0]))] sz) := by
  refine Met.ofW (cc := cX2_empty) (maxL := 2) (ret := (some .int)) (by decide) rfl ?_
  intro p e s m args below meth c s₁ B hml hv
  obtain ⟨rfl, hsz, hN, hP, hK, hD0⟩ := hv
  have hx := B.exec
  have hb := B.bytes
  have hr := B.returns
  have hts0 := atoms_spec (ws := (wq yX2_empty cX2_empty 2 (some .int))) B.pre
  have hts : ∀ w ∈ BG, w.before _ s = true := fun w h => hts0 w (List.mem_cons_of_mem _ h)
  have hown : s.vm.findClass RX2 = some m.cls := findClass_of_methodNamed B.named
  have hlocks := B.notSynchronized
  subst hsz
  have hD := hD0.self (sz := s.heap.size)
  generalize hAe : va_A [(h0, .inr (2, [w0, .int 0]))] s.heap.size = A at hD ⊢
  have hA : ∀ q : Nat, s.heap.size ≤ q → A q := fun q h => by rw [← hAe]; exact Or.inr h
  have hS : va_S A s.heap s.heap [] := va_S.rf
  have hP : va_P (dC, dI) vwCl [(h0, .inr (2, [w0, .int 0]))] s.heap := hP
  have hl := lv_entry ([.ref h0]) (n := 2) (Nat.le_of_ble_eq_true rfl)
  rw [lg_entry_eq]
  generalize (lg_sl ([.ref h0]) ++ List.replicate (2 - (lg_sl ([.ref h0])).length) Slot.unset).toArray = ls at hl ⊢
  have hl : lv_has ls 2 [(0, .ref h0)] := hl
  skip
  refine lv_aload_n hx hb dX2_empty_0 rfl (lv_at hl 0 rfl) ?_
  refine va_get (D := (dC, dI)) (ci := 2) (v := .int 0) (C := RX2) (T := TX2) (N := 2) hx hb hts inB_2 hown hK hP 0 rfl rfl 1 (by decide) (hts _ mw_1_79) (fun _ h9 => h9) rfl dX2_empty_1 ?_
  refine lv_istore_n (lv' := [(1, .int 0), (0, .ref h0)]) hx hb dX2_empty_4 rfl hl (by decide) rfl (fun ls hl => ?_)
  refine lv_aload_n hx hb dX2_empty_5 rfl (lv_at hl 1 rfl) ?_
  refine lv_iconst (v := 0) hx hb dX2_empty_6 (by decide) ?_
  refine va_put (D := (dC, dI)) (ci := 2) (v := .int 0) (ty := .int) (C := RX2) (T := TX2) (N := 2) hx hb hts inB_2 tyX2 tyX2_ok nmX2 hown hK hP hD hS 0 rfl rfl 1 (by decide) (hts _ mw_1_79) (fun _ h9 => h9) rfl (by decide +kernel) rfl rfl (Nat.le_of_ble_eq_true rfl) dX2_empty_7 (fun H locs hP hD hS => ?_)
  have hP : va_P (dC, dI) vwCl [(h0, .inr (2, [w0, .int 0]))] H := hP
  have hD : va_D A [(h0, .inr (2, [w0, .int 0]))] := hD
  refine lv_iload_n hx hb dX2_empty_10 rfl (lv_at hl 0 rfl) ?_
  exact W.iret (v := 0) hx hb hr (fun t ht hW => ⟨⟨0, (), rfl, rfl, trivial⟩, hS.F ht⟩) hS.2.2 dX2_empty_11
set_option maxHeartbeats 4000000 in
set_option maxRecDepth 100000 in
theorem c_pFault (l : Launch) (dC : Nat → ClassId) (dI : Nat → Nat → Nat) (sz : Nat) (h0 : Nat) (w0 : Value)  : Met l yX2_firstFault (wq yX2_firstFault cX2_firstFault 2 (some .int)) ({ frames := 0, cells := 0, slots := 0, locals := 0 }) (va_Pc [.ref h0] (pcW dC dI [] [(h0, .inr (2, [w0, .int 0]))] sz)) (va_Qi (fun (r : Int32) (_ : Unit) => r = (-6)) (fun _ _ => True) (fun q : Nat => sz ≤ q)) 0 0 (fun q : Nat => sz ≤ q) := by
  refine Met.ofW (cc := cX2_firstFault) (maxL := 2) (ret := (some .int)) (by decide) rfl ?_
  intro p e s m args below meth c s₁ B hml hv
  obtain ⟨rfl, hsz, hN, hP, hK, hD0⟩ := hv
  have hx := B.exec
  have hb := B.bytes
  have hr := B.returns
  have hts0 := atoms_spec (ws := (wq yX2_firstFault cX2_firstFault 2 (some .int))) B.pre
  have hts : ∀ w ∈ BG, w.before _ s = true := fun w h => hts0 w (List.mem_cons_of_mem _ h)
  have hown : s.vm.findClass RX2 = some m.cls := findClass_of_methodNamed B.named
  have hlocks := B.notSynchronized
  subst hsz
  have hA : ∀ q : Nat, s.heap.size ≤ q → (fun q : Nat => s.heap.size ≤ q) q := fun _ h => h
  have hD := hD0
  have hS : va_S (fun q : Nat => s.heap.size ≤ q) s.heap s.heap [] := va_S.rf
  have hP : va_P (dC, dI) vwCl [(h0, .inr (2, [w0, .int 0]))] s.heap := hP
  have hl := lv_entry ([.ref h0]) (n := 2) (Nat.le_of_ble_eq_true rfl)
  rw [lg_entry_eq]
  generalize (lg_sl ([.ref h0]) ++ List.replicate (2 - (lg_sl ([.ref h0])).length) Slot.unset).toArray = ls at hl ⊢
  have hl : lv_has ls 2 [(0, .ref h0)] := hl
  skip
  refine lv_iconst (v := 0) hx hb dX2_firstFault_0 (by decide) ?_
  refine lv_istore_n (lv' := [(1, .int 0), (0, .ref h0)]) hx hb dX2_firstFault_1 rfl hl (by decide) rfl (fun ls hl => ?_)
  refine lv_iload_n hx hb dX2_firstFault_2 rfl (lv_at hl 0 rfl) ?_
  refine lv_aload_n hx hb dX2_firstFault_3 rfl (lv_at hl 1 rfl) ?_
  refine va_get (D := (dC, dI)) (ci := 2) (v := .int 0) (C := RX2) (T := TX2) (N := 2) hx hb hts inB_2 hown hK hP 0 rfl rfl 1 (by decide) (hts _ mw_1_79) (fun _ h9 => h9) rfl dX2_firstFault_4 ?_
  refine lv_icmp_ge (tgt := 30) hx hb dX2_firstFault_7 (by decide) (fun _ => ?_) (fun h => absurd (by decide) h)
  refine lv_bipush (v := (-6)) hx hb dX2_firstFault_30 (by decide) ?_
  exact W.iret (v := (-6)) hx hb hr (fun t ht hW => ⟨⟨(-6), (), rfl, rfl, trivial⟩, hS.F ht⟩) hS.2.2 dX2_firstFault_32
end
section
theorem mw_2_99 : Cond.code yX8_isName cX8_isName 1 (some .boolean) ∈ BG := mB (t2 (i := 99) rfl) (by decide +kernel)
theorem mw_1_1 : Cond.initialized RX8 ∈ BG := mB (t1 (i := 1) (by decide +kernel)) (by decide +kernel)
theorem mw_2_98 : Cond.static yX8_isName ∈ BG := mB (t2 (i := 98) (by decide +kernel)) (by decide +kernel)
theorem mw_1_95 : Cond.laysFinal RX0 "AnswerLines$Bodies" "owners" "[I" ∈ BG := mB (t1 (i := 95) (by decide +kernel)) (by decide +kernel)
theorem mw_1_97 : Cond.laysFinal RX0 "AnswerLines$Bodies" "lengths" "[I" ∈ BG := mB (t1 (i := 97) (by decide +kernel)) (by decide +kernel)
theorem mw_1_99 : Cond.laysFinal RX0 "AnswerLines$Bodies" "signs" "[C" ∈ BG := mB (t1 (i := 99) (by decide +kernel)) (by decide +kernel)
theorem inB_0 : ∀ w ∈ u_ws RX0 TX0 3, w ∈ BG := fun w hw => by
  obtain ⟨k, hk, rfl⟩ := List.mem_map.mp hw
  have hk := List.mem_range.mp hk
  rcases (by omega : k = 0 ∨ k = 1 ∨ k = 2) with rfl | rfl | rfl
  · exact mw_1_95
  · exact mw_1_97
  · exact mw_1_99
theorem mw_1_92 : Cond.fieldLink RX0 9 "AnswerLines$Bodies" "owners" "[I" ∈ BG := mB (t1 (i := 92) (by decide +kernel)) (by decide +kernel)
theorem mw_2_107 : Cond.code yX0_ownersOf cX0_ownersOf 2 (some .int) ∈ BG := mB (t2 (i := 107) rfl) (by decide +kernel)
theorem mw_2_104 : Cond.methodLink RX0 26 yX0_ownersOf ∈ BG := mB (t2 (i := 104) (by decide +kernel)) (by decide +kernel)
theorem mw_2_105 : Cond.instanceMethod yX0_ownersOf ∈ BG := mB (t2 (i := 105) (by decide +kernel)) (by decide +kernel)
theorem mw_2_106 : Cond.selects RX0 yX0_ownersOf yX0_ownersOf ∈ BG := mB (t2 (i := 106) (by decide +kernel)) (by decide +kernel)
theorem mw_1_5 : Cond.initialized RX0 ∈ BG := mB (t1 (i := 5) (by decide +kernel)) (by decide +kernel)
theorem mw_2_15 : Cond.code yX8_isIn cX8_isIn 2 (some .boolean) ∈ BG := mB (t2 (i := 15) rfl) (by decide +kernel)
theorem mw_2_14 : Cond.static yX8_isIn ∈ BG := mB (t2 (i := 14) (by decide +kernel)) (by decide +kernel)
theorem mw_2_103 : Cond.code yX0_isOwner cX0_isOwner 3 (some .boolean) ∈ BG := mB (t2 (i := 103) rfl) (by decide +kernel)
theorem mw_3_175 : Cond.methodLink RX0 34 yX0_isOwner ∈ BG := mB (t3 (i := 175) (by decide +kernel)) (by decide +kernel)
theorem mw_2_101 : Cond.instanceMethod yX0_isOwner ∈ BG := mB (t2 (i := 101) (by decide +kernel)) (by decide +kernel)
theorem mw_2_102 : Cond.selects RX0 yX0_isOwner yX0_isOwner ∈ BG := mB (t2 (i := 102) (by decide +kernel)) (by decide +kernel)
theorem dX0_ownersOf_0 : decode cX0_ownersOf 0 = .ok (.iload_n 1, 1) := by decide +kernel
theorem dX0_ownersOf_1 : decode cX0_ownersOf 1 = .ok (.invokestatic 22, 3) := by decide +kernel
theorem dX0_ownersOf_4 : decode cX0_ownersOf 4 = .ok (.ifCond .eq 12, 3) := by decide +kernel
theorem dX0_ownersOf_7 : decode cX0_ownersOf 7 = .ok (.aload_n 0, 1) := by decide +kernel
theorem dX0_ownersOf_8 : decode cX0_ownersOf 8 = .ok (.getfield 9, 3) := by decide +kernel
theorem dX0_ownersOf_11 : decode cX0_ownersOf 11 = .ok (.iload_n 1, 1) := by decide +kernel
theorem dX0_ownersOf_12 : decode cX0_ownersOf 12 = .ok (.iaload, 1) := by decide +kernel
theorem dX0_ownersOf_13 : decode cX0_ownersOf 13 = .ok (.goto 4, 3) := by decide +kernel
theorem dX0_ownersOf_17 : decode cX0_ownersOf 17 = .ok (.ireturn, 1) := by decide +kernel
theorem dX0_ownersOf_16 : decode cX0_ownersOf 16 = .ok (.iconst 0, 1) := by decide +kernel
theorem dX0_isOwner_0 : decode cX0_isOwner 0 = .ok (.iload_n 1, 1) := by decide +kernel
theorem dX0_isOwner_1 : decode cX0_isOwner 1 = .ok (.aload_n 0, 1) := by decide +kernel
theorem dX0_isOwner_2 : decode cX0_isOwner 2 = .ok (.iload_n 2, 1) := by decide +kernel
theorem dX0_isOwner_3 : decode cX0_isOwner 3 = .ok (.invokevirtual 26, 3) := by decide +kernel
theorem dX0_isOwner_6 : decode cX0_isOwner 6 = .ok (.invokestatic 30, 3) := by decide +kernel
theorem dX0_isOwner_9 : decode cX0_isOwner 9 = .ok (.ireturn, 1) := by decide +kernel
theorem dX0_namesOf_0 : decode cX0_namesOf 0 = .ok (.iconst 0, 1) := by decide +kernel
theorem dX0_namesOf_1 : decode cX0_namesOf 1 = .ok (.istore_n 2, 1) := by decide +kernel
theorem dX0_namesOf_2 : decode cX0_namesOf 2 = .ok (.iconst 0, 1) := by decide +kernel
theorem dX0_namesOf_3 : decode cX0_namesOf 3 = .ok (.istore_n 3, 1) := by decide +kernel
theorem dX0_namesOf_4 : decode cX0_namesOf 4 = .ok (.iload_n 3, 1) := by decide +kernel
theorem dX0_namesOf_5 : decode cX0_namesOf 5 = .ok (.bipush 8, 2) := by decide +kernel
theorem dX0_namesOf_7 : decode cX0_namesOf 7 = .ok (.if_icmp .ge 24, 3) := by decide +kernel
theorem dX0_namesOf_10 : decode cX0_namesOf 10 = .ok (.aload_n 0, 1) := by decide +kernel
theorem dX0_namesOf_11 : decode cX0_namesOf 11 = .ok (.iload_n 1, 1) := by decide +kernel
theorem dX0_namesOf_12 : decode cX0_namesOf 12 = .ok (.iload_n 3, 1) := by decide +kernel
theorem dX0_namesOf_13 : decode cX0_namesOf 13 = .ok (.invokevirtual 34, 3) := by decide +kernel
theorem dX0_namesOf_16 : decode cX0_namesOf 16 = .ok (.ifCond .eq 9, 3) := by decide +kernel
theorem dX0_namesOf_25 : decode cX0_namesOf 25 = .ok (.iinc 3 1, 3) := by decide +kernel
theorem dX0_namesOf_28 : decode cX0_namesOf 28 = .ok (.goto (-24), 3) := by decide +kernel
theorem dX0_namesOf_31 : decode cX0_namesOf 31 = .ok (.iload_n 2, 1) := by decide +kernel
theorem dX0_namesOf_32 : decode cX0_namesOf 32 = .ok (.ireturn, 1) := by decide +kernel
set_option maxHeartbeats 4000000 in
set_option maxRecDepth 100000 in
theorem c_own (l : Launch) (dC : Nat → ClassId) (dI : Nat → Nat → Nat) (sz : Nat) (h0 : Nat) (a0 : Nat) (w1 : Value) (w2 : Value) (ka0 : ClassId) (n : Int32)  : Met l yX0_ownersOf (wq yX0_ownersOf cX0_ownersOf 2 (some .int)) ({ frames := 1, cells := 0, slots := 0, locals := 20 }) (va_Pc [.ref h0, .int n] (pcW dC dI [(ka0, .int)] [(h0, .inr (0, [.ref a0, w1, w2])), (a0, .inl (ka0, 8, .inl (fun _ => 0)))] sz)) (va_Qi (fun (r : Int32) (_ : Unit) => r = 0) (fun _ _ => True) (fun q : Nat => sz ≤ q)) 0 0 (fun q : Nat => sz ≤ q) := by
  refine Met.ofW (cc := cX0_ownersOf) (maxL := 2) (ret := (some .int)) (by decide) rfl ?_
  intro p e s m args below meth c s₁ B hml hv
  obtain ⟨rfl, hsz, hN, hP, hK, hD0⟩ := hv
  have hx := B.exec
  have hb := B.bytes
  have hr := B.returns
  have hts0 := atoms_spec (ws := (wq yX0_ownersOf cX0_ownersOf 2 (some .int))) B.pre
  have hts : ∀ w ∈ BG, w.before _ s = true := fun w h => hts0 w (List.mem_cons_of_mem _ h)
  have hown : s.vm.findClass RX0 = some m.cls := findClass_of_methodNamed B.named
  have hlocks := B.notSynchronized
  subst hsz
  have hA : ∀ q : Nat, s.heap.size ≤ q → (fun q : Nat => s.heap.size ≤ q) q := fun _ h => h
  have hD := hD0
  have hS : va_S (fun q : Nat => s.heap.size ≤ q) s.heap s.heap [] := va_S.rf
  have hP : va_P (dC, dI) vwCl [(h0, .inr (0, [.ref a0, w1, w2])), (a0, .inl (ka0, 8, .inl (fun _ => 0)))] s.heap := hP
  have hl := lv_entry ([.ref h0, .int n]) (n := 2) (Nat.le_of_ble_eq_true rfl)
  rw [lg_entry_eq]
  generalize (lg_sl ([.ref h0, .int n]) ++ List.replicate (2 - (lg_sl ([.ref h0, .int n])).length) Slot.unset).toArray = ls at hl ⊢
  have hl : lv_has ls 2 [(0, .ref h0), (1, .int n)] := hl
  skip
  refine lv_iload_n hx hb dX0_ownersOf_0 rfl (lv_at hl 1 rfl) ?_
  have hPc := hP.sub (ws' := []) [] rfl
  have hDc := hD.sub (ws' := []) [] (by decide) rfl
  have hKc := hK.sub (tys' := []) [] rfl
  refine va_calli (va_runSN (As := [.int n]) (rest := []) ⟨hx, hb, hml, hown, hts⟩ (c_isName l dC dI s.heap.size n) ⟨va_cnB 1 hts (gN mw_2_99) rfl rfl rfl (hN (RX0, 22, yX8_isName, RX8) (List.mem_of_getElem? (i := 8) rfl)) (hts _ mw_1_1) (by decide +kernel) ⟨Nat.le_of_ble_eq_true rfl, Nat.le_of_ble_eq_true rfl⟩, (hts _ mw_2_98), trivial⟩ ⟨pcW_blind, pcW_at hPc hKc hDc hN⟩ rfl rfl hl.1 rfl (lv_room (Nat.le_of_ble_eq_true rfl)) dX0_ownersOf_1 ⟨Nat.le_of_ble_eq_true rfl, Nat.le_of_ble_eq_true rfl⟩) hS (fun q h1 h2 => absurd h2 (Nat.not_le.mpr h1)) (fun q h => hA q (Nat.le_trans hS.1 h)) (fun r_1 u t H1 locs ht hvm hw_1 hB hz1 hk1 hS => ?_)
  have hP := keepP hP hk1
  clear hz1 hk1 hB ht hvm hPc hDc hKc
  generalize H1 = H at hP hS ⊢
  rcases fx_bool hw_1 with ⟨rfl, b_2⟩ | ⟨rfl, b_2⟩
  · skip
    refine lv_if_eq (tgt := 16) hx hb dX0_ownersOf_4 (by decide) (fun h => absurd h (by decide)) (fun _ => ?_)
    refine lv_aload_n hx hb dX0_ownersOf_7 rfl (lv_at hl 0 rfl) ?_
    refine va_get (D := (dC, dI)) (ci := 0) (v := .ref a0) (C := RX0) (T := TX0) (N := 3) hx hb hts inB_0 hown hK hP 0 rfl rfl 0 (by decide) (hts _ mw_1_92) (fun _ h9 => h9) rfl dX0_ownersOf_8 ?_
    refine lv_iload_n hx hb dX0_ownersOf_11 rfl (lv_at hl 1 rfl) ?_
    refine va_iald hx hb hK hP 1 0 rfl rfl (show vp_in n 8 from fx_in (by omega) (by omega)) dX0_ownersOf_12 ?_
    refine hx_top (y := 0) rfl ?_
    refine lv_goto (tgt := 17) hx hb dX0_ownersOf_13 (by decide) ?_
    exact W.iret (v := 0) hx hb hr (fun t ht hW => ⟨⟨0, (), rfl, rfl, trivial⟩, hS.F ht⟩) hS.2.2 dX0_ownersOf_17
  · skip
    refine lv_if_eq (tgt := 16) hx hb dX0_ownersOf_4 (by decide) (fun _ => ?_) (fun h => absurd (by decide) h)
    refine lv_iconst (v := 0) hx hb dX0_ownersOf_16 (by decide) ?_
    exact W.iret (v := 0) hx hb hr (fun t ht hW => ⟨⟨0, (), rfl, rfl, trivial⟩, hS.F ht⟩) hS.2.2 dX0_ownersOf_17
set_option maxHeartbeats 4000000 in
set_option maxRecDepth 100000 in
theorem c_isOwn (l : Launch) (dC : Nat → ClassId) (dI : Nat → Nat → Nat) (sz : Nat) (h0 : Nat) (a0 : Nat) (w1 : Value) (w2 : Value) (ka0 : ClassId) (j : Int32) (n : Int32)  : Met l yX0_isOwner (wq yX0_isOwner cX0_isOwner 3 (some .boolean)) ({ frames := 2, cells := 0, slots := 0, locals := 41 }) (va_Pc [.ref h0, .int j, .int n] (pcW dC dI [(ka0, .int)] [(h0, .inr (0, [.ref a0, w1, w2])), (a0, .inl (ka0, 8, .inl (fun _ => 0)))] sz)) (va_Qi (fun (r : Int32) (_ : Unit) => r = 0) (fun _ _ => True) (fun q : Nat => sz ≤ q)) 0 0 (fun q : Nat => sz ≤ q) := by
  refine Met.ofW (cc := cX0_isOwner) (maxL := 3) (ret := (some .boolean)) (by decide) rfl ?_
  intro p e s m args below meth c s₁ B hml hv
  obtain ⟨rfl, hsz, hN, hP, hK, hD0⟩ := hv
  have hx := B.exec
  have hb := B.bytes
  have hr := B.returns
  have hts0 := atoms_spec (ws := (wq yX0_isOwner cX0_isOwner 3 (some .boolean))) B.pre
  have hts : ∀ w ∈ BG, w.before _ s = true := fun w h => hts0 w (List.mem_cons_of_mem _ h)
  have hown : s.vm.findClass RX0 = some m.cls := findClass_of_methodNamed B.named
  have hlocks := B.notSynchronized
  subst hsz
  have hA : ∀ q : Nat, s.heap.size ≤ q → (fun q : Nat => s.heap.size ≤ q) q := fun _ h => h
  have hD := hD0
  have hS : va_S (fun q : Nat => s.heap.size ≤ q) s.heap s.heap [] := va_S.rf
  have hP : va_P (dC, dI) vwCl [(h0, .inr (0, [.ref a0, w1, w2])), (a0, .inl (ka0, 8, .inl (fun _ => 0)))] s.heap := hP
  have hl := lv_entry ([.ref h0, .int j, .int n]) (n := 3) (Nat.le_of_ble_eq_true rfl)
  rw [lg_entry_eq]
  generalize (lg_sl ([.ref h0, .int j, .int n]) ++ List.replicate (3 - (lg_sl ([.ref h0, .int j, .int n])).length) Slot.unset).toArray = ls at hl ⊢
  have hl : lv_has ls 3 [(0, .ref h0), (1, .int j), (2, .int n)] := hl
  skip
  refine lv_iload_n hx hb dX0_isOwner_0 rfl (lv_at hl 1 rfl) ?_
  refine lv_aload_n hx hb dX0_isOwner_1 rfl (lv_at hl 0 rfl) ?_
  refine lv_iload_n hx hb dX0_isOwner_2 rfl (lv_at hl 2 rfl) ?_
  have hPc := hP.sub (ws' := [(h0, .inr (0, [.ref a0, w1, w2])), (a0, .inl (ka0, 8, .inl (fun _ => 0)))]) [0, 1] rfl
  have hDc := hD.sub (ws' := [(h0, .inr (0, [.ref a0, w1, w2])), (a0, .inl (ka0, 8, .inl (fun _ => 0)))]) [0, 1] (by decide) rfl
  have hKc := hK.sub (tys' := [(ka0, .int)]) [0] rfl
  refine va_calli (va_runV (As := [.int n]) (rest := [.int j]) ⟨hx, hb, hml, hown, hts⟩ (c_own l dC dI s.heap.size h0 a0 (w1) (w2) ka0 n) (cwV 1 hts (gV mw_2_104 mw_2_105 mw_2_106 mw_1_5 mw_2_107) rfl rfl rfl (by decide +kernel) ⟨Nat.le_of_ble_eq_true rfl, Nat.le_of_ble_eq_true rfl⟩) ⟨pcW_blind, va_recv hKc hPc (ci := 0) (q0 := 0) rfl rfl, pcW_at hPc hKc hDc hN⟩ rfl rfl hl.1 rfl (lv_room (Nat.le_of_ble_eq_true rfl)) dX0_isOwner_3 ⟨Nat.le_of_ble_eq_true rfl, Nat.le_of_ble_eq_true rfl⟩) hS (fun q h1 h2 => absurd h2 (Nat.not_le.mpr h1)) (fun q h => hA q (Nat.le_trans hS.1 h)) (fun r_1 u t H1 locs ht hvm hw_1 hB hz1 hk1 hS => ?_)
  have hP := keepP hP hk1
  clear hz1 hk1 hB ht hvm hPc hDc hKc
  generalize H1 = H at hP hS ⊢
  obtain rfl : r_1 = 0 := hw_1
  have hPc := hP.sub (ws' := []) [] rfl
  have hDc := hD.sub (ws' := []) [] (by decide) rfl
  have hKc := hK.sub (tys' := []) [] rfl
  refine va_calli (va_runSN (As := [.int j, .int 0]) (rest := []) ⟨hx, hb, hml, hown, hts⟩ (c_isIn0 l dC dI H.size j) ⟨va_cnB 2 hts (gN mw_2_15) rfl rfl rfl (hN (RX0, 30, yX8_isIn, RX8) (List.mem_of_getElem? (i := 9) rfl)) (hts _ mw_1_1) (by decide +kernel) ⟨Nat.le_of_ble_eq_true rfl, Nat.le_of_ble_eq_true rfl⟩, (hts _ mw_2_14), trivial⟩ ⟨pcW_blind, pcW_at hPc hKc hDc hN⟩ rfl rfl hl.1 rfl (lv_room (Nat.le_of_ble_eq_true rfl)) dX0_isOwner_6 ⟨Nat.le_of_ble_eq_true rfl, Nat.le_of_ble_eq_true rfl⟩) hS (fun q h1 h2 => absurd h2 (Nat.not_le.mpr h1)) (fun q h => hA q (Nat.le_trans hS.1 h)) (fun r_2 u t H1 locs ht hvm hw_2 hB hz1 hk1 hS => ?_)
  have hP := keepP hP hk1
  clear hz1 hk1 hB ht hvm hPc hDc hKc
  generalize H1 = H at hP hS ⊢
  obtain rfl : r_2 = 0 := hw_2
  exact W.zret (v := 0) hx hb hr (by decide) (fun t ht hW => ⟨⟨0, (), rfl, rfl, trivial⟩, hS.F ht⟩) hS.2.2 dX0_isOwner_9
set_option maxHeartbeats 4000000 in
set_option maxRecDepth 100000 in
theorem c_names (l : Launch) (dC : Nat → ClassId) (dI : Nat → Nat → Nat) (sz : Nat) (h0 : Nat) (a0 : Nat) (w1 : Value) (w2 : Value) (ka0 : ClassId) (j : Int32)  : Met l yX0_namesOf (wq yX0_namesOf cX0_namesOf 4 (some .int)) ({ frames := 3, cells := 0, slots := 0, locals := 63 }) (va_Pc [.ref h0, .int j] (pcW dC dI [(ka0, .int)] [(h0, .inr (0, [.ref a0, w1, w2])), (a0, .inl (ka0, 8, .inl (fun _ => 0)))] sz)) (va_Qi (fun (r : Int32) (_ : Unit) => r = 0) (fun _ _ => True) (fun q : Nat => sz ≤ q)) 0 0 (fun q : Nat => sz ≤ q) := by
  refine Met.ofW (cc := cX0_namesOf) (maxL := 4) (ret := (some .int)) (by decide) rfl ?_
  intro p e s m args below meth c s₁ B hml hv
  obtain ⟨rfl, hsz, hN, hP, hK, hD0⟩ := hv
  have hx := B.exec
  have hb := B.bytes
  have hr := B.returns
  have hts0 := atoms_spec (ws := (wq yX0_namesOf cX0_namesOf 4 (some .int))) B.pre
  have hts : ∀ w ∈ BG, w.before _ s = true := fun w h => hts0 w (List.mem_cons_of_mem _ h)
  have hown : s.vm.findClass RX0 = some m.cls := findClass_of_methodNamed B.named
  have hlocks := B.notSynchronized
  subst hsz
  have hA : ∀ q : Nat, s.heap.size ≤ q → (fun q : Nat => s.heap.size ≤ q) q := fun _ h => h
  have hD := hD0
  have hS : va_S (fun q : Nat => s.heap.size ≤ q) s.heap s.heap [] := va_S.rf
  have hP : va_P (dC, dI) vwCl [(h0, .inr (0, [.ref a0, w1, w2])), (a0, .inl (ka0, 8, .inl (fun _ => 0)))] s.heap := hP
  have hl := lv_entry ([.ref h0, .int j]) (n := 4) (Nat.le_of_ble_eq_true rfl)
  rw [lg_entry_eq]
  generalize (lg_sl ([.ref h0, .int j]) ++ List.replicate (4 - (lg_sl ([.ref h0, .int j])).length) Slot.unset).toArray = ls at hl ⊢
  have hl : lv_has ls 4 [(0, .ref h0), (1, .int j)] := hl
  skip
  refine lv_iconst (v := 0) hx hb dX0_namesOf_0 (by decide) ?_
  refine lv_istore_n (lv' := [(2, .int 0), (0, .ref h0), (1, .int j)]) hx hb dX0_namesOf_1 rfl hl (by decide) rfl (fun ls hl => ?_)
  refine lv_iconst (v := 0) hx hb dX0_namesOf_2 (by decide) ?_
  refine lv_istore_n (lv' := [(3, .int 0), (2, .int 0), (0, .ref h0), (1, .int j)]) hx hb dX0_namesOf_3 rfl hl (by decide) rfl (fun ls hl => ?_)
  refine lv_iload_n hx hb dX0_namesOf_4 rfl (lv_at hl 0 rfl) ?_
  refine lv_bipush (v := 8) hx hb dX0_namesOf_5 (by decide) ?_
  refine lv_icmp_ge (tgt := 31) hx hb dX0_namesOf_7 (by decide) (fun h => absurd h (by decide)) (fun _ => ?_)
  refine lv_aload_n hx hb dX0_namesOf_10 rfl (lv_at hl 2 rfl) ?_
  refine lv_iload_n hx hb dX0_namesOf_11 rfl (lv_at hl 3 rfl) ?_
  refine lv_iload_n hx hb dX0_namesOf_12 rfl (lv_at hl 0 rfl) ?_
  have hPc := hP.sub (ws' := [(h0, .inr (0, [.ref a0, w1, w2])), (a0, .inl (ka0, 8, .inl (fun _ => 0)))]) [0, 1] rfl
  have hDc := hD.sub (ws' := [(h0, .inr (0, [.ref a0, w1, w2])), (a0, .inl (ka0, 8, .inl (fun _ => 0)))]) [0, 1] (by decide) rfl
  have hKc := hK.sub (tys' := [(ka0, .int)]) [0] rfl
  refine va_calli (va_runV (As := [.int j, .int 0]) (rest := []) ⟨hx, hb, hml, hown, hts⟩ (c_isOwn l dC dI s.heap.size h0 a0 (w1) (w2) ka0 j 0) (cwV 2 hts (gV mw_3_175 mw_2_101 mw_2_102 mw_1_5 mw_2_103) rfl rfl rfl (by decide +kernel) ⟨Nat.le_of_ble_eq_true rfl, Nat.le_of_ble_eq_true rfl⟩) ⟨pcW_blind, va_recv hKc hPc (ci := 0) (q0 := 0) rfl rfl, pcW_at hPc hKc hDc hN⟩ rfl rfl hl.1 rfl (lv_room (Nat.le_of_ble_eq_true rfl)) dX0_namesOf_13 ⟨Nat.le_of_ble_eq_true rfl, Nat.le_of_ble_eq_true rfl⟩) hS (fun q h1 h2 => absurd h2 (Nat.not_le.mpr h1)) (fun q h => hA q (Nat.le_trans hS.1 h)) (fun r_1 u t H1 locs ht hvm hw_1 hB hz1 hk1 hS => ?_)
  have hP := keepP hP hk1
  clear hz1 hk1 hB ht hvm hPc hDc hKc
  generalize H1 = H at hP hS ⊢
  obtain rfl : r_1 = 0 := hw_1
  refine lv_if_eq (tgt := 25) hx hb dX0_namesOf_16 (by decide) (fun _ => ?_) (fun h => absurd (by decide) h)
  refine lv_iinc (v := 1) (lv' := [(3, .int 1), (2, .int 0), (0, .ref h0), (1, .int j)]) hx hb dX0_namesOf_25 hl (k := 0) rfl (by decide) (by decide) rfl (fun ls hl => ?_)
  refine lv_goto (tgt := 4) hx hb dX0_namesOf_28 (by decide) ?_
  refine lv_iload_n hx hb dX0_namesOf_4 rfl (lv_at hl 0 rfl) ?_
  refine lv_bipush (v := 8) hx hb dX0_namesOf_5 (by decide) ?_
  refine lv_icmp_ge (tgt := 31) hx hb dX0_namesOf_7 (by decide) (fun h => absurd h (by decide)) (fun _ => ?_)
  refine lv_aload_n hx hb dX0_namesOf_10 rfl (lv_at hl 2 rfl) ?_
  refine lv_iload_n hx hb dX0_namesOf_11 rfl (lv_at hl 3 rfl) ?_
  refine lv_iload_n hx hb dX0_namesOf_12 rfl (lv_at hl 0 rfl) ?_
  have hPc := hP.sub (ws' := [(h0, .inr (0, [.ref a0, w1, w2])), (a0, .inl (ka0, 8, .inl (fun _ => 0)))]) [0, 1] rfl
  have hDc := hD.sub (ws' := [(h0, .inr (0, [.ref a0, w1, w2])), (a0, .inl (ka0, 8, .inl (fun _ => 0)))]) [0, 1] (by decide) rfl
  have hKc := hK.sub (tys' := [(ka0, .int)]) [0] rfl
  refine va_calli (va_runV (As := [.int j, .int 1]) (rest := []) ⟨hx, hb, hml, hown, hts⟩ (c_isOwn l dC dI H.size h0 a0 (w1) (w2) ka0 j 1) (cwV 2 hts (gV mw_3_175 mw_2_101 mw_2_102 mw_1_5 mw_2_103) rfl rfl rfl (by decide +kernel) ⟨Nat.le_of_ble_eq_true rfl, Nat.le_of_ble_eq_true rfl⟩) ⟨pcW_blind, va_recv hKc hPc (ci := 0) (q0 := 0) rfl rfl, pcW_at hPc hKc hDc hN⟩ rfl rfl hl.1 rfl (lv_room (Nat.le_of_ble_eq_true rfl)) dX0_namesOf_13 ⟨Nat.le_of_ble_eq_true rfl, Nat.le_of_ble_eq_true rfl⟩) hS (fun q h1 h2 => absurd h2 (Nat.not_le.mpr h1)) (fun q h => hA q (Nat.le_trans hS.1 h)) (fun r_2 u t H1 locs ht hvm hw_2 hB hz1 hk1 hS => ?_)
  have hP := keepP hP hk1
  clear hz1 hk1 hB ht hvm hPc hDc hKc
  generalize H1 = H at hP hS ⊢
  obtain rfl : r_2 = 0 := hw_2
  refine lv_if_eq (tgt := 25) hx hb dX0_namesOf_16 (by decide) (fun _ => ?_) (fun h => absurd (by decide) h)
  refine lv_iinc (v := 2) (lv' := [(3, .int 2), (2, .int 0), (0, .ref h0), (1, .int j)]) hx hb dX0_namesOf_25 hl (k := 0) rfl (by decide) (by decide) rfl (fun ls hl => ?_)
  refine lv_goto (tgt := 4) hx hb dX0_namesOf_28 (by decide) ?_
  refine lv_iload_n hx hb dX0_namesOf_4 rfl (lv_at hl 0 rfl) ?_
  refine lv_bipush (v := 8) hx hb dX0_namesOf_5 (by decide) ?_
  refine lv_icmp_ge (tgt := 31) hx hb dX0_namesOf_7 (by decide) (fun h => absurd h (by decide)) (fun _ => ?_)
  refine lv_aload_n hx hb dX0_namesOf_10 rfl (lv_at hl 2 rfl) ?_
  refine lv_iload_n hx hb dX0_namesOf_11 rfl (lv_at hl 3 rfl) ?_
  refine lv_iload_n hx hb dX0_namesOf_12 rfl (lv_at hl 0 rfl) ?_
  have hPc := hP.sub (ws' := [(h0, .inr (0, [.ref a0, w1, w2])), (a0, .inl (ka0, 8, .inl (fun _ => 0)))]) [0, 1] rfl
  have hDc := hD.sub (ws' := [(h0, .inr (0, [.ref a0, w1, w2])), (a0, .inl (ka0, 8, .inl (fun _ => 0)))]) [0, 1] (by decide) rfl
  have hKc := hK.sub (tys' := [(ka0, .int)]) [0] rfl
  refine va_calli (va_runV (As := [.int j, .int 2]) (rest := []) ⟨hx, hb, hml, hown, hts⟩ (c_isOwn l dC dI H.size h0 a0 (w1) (w2) ka0 j 2) (cwV 2 hts (gV mw_3_175 mw_2_101 mw_2_102 mw_1_5 mw_2_103) rfl rfl rfl (by decide +kernel) ⟨Nat.le_of_ble_eq_true rfl, Nat.le_of_ble_eq_true rfl⟩) ⟨pcW_blind, va_recv hKc hPc (ci := 0) (q0 := 0) rfl rfl, pcW_at hPc hKc hDc hN⟩ rfl rfl hl.1 rfl (lv_room (Nat.le_of_ble_eq_true rfl)) dX0_namesOf_13 ⟨Nat.le_of_ble_eq_true rfl, Nat.le_of_ble_eq_true rfl⟩) hS (fun q h1 h2 => absurd h2 (Nat.not_le.mpr h1)) (fun q h => hA q (Nat.le_trans hS.1 h)) (fun r_3 u t H1 locs ht hvm hw_3 hB hz1 hk1 hS => ?_)
  have hP := keepP hP hk1
  clear hz1 hk1 hB ht hvm hPc hDc hKc
  generalize H1 = H at hP hS ⊢
  obtain rfl : r_3 = 0 := hw_3
  refine lv_if_eq (tgt := 25) hx hb dX0_namesOf_16 (by decide) (fun _ => ?_) (fun h => absurd (by decide) h)
  refine lv_iinc (v := 3) (lv' := [(3, .int 3), (2, .int 0), (0, .ref h0), (1, .int j)]) hx hb dX0_namesOf_25 hl (k := 0) rfl (by decide) (by decide) rfl (fun ls hl => ?_)
  refine lv_goto (tgt := 4) hx hb dX0_namesOf_28 (by decide) ?_
  refine lv_iload_n hx hb dX0_namesOf_4 rfl (lv_at hl 0 rfl) ?_
  refine lv_bipush (v := 8) hx hb dX0_namesOf_5 (by decide) ?_
  refine lv_icmp_ge (tgt := 31) hx hb dX0_namesOf_7 (by decide) (fun h => absurd h (by decide)) (fun _ => ?_)
  refine lv_aload_n hx hb dX0_namesOf_10 rfl (lv_at hl 2 rfl) ?_
  refine lv_iload_n hx hb dX0_namesOf_11 rfl (lv_at hl 3 rfl) ?_
  refine lv_iload_n hx hb dX0_namesOf_12 rfl (lv_at hl 0 rfl) ?_
  have hPc := hP.sub (ws' := [(h0, .inr (0, [.ref a0, w1, w2])), (a0, .inl (ka0, 8, .inl (fun _ => 0)))]) [0, 1] rfl
  have hDc := hD.sub (ws' := [(h0, .inr (0, [.ref a0, w1, w2])), (a0, .inl (ka0, 8, .inl (fun _ => 0)))]) [0, 1] (by decide) rfl
  have hKc := hK.sub (tys' := [(ka0, .int)]) [0] rfl
  refine va_calli (va_runV (As := [.int j, .int 3]) (rest := []) ⟨hx, hb, hml, hown, hts⟩ (c_isOwn l dC dI H.size h0 a0 (w1) (w2) ka0 j 3) (cwV 2 hts (gV mw_3_175 mw_2_101 mw_2_102 mw_1_5 mw_2_103) rfl rfl rfl (by decide +kernel) ⟨Nat.le_of_ble_eq_true rfl, Nat.le_of_ble_eq_true rfl⟩) ⟨pcW_blind, va_recv hKc hPc (ci := 0) (q0 := 0) rfl rfl, pcW_at hPc hKc hDc hN⟩ rfl rfl hl.1 rfl (lv_room (Nat.le_of_ble_eq_true rfl)) dX0_namesOf_13 ⟨Nat.le_of_ble_eq_true rfl, Nat.le_of_ble_eq_true rfl⟩) hS (fun q h1 h2 => absurd h2 (Nat.not_le.mpr h1)) (fun q h => hA q (Nat.le_trans hS.1 h)) (fun r_4 u t H1 locs ht hvm hw_4 hB hz1 hk1 hS => ?_)
  have hP := keepP hP hk1
  clear hz1 hk1 hB ht hvm hPc hDc hKc
  generalize H1 = H at hP hS ⊢
  obtain rfl : r_4 = 0 := hw_4
  refine lv_if_eq (tgt := 25) hx hb dX0_namesOf_16 (by decide) (fun _ => ?_) (fun h => absurd (by decide) h)
  refine lv_iinc (v := 4) (lv' := [(3, .int 4), (2, .int 0), (0, .ref h0), (1, .int j)]) hx hb dX0_namesOf_25 hl (k := 0) rfl (by decide) (by decide) rfl (fun ls hl => ?_)
  refine lv_goto (tgt := 4) hx hb dX0_namesOf_28 (by decide) ?_
  refine lv_iload_n hx hb dX0_namesOf_4 rfl (lv_at hl 0 rfl) ?_
  refine lv_bipush (v := 8) hx hb dX0_namesOf_5 (by decide) ?_
  refine lv_icmp_ge (tgt := 31) hx hb dX0_namesOf_7 (by decide) (fun h => absurd h (by decide)) (fun _ => ?_)
  refine lv_aload_n hx hb dX0_namesOf_10 rfl (lv_at hl 2 rfl) ?_
  refine lv_iload_n hx hb dX0_namesOf_11 rfl (lv_at hl 3 rfl) ?_
  refine lv_iload_n hx hb dX0_namesOf_12 rfl (lv_at hl 0 rfl) ?_
  have hPc := hP.sub (ws' := [(h0, .inr (0, [.ref a0, w1, w2])), (a0, .inl (ka0, 8, .inl (fun _ => 0)))]) [0, 1] rfl
  have hDc := hD.sub (ws' := [(h0, .inr (0, [.ref a0, w1, w2])), (a0, .inl (ka0, 8, .inl (fun _ => 0)))]) [0, 1] (by decide) rfl
  have hKc := hK.sub (tys' := [(ka0, .int)]) [0] rfl
  refine va_calli (va_runV (As := [.int j, .int 4]) (rest := []) ⟨hx, hb, hml, hown, hts⟩ (c_isOwn l dC dI H.size h0 a0 (w1) (w2) ka0 j 4) (cwV 2 hts (gV mw_3_175 mw_2_101 mw_2_102 mw_1_5 mw_2_103) rfl rfl rfl (by decide +kernel) ⟨Nat.le_of_ble_eq_true rfl, Nat.le_of_ble_eq_true rfl⟩) ⟨pcW_blind, va_recv hKc hPc (ci := 0) (q0 := 0) rfl rfl, pcW_at hPc hKc hDc hN⟩ rfl rfl hl.1 rfl (lv_room (Nat.le_of_ble_eq_true rfl)) dX0_namesOf_13 ⟨Nat.le_of_ble_eq_true rfl, Nat.le_of_ble_eq_true rfl⟩) hS (fun q h1 h2 => absurd h2 (Nat.not_le.mpr h1)) (fun q h => hA q (Nat.le_trans hS.1 h)) (fun r_5 u t H1 locs ht hvm hw_5 hB hz1 hk1 hS => ?_)
  have hP := keepP hP hk1
  clear hz1 hk1 hB ht hvm hPc hDc hKc
  generalize H1 = H at hP hS ⊢
  obtain rfl : r_5 = 0 := hw_5
  refine lv_if_eq (tgt := 25) hx hb dX0_namesOf_16 (by decide) (fun _ => ?_) (fun h => absurd (by decide) h)
  refine lv_iinc (v := 5) (lv' := [(3, .int 5), (2, .int 0), (0, .ref h0), (1, .int j)]) hx hb dX0_namesOf_25 hl (k := 0) rfl (by decide) (by decide) rfl (fun ls hl => ?_)
  refine lv_goto (tgt := 4) hx hb dX0_namesOf_28 (by decide) ?_
  refine lv_iload_n hx hb dX0_namesOf_4 rfl (lv_at hl 0 rfl) ?_
  refine lv_bipush (v := 8) hx hb dX0_namesOf_5 (by decide) ?_
  refine lv_icmp_ge (tgt := 31) hx hb dX0_namesOf_7 (by decide) (fun h => absurd h (by decide)) (fun _ => ?_)
  refine lv_aload_n hx hb dX0_namesOf_10 rfl (lv_at hl 2 rfl) ?_
  refine lv_iload_n hx hb dX0_namesOf_11 rfl (lv_at hl 3 rfl) ?_
  refine lv_iload_n hx hb dX0_namesOf_12 rfl (lv_at hl 0 rfl) ?_
  have hPc := hP.sub (ws' := [(h0, .inr (0, [.ref a0, w1, w2])), (a0, .inl (ka0, 8, .inl (fun _ => 0)))]) [0, 1] rfl
  have hDc := hD.sub (ws' := [(h0, .inr (0, [.ref a0, w1, w2])), (a0, .inl (ka0, 8, .inl (fun _ => 0)))]) [0, 1] (by decide) rfl
  have hKc := hK.sub (tys' := [(ka0, .int)]) [0] rfl
  refine va_calli (va_runV (As := [.int j, .int 5]) (rest := []) ⟨hx, hb, hml, hown, hts⟩ (c_isOwn l dC dI H.size h0 a0 (w1) (w2) ka0 j 5) (cwV 2 hts (gV mw_3_175 mw_2_101 mw_2_102 mw_1_5 mw_2_103) rfl rfl rfl (by decide +kernel) ⟨Nat.le_of_ble_eq_true rfl, Nat.le_of_ble_eq_true rfl⟩) ⟨pcW_blind, va_recv hKc hPc (ci := 0) (q0 := 0) rfl rfl, pcW_at hPc hKc hDc hN⟩ rfl rfl hl.1 rfl (lv_room (Nat.le_of_ble_eq_true rfl)) dX0_namesOf_13 ⟨Nat.le_of_ble_eq_true rfl, Nat.le_of_ble_eq_true rfl⟩) hS (fun q h1 h2 => absurd h2 (Nat.not_le.mpr h1)) (fun q h => hA q (Nat.le_trans hS.1 h)) (fun r_6 u t H1 locs ht hvm hw_6 hB hz1 hk1 hS => ?_)
  have hP := keepP hP hk1
  clear hz1 hk1 hB ht hvm hPc hDc hKc
  generalize H1 = H at hP hS ⊢
  obtain rfl : r_6 = 0 := hw_6
  refine lv_if_eq (tgt := 25) hx hb dX0_namesOf_16 (by decide) (fun _ => ?_) (fun h => absurd (by decide) h)
  refine lv_iinc (v := 6) (lv' := [(3, .int 6), (2, .int 0), (0, .ref h0), (1, .int j)]) hx hb dX0_namesOf_25 hl (k := 0) rfl (by decide) (by decide) rfl (fun ls hl => ?_)
  refine lv_goto (tgt := 4) hx hb dX0_namesOf_28 (by decide) ?_
  refine lv_iload_n hx hb dX0_namesOf_4 rfl (lv_at hl 0 rfl) ?_
  refine lv_bipush (v := 8) hx hb dX0_namesOf_5 (by decide) ?_
  refine lv_icmp_ge (tgt := 31) hx hb dX0_namesOf_7 (by decide) (fun h => absurd h (by decide)) (fun _ => ?_)
  refine lv_aload_n hx hb dX0_namesOf_10 rfl (lv_at hl 2 rfl) ?_
  refine lv_iload_n hx hb dX0_namesOf_11 rfl (lv_at hl 3 rfl) ?_
  refine lv_iload_n hx hb dX0_namesOf_12 rfl (lv_at hl 0 rfl) ?_
  have hPc := hP.sub (ws' := [(h0, .inr (0, [.ref a0, w1, w2])), (a0, .inl (ka0, 8, .inl (fun _ => 0)))]) [0, 1] rfl
  have hDc := hD.sub (ws' := [(h0, .inr (0, [.ref a0, w1, w2])), (a0, .inl (ka0, 8, .inl (fun _ => 0)))]) [0, 1] (by decide) rfl
  have hKc := hK.sub (tys' := [(ka0, .int)]) [0] rfl
  refine va_calli (va_runV (As := [.int j, .int 6]) (rest := []) ⟨hx, hb, hml, hown, hts⟩ (c_isOwn l dC dI H.size h0 a0 (w1) (w2) ka0 j 6) (cwV 2 hts (gV mw_3_175 mw_2_101 mw_2_102 mw_1_5 mw_2_103) rfl rfl rfl (by decide +kernel) ⟨Nat.le_of_ble_eq_true rfl, Nat.le_of_ble_eq_true rfl⟩) ⟨pcW_blind, va_recv hKc hPc (ci := 0) (q0 := 0) rfl rfl, pcW_at hPc hKc hDc hN⟩ rfl rfl hl.1 rfl (lv_room (Nat.le_of_ble_eq_true rfl)) dX0_namesOf_13 ⟨Nat.le_of_ble_eq_true rfl, Nat.le_of_ble_eq_true rfl⟩) hS (fun q h1 h2 => absurd h2 (Nat.not_le.mpr h1)) (fun q h => hA q (Nat.le_trans hS.1 h)) (fun r_7 u t H1 locs ht hvm hw_7 hB hz1 hk1 hS => ?_)
  have hP := keepP hP hk1
  clear hz1 hk1 hB ht hvm hPc hDc hKc
  generalize H1 = H at hP hS ⊢
  obtain rfl : r_7 = 0 := hw_7
  refine lv_if_eq (tgt := 25) hx hb dX0_namesOf_16 (by decide) (fun _ => ?_) (fun h => absurd (by decide) h)
  refine lv_iinc (v := 7) (lv' := [(3, .int 7), (2, .int 0), (0, .ref h0), (1, .int j)]) hx hb dX0_namesOf_25 hl (k := 0) rfl (by decide) (by decide) rfl (fun ls hl => ?_)
  refine lv_goto (tgt := 4) hx hb dX0_namesOf_28 (by decide) ?_
  refine lv_iload_n hx hb dX0_namesOf_4 rfl (lv_at hl 0 rfl) ?_
  refine lv_bipush (v := 8) hx hb dX0_namesOf_5 (by decide) ?_
  refine lv_icmp_ge (tgt := 31) hx hb dX0_namesOf_7 (by decide) (fun h => absurd h (by decide)) (fun _ => ?_)
  refine lv_aload_n hx hb dX0_namesOf_10 rfl (lv_at hl 2 rfl) ?_
  refine lv_iload_n hx hb dX0_namesOf_11 rfl (lv_at hl 3 rfl) ?_
  refine lv_iload_n hx hb dX0_namesOf_12 rfl (lv_at hl 0 rfl) ?_
  have hPc := hP.sub (ws' := [(h0, .inr (0, [.ref a0, w1, w2])), (a0, .inl (ka0, 8, .inl (fun _ => 0)))]) [0, 1] rfl
  have hDc := hD.sub (ws' := [(h0, .inr (0, [.ref a0, w1, w2])), (a0, .inl (ka0, 8, .inl (fun _ => 0)))]) [0, 1] (by decide) rfl
  have hKc := hK.sub (tys' := [(ka0, .int)]) [0] rfl
  refine va_calli (va_runV (As := [.int j, .int 7]) (rest := []) ⟨hx, hb, hml, hown, hts⟩ (c_isOwn l dC dI H.size h0 a0 (w1) (w2) ka0 j 7) (cwV 2 hts (gV mw_3_175 mw_2_101 mw_2_102 mw_1_5 mw_2_103) rfl rfl rfl (by decide +kernel) ⟨Nat.le_of_ble_eq_true rfl, Nat.le_of_ble_eq_true rfl⟩) ⟨pcW_blind, va_recv hKc hPc (ci := 0) (q0 := 0) rfl rfl, pcW_at hPc hKc hDc hN⟩ rfl rfl hl.1 rfl (lv_room (Nat.le_of_ble_eq_true rfl)) dX0_namesOf_13 ⟨Nat.le_of_ble_eq_true rfl, Nat.le_of_ble_eq_true rfl⟩) hS (fun q h1 h2 => absurd h2 (Nat.not_le.mpr h1)) (fun q h => hA q (Nat.le_trans hS.1 h)) (fun r_8 u t H1 locs ht hvm hw_8 hB hz1 hk1 hS => ?_)
  have hP := keepP hP hk1
  clear hz1 hk1 hB ht hvm hPc hDc hKc
  generalize H1 = H at hP hS ⊢
  obtain rfl : r_8 = 0 := hw_8
  refine lv_if_eq (tgt := 25) hx hb dX0_namesOf_16 (by decide) (fun _ => ?_) (fun h => absurd (by decide) h)
  refine lv_iinc (v := 8) (lv' := [(3, .int 8), (2, .int 0), (0, .ref h0), (1, .int j)]) hx hb dX0_namesOf_25 hl (k := 0) rfl (by decide) (by decide) rfl (fun ls hl => ?_)
  refine lv_goto (tgt := 4) hx hb dX0_namesOf_28 (by decide) ?_
  refine lv_iload_n hx hb dX0_namesOf_4 rfl (lv_at hl 0 rfl) ?_
  refine lv_bipush (v := 8) hx hb dX0_namesOf_5 (by decide) ?_
  refine lv_icmp_ge (tgt := 31) hx hb dX0_namesOf_7 (by decide) (fun _ => ?_) (fun h => absurd (by decide) h)
  refine lv_iload_n hx hb dX0_namesOf_31 rfl (lv_at hl 1 rfl) ?_
  exact W.iret (v := 0) hx hb hr (fun t ht hW => ⟨⟨0, (), rfl, rfl, trivial⟩, hS.F ht⟩) hS.2.2 dX0_namesOf_32
end
section
theorem mw_2_212 : Cond.code yX1_howMany cX1_howMany 1 (some .int) ∈ BG := mB (t2 (i := 212) rfl) (by decide +kernel)
theorem mw_2_209 : Cond.methodLink RX6 19 yX1_howMany ∈ BG := mB (t2 (i := 209) (by decide +kernel)) (by decide +kernel)
theorem mw_2_210 : Cond.instanceMethod yX1_howMany ∈ BG := mB (t2 (i := 210) (by decide +kernel)) (by decide +kernel)
theorem mw_2_211 : Cond.selects RX1 yX1_howMany yX1_howMany ∈ BG := mB (t2 (i := 211) (by decide +kernel)) (by decide +kernel)
theorem dX6_doubtful_0 : decode cX6_doubtful 0 = .ok (.iconst 0, 1) := by decide +kernel
theorem dX6_doubtful_1 : decode cX6_doubtful 1 = .ok (.istore_n 2, 1) := by decide +kernel
theorem dX6_doubtful_2 : decode cX6_doubtful 2 = .ok (.aload_n 0, 1) := by decide +kernel
theorem dX6_doubtful_3 : decode cX6_doubtful 3 = .ok (.invokevirtual 19, 3) := by decide +kernel
theorem dX6_doubtful_6 : decode cX6_doubtful 6 = .ok (.istore_n 3, 1) := by decide +kernel
theorem dX6_doubtful_7 : decode cX6_doubtful 7 = .ok (.iconst 0, 1) := by decide +kernel
theorem dX6_doubtful_8 : decode cX6_doubtful 8 = .ok (.istore 4, 2) := by decide +kernel
theorem dX6_doubtful_10 : decode cX6_doubtful 10 = .ok (.iload 4, 2) := by decide +kernel
theorem dX6_doubtful_12 : decode cX6_doubtful 12 = .ok (.iload_n 3, 1) := by decide +kernel
theorem dX6_doubtful_13 : decode cX6_doubtful 13 = .ok (.if_icmp .ge 26, 3) := by decide +kernel
theorem dX6_doubtful_39 : decode cX6_doubtful 39 = .ok (.iload_n 2, 1) := by decide +kernel
theorem dX6_doubtful_40 : decode cX6_doubtful 40 = .ok (.ireturn, 1) := by decide +kernel
theorem dX6_settlers_0 : decode cX6_settlers 0 = .ok (.iconst 0, 1) := by decide +kernel
theorem dX6_settlers_1 : decode cX6_settlers 1 = .ok (.istore_n 2, 1) := by decide +kernel
theorem dX6_settlers_2 : decode cX6_settlers 2 = .ok (.aload_n 0, 1) := by decide +kernel
theorem dX6_settlers_3 : decode cX6_settlers 3 = .ok (.invokevirtual 19, 3) := by decide +kernel
theorem dX6_settlers_6 : decode cX6_settlers 6 = .ok (.istore_n 3, 1) := by decide +kernel
theorem dX6_settlers_7 : decode cX6_settlers 7 = .ok (.iconst 0, 1) := by decide +kernel
theorem dX6_settlers_8 : decode cX6_settlers 8 = .ok (.istore 4, 2) := by decide +kernel
theorem dX6_settlers_10 : decode cX6_settlers 10 = .ok (.iload 4, 2) := by decide +kernel
theorem dX6_settlers_12 : decode cX6_settlers 12 = .ok (.iload_n 3, 1) := by decide +kernel
theorem dX6_settlers_13 : decode cX6_settlers 13 = .ok (.if_icmp .ge 28, 3) := by decide +kernel
theorem dX6_settlers_41 : decode cX6_settlers 41 = .ok (.iload_n 2, 1) := by decide +kernel
theorem dX6_settlers_42 : decode cX6_settlers 42 = .ok (.ireturn, 1) := by decide +kernel
set_option maxHeartbeats 4000000 in
set_option maxRecDepth 100000 in
theorem c_doubtful (l : Launch) (dC : Nat → ClassId) (dI : Nat → Nat → Nat) (sz : Nat) (h0 : Nat) (w0 : Value) (w1 : Value) (w2 : Value) (w3 : Value) (w4 : Value) (w5 : Value) (w7 : Value) (o : Int32)  : Met l yX6_doubtful (wq yX6_doubtful cX6_doubtful 5 (some .int)) ({ frames := 1, cells := 0, slots := 0, locals := 20 }) (va_Pc [.ref h0, .int o] (pcW dC dI [] [(h0, .inr (1, [w0, w1, w2, w3, w4, w5, .int 0, w7]))] sz)) (va_Qi (fun (r : Int32) (_ : Unit) => r = 0) (fun _ _ => True) (fun q : Nat => sz ≤ q)) 0 0 (fun q : Nat => sz ≤ q) := by
  refine Met.ofW (cc := cX6_doubtful) (maxL := 5) (ret := (some .int)) (by decide) rfl ?_
  intro p e s m args below meth c s₁ B hml hv
  obtain ⟨rfl, hsz, hN, hP, hK, hD0⟩ := hv
  have hx := B.exec
  have hb := B.bytes
  have hr := B.returns
  have hts0 := atoms_spec (ws := (wq yX6_doubtful cX6_doubtful 5 (some .int))) B.pre
  have hts : ∀ w ∈ BG, w.before _ s = true := fun w h => hts0 w (List.mem_cons_of_mem _ h)
  have hown : s.vm.findClass RX6 = some m.cls := findClass_of_methodNamed B.named
  have hlocks := B.notSynchronized
  subst hsz
  have hA : ∀ q : Nat, s.heap.size ≤ q → (fun q : Nat => s.heap.size ≤ q) q := fun _ h => h
  have hD := hD0
  have hS : va_S (fun q : Nat => s.heap.size ≤ q) s.heap s.heap [] := va_S.rf
  have hP : va_P (dC, dI) vwCl [(h0, .inr (1, [w0, w1, w2, w3, w4, w5, .int 0, w7]))] s.heap := hP
  have hl := lv_entry ([.ref h0, .int o]) (n := 5) (Nat.le_of_ble_eq_true rfl)
  rw [lg_entry_eq]
  generalize (lg_sl ([.ref h0, .int o]) ++ List.replicate (5 - (lg_sl ([.ref h0, .int o])).length) Slot.unset).toArray = ls at hl ⊢
  have hl : lv_has ls 5 [(0, .ref h0), (1, .int o)] := hl
  skip
  refine lv_iconst (v := 0) hx hb dX6_doubtful_0 (by decide) ?_
  refine lv_istore_n (lv' := [(2, .int 0), (0, .ref h0), (1, .int o)]) hx hb dX6_doubtful_1 rfl hl (by decide) rfl (fun ls hl => ?_)
  refine lv_aload_n hx hb dX6_doubtful_2 rfl (lv_at hl 1 rfl) ?_
  have hPc := hP.sub (ws' := [(h0, .inr (1, [w0, w1, w2, w3, w4, w5, .int 0, w7]))]) [0] rfl
  have hDc := hD.sub (ws' := [(h0, .inr (1, [w0, w1, w2, w3, w4, w5, .int 0, w7]))]) [0] (by decide) rfl
  have hKc := hK.sub (tys' := []) [] rfl
  refine va_calli (va_runV (As := []) (rest := []) ⟨hx, hb, hml, hown, hts⟩ (c_howMany l dC dI s.heap.size h0 (w0) (w1) (w2) (w3) (w4) (w5) (w7)) (cwV 0 hts (gV mw_2_209 mw_2_210 mw_2_211 mw_1_2 mw_2_212) rfl rfl rfl (by decide +kernel) ⟨Nat.le_of_ble_eq_true rfl, Nat.le_of_ble_eq_true rfl⟩) ⟨pcW_blind, va_recv hKc hPc (ci := 1) (q0 := 0) rfl rfl, pcW_at hPc hKc hDc hN⟩ rfl rfl hl.1 rfl (lv_room (Nat.le_of_ble_eq_true rfl)) dX6_doubtful_3 ⟨Nat.le_of_ble_eq_true rfl, Nat.le_of_ble_eq_true rfl⟩) hS (fun q h1 h2 => absurd h2 (Nat.not_le.mpr h1)) (fun q h => hA q (Nat.le_trans hS.1 h)) (fun r_1 u t H1 locs ht hvm hw_1 hB hz1 hk1 hS => ?_)
  have hP := keepP hP hk1
  clear hz1 hk1 hB ht hvm hPc hDc hKc
  generalize H1 = H at hP hS ⊢
  obtain rfl : r_1 = 0 := hw_1
  refine lv_istore_n (lv' := [(3, .int 0), (2, .int 0), (0, .ref h0), (1, .int o)]) hx hb dX6_doubtful_6 rfl hl (by decide) rfl (fun ls hl => ?_)
  refine lv_iconst (v := 0) hx hb dX6_doubtful_7 (by decide) ?_
  refine lv_istore (lv' := [(4, .int 0), (3, .int 0), (2, .int 0), (0, .ref h0), (1, .int o)]) hx hb dX6_doubtful_8 hl (by decide) rfl (fun ls hl => ?_)
  refine lv_iload hx hb dX6_doubtful_10 (lv_at hl 0 rfl) ?_
  refine lv_iload_n hx hb dX6_doubtful_12 rfl (lv_at hl 1 rfl) ?_
  refine lv_icmp_ge (tgt := 39) hx hb dX6_doubtful_13 (by decide) (fun _ => ?_) (fun h => absurd (by decide) h)
  refine lv_iload_n hx hb dX6_doubtful_39 rfl (lv_at hl 2 rfl) ?_
  exact W.iret (v := 0) hx hb hr (fun t ht hW => ⟨⟨0, (), rfl, rfl, trivial⟩, hS.F ht⟩) hS.2.2 dX6_doubtful_40
set_option maxHeartbeats 4000000 in
set_option maxRecDepth 100000 in
theorem c_settlers (l : Launch) (dC : Nat → ClassId) (dI : Nat → Nat → Nat) (sz : Nat) (h0 : Nat) (w0 : Value) (w1 : Value) (w2 : Value) (w3 : Value) (w4 : Value) (w5 : Value) (w7 : Value) (o : Int32)  : Met l yX6_settlers (wq yX6_settlers cX6_settlers 5 (some .int)) ({ frames := 1, cells := 0, slots := 0, locals := 20 }) (va_Pc [.ref h0, .int o] (pcW dC dI [] [(h0, .inr (1, [w0, w1, w2, w3, w4, w5, .int 0, w7]))] sz)) (va_Qi (fun (r : Int32) (_ : Unit) => r = 0) (fun _ _ => True) (fun q : Nat => sz ≤ q)) 0 0 (fun q : Nat => sz ≤ q) := by
  refine Met.ofW (cc := cX6_settlers) (maxL := 5) (ret := (some .int)) (by decide) rfl ?_
  intro p e s m args below meth c s₁ B hml hv
  obtain ⟨rfl, hsz, hN, hP, hK, hD0⟩ := hv
  have hx := B.exec
  have hb := B.bytes
  have hr := B.returns
  have hts0 := atoms_spec (ws := (wq yX6_settlers cX6_settlers 5 (some .int))) B.pre
  have hts : ∀ w ∈ BG, w.before _ s = true := fun w h => hts0 w (List.mem_cons_of_mem _ h)
  have hown : s.vm.findClass RX6 = some m.cls := findClass_of_methodNamed B.named
  have hlocks := B.notSynchronized
  subst hsz
  have hA : ∀ q : Nat, s.heap.size ≤ q → (fun q : Nat => s.heap.size ≤ q) q := fun _ h => h
  have hD := hD0
  have hS : va_S (fun q : Nat => s.heap.size ≤ q) s.heap s.heap [] := va_S.rf
  have hP : va_P (dC, dI) vwCl [(h0, .inr (1, [w0, w1, w2, w3, w4, w5, .int 0, w7]))] s.heap := hP
  have hl := lv_entry ([.ref h0, .int o]) (n := 5) (Nat.le_of_ble_eq_true rfl)
  rw [lg_entry_eq]
  generalize (lg_sl ([.ref h0, .int o]) ++ List.replicate (5 - (lg_sl ([.ref h0, .int o])).length) Slot.unset).toArray = ls at hl ⊢
  have hl : lv_has ls 5 [(0, .ref h0), (1, .int o)] := hl
  skip
  refine lv_iconst (v := 0) hx hb dX6_settlers_0 (by decide) ?_
  refine lv_istore_n (lv' := [(2, .int 0), (0, .ref h0), (1, .int o)]) hx hb dX6_settlers_1 rfl hl (by decide) rfl (fun ls hl => ?_)
  refine lv_aload_n hx hb dX6_settlers_2 rfl (lv_at hl 1 rfl) ?_
  have hPc := hP.sub (ws' := [(h0, .inr (1, [w0, w1, w2, w3, w4, w5, .int 0, w7]))]) [0] rfl
  have hDc := hD.sub (ws' := [(h0, .inr (1, [w0, w1, w2, w3, w4, w5, .int 0, w7]))]) [0] (by decide) rfl
  have hKc := hK.sub (tys' := []) [] rfl
  refine va_calli (va_runV (As := []) (rest := []) ⟨hx, hb, hml, hown, hts⟩ (c_howMany l dC dI s.heap.size h0 (w0) (w1) (w2) (w3) (w4) (w5) (w7)) (cwV 0 hts (gV mw_2_209 mw_2_210 mw_2_211 mw_1_2 mw_2_212) rfl rfl rfl (by decide +kernel) ⟨Nat.le_of_ble_eq_true rfl, Nat.le_of_ble_eq_true rfl⟩) ⟨pcW_blind, va_recv hKc hPc (ci := 1) (q0 := 0) rfl rfl, pcW_at hPc hKc hDc hN⟩ rfl rfl hl.1 rfl (lv_room (Nat.le_of_ble_eq_true rfl)) dX6_settlers_3 ⟨Nat.le_of_ble_eq_true rfl, Nat.le_of_ble_eq_true rfl⟩) hS (fun q h1 h2 => absurd h2 (Nat.not_le.mpr h1)) (fun q h => hA q (Nat.le_trans hS.1 h)) (fun r_1 u t H1 locs ht hvm hw_1 hB hz1 hk1 hS => ?_)
  have hP := keepP hP hk1
  clear hz1 hk1 hB ht hvm hPc hDc hKc
  generalize H1 = H at hP hS ⊢
  obtain rfl : r_1 = 0 := hw_1
  refine lv_istore_n (lv' := [(3, .int 0), (2, .int 0), (0, .ref h0), (1, .int o)]) hx hb dX6_settlers_6 rfl hl (by decide) rfl (fun ls hl => ?_)
  refine lv_iconst (v := 0) hx hb dX6_settlers_7 (by decide) ?_
  refine lv_istore (lv' := [(4, .int 0), (3, .int 0), (2, .int 0), (0, .ref h0), (1, .int o)]) hx hb dX6_settlers_8 hl (by decide) rfl (fun ls hl => ?_)
  refine lv_iload hx hb dX6_settlers_10 (lv_at hl 0 rfl) ?_
  refine lv_iload_n hx hb dX6_settlers_12 rfl (lv_at hl 1 rfl) ?_
  refine lv_icmp_ge (tgt := 41) hx hb dX6_settlers_13 (by decide) (fun _ => ?_) (fun h => absurd (by decide) h)
  refine lv_iload_n hx hb dX6_settlers_41 rfl (lv_at hl 2 rfl) ?_
  exact W.iret (v := 0) hx hb hr (fun t ht hW => ⟨⟨0, (), rfl, rfl, trivial⟩, hS.F ht⟩) hS.2.2 dX6_settlers_42
end
section
theorem mw_1_132 : Cond.laysFinal RX7 "AnswerLines$Table" "rows" "[I" ∈ BG := mB (t1 (i := 132) (by decide +kernel)) (by decide +kernel)
theorem mw_1_134 : Cond.laysFinal RX7 "AnswerLines$Table" "together" "[I" ∈ BG := mB (t1 (i := 134) (by decide +kernel)) (by decide +kernel)
theorem mw_1_136 : Cond.laysFinal RX7 "AnswerLines$Table" "columns" "[I" ∈ BG := mB (t1 (i := 136) (by decide +kernel)) (by decide +kernel)
theorem mw_1_138 : Cond.laysFinal RX7 "AnswerLines$Table" "pushedTo" "[I" ∈ BG := mB (t1 (i := 138) (by decide +kernel)) (by decide +kernel)
theorem mw_1_140 : Cond.laysFinal RX7 "AnswerLines$Table" "slots" "[I" ∈ BG := mB (t1 (i := 140) (by decide +kernel)) (by decide +kernel)
theorem inB_7 : ∀ w ∈ u_ws RX7 TX7 5, w ∈ BG := fun w hw => by
  obtain ⟨k, hk, rfl⟩ := List.mem_map.mp hw
  have hk := List.mem_range.mp hk
  rcases (by omega : k = 0 ∨ k = 1 ∨ k = 2 ∨ k = 3 ∨ k = 4) with rfl | rfl | rfl | rfl | rfl
  · exact mw_1_132
  · exact mw_1_134
  · exact mw_1_136
  · exact mw_1_138
  · exact mw_1_140
theorem mw_1_127 : Cond.fieldLink RX7 9 "AnswerLines$Table" "rows" "[I" ∈ BG := mB (t1 (i := 127) (by decide +kernel)) (by decide +kernel)
theorem mw_3_13 : Cond.code yX1_hasRow cX1_hasRow 2 (some .boolean) ∈ BG := mB (t3 (i := 13) rfl) (by decide +kernel)
theorem mw_3_10 : Cond.methodLink RX7 27 yX1_hasRow ∈ BG := mB (t3 (i := 10) (by decide +kernel)) (by decide +kernel)
theorem mw_3_11 : Cond.instanceMethod yX1_hasRow ∈ BG := mB (t3 (i := 11) (by decide +kernel)) (by decide +kernel)
theorem mw_3_12 : Cond.selects RX1 yX1_hasRow yX1_hasRow ∈ BG := mB (t3 (i := 12) (by decide +kernel)) (by decide +kernel)
theorem dX7_fill_0 : decode cX7_fill 0 = .ok (.iconst 0, 1) := by decide +kernel
theorem dX7_fill_1 : decode cX7_fill 1 = .ok (.istore_n 3, 1) := by decide +kernel
theorem dX7_fill_2 : decode cX7_fill 2 = .ok (.iload_n 3, 1) := by decide +kernel
theorem dX7_fill_3 : decode cX7_fill 3 = .ok (.bipush 10, 2) := by decide +kernel
theorem dX7_fill_5 : decode cX7_fill 5 = .ok (.if_icmp .ge 73, 3) := by decide +kernel
theorem dX7_fill_8 : decode cX7_fill 8 = .ok (.aload_n 0, 1) := by decide +kernel
theorem dX7_fill_9 : decode cX7_fill 9 = .ok (.getfield 9, 3) := by decide +kernel
theorem dX7_fill_12 : decode cX7_fill 12 = .ok (.iload_n 3, 1) := by decide +kernel
theorem dX7_fill_13 : decode cX7_fill 13 = .ok (.iconst 0, 1) := by decide +kernel
theorem dX7_fill_14 : decode cX7_fill 14 = .ok (.iastore, 1) := by decide +kernel
theorem dX7_fill_15 : decode cX7_fill 15 = .ok (.aload_n 1, 1) := by decide +kernel
theorem dX7_fill_16 : decode cX7_fill 16 = .ok (.iload_n 3, 1) := by decide +kernel
theorem dX7_fill_17 : decode cX7_fill 17 = .ok (.invokevirtual 27, 3) := by decide +kernel
theorem dX7_fill_20 : decode cX7_fill 20 = .ok (.ifCond .ne 6, 3) := by decide +kernel
theorem dX7_fill_23 : decode cX7_fill 23 = .ok (.goto 49, 3) := by decide +kernel
theorem dX7_fill_72 : decode cX7_fill 72 = .ok (.iinc 3 1, 3) := by decide +kernel
theorem dX7_fill_75 : decode cX7_fill 75 = .ok (.goto (-73), 3) := by decide +kernel
theorem dX7_fill_78 : decode cX7_fill 78 = .ok (.return_, 1) := by decide +kernel
set_option maxHeartbeats 4000000 in
set_option maxRecDepth 100000 in
theorem c_fill (l : Launch) (dC : Nat → ClassId) (dI : Nat → Nat → Nat) (sz : Nat) (h0 : Nat) (a0 : Nat) (w1 : Value) (w2 : Value) (w3 : Value) (w4 : Value) (ka0 : ClassId) (h1 : Nat) (v0 : Value) (v1 : Value) (v2 : Value) (v3 : Value) (v4 : Value) (v5 : Value) (v7 : Value) (h9 : Nat)  : Met l yX7_fill (wq yX7_fill cX7_fill 5 none) ({ frames := 4, cells := 0, slots := 0, locals := 84 }) (va_Pc [.ref h0, .ref h1, .ref h9] (pcW dC dI [(ka0, .int)] [(h0, .inr (6, [.ref a0, w1, w2, w3, w4])), (a0, .inl (ka0, 10, .inl (fun _ => 0))), (h1, .inr (1, [v0, v1, v2, v3, v4, v5, .int 0, v7]))] sz)) (va_Qv (fun _ : Unit => True) (fun _ t => va_P (dC, dI) vwCl [(h0, .inr (6, [.ref a0, w1, w2, w3, w4])), (a0, .inl (ka0, 10, .inl (fun _ => 0))), (h1, .inr (1, [v0, v1, v2, v3, v4, v5, .int 0, v7]))] t.heap ∧ va_K (dC, dI) vwCl [(ka0, .int)] t ∧ va_D (va_A [(h0, .inr (6, [.ref a0, w1, w2, w3, w4])), (a0, .inl (ka0, 10, .inl (fun _ => 0))), (h1, .inr (1, [v0, v1, v2, v3, v4, v5, .int 0, v7]))] sz) [(h0, .inr (6, [.ref a0, w1, w2, w3, w4])), (a0, .inl (ka0, 10, .inl (fun _ => 0))), (h1, .inr (1, [v0, v1, v2, v3, v4, v5, .int 0, v7]))]) (va_A [(h0, .inr (6, [.ref a0, w1, w2, w3, w4])), (a0, .inl (ka0, 10, .inl (fun _ => 0))), (h1, .inr (1, [v0, v1, v2, v3, v4, v5, .int 0, v7]))] sz)) 0 0 (va_A [(h0, .inr (6, [.ref a0, w1, w2, w3, w4])), (a0, .inl (ka0, 10, .inl (fun _ => 0))), (h1, .inr (1, [v0, v1, v2, v3, v4, v5, .int 0, v7]))] sz) := by
  refine Met.ofW (cc := cX7_fill) (maxL := 5) (ret := none) (by decide) rfl ?_
  intro p e s m args below meth c s₁ B hml hv
  obtain ⟨rfl, hsz, hN, hP, hK, hD0⟩ := hv
  have hx := B.exec
  have hb := B.bytes
  have hr := B.returns
  have hts0 := atoms_spec (ws := (wq yX7_fill cX7_fill 5 none)) B.pre
  have hts : ∀ w ∈ BG, w.before _ s = true := fun w h => hts0 w (List.mem_cons_of_mem _ h)
  have hown : s.vm.findClass RX7 = some m.cls := findClass_of_methodNamed B.named
  have hlocks := B.notSynchronized
  subst hsz
  have hD := hD0.self (sz := s.heap.size)
  generalize hAe : va_A [(h0, .inr (6, [.ref a0, w1, w2, w3, w4])), (a0, .inl (ka0, 10, .inl (fun _ => 0))), (h1, .inr (1, [v0, v1, v2, v3, v4, v5, .int 0, v7]))] s.heap.size = A at hD ⊢
  have hA : ∀ q : Nat, s.heap.size ≤ q → A q := fun q h => by rw [← hAe]; exact Or.inr h
  have hS : va_S A s.heap s.heap [] := va_S.rf
  have hP : va_P (dC, dI) vwCl [(h0, .inr (6, [.ref a0, w1, w2, w3, w4])), (a0, .inl (ka0, 10, .inl (fun _ => 0))), (h1, .inr (1, [v0, v1, v2, v3, v4, v5, .int 0, v7]))] s.heap := hP
  have hl := lv_entry ([.ref h0, .ref h1, .ref h9]) (n := 5) (Nat.le_of_ble_eq_true rfl)
  rw [lg_entry_eq]
  generalize (lg_sl ([.ref h0, .ref h1, .ref h9]) ++ List.replicate (5 - (lg_sl ([.ref h0, .ref h1, .ref h9])).length) Slot.unset).toArray = ls at hl ⊢
  have hl : lv_has ls 5 [(0, .ref h0), (1, .ref h1), (2, .ref h9)] := hl
  skip
  refine lv_iconst (v := 0) hx hb dX7_fill_0 (by decide) ?_
  refine lv_istore_n (lv' := [(3, .int 0), (0, .ref h0), (1, .ref h1), (2, .ref h9)]) hx hb dX7_fill_1 rfl hl (by decide) rfl (fun ls hl => ?_)
  refine lv_iload_n hx hb dX7_fill_2 rfl (lv_at hl 0 rfl) ?_
  refine lv_bipush (v := 10) hx hb dX7_fill_3 (by decide) ?_
  refine lv_icmp_ge (tgt := 78) hx hb dX7_fill_5 (by decide) (fun h => absurd h (by decide)) (fun _ => ?_)
  refine lv_aload_n hx hb dX7_fill_8 rfl (lv_at hl 1 rfl) ?_
  refine va_get (D := (dC, dI)) (ci := 6) (v := .ref a0) (C := RX7) (T := TX7) (N := 5) hx hb hts inB_7 hown hK hP 0 rfl rfl 0 (by decide) (hts _ mw_1_127) (fun _ h9 => h9) rfl dX7_fill_9 ?_
  refine lv_iload_n hx hb dX7_fill_12 rfl (lv_at hl 0 rfl) ?_
  refine lv_iconst (v := 0) hx hb dX7_fill_13 (by decide) ?_
  refine va_iast hx hb hK hP hD hS 1 0 rfl rfl (show vp_in 0 10 by unfold vp_in; decide) dX7_fill_14 (fun H locs hP hD hS => ?_)
  rw [show upd (fun _ => 0) (Int32.toNatClampNeg 0) 0 = (fun _ => 0) from upd_const _ _] at hP hD
  have hP : va_P (dC, dI) vwCl [(h0, .inr (6, [.ref a0, w1, w2, w3, w4])), (a0, .inl (ka0, 10, .inl (fun _ => 0))), (h1, .inr (1, [v0, v1, v2, v3, v4, v5, .int 0, v7]))] H := hP
  have hD : va_D A [(h0, .inr (6, [.ref a0, w1, w2, w3, w4])), (a0, .inl (ka0, 10, .inl (fun _ => 0))), (h1, .inr (1, [v0, v1, v2, v3, v4, v5, .int 0, v7]))] := hD
  refine lv_aload_n hx hb dX7_fill_15 rfl (lv_at hl 2 rfl) ?_
  refine lv_iload_n hx hb dX7_fill_16 rfl (lv_at hl 0 rfl) ?_
  have hPc := hP.sub (ws' := [(h1, .inr (1, [v0, v1, v2, v3, v4, v5, .int 0, v7]))]) [2] rfl
  have hDc := hD.sub (ws' := [(h1, .inr (1, [v0, v1, v2, v3, v4, v5, .int 0, v7]))]) [2] (by decide) rfl
  have hKc := hK.sub (tys' := []) [] rfl
  refine va_calli (va_runV (As := [.int 0]) (rest := []) ⟨hx, hb, hml, hown, hts⟩ (c_hasRow0 l dC dI H.size h1 (v0) (v1) (v2) (v3) (v4) (v5) (v7) 0) (cwV 1 hts (gV mw_3_10 mw_3_11 mw_3_12 mw_1_2 mw_3_13) rfl rfl rfl (by decide +kernel) ⟨Nat.le_of_ble_eq_true rfl, Nat.le_of_ble_eq_true rfl⟩) ⟨pcW_blind, va_recv hKc hPc (ci := 1) (q0 := 0) rfl rfl, pcW_at hPc hKc hDc hN⟩ rfl rfl hl.1 rfl (lv_room (Nat.le_of_ble_eq_true rfl)) dX7_fill_17 ⟨Nat.le_of_ble_eq_true rfl, Nat.le_of_ble_eq_true rfl⟩) hS (fun q h1 h2 => absurd h2 (Nat.not_le.mpr h1)) (fun q h => hA q (Nat.le_trans hS.1 h)) (fun r_1 u t H1 locs ht hvm hw_1 hB hz1 hk1 hS => ?_)
  have hP := keepP hP hk1
  clear hz1 hk1 hB ht hvm hPc hDc hKc
  generalize H1 = H at hP hS ⊢
  obtain rfl : r_1 = 0 := hw_1
  refine lv_if_ne (tgt := 26) hx hb dX7_fill_20 (by decide) (fun h => absurd h (by decide)) (fun _ => ?_)
  refine lv_goto (tgt := 72) hx hb dX7_fill_23 (by decide) ?_
  refine lv_iinc (v := 1) (lv' := [(3, .int 1), (0, .ref h0), (1, .ref h1), (2, .ref h9)]) hx hb dX7_fill_72 hl (k := 0) rfl (by decide) (by decide) rfl (fun ls hl => ?_)
  refine lv_goto (tgt := 2) hx hb dX7_fill_75 (by decide) ?_
  refine lv_iload_n hx hb dX7_fill_2 rfl (lv_at hl 0 rfl) ?_
  refine lv_bipush (v := 10) hx hb dX7_fill_3 (by decide) ?_
  refine lv_icmp_ge (tgt := 78) hx hb dX7_fill_5 (by decide) (fun h => absurd h (by decide)) (fun _ => ?_)
  refine lv_aload_n hx hb dX7_fill_8 rfl (lv_at hl 1 rfl) ?_
  refine va_get (D := (dC, dI)) (ci := 6) (v := .ref a0) (C := RX7) (T := TX7) (N := 5) hx hb hts inB_7 hown hK hP 0 rfl rfl 0 (by decide) (hts _ mw_1_127) (fun _ h9 => h9) rfl dX7_fill_9 ?_
  refine lv_iload_n hx hb dX7_fill_12 rfl (lv_at hl 0 rfl) ?_
  refine lv_iconst (v := 0) hx hb dX7_fill_13 (by decide) ?_
  refine va_iast hx hb hK hP hD hS 1 0 rfl rfl (show vp_in 1 10 by unfold vp_in; decide) dX7_fill_14 (fun H locs hP hD hS => ?_)
  rw [show upd (fun _ => 0) (Int32.toNatClampNeg 1) 0 = (fun _ => 0) from upd_const _ _] at hP hD
  have hP : va_P (dC, dI) vwCl [(h0, .inr (6, [.ref a0, w1, w2, w3, w4])), (a0, .inl (ka0, 10, .inl (fun _ => 0))), (h1, .inr (1, [v0, v1, v2, v3, v4, v5, .int 0, v7]))] H := hP
  have hD : va_D A [(h0, .inr (6, [.ref a0, w1, w2, w3, w4])), (a0, .inl (ka0, 10, .inl (fun _ => 0))), (h1, .inr (1, [v0, v1, v2, v3, v4, v5, .int 0, v7]))] := hD
  refine lv_aload_n hx hb dX7_fill_15 rfl (lv_at hl 2 rfl) ?_
  refine lv_iload_n hx hb dX7_fill_16 rfl (lv_at hl 0 rfl) ?_
  have hPc := hP.sub (ws' := [(h1, .inr (1, [v0, v1, v2, v3, v4, v5, .int 0, v7]))]) [2] rfl
  have hDc := hD.sub (ws' := [(h1, .inr (1, [v0, v1, v2, v3, v4, v5, .int 0, v7]))]) [2] (by decide) rfl
  have hKc := hK.sub (tys' := []) [] rfl
  refine va_calli (va_runV (As := [.int 1]) (rest := []) ⟨hx, hb, hml, hown, hts⟩ (c_hasRow0 l dC dI H.size h1 (v0) (v1) (v2) (v3) (v4) (v5) (v7) 1) (cwV 1 hts (gV mw_3_10 mw_3_11 mw_3_12 mw_1_2 mw_3_13) rfl rfl rfl (by decide +kernel) ⟨Nat.le_of_ble_eq_true rfl, Nat.le_of_ble_eq_true rfl⟩) ⟨pcW_blind, va_recv hKc hPc (ci := 1) (q0 := 0) rfl rfl, pcW_at hPc hKc hDc hN⟩ rfl rfl hl.1 rfl (lv_room (Nat.le_of_ble_eq_true rfl)) dX7_fill_17 ⟨Nat.le_of_ble_eq_true rfl, Nat.le_of_ble_eq_true rfl⟩) hS (fun q h1 h2 => absurd h2 (Nat.not_le.mpr h1)) (fun q h => hA q (Nat.le_trans hS.1 h)) (fun r_2 u t H1 locs ht hvm hw_2 hB hz1 hk1 hS => ?_)
  have hP := keepP hP hk1
  clear hz1 hk1 hB ht hvm hPc hDc hKc
  generalize H1 = H at hP hS ⊢
  obtain rfl : r_2 = 0 := hw_2
  refine lv_if_ne (tgt := 26) hx hb dX7_fill_20 (by decide) (fun h => absurd h (by decide)) (fun _ => ?_)
  refine lv_goto (tgt := 72) hx hb dX7_fill_23 (by decide) ?_
  refine lv_iinc (v := 2) (lv' := [(3, .int 2), (0, .ref h0), (1, .ref h1), (2, .ref h9)]) hx hb dX7_fill_72 hl (k := 0) rfl (by decide) (by decide) rfl (fun ls hl => ?_)
  refine lv_goto (tgt := 2) hx hb dX7_fill_75 (by decide) ?_
  refine lv_iload_n hx hb dX7_fill_2 rfl (lv_at hl 0 rfl) ?_
  refine lv_bipush (v := 10) hx hb dX7_fill_3 (by decide) ?_
  refine lv_icmp_ge (tgt := 78) hx hb dX7_fill_5 (by decide) (fun h => absurd h (by decide)) (fun _ => ?_)
  refine lv_aload_n hx hb dX7_fill_8 rfl (lv_at hl 1 rfl) ?_
  refine va_get (D := (dC, dI)) (ci := 6) (v := .ref a0) (C := RX7) (T := TX7) (N := 5) hx hb hts inB_7 hown hK hP 0 rfl rfl 0 (by decide) (hts _ mw_1_127) (fun _ h9 => h9) rfl dX7_fill_9 ?_
  refine lv_iload_n hx hb dX7_fill_12 rfl (lv_at hl 0 rfl) ?_
  refine lv_iconst (v := 0) hx hb dX7_fill_13 (by decide) ?_
  refine va_iast hx hb hK hP hD hS 1 0 rfl rfl (show vp_in 2 10 by unfold vp_in; decide) dX7_fill_14 (fun H locs hP hD hS => ?_)
  rw [show upd (fun _ => 0) (Int32.toNatClampNeg 2) 0 = (fun _ => 0) from upd_const _ _] at hP hD
  have hP : va_P (dC, dI) vwCl [(h0, .inr (6, [.ref a0, w1, w2, w3, w4])), (a0, .inl (ka0, 10, .inl (fun _ => 0))), (h1, .inr (1, [v0, v1, v2, v3, v4, v5, .int 0, v7]))] H := hP
  have hD : va_D A [(h0, .inr (6, [.ref a0, w1, w2, w3, w4])), (a0, .inl (ka0, 10, .inl (fun _ => 0))), (h1, .inr (1, [v0, v1, v2, v3, v4, v5, .int 0, v7]))] := hD
  refine lv_aload_n hx hb dX7_fill_15 rfl (lv_at hl 2 rfl) ?_
  refine lv_iload_n hx hb dX7_fill_16 rfl (lv_at hl 0 rfl) ?_
  have hPc := hP.sub (ws' := [(h1, .inr (1, [v0, v1, v2, v3, v4, v5, .int 0, v7]))]) [2] rfl
  have hDc := hD.sub (ws' := [(h1, .inr (1, [v0, v1, v2, v3, v4, v5, .int 0, v7]))]) [2] (by decide) rfl
  have hKc := hK.sub (tys' := []) [] rfl
  refine va_calli (va_runV (As := [.int 2]) (rest := []) ⟨hx, hb, hml, hown, hts⟩ (c_hasRow0 l dC dI H.size h1 (v0) (v1) (v2) (v3) (v4) (v5) (v7) 2) (cwV 1 hts (gV mw_3_10 mw_3_11 mw_3_12 mw_1_2 mw_3_13) rfl rfl rfl (by decide +kernel) ⟨Nat.le_of_ble_eq_true rfl, Nat.le_of_ble_eq_true rfl⟩) ⟨pcW_blind, va_recv hKc hPc (ci := 1) (q0 := 0) rfl rfl, pcW_at hPc hKc hDc hN⟩ rfl rfl hl.1 rfl (lv_room (Nat.le_of_ble_eq_true rfl)) dX7_fill_17 ⟨Nat.le_of_ble_eq_true rfl, Nat.le_of_ble_eq_true rfl⟩) hS (fun q h1 h2 => absurd h2 (Nat.not_le.mpr h1)) (fun q h => hA q (Nat.le_trans hS.1 h)) (fun r_3 u t H1 locs ht hvm hw_3 hB hz1 hk1 hS => ?_)
  have hP := keepP hP hk1
  clear hz1 hk1 hB ht hvm hPc hDc hKc
  generalize H1 = H at hP hS ⊢
  obtain rfl : r_3 = 0 := hw_3
  refine lv_if_ne (tgt := 26) hx hb dX7_fill_20 (by decide) (fun h => absurd h (by decide)) (fun _ => ?_)
  refine lv_goto (tgt := 72) hx hb dX7_fill_23 (by decide) ?_
  refine lv_iinc (v := 3) (lv' := [(3, .int 3), (0, .ref h0), (1, .ref h1), (2, .ref h9)]) hx hb dX7_fill_72 hl (k := 0) rfl (by decide) (by decide) rfl (fun ls hl => ?_)
  refine lv_goto (tgt := 2) hx hb dX7_fill_75 (by decide) ?_
  refine lv_iload_n hx hb dX7_fill_2 rfl (lv_at hl 0 rfl) ?_
  refine lv_bipush (v := 10) hx hb dX7_fill_3 (by decide) ?_
  refine lv_icmp_ge (tgt := 78) hx hb dX7_fill_5 (by decide) (fun h => absurd h (by decide)) (fun _ => ?_)
  refine lv_aload_n hx hb dX7_fill_8 rfl (lv_at hl 1 rfl) ?_
  refine va_get (D := (dC, dI)) (ci := 6) (v := .ref a0) (C := RX7) (T := TX7) (N := 5) hx hb hts inB_7 hown hK hP 0 rfl rfl 0 (by decide) (hts _ mw_1_127) (fun _ h9 => h9) rfl dX7_fill_9 ?_
  refine lv_iload_n hx hb dX7_fill_12 rfl (lv_at hl 0 rfl) ?_
  refine lv_iconst (v := 0) hx hb dX7_fill_13 (by decide) ?_
  refine va_iast hx hb hK hP hD hS 1 0 rfl rfl (show vp_in 3 10 by unfold vp_in; decide) dX7_fill_14 (fun H locs hP hD hS => ?_)
  rw [show upd (fun _ => 0) (Int32.toNatClampNeg 3) 0 = (fun _ => 0) from upd_const _ _] at hP hD
  have hP : va_P (dC, dI) vwCl [(h0, .inr (6, [.ref a0, w1, w2, w3, w4])), (a0, .inl (ka0, 10, .inl (fun _ => 0))), (h1, .inr (1, [v0, v1, v2, v3, v4, v5, .int 0, v7]))] H := hP
  have hD : va_D A [(h0, .inr (6, [.ref a0, w1, w2, w3, w4])), (a0, .inl (ka0, 10, .inl (fun _ => 0))), (h1, .inr (1, [v0, v1, v2, v3, v4, v5, .int 0, v7]))] := hD
  refine lv_aload_n hx hb dX7_fill_15 rfl (lv_at hl 2 rfl) ?_
  refine lv_iload_n hx hb dX7_fill_16 rfl (lv_at hl 0 rfl) ?_
  have hPc := hP.sub (ws' := [(h1, .inr (1, [v0, v1, v2, v3, v4, v5, .int 0, v7]))]) [2] rfl
  have hDc := hD.sub (ws' := [(h1, .inr (1, [v0, v1, v2, v3, v4, v5, .int 0, v7]))]) [2] (by decide) rfl
  have hKc := hK.sub (tys' := []) [] rfl
  refine va_calli (va_runV (As := [.int 3]) (rest := []) ⟨hx, hb, hml, hown, hts⟩ (c_hasRow0 l dC dI H.size h1 (v0) (v1) (v2) (v3) (v4) (v5) (v7) 3) (cwV 1 hts (gV mw_3_10 mw_3_11 mw_3_12 mw_1_2 mw_3_13) rfl rfl rfl (by decide +kernel) ⟨Nat.le_of_ble_eq_true rfl, Nat.le_of_ble_eq_true rfl⟩) ⟨pcW_blind, va_recv hKc hPc (ci := 1) (q0 := 0) rfl rfl, pcW_at hPc hKc hDc hN⟩ rfl rfl hl.1 rfl (lv_room (Nat.le_of_ble_eq_true rfl)) dX7_fill_17 ⟨Nat.le_of_ble_eq_true rfl, Nat.le_of_ble_eq_true rfl⟩) hS (fun q h1 h2 => absurd h2 (Nat.not_le.mpr h1)) (fun q h => hA q (Nat.le_trans hS.1 h)) (fun r_4 u t H1 locs ht hvm hw_4 hB hz1 hk1 hS => ?_)
  have hP := keepP hP hk1
  clear hz1 hk1 hB ht hvm hPc hDc hKc
  generalize H1 = H at hP hS ⊢
  obtain rfl : r_4 = 0 := hw_4
  refine lv_if_ne (tgt := 26) hx hb dX7_fill_20 (by decide) (fun h => absurd h (by decide)) (fun _ => ?_)
  refine lv_goto (tgt := 72) hx hb dX7_fill_23 (by decide) ?_
  refine lv_iinc (v := 4) (lv' := [(3, .int 4), (0, .ref h0), (1, .ref h1), (2, .ref h9)]) hx hb dX7_fill_72 hl (k := 0) rfl (by decide) (by decide) rfl (fun ls hl => ?_)
  refine lv_goto (tgt := 2) hx hb dX7_fill_75 (by decide) ?_
  refine lv_iload_n hx hb dX7_fill_2 rfl (lv_at hl 0 rfl) ?_
  refine lv_bipush (v := 10) hx hb dX7_fill_3 (by decide) ?_
  refine lv_icmp_ge (tgt := 78) hx hb dX7_fill_5 (by decide) (fun h => absurd h (by decide)) (fun _ => ?_)
  refine lv_aload_n hx hb dX7_fill_8 rfl (lv_at hl 1 rfl) ?_
  refine va_get (D := (dC, dI)) (ci := 6) (v := .ref a0) (C := RX7) (T := TX7) (N := 5) hx hb hts inB_7 hown hK hP 0 rfl rfl 0 (by decide) (hts _ mw_1_127) (fun _ h9 => h9) rfl dX7_fill_9 ?_
  refine lv_iload_n hx hb dX7_fill_12 rfl (lv_at hl 0 rfl) ?_
  refine lv_iconst (v := 0) hx hb dX7_fill_13 (by decide) ?_
  refine va_iast hx hb hK hP hD hS 1 0 rfl rfl (show vp_in 4 10 by unfold vp_in; decide) dX7_fill_14 (fun H locs hP hD hS => ?_)
  rw [show upd (fun _ => 0) (Int32.toNatClampNeg 4) 0 = (fun _ => 0) from upd_const _ _] at hP hD
  have hP : va_P (dC, dI) vwCl [(h0, .inr (6, [.ref a0, w1, w2, w3, w4])), (a0, .inl (ka0, 10, .inl (fun _ => 0))), (h1, .inr (1, [v0, v1, v2, v3, v4, v5, .int 0, v7]))] H := hP
  have hD : va_D A [(h0, .inr (6, [.ref a0, w1, w2, w3, w4])), (a0, .inl (ka0, 10, .inl (fun _ => 0))), (h1, .inr (1, [v0, v1, v2, v3, v4, v5, .int 0, v7]))] := hD
  refine lv_aload_n hx hb dX7_fill_15 rfl (lv_at hl 2 rfl) ?_
  refine lv_iload_n hx hb dX7_fill_16 rfl (lv_at hl 0 rfl) ?_
  have hPc := hP.sub (ws' := [(h1, .inr (1, [v0, v1, v2, v3, v4, v5, .int 0, v7]))]) [2] rfl
  have hDc := hD.sub (ws' := [(h1, .inr (1, [v0, v1, v2, v3, v4, v5, .int 0, v7]))]) [2] (by decide) rfl
  have hKc := hK.sub (tys' := []) [] rfl
  refine va_calli (va_runV (As := [.int 4]) (rest := []) ⟨hx, hb, hml, hown, hts⟩ (c_hasRow0 l dC dI H.size h1 (v0) (v1) (v2) (v3) (v4) (v5) (v7) 4) (cwV 1 hts (gV mw_3_10 mw_3_11 mw_3_12 mw_1_2 mw_3_13) rfl rfl rfl (by decide +kernel) ⟨Nat.le_of_ble_eq_true rfl, Nat.le_of_ble_eq_true rfl⟩) ⟨pcW_blind, va_recv hKc hPc (ci := 1) (q0 := 0) rfl rfl, pcW_at hPc hKc hDc hN⟩ rfl rfl hl.1 rfl (lv_room (Nat.le_of_ble_eq_true rfl)) dX7_fill_17 ⟨Nat.le_of_ble_eq_true rfl, Nat.le_of_ble_eq_true rfl⟩) hS (fun q h1 h2 => absurd h2 (Nat.not_le.mpr h1)) (fun q h => hA q (Nat.le_trans hS.1 h)) (fun r_5 u t H1 locs ht hvm hw_5 hB hz1 hk1 hS => ?_)
  have hP := keepP hP hk1
  clear hz1 hk1 hB ht hvm hPc hDc hKc
  generalize H1 = H at hP hS ⊢
  obtain rfl : r_5 = 0 := hw_5
  refine lv_if_ne (tgt := 26) hx hb dX7_fill_20 (by decide) (fun h => absurd h (by decide)) (fun _ => ?_)
  refine lv_goto (tgt := 72) hx hb dX7_fill_23 (by decide) ?_
  refine lv_iinc (v := 5) (lv' := [(3, .int 5), (0, .ref h0), (1, .ref h1), (2, .ref h9)]) hx hb dX7_fill_72 hl (k := 0) rfl (by decide) (by decide) rfl (fun ls hl => ?_)
  refine lv_goto (tgt := 2) hx hb dX7_fill_75 (by decide) ?_
  refine lv_iload_n hx hb dX7_fill_2 rfl (lv_at hl 0 rfl) ?_
  refine lv_bipush (v := 10) hx hb dX7_fill_3 (by decide) ?_
  refine lv_icmp_ge (tgt := 78) hx hb dX7_fill_5 (by decide) (fun h => absurd h (by decide)) (fun _ => ?_)
  refine lv_aload_n hx hb dX7_fill_8 rfl (lv_at hl 1 rfl) ?_
  refine va_get (D := (dC, dI)) (ci := 6) (v := .ref a0) (C := RX7) (T := TX7) (N := 5) hx hb hts inB_7 hown hK hP 0 rfl rfl 0 (by decide) (hts _ mw_1_127) (fun _ h9 => h9) rfl dX7_fill_9 ?_
  refine lv_iload_n hx hb dX7_fill_12 rfl (lv_at hl 0 rfl) ?_
  refine lv_iconst (v := 0) hx hb dX7_fill_13 (by decide) ?_
  refine va_iast hx hb hK hP hD hS 1 0 rfl rfl (show vp_in 5 10 by unfold vp_in; decide) dX7_fill_14 (fun H locs hP hD hS => ?_)
  rw [show upd (fun _ => 0) (Int32.toNatClampNeg 5) 0 = (fun _ => 0) from upd_const _ _] at hP hD
  have hP : va_P (dC, dI) vwCl [(h0, .inr (6, [.ref a0, w1, w2, w3, w4])), (a0, .inl (ka0, 10, .inl (fun _ => 0))), (h1, .inr (1, [v0, v1, v2, v3, v4, v5, .int 0, v7]))] H := hP
  have hD : va_D A [(h0, .inr (6, [.ref a0, w1, w2, w3, w4])), (a0, .inl (ka0, 10, .inl (fun _ => 0))), (h1, .inr (1, [v0, v1, v2, v3, v4, v5, .int 0, v7]))] := hD
  refine lv_aload_n hx hb dX7_fill_15 rfl (lv_at hl 2 rfl) ?_
  refine lv_iload_n hx hb dX7_fill_16 rfl (lv_at hl 0 rfl) ?_
  have hPc := hP.sub (ws' := [(h1, .inr (1, [v0, v1, v2, v3, v4, v5, .int 0, v7]))]) [2] rfl
  have hDc := hD.sub (ws' := [(h1, .inr (1, [v0, v1, v2, v3, v4, v5, .int 0, v7]))]) [2] (by decide) rfl
  have hKc := hK.sub (tys' := []) [] rfl
  refine va_calli (va_runV (As := [.int 5]) (rest := []) ⟨hx, hb, hml, hown, hts⟩ (c_hasRow0 l dC dI H.size h1 (v0) (v1) (v2) (v3) (v4) (v5) (v7) 5) (cwV 1 hts (gV mw_3_10 mw_3_11 mw_3_12 mw_1_2 mw_3_13) rfl rfl rfl (by decide +kernel) ⟨Nat.le_of_ble_eq_true rfl, Nat.le_of_ble_eq_true rfl⟩) ⟨pcW_blind, va_recv hKc hPc (ci := 1) (q0 := 0) rfl rfl, pcW_at hPc hKc hDc hN⟩ rfl rfl hl.1 rfl (lv_room (Nat.le_of_ble_eq_true rfl)) dX7_fill_17 ⟨Nat.le_of_ble_eq_true rfl, Nat.le_of_ble_eq_true rfl⟩) hS (fun q h1 h2 => absurd h2 (Nat.not_le.mpr h1)) (fun q h => hA q (Nat.le_trans hS.1 h)) (fun r_6 u t H1 locs ht hvm hw_6 hB hz1 hk1 hS => ?_)
  have hP := keepP hP hk1
  clear hz1 hk1 hB ht hvm hPc hDc hKc
  generalize H1 = H at hP hS ⊢
  obtain rfl : r_6 = 0 := hw_6
  refine lv_if_ne (tgt := 26) hx hb dX7_fill_20 (by decide) (fun h => absurd h (by decide)) (fun _ => ?_)
  refine lv_goto (tgt := 72) hx hb dX7_fill_23 (by decide) ?_
  refine lv_iinc (v := 6) (lv' := [(3, .int 6), (0, .ref h0), (1, .ref h1), (2, .ref h9)]) hx hb dX7_fill_72 hl (k := 0) rfl (by decide) (by decide) rfl (fun ls hl => ?_)
  refine lv_goto (tgt := 2) hx hb dX7_fill_75 (by decide) ?_
  refine lv_iload_n hx hb dX7_fill_2 rfl (lv_at hl 0 rfl) ?_
  refine lv_bipush (v := 10) hx hb dX7_fill_3 (by decide) ?_
  refine lv_icmp_ge (tgt := 78) hx hb dX7_fill_5 (by decide) (fun h => absurd h (by decide)) (fun _ => ?_)
  refine lv_aload_n hx hb dX7_fill_8 rfl (lv_at hl 1 rfl) ?_
  refine va_get (D := (dC, dI)) (ci := 6) (v := .ref a0) (C := RX7) (T := TX7) (N := 5) hx hb hts inB_7 hown hK hP 0 rfl rfl 0 (by decide) (hts _ mw_1_127) (fun _ h9 => h9) rfl dX7_fill_9 ?_
  refine lv_iload_n hx hb dX7_fill_12 rfl (lv_at hl 0 rfl) ?_
  refine lv_iconst (v := 0) hx hb dX7_fill_13 (by decide) ?_
  refine va_iast hx hb hK hP hD hS 1 0 rfl rfl (show vp_in 6 10 by unfold vp_in; decide) dX7_fill_14 (fun H locs hP hD hS => ?_)
  rw [show upd (fun _ => 0) (Int32.toNatClampNeg 6) 0 = (fun _ => 0) from upd_const _ _] at hP hD
  have hP : va_P (dC, dI) vwCl [(h0, .inr (6, [.ref a0, w1, w2, w3, w4])), (a0, .inl (ka0, 10, .inl (fun _ => 0))), (h1, .inr (1, [v0, v1, v2, v3, v4, v5, .int 0, v7]))] H := hP
  have hD : va_D A [(h0, .inr (6, [.ref a0, w1, w2, w3, w4])), (a0, .inl (ka0, 10, .inl (fun _ => 0))), (h1, .inr (1, [v0, v1, v2, v3, v4, v5, .int 0, v7]))] := hD
  refine lv_aload_n hx hb dX7_fill_15 rfl (lv_at hl 2 rfl) ?_
  refine lv_iload_n hx hb dX7_fill_16 rfl (lv_at hl 0 rfl) ?_
  have hPc := hP.sub (ws' := [(h1, .inr (1, [v0, v1, v2, v3, v4, v5, .int 0, v7]))]) [2] rfl
  have hDc := hD.sub (ws' := [(h1, .inr (1, [v0, v1, v2, v3, v4, v5, .int 0, v7]))]) [2] (by decide) rfl
  have hKc := hK.sub (tys' := []) [] rfl
  refine va_calli (va_runV (As := [.int 6]) (rest := []) ⟨hx, hb, hml, hown, hts⟩ (c_hasRow0 l dC dI H.size h1 (v0) (v1) (v2) (v3) (v4) (v5) (v7) 6) (cwV 1 hts (gV mw_3_10 mw_3_11 mw_3_12 mw_1_2 mw_3_13) rfl rfl rfl (by decide +kernel) ⟨Nat.le_of_ble_eq_true rfl, Nat.le_of_ble_eq_true rfl⟩) ⟨pcW_blind, va_recv hKc hPc (ci := 1) (q0 := 0) rfl rfl, pcW_at hPc hKc hDc hN⟩ rfl rfl hl.1 rfl (lv_room (Nat.le_of_ble_eq_true rfl)) dX7_fill_17 ⟨Nat.le_of_ble_eq_true rfl, Nat.le_of_ble_eq_true rfl⟩) hS (fun q h1 h2 => absurd h2 (Nat.not_le.mpr h1)) (fun q h => hA q (Nat.le_trans hS.1 h)) (fun r_7 u t H1 locs ht hvm hw_7 hB hz1 hk1 hS => ?_)
  have hP := keepP hP hk1
  clear hz1 hk1 hB ht hvm hPc hDc hKc
  generalize H1 = H at hP hS ⊢
  obtain rfl : r_7 = 0 := hw_7
  refine lv_if_ne (tgt := 26) hx hb dX7_fill_20 (by decide) (fun h => absurd h (by decide)) (fun _ => ?_)
  refine lv_goto (tgt := 72) hx hb dX7_fill_23 (by decide) ?_
  refine lv_iinc (v := 7) (lv' := [(3, .int 7), (0, .ref h0), (1, .ref h1), (2, .ref h9)]) hx hb dX7_fill_72 hl (k := 0) rfl (by decide) (by decide) rfl (fun ls hl => ?_)
  refine lv_goto (tgt := 2) hx hb dX7_fill_75 (by decide) ?_
  refine lv_iload_n hx hb dX7_fill_2 rfl (lv_at hl 0 rfl) ?_
  refine lv_bipush (v := 10) hx hb dX7_fill_3 (by decide) ?_
  refine lv_icmp_ge (tgt := 78) hx hb dX7_fill_5 (by decide) (fun h => absurd h (by decide)) (fun _ => ?_)
  refine lv_aload_n hx hb dX7_fill_8 rfl (lv_at hl 1 rfl) ?_
  refine va_get (D := (dC, dI)) (ci := 6) (v := .ref a0) (C := RX7) (T := TX7) (N := 5) hx hb hts inB_7 hown hK hP 0 rfl rfl 0 (by decide) (hts _ mw_1_127) (fun _ h9 => h9) rfl dX7_fill_9 ?_
  refine lv_iload_n hx hb dX7_fill_12 rfl (lv_at hl 0 rfl) ?_
  refine lv_iconst (v := 0) hx hb dX7_fill_13 (by decide) ?_
  refine va_iast hx hb hK hP hD hS 1 0 rfl rfl (show vp_in 7 10 by unfold vp_in; decide) dX7_fill_14 (fun H locs hP hD hS => ?_)
  rw [show upd (fun _ => 0) (Int32.toNatClampNeg 7) 0 = (fun _ => 0) from upd_const _ _] at hP hD
  have hP : va_P (dC, dI) vwCl [(h0, .inr (6, [.ref a0, w1, w2, w3, w4])), (a0, .inl (ka0, 10, .inl (fun _ => 0))), (h1, .inr (1, [v0, v1, v2, v3, v4, v5, .int 0, v7]))] H := hP
  have hD : va_D A [(h0, .inr (6, [.ref a0, w1, w2, w3, w4])), (a0, .inl (ka0, 10, .inl (fun _ => 0))), (h1, .inr (1, [v0, v1, v2, v3, v4, v5, .int 0, v7]))] := hD
  refine lv_aload_n hx hb dX7_fill_15 rfl (lv_at hl 2 rfl) ?_
  refine lv_iload_n hx hb dX7_fill_16 rfl (lv_at hl 0 rfl) ?_
  have hPc := hP.sub (ws' := [(h1, .inr (1, [v0, v1, v2, v3, v4, v5, .int 0, v7]))]) [2] rfl
  have hDc := hD.sub (ws' := [(h1, .inr (1, [v0, v1, v2, v3, v4, v5, .int 0, v7]))]) [2] (by decide) rfl
  have hKc := hK.sub (tys' := []) [] rfl
  refine va_calli (va_runV (As := [.int 7]) (rest := []) ⟨hx, hb, hml, hown, hts⟩ (c_hasRow0 l dC dI H.size h1 (v0) (v1) (v2) (v3) (v4) (v5) (v7) 7) (cwV 1 hts (gV mw_3_10 mw_3_11 mw_3_12 mw_1_2 mw_3_13) rfl rfl rfl (by decide +kernel) ⟨Nat.le_of_ble_eq_true rfl, Nat.le_of_ble_eq_true rfl⟩) ⟨pcW_blind, va_recv hKc hPc (ci := 1) (q0 := 0) rfl rfl, pcW_at hPc hKc hDc hN⟩ rfl rfl hl.1 rfl (lv_room (Nat.le_of_ble_eq_true rfl)) dX7_fill_17 ⟨Nat.le_of_ble_eq_true rfl, Nat.le_of_ble_eq_true rfl⟩) hS (fun q h1 h2 => absurd h2 (Nat.not_le.mpr h1)) (fun q h => hA q (Nat.le_trans hS.1 h)) (fun r_8 u t H1 locs ht hvm hw_8 hB hz1 hk1 hS => ?_)
  have hP := keepP hP hk1
  clear hz1 hk1 hB ht hvm hPc hDc hKc
  generalize H1 = H at hP hS ⊢
  obtain rfl : r_8 = 0 := hw_8
  refine lv_if_ne (tgt := 26) hx hb dX7_fill_20 (by decide) (fun h => absurd h (by decide)) (fun _ => ?_)
  refine lv_goto (tgt := 72) hx hb dX7_fill_23 (by decide) ?_
  refine lv_iinc (v := 8) (lv' := [(3, .int 8), (0, .ref h0), (1, .ref h1), (2, .ref h9)]) hx hb dX7_fill_72 hl (k := 0) rfl (by decide) (by decide) rfl (fun ls hl => ?_)
  refine lv_goto (tgt := 2) hx hb dX7_fill_75 (by decide) ?_
  refine lv_iload_n hx hb dX7_fill_2 rfl (lv_at hl 0 rfl) ?_
  refine lv_bipush (v := 10) hx hb dX7_fill_3 (by decide) ?_
  refine lv_icmp_ge (tgt := 78) hx hb dX7_fill_5 (by decide) (fun h => absurd h (by decide)) (fun _ => ?_)
  refine lv_aload_n hx hb dX7_fill_8 rfl (lv_at hl 1 rfl) ?_
  refine va_get (D := (dC, dI)) (ci := 6) (v := .ref a0) (C := RX7) (T := TX7) (N := 5) hx hb hts inB_7 hown hK hP 0 rfl rfl 0 (by decide) (hts _ mw_1_127) (fun _ h9 => h9) rfl dX7_fill_9 ?_
  refine lv_iload_n hx hb dX7_fill_12 rfl (lv_at hl 0 rfl) ?_
  refine lv_iconst (v := 0) hx hb dX7_fill_13 (by decide) ?_
  refine va_iast hx hb hK hP hD hS 1 0 rfl rfl (show vp_in 8 10 by unfold vp_in; decide) dX7_fill_14 (fun H locs hP hD hS => ?_)
  rw [show upd (fun _ => 0) (Int32.toNatClampNeg 8) 0 = (fun _ => 0) from upd_const _ _] at hP hD
  have hP : va_P (dC, dI) vwCl [(h0, .inr (6, [.ref a0, w1, w2, w3, w4])), (a0, .inl (ka0, 10, .inl (fun _ => 0))), (h1, .inr (1, [v0, v1, v2, v3, v4, v5, .int 0, v7]))] H := hP
  have hD : va_D A [(h0, .inr (6, [.ref a0, w1, w2, w3, w4])), (a0, .inl (ka0, 10, .inl (fun _ => 0))), (h1, .inr (1, [v0, v1, v2, v3, v4, v5, .int 0, v7]))] := hD
  refine lv_aload_n hx hb dX7_fill_15 rfl (lv_at hl 2 rfl) ?_
  refine lv_iload_n hx hb dX7_fill_16 rfl (lv_at hl 0 rfl) ?_
  have hPc := hP.sub (ws' := [(h1, .inr (1, [v0, v1, v2, v3, v4, v5, .int 0, v7]))]) [2] rfl
  have hDc := hD.sub (ws' := [(h1, .inr (1, [v0, v1, v2, v3, v4, v5, .int 0, v7]))]) [2] (by decide) rfl
  have hKc := hK.sub (tys' := []) [] rfl
  refine va_calli (va_runV (As := [.int 8]) (rest := []) ⟨hx, hb, hml, hown, hts⟩ (c_hasRow0 l dC dI H.size h1 (v0) (v1) (v2) (v3) (v4) (v5) (v7) 8) (cwV 1 hts (gV mw_3_10 mw_3_11 mw_3_12 mw_1_2 mw_3_13) rfl rfl rfl (by decide +kernel) ⟨Nat.le_of_ble_eq_true rfl, Nat.le_of_ble_eq_true rfl⟩) ⟨pcW_blind, va_recv hKc hPc (ci := 1) (q0 := 0) rfl rfl, pcW_at hPc hKc hDc hN⟩ rfl rfl hl.1 rfl (lv_room (Nat.le_of_ble_eq_true rfl)) dX7_fill_17 ⟨Nat.le_of_ble_eq_true rfl, Nat.le_of_ble_eq_true rfl⟩) hS (fun q h1 h2 => absurd h2 (Nat.not_le.mpr h1)) (fun q h => hA q (Nat.le_trans hS.1 h)) (fun r_9 u t H1 locs ht hvm hw_9 hB hz1 hk1 hS => ?_)
  have hP := keepP hP hk1
  clear hz1 hk1 hB ht hvm hPc hDc hKc
  generalize H1 = H at hP hS ⊢
  obtain rfl : r_9 = 0 := hw_9
  refine lv_if_ne (tgt := 26) hx hb dX7_fill_20 (by decide) (fun h => absurd h (by decide)) (fun _ => ?_)
  refine lv_goto (tgt := 72) hx hb dX7_fill_23 (by decide) ?_
  refine lv_iinc (v := 9) (lv' := [(3, .int 9), (0, .ref h0), (1, .ref h1), (2, .ref h9)]) hx hb dX7_fill_72 hl (k := 0) rfl (by decide) (by decide) rfl (fun ls hl => ?_)
  refine lv_goto (tgt := 2) hx hb dX7_fill_75 (by decide) ?_
  refine lv_iload_n hx hb dX7_fill_2 rfl (lv_at hl 0 rfl) ?_
  refine lv_bipush (v := 10) hx hb dX7_fill_3 (by decide) ?_
  refine lv_icmp_ge (tgt := 78) hx hb dX7_fill_5 (by decide) (fun h => absurd h (by decide)) (fun _ => ?_)
  refine lv_aload_n hx hb dX7_fill_8 rfl (lv_at hl 1 rfl) ?_
  refine va_get (D := (dC, dI)) (ci := 6) (v := .ref a0) (C := RX7) (T := TX7) (N := 5) hx hb hts inB_7 hown hK hP 0 rfl rfl 0 (by decide) (hts _ mw_1_127) (fun _ h9 => h9) rfl dX7_fill_9 ?_
  refine lv_iload_n hx hb dX7_fill_12 rfl (lv_at hl 0 rfl) ?_
  refine lv_iconst (v := 0) hx hb dX7_fill_13 (by decide) ?_
  refine va_iast hx hb hK hP hD hS 1 0 rfl rfl (show vp_in 9 10 by unfold vp_in; decide) dX7_fill_14 (fun H locs hP hD hS => ?_)
  rw [show upd (fun _ => 0) (Int32.toNatClampNeg 9) 0 = (fun _ => 0) from upd_const _ _] at hP hD
  have hP : va_P (dC, dI) vwCl [(h0, .inr (6, [.ref a0, w1, w2, w3, w4])), (a0, .inl (ka0, 10, .inl (fun _ => 0))), (h1, .inr (1, [v0, v1, v2, v3, v4, v5, .int 0, v7]))] H := hP
  have hD : va_D A [(h0, .inr (6, [.ref a0, w1, w2, w3, w4])), (a0, .inl (ka0, 10, .inl (fun _ => 0))), (h1, .inr (1, [v0, v1, v2, v3, v4, v5, .int 0, v7]))] := hD
  refine lv_aload_n hx hb dX7_fill_15 rfl (lv_at hl 2 rfl) ?_
  refine lv_iload_n hx hb dX7_fill_16 rfl (lv_at hl 0 rfl) ?_
  have hPc := hP.sub (ws' := [(h1, .inr (1, [v0, v1, v2, v3, v4, v5, .int 0, v7]))]) [2] rfl
  have hDc := hD.sub (ws' := [(h1, .inr (1, [v0, v1, v2, v3, v4, v5, .int 0, v7]))]) [2] (by decide) rfl
  have hKc := hK.sub (tys' := []) [] rfl
  refine va_calli (va_runV (As := [.int 9]) (rest := []) ⟨hx, hb, hml, hown, hts⟩ (c_hasRow0 l dC dI H.size h1 (v0) (v1) (v2) (v3) (v4) (v5) (v7) 9) (cwV 1 hts (gV mw_3_10 mw_3_11 mw_3_12 mw_1_2 mw_3_13) rfl rfl rfl (by decide +kernel) ⟨Nat.le_of_ble_eq_true rfl, Nat.le_of_ble_eq_true rfl⟩) ⟨pcW_blind, va_recv hKc hPc (ci := 1) (q0 := 0) rfl rfl, pcW_at hPc hKc hDc hN⟩ rfl rfl hl.1 rfl (lv_room (Nat.le_of_ble_eq_true rfl)) dX7_fill_17 ⟨Nat.le_of_ble_eq_true rfl, Nat.le_of_ble_eq_true rfl⟩) hS (fun q h1 h2 => absurd h2 (Nat.not_le.mpr h1)) (fun q h => hA q (Nat.le_trans hS.1 h)) (fun r_10 u t H1 locs ht hvm hw_10 hB hz1 hk1 hS => ?_)
  have hP := keepP hP hk1
  clear hz1 hk1 hB ht hvm hPc hDc hKc
  generalize H1 = H at hP hS ⊢
  obtain rfl : r_10 = 0 := hw_10
  refine lv_if_ne (tgt := 26) hx hb dX7_fill_20 (by decide) (fun h => absurd h (by decide)) (fun _ => ?_)
  refine lv_goto (tgt := 72) hx hb dX7_fill_23 (by decide) ?_
  refine lv_iinc (v := 10) (lv' := [(3, .int 10), (0, .ref h0), (1, .ref h1), (2, .ref h9)]) hx hb dX7_fill_72 hl (k := 0) rfl (by decide) (by decide) rfl (fun ls hl => ?_)
  refine lv_goto (tgt := 2) hx hb dX7_fill_75 (by decide) ?_
  refine lv_iload_n hx hb dX7_fill_2 rfl (lv_at hl 0 rfl) ?_
  refine lv_bipush (v := 10) hx hb dX7_fill_3 (by decide) ?_
  refine lv_icmp_ge (tgt := 78) hx hb dX7_fill_5 (by decide) (fun _ => ?_) (fun h => absurd (by decide) h)
  exact W.vret hx hb hr (fun t ht hW => ⟨⟨(), rfl, trivial, by rw [ht]; exact hP, va_K.moved hW.alike hK, hD⟩, hS.F ht⟩) hS.2.2 dX7_fill_78
end
section
theorem mw_1_128 : Cond.fieldLink RX7 15 "AnswerLines$Table" "together" "[I" ∈ BG := mB (t1 (i := 128) (by decide +kernel)) (by decide +kernel)
theorem mw_1_129 : Cond.fieldLink RX7 18 "AnswerLines$Table" "columns" "[I" ∈ BG := mB (t1 (i := 129) (by decide +kernel)) (by decide +kernel)
theorem mw_3_29 : Cond.code yX7_fitInto cX7_fitInto 5 (some .boolean) ∈ BG := mB (t3 (i := 29) rfl) (by decide +kernel)
theorem mw_3_26 : Cond.methodLink RX7 46 yX7_fitInto ∈ BG := mB (t3 (i := 26) (by decide +kernel)) (by decide +kernel)
theorem mw_3_28 : Cond.instanceMethod yX7_fitInto ∈ BG := mB (t3 (i := 28) (by decide +kernel)) (by decide +kernel)
theorem mw_0_7 : Cond.selects RX7 yX7_fitInto yX7_fitInto ∈ BG := mB (t0 (i := 7) (by decide +kernel)) (by decide +kernel)
theorem mw_1_7 : Cond.initialized RX7 ∈ BG := mB (t1 (i := 7) (by decide +kernel)) (by decide +kernel)
theorem mw_3_24 : Cond.code yX7_findTogether cX7_findTogether 3 none ∈ BG := mB (t3 (i := 24) rfl) (by decide +kernel)
theorem mw_3_21 : Cond.methodLink RX7 43 yX7_findTogether ∈ BG := mB (t3 (i := 21) (by decide +kernel)) (by decide +kernel)
theorem mw_3_23 : Cond.instanceMethod yX7_findTogether ∈ BG := mB (t3 (i := 23) (by decide +kernel)) (by decide +kernel)
theorem mw_0_6 : Cond.selects RX7 yX7_findTogether yX7_findTogether ∈ BG := mB (t0 (i := 6) (by decide +kernel)) (by decide +kernel)
theorem dX7_findTogether_0 : decode cX7_findTogether 0 = .ok (.iconst 0, 1) := by decide +kernel
theorem dX7_findTogether_1 : decode cX7_findTogether 1 = .ok (.istore_n 1, 1) := by decide +kernel
theorem dX7_findTogether_2 : decode cX7_findTogether 2 = .ok (.iload_n 1, 1) := by decide +kernel
theorem dX7_findTogether_3 : decode cX7_findTogether 3 = .ok (.bipush 8, 2) := by decide +kernel
theorem dX7_findTogether_5 : decode cX7_findTogether 5 = .ok (.if_icmp .ge 58, 3) := by decide +kernel
theorem dX7_findTogether_63 : decode cX7_findTogether 63 = .ok (.return_, 1) := by decide +kernel
theorem dX7_findTogether_8 : decode cX7_findTogether 8 = .ok (.aload_n 0, 1) := by decide +kernel
theorem dX7_findTogether_9 : decode cX7_findTogether 9 = .ok (.getfield 15, 3) := by decide +kernel
theorem dX7_findTogether_12 : decode cX7_findTogether 12 = .ok (.iload_n 1, 1) := by decide +kernel
theorem dX7_findTogether_13 : decode cX7_findTogether 13 = .ok (.iconst 0, 1) := by decide +kernel
theorem dX7_findTogether_14 : decode cX7_findTogether 14 = .ok (.iastore, 1) := by decide +kernel
theorem dX7_findTogether_15 : decode cX7_findTogether 15 = .ok (.iconst 0, 1) := by decide +kernel
theorem dX7_findTogether_16 : decode cX7_findTogether 16 = .ok (.istore_n 2, 1) := by decide +kernel
theorem dX7_findTogether_17 : decode cX7_findTogether 17 = .ok (.iload_n 2, 1) := by decide +kernel
theorem dX7_findTogether_18 : decode cX7_findTogether 18 = .ok (.bipush 10, 2) := by decide +kernel
theorem dX7_findTogether_20 : decode cX7_findTogether 20 = .ok (.if_icmp .ge 37, 3) := by decide +kernel
theorem dX7_findTogether_57 : decode cX7_findTogether 57 = .ok (.iinc 1 1, 3) := by decide +kernel
theorem dX7_findTogether_60 : decode cX7_findTogether 60 = .ok (.goto (-58), 3) := by decide +kernel
theorem dX7_findTogether_23 : decode cX7_findTogether 23 = .ok (.iload_n 1, 1) := by decide +kernel
theorem dX7_findTogether_24 : decode cX7_findTogether 24 = .ok (.aload_n 0, 1) := by decide +kernel
theorem dX7_findTogether_25 : decode cX7_findTogether 25 = .ok (.getfield 9, 3) := by decide +kernel
theorem dX7_findTogether_28 : decode cX7_findTogether 28 = .ok (.iload_n 2, 1) := by decide +kernel
theorem dX7_findTogether_29 : decode cX7_findTogether 29 = .ok (.iaload, 1) := by decide +kernel
theorem dX7_findTogether_30 : decode cX7_findTogether 30 = .ok (.invokestatic 62, 3) := by decide +kernel
theorem dX7_findTogether_33 : decode cX7_findTogether 33 = .ok (.ifCond .eq 18, 3) := by decide +kernel
theorem dX7_findTogether_51 : decode cX7_findTogether 51 = .ok (.iinc 2 1, 3) := by decide +kernel
theorem dX7_findTogether_54 : decode cX7_findTogether 54 = .ok (.goto (-37), 3) := by decide +kernel
theorem dX7_fitInto_0 : decode cX7_fitInto 0 = .ok (.iload_n 2, 1) := by decide +kernel
theorem dX7_fitInto_1 : decode cX7_fitInto 1 = .ok (.ifCond .lt 9, 3) := by decide +kernel
theorem dX7_fitInto_4 : decode cX7_fitInto 4 = .ok (.iload_n 2, 1) := by decide +kernel
theorem dX7_fitInto_5 : decode cX7_fitInto 5 = .ok (.bipush 8, 2) := by decide +kernel
theorem dX7_fitInto_7 : decode cX7_fitInto 7 = .ok (.if_icmp .lt 5, 3) := by decide +kernel
theorem dX7_fitInto_10 : decode cX7_fitInto 10 = .ok (.iconst 1, 1) := by decide +kernel
theorem dX7_fitInto_11 : decode cX7_fitInto 11 = .ok (.ireturn, 1) := by decide +kernel
theorem dX7_fitInto_12 : decode cX7_fitInto 12 = .ok (.aload_n 0, 1) := by decide +kernel
theorem dX7_fitInto_13 : decode cX7_fitInto 13 = .ok (.getfield 18, 3) := by decide +kernel
theorem dX7_fitInto_16 : decode cX7_fitInto 16 = .ok (.iload_n 2, 1) := by decide +kernel
theorem dX7_fitInto_17 : decode cX7_fitInto 17 = .ok (.bipush (-6), 2) := by decide +kernel
theorem dX7_fitInto_19 : decode cX7_fitInto 19 = .ok (.iastore, 1) := by decide +kernel
theorem dX7_fitInto_20 : decode cX7_fitInto 20 = .ok (.aload_n 0, 1) := by decide +kernel
theorem dX7_fitInto_21 : decode cX7_fitInto 21 = .ok (.getfield 15, 3) := by decide +kernel
theorem dX7_fitInto_24 : decode cX7_fitInto 24 = .ok (.iload_n 2, 1) := by decide +kernel
theorem dX7_fitInto_25 : decode cX7_fitInto 25 = .ok (.iaload, 1) := by decide +kernel
theorem dX7_fitInto_26 : decode cX7_fitInto 26 = .ok (.ifCond .ne 13, 3) := by decide +kernel
theorem dX7_fitInto_29 : decode cX7_fitInto 29 = .ok (.aload_n 0, 1) := by decide +kernel
theorem dX7_fitInto_30 : decode cX7_fitInto 30 = .ok (.iload_n 1, 1) := by decide +kernel
theorem dX7_fitInto_31 : decode cX7_fitInto 31 = .ok (.iload_n 2, 1) := by decide +kernel
theorem dX7_fitInto_32 : decode cX7_fitInto 32 = .ok (.iconst 1, 1) := by decide +kernel
theorem dX7_fitInto_33 : decode cX7_fitInto 33 = .ok (.iadd, 1) := by decide +kernel
theorem dX7_fitInto_34 : decode cX7_fitInto 34 = .ok (.iload_n 3, 1) := by decide +kernel
theorem dX7_fitInto_35 : decode cX7_fitInto 35 = .ok (.invokevirtual 46, 3) := by decide +kernel
theorem dX7_fitInto_38 : decode cX7_fitInto 38 = .ok (.ireturn, 1) := by decide +kernel
theorem dX7_spread_0 : decode cX7_spread 0 = .ok (.aload_n 0, 1) := by decide +kernel
theorem dX7_spread_1 : decode cX7_spread 1 = .ok (.invokevirtual 43, 3) := by decide +kernel
theorem dX7_spread_4 : decode cX7_spread 4 = .ok (.iconst 0, 1) := by decide +kernel
theorem dX7_spread_5 : decode cX7_spread 5 = .ok (.istore_n 1, 1) := by decide +kernel
theorem dX7_spread_6 : decode cX7_spread 6 = .ok (.iload_n 1, 1) := by decide +kernel
theorem dX7_spread_7 : decode cX7_spread 7 = .ok (.bipush 8, 2) := by decide +kernel
theorem dX7_spread_9 : decode cX7_spread 9 = .ok (.if_icmp .gt 21, 3) := by decide +kernel
theorem dX7_spread_12 : decode cX7_spread 12 = .ok (.aload_n 0, 1) := by decide +kernel
theorem dX7_spread_13 : decode cX7_spread 13 = .ok (.iload_n 1, 1) := by decide +kernel
theorem dX7_spread_14 : decode cX7_spread 14 = .ok (.iconst 0, 1) := by decide +kernel
theorem dX7_spread_15 : decode cX7_spread 15 = .ok (.iconst 0, 1) := by decide +kernel
theorem dX7_spread_16 : decode cX7_spread 16 = .ok (.invokevirtual 46, 3) := by decide +kernel
theorem dX7_spread_19 : decode cX7_spread 19 = .ok (.ifCond .eq 5, 3) := by decide +kernel
theorem dX7_spread_22 : decode cX7_spread 22 = .ok (.iload_n 1, 1) := by decide +kernel
theorem dX7_spread_23 : decode cX7_spread 23 = .ok (.ireturn, 1) := by decide +kernel
theorem dX7_columnOf_0 : decode cX7_columnOf 0 = .ok (.iload_n 1, 1) := by decide +kernel
theorem dX7_columnOf_1 : decode cX7_columnOf 1 = .ok (.invokestatic 50, 3) := by decide +kernel
theorem dX7_columnOf_4 : decode cX7_columnOf 4 = .ok (.ifCond .eq 12, 3) := by decide +kernel
theorem dX7_columnOf_7 : decode cX7_columnOf 7 = .ok (.aload_n 0, 1) := by decide +kernel
theorem dX7_columnOf_8 : decode cX7_columnOf 8 = .ok (.getfield 18, 3) := by decide +kernel
theorem dX7_columnOf_11 : decode cX7_columnOf 11 = .ok (.iload_n 1, 1) := by decide +kernel
theorem dX7_columnOf_12 : decode cX7_columnOf 12 = .ok (.iaload, 1) := by decide +kernel
theorem dX7_columnOf_13 : decode cX7_columnOf 13 = .ok (.goto 5, 3) := by decide +kernel
theorem dX7_columnOf_18 : decode cX7_columnOf 18 = .ok (.ireturn, 1) := by decide +kernel
theorem dX7_columnOf_16 : decode cX7_columnOf 16 = .ok (.bipush (-6), 2) := by decide +kernel
set_option maxHeartbeats 4000000 in
set_option maxRecDepth 100000 in
theorem c_findT (l : Launch) (dC : Nat → ClassId) (dI : Nat → Nat → Nat) (sz : Nat) (h0 : Nat) (a0 : Nat) (a1 : Nat) (w2 : Value) (w3 : Value) (w4 : Value) (ka0 : ClassId) (ka1 : ClassId)  : Met l yX7_findTogether (wq yX7_findTogether cX7_findTogether 3 none) ({ frames := 1, cells := 0, slots := 0, locals := 21 }) (va_Pc [.ref h0] (pcW dC dI [(ka0, .int), (ka1, .int)] [(h0, .inr (6, [.ref a0, .ref a1, w2, w3, w4])), (a0, .inl (ka0, 10, .inl (fun _ => 0))), (a1, .inl (ka1, 8, .inl (fun _ => 0)))] sz)) (va_Qv (fun _ : Unit => True) (fun _ t => va_P (dC, dI) vwCl [(h0, .inr (6, [.ref a0, .ref a1, w2, w3, w4])), (a0, .inl (ka0, 10, .inl (fun _ => 0))), (a1, .inl (ka1, 8, .inl (fun _ => 0)))] t.heap ∧ va_K (dC, dI) vwCl [(ka0, .int), (ka1, .int)] t ∧ va_D (va_A [(h0, .inr (6, [.ref a0, .ref a1, w2, w3, w4])), (a0, .inl (ka0, 10, .inl (fun _ => 0))), (a1, .inl (ka1, 8, .inl (fun _ => 0)))] sz) [(h0, .inr (6, [.ref a0, .ref a1, w2, w3, w4])), (a0, .inl (ka0, 10, .inl (fun _ => 0))), (a1, .inl (ka1, 8, .inl (fun _ => 0)))]) (va_A [(h0, .inr (6, [.ref a0, .ref a1, w2, w3, w4])), (a0, .inl (ka0, 10, .inl (fun _ => 0))), (a1, .inl (ka1, 8, .inl (fun _ => 0)))] sz)) 0 0 (va_A [(h0, .inr (6, [.ref a0, .ref a1, w2, w3, w4])), (a0, .inl (ka0, 10, .inl (fun _ => 0))), (a1, .inl (ka1, 8, .inl (fun _ => 0)))] sz) := by
  refine Met.ofW (cc := cX7_findTogether) (maxL := 3) (ret := none) (by decide) rfl ?_
  intro p e s m args below meth c s₁ B hml hv
  obtain ⟨rfl, hsz, hN, hP, hK, hD0⟩ := hv
  have hx := B.exec
  have hb := B.bytes
  have hr := B.returns
  have hts0 := atoms_spec (ws := (wq yX7_findTogether cX7_findTogether 3 none)) B.pre
  have hts : ∀ w ∈ BG, w.before _ s = true := fun w h => hts0 w (List.mem_cons_of_mem _ h)
  have hown : s.vm.findClass RX7 = some m.cls := findClass_of_methodNamed B.named
  have hlocks := B.notSynchronized
  subst hsz
  have hD := hD0.self (sz := s.heap.size)
  generalize hAe : va_A [(h0, .inr (6, [.ref a0, .ref a1, w2, w3, w4])), (a0, .inl (ka0, 10, .inl (fun _ => 0))), (a1, .inl (ka1, 8, .inl (fun _ => 0)))] s.heap.size = A at hD ⊢
  have hA : ∀ q : Nat, s.heap.size ≤ q → A q := fun q h => by rw [← hAe]; exact Or.inr h
  have hS : va_S A s.heap s.heap [] := va_S.rf
  have hP : va_P (dC, dI) vwCl [(h0, .inr (6, [.ref a0, .ref a1, w2, w3, w4])), (a0, .inl (ka0, 10, .inl (fun _ => 0))), (a1, .inl (ka1, 8, .inl (fun _ => 0)))] s.heap := hP
  have hl := lv_entry ([.ref h0]) (n := 3) (Nat.le_of_ble_eq_true rfl)
  rw [lg_entry_eq]
  generalize (lg_sl ([.ref h0]) ++ List.replicate (3 - (lg_sl ([.ref h0])).length) Slot.unset).toArray = ls at hl ⊢
  have hl : lv_has ls 3 [(0, .ref h0)] := hl
  skip
  refine lv_iconst (v := 0) hx hb dX7_findTogether_0 (by decide) ?_
  refine lv_istore_n (lv' := [(1, .int 0), (0, .ref h0)]) hx hb dX7_findTogether_1 rfl hl (by decide) rfl (fun ls hl => ?_)
  have key_1 : ∀ (n : Nat) (k : Nat), k ≤ 8 → 8 - k < n → ∀ (H : Heap) (locs : List Loc), va_P (dC, dI) vwCl [(h0, .inr (6, [.ref a0, .ref a1, w2, w3, w4])), (a0, .inl (ka0, 10, .inl (fun _ => 0))), (a1, .inl (ka1, 8, .inl (fun _ => 0)))] H → va_D A [(h0, .inr (6, [.ref a0, .ref a1, w2, w3, w4])), (a0, .inl (ka0, 10, .inl (fun _ => 0))), (a1, .inl (ka1, 8, .inl (fun _ => 0)))] → va_S A s.heap H locs → ∀ (ls : Array Slot), lv_has ls 3 [(1, .int (nI k)), (0, .ref h0)] → W p l e (headSpec (wq yX7_findTogether cX7_findTogether 3 none) ({ frames := 1, cells := 0, slots := 0, locals := 21 })).room s m (([.ref h0] : List Value)).toArray below meth c H locs 0 0 (MQ below (va_Qv (fun _ : Unit => True) (fun _ t => va_P (dC, dI) vwCl [(h0, .inr (6, [.ref a0, .ref a1, w2, w3, w4])), (a0, .inl (ka0, 10, .inl (fun _ => 0))), (a1, .inl (ka1, 8, .inl (fun _ => 0)))] t.heap ∧ va_K (dC, dI) vwCl [(ka0, .int), (ka1, .int)] t ∧ va_D A [(h0, .inr (6, [.ref a0, .ref a1, w2, w3, w4])), (a0, .inl (ka0, 10, .inl (fun _ => 0))), (a1, .inl (ka1, 8, .inl (fun _ => 0)))]) A) (([.ref h0] : List Value)).toArray s 0 0 A) (F0 m 2 ls []) := by
    intro n
    induction n with
    | zero => intro k hk hme; exact absurd hme (Nat.not_lt_zero _)
    | succ n ih_2 =>
      intro k hk hme H locs hP hD hS ls hl
      refine lv_iload_n hx hb dX7_findTogether_2 rfl (lv_at hl 0 rfl) ?_
      refine lv_bipush (v := 8) hx hb dX7_findTogether_3 (by decide) ?_
      refine lv_icmp_ge (tgt := 63) hx hb dX7_findTogether_5 (by decide) (fun c_3 => ?_) (fun c_3 => ?_)
      · have b_4 : k ≥ 8 := nz_ge (by omega) (by omega) c_3
        obtain rfl : k = 8 := by omega
        exact W.vret hx hb hr (fun t ht hW => ⟨⟨(), rfl, trivial, by rw [ht]; exact hP, va_K.moved hW.alike hK, hD⟩, hS.F ht⟩) hS.2.2 dX7_findTogether_63
      · have b_4 : ¬ (k ≥ 8) := nz_gen (by omega) (by omega) c_3
        refine lv_aload_n hx hb dX7_findTogether_8 rfl (lv_at hl 1 rfl) ?_
        refine va_get (D := (dC, dI)) (ci := 6) (v := .ref a1) (C := RX7) (T := TX7) (N := 5) hx hb hts inB_7 hown hK hP 0 rfl rfl 1 (by decide) (hts _ mw_1_128) (fun _ h9 => h9) rfl dX7_findTogether_9 ?_
        refine lv_iload_n hx hb dX7_findTogether_12 rfl (lv_at hl 0 rfl) ?_
        refine lv_iconst (v := 0) hx hb dX7_findTogether_13 (by decide) ?_
        refine va_iast hx hb hK hP hD hS 2 1 rfl rfl (show vp_in (nI k) 8 from vp_in_nI (by omega) (by omega)) dX7_findTogether_14 (fun H locs hP hD hS => ?_)
        rw [show upd (fun _ => 0) (Int32.toNatClampNeg (nI k)) 0 = (fun _ => 0) from upd_const _ _] at hP hD
        have hP : va_P (dC, dI) vwCl [(h0, .inr (6, [.ref a0, .ref a1, w2, w3, w4])), (a0, .inl (ka0, 10, .inl (fun _ => 0))), (a1, .inl (ka1, 8, .inl (fun _ => 0)))] H := hP
        have hD : va_D A [(h0, .inr (6, [.ref a0, .ref a1, w2, w3, w4])), (a0, .inl (ka0, 10, .inl (fun _ => 0))), (a1, .inl (ka1, 8, .inl (fun _ => 0)))] := hD
        refine lv_iconst (v := 0) hx hb dX7_findTogether_15 (by decide) ?_
        refine lv_istore_n (lv' := [(2, .int 0), (1, .int (nI k)), (0, .ref h0)]) hx hb dX7_findTogether_16 rfl hl (by decide) rfl (fun ls hl => ?_)
        have key_5 : ∀ (n : Nat) (j : Nat), j ≤ 10 → 10 - j < n → ∀ (H : Heap) (locs : List Loc), va_P (dC, dI) vwCl [(h0, .inr (6, [.ref a0, .ref a1, w2, w3, w4])), (a0, .inl (ka0, 10, .inl (fun _ => 0))), (a1, .inl (ka1, 8, .inl (fun _ => 0)))] H → va_D A [(h0, .inr (6, [.ref a0, .ref a1, w2, w3, w4])), (a0, .inl (ka0, 10, .inl (fun _ => 0))), (a1, .inl (ka1, 8, .inl (fun _ => 0)))] → va_S A s.heap H locs → ∀ (ls : Array Slot), lv_has ls 3 [(2, .int (nI j)), (1, .int (nI k)), (0, .ref h0)] → W p l e (headSpec (wq yX7_findTogether cX7_findTogether 3 none) ({ frames := 1, cells := 0, slots := 0, locals := 21 })).room s m (([.ref h0] : List Value)).toArray below meth c H locs 0 0 (MQ below (va_Qv (fun _ : Unit => True) (fun _ t => va_P (dC, dI) vwCl [(h0, .inr (6, [.ref a0, .ref a1, w2, w3, w4])), (a0, .inl (ka0, 10, .inl (fun _ => 0))), (a1, .inl (ka1, 8, .inl (fun _ => 0)))] t.heap ∧ va_K (dC, dI) vwCl [(ka0, .int), (ka1, .int)] t ∧ va_D A [(h0, .inr (6, [.ref a0, .ref a1, w2, w3, w4])), (a0, .inl (ka0, 10, .inl (fun _ => 0))), (a1, .inl (ka1, 8, .inl (fun _ => 0)))]) A) (([.ref h0] : List Value)).toArray s 0 0 A) (F0 m 17 ls []) := by
          intro n
          induction n with
          | zero => intro j hj hme; exact absurd hme (Nat.not_lt_zero _)
          | succ n ih_6 =>
            intro j hj hme H locs hP hD hS ls hl
            refine lv_iload_n hx hb dX7_findTogether_17 rfl (lv_at hl 0 rfl) ?_
            refine lv_bipush (v := 10) hx hb dX7_findTogether_18 (by decide) ?_
            refine lv_icmp_ge (tgt := 57) hx hb dX7_findTogether_20 (by decide) (fun c_7 => ?_) (fun c_7 => ?_)
            · have b_8 : j ≥ 10 := nz_ge (by omega) (by omega) c_7
              obtain rfl : j = 10 := by omega
              refine lv_iinc (v := (nI (k + 1))) (lv' := [(1, .int (nI (k + 1))), (2, .int (nI 10)), (0, .ref h0)]) hx hb dX7_findTogether_57 hl (k := 1) rfl (nI_1 _) (by decide) rfl (fun ls hl => ?_)
              refine lv_goto (tgt := 2) hx hb dX7_findTogether_60 (by decide) ?_
              exact ih_2 (k + 1) (by omega) (by omega) _ _ (by exact hP) (by exact hD) hS ls (by exact lv_sub hl [0, 2] rfl)
            · have b_8 : ¬ (j ≥ 10) := nz_gen (by omega) (by omega) c_7
              refine lv_iload_n hx hb dX7_findTogether_23 rfl (lv_at hl 1 rfl) ?_
              refine lv_aload_n hx hb dX7_findTogether_24 rfl (lv_at hl 2 rfl) ?_
              refine va_get (D := (dC, dI)) (ci := 6) (v := .ref a0) (C := RX7) (T := TX7) (N := 5) hx hb hts inB_7 hown hK hP 0 rfl rfl 0 (by decide) (hts _ mw_1_127) (fun _ h9 => h9) rfl dX7_findTogether_25 ?_
              refine lv_iload_n hx hb dX7_findTogether_28 rfl (lv_at hl 0 rfl) ?_
              refine va_iald hx hb hK hP 1 0 rfl rfl (show vp_in (nI j) 10 from vp_in_nI (by omega) (by omega)) dX7_findTogether_29 ?_
              refine hx_top (y := 0) rfl ?_
              have hPc := hP.sub (ws' := []) [] rfl
              have hDc := hD.sub (ws' := []) [] (by decide) rfl
              have hKc := hK.sub (tys' := []) [] rfl
              refine va_calli (va_runSN (As := [.int (nI k), .int 0]) (rest := []) ⟨hx, hb, hml, hown, hts⟩ (c_isIn0 l dC dI H.size (nI k)) ⟨va_cnB 2 hts (gN mw_2_15) rfl rfl rfl (hN (RX7, 62, yX8_isIn, RX8) (List.mem_of_getElem? (i := 11) rfl)) (hts _ mw_1_1) (by decide +kernel) ⟨Nat.le_of_ble_eq_true rfl, Nat.le_of_ble_eq_true rfl⟩, (hts _ mw_2_14), trivial⟩ ⟨pcW_blind, pcW_at hPc hKc hDc hN⟩ rfl rfl hl.1 rfl (lv_room (Nat.le_of_ble_eq_true rfl)) dX7_findTogether_30 ⟨Nat.le_of_ble_eq_true rfl, Nat.le_of_ble_eq_true rfl⟩) hS (fun q h1 h2 => absurd h2 (Nat.not_le.mpr h1)) (fun q h => hA q (Nat.le_trans hS.1 h)) (fun r_9 u t H1 locs ht hvm hw_9 hB hz1 hk1 hS => ?_)
              have hP := keepP hP hk1
              clear hz1 hk1 hB ht hvm hPc hDc hKc
              generalize H1 = H at hP hS ⊢
              obtain rfl : r_9 = 0 := hw_9
              refine lv_if_eq (tgt := 51) hx hb dX7_findTogether_33 (by decide) (fun _ => ?_) (fun h => absurd (by decide) h)
              refine lv_iinc (v := (nI (j + 1))) (lv' := [(2, .int (nI (j + 1))), (1, .int (nI k)), (0, .ref h0)]) hx hb dX7_findTogether_51 hl (k := 0) rfl (nI_1 _) (by decide) rfl (fun ls hl => ?_)
              refine lv_goto (tgt := 17) hx hb dX7_findTogether_54 (by decide) ?_
              exact ih_6 (j + 1) (by omega) (by omega) _ _ (by exact hP) (by exact hD) hS ls (by exact lv_sub hl [0, 1, 2] rfl)
        exact key_5 ((10 - 0) + 1) (0) (by omega) (Nat.lt_succ_self _) _ _ (by exact hP) (by exact hD) hS ls (lv_sub hl [0, 1, 2] rfl)
  exact key_1 ((8 - 0) + 1) (0) (by omega) (Nat.lt_succ_self _) _ _ (by exact hP) (by exact hD) hS ls (lv_sub hl [0, 1] rfl)
set_option maxHeartbeats 4000000 in
set_option maxRecDepth 100000 in
theorem c_fit8 (l : Launch) (dC : Nat → ClassId) (dI : Nat → Nat → Nat) (sz : Nat) (h0 : Nat) (w0 : Value) (a1 : Nat) (a2 : Nat) (w3 : Value) (w4 : Value) (ka1 : ClassId) (ka2 : ClassId)  : Met l yX7_fitInto (wq yX7_fitInto cX7_fitInto 5 (some .boolean)) ({ frames := 0, cells := 0, slots := 0, locals := 0 }) (va_Pc [.ref h0, .int 0, .int 8, .int 0] (pcW dC dI [(ka1, .int), (ka2, .int)] [(h0, .inr (6, [w0, .ref a1, .ref a2, w3, w4])), (a1, .inl (ka1, 8, .inl (fun _ => 0))), (a2, .inl (ka2, 8, .inl (slF (-6) 0 8)))] sz)) (va_Qi (fun (r : Int32) (_ : Unit) => r = 1) (fun _ t => va_P (dC, dI) vwCl [(h0, .inr (6, [w0, .ref a1, .ref a2, w3, w4])), (a1, .inl (ka1, 8, .inl (fun _ => 0))), (a2, .inl (ka2, 8, .inl (slF (-6) 0 8)))] t.heap ∧ va_K (dC, dI) vwCl [(ka1, .int), (ka2, .int)] t ∧ va_D (va_A [(h0, .inr (6, [w0, .ref a1, .ref a2, w3, w4])), (a1, .inl (ka1, 8, .inl (fun _ => 0))), (a2, .inl (ka2, 8, .inl (slF (-6) 0 8)))] sz) [(h0, .inr (6, [w0, .ref a1, .ref a2, w3, w4])), (a1, .inl (ka1, 8, .inl (fun _ => 0))), (a2, .inl (ka2, 8, .inl (slF (-6) 0 8)))]) (va_A [(h0, .inr (6, [w0, .ref a1, .ref a2, w3, w4])), (a1, .inl (ka1, 8, .inl (fun _ => 0))), (a2, .inl (ka2, 8, .inl (slF (-6) 0 8)))] sz)) 0 0 (va_A [(h0, .inr (6, [w0, .ref a1, .ref a2, w3, w4])), (a1, .inl (ka1, 8, .inl (fun _ => 0))), (a2, .inl (ka2, 8, .inl (slF (-6) 0 8)))] sz) := by
  refine Met.ofW (cc := cX7_fitInto) (maxL := 5) (ret := (some .boolean)) (by decide) rfl ?_
  intro p e s m args below meth c s₁ B hml hv
  obtain ⟨rfl, hsz, hN, hP, hK, hD0⟩ := hv
  have hx := B.exec
  have hb := B.bytes
  have hr := B.returns
  have hts0 := atoms_spec (ws := (wq yX7_fitInto cX7_fitInto 5 (some .boolean))) B.pre
  have hts : ∀ w ∈ BG, w.before _ s = true := fun w h => hts0 w (List.mem_cons_of_mem _ h)
  have hown : s.vm.findClass RX7 = some m.cls := findClass_of_methodNamed B.named
  have hlocks := B.notSynchronized
  subst hsz
  have hD := hD0.self (sz := s.heap.size)
  generalize hAe : va_A [(h0, .inr (6, [w0, .ref a1, .ref a2, w3, w4])), (a1, .inl (ka1, 8, .inl (fun _ => 0))), (a2, .inl (ka2, 8, .inl (slF (-6) 0 8)))] s.heap.size = A at hD ⊢
  have hA : ∀ q : Nat, s.heap.size ≤ q → A q := fun q h => by rw [← hAe]; exact Or.inr h
  have hS : va_S A s.heap s.heap [] := va_S.rf
  have hP : va_P (dC, dI) vwCl [(h0, .inr (6, [w0, .ref a1, .ref a2, w3, w4])), (a1, .inl (ka1, 8, .inl (fun _ => 0))), (a2, .inl (ka2, 8, .inl (slF (-6) 0 8)))] s.heap := hP
  have hl := lv_entry ([.ref h0, .int 0, .int 8, .int 0]) (n := 5) (Nat.le_of_ble_eq_true rfl)
  rw [lg_entry_eq]
  generalize (lg_sl ([.ref h0, .int 0, .int 8, .int 0]) ++ List.replicate (5 - (lg_sl ([.ref h0, .int 0, .int 8, .int 0])).length) Slot.unset).toArray = ls at hl ⊢
  have hl : lv_has ls 5 [(0, .ref h0), (1, .int 0), (2, .int 8), (3, .int 0)] := hl
  skip
  refine lv_iload_n hx hb dX7_fitInto_0 rfl (lv_at hl 2 rfl) ?_
  refine lv_if_lt (tgt := 10) hx hb dX7_fitInto_1 (by decide) (fun h => absurd h (by decide)) (fun _ => ?_)
  refine lv_iload_n hx hb dX7_fitInto_4 rfl (lv_at hl 2 rfl) ?_
  refine lv_bipush (v := 8) hx hb dX7_fitInto_5 (by decide) ?_
  refine lv_icmp_lt (tgt := 12) hx hb dX7_fitInto_7 (by decide) (fun h => absurd h (by decide)) (fun _ => ?_)
  refine lv_iconst (v := 1) hx hb dX7_fitInto_10 (by decide) ?_
  exact W.zret (v := 1) hx hb hr (by decide) (fun t ht hW => ⟨⟨1, (), rfl, rfl, by rw [ht]; exact hP, va_K.moved hW.alike hK, hD⟩, hS.F ht⟩) hS.2.2 dX7_fitInto_11
set_option maxHeartbeats 4000000 in
set_option maxRecDepth 100000 in
theorem c_fit7 (l : Launch) (dC : Nat → ClassId) (dI : Nat → Nat → Nat) (sz : Nat) (h0 : Nat) (w0 : Value) (a1 : Nat) (a2 : Nat) (w3 : Value) (w4 : Value) (ka1 : ClassId) (ka2 : ClassId)  : Met l yX7_fitInto (wq yX7_fitInto cX7_fitInto 5 (some .boolean)) ({ frames := 1, cells := 0, slots := 0, locals := 24 }) (va_Pc [.ref h0, .int 0, .int 7, .int 0] (pcW dC dI [(ka1, .int), (ka2, .int)] [(h0, .inr (6, [w0, .ref a1, .ref a2, w3, w4])), (a1, .inl (ka1, 8, .inl (fun _ => 0))), (a2, .inl (ka2, 8, .inl (slF (-6) 0 7)))] sz)) (va_Qi (fun (r : Int32) (_ : Unit) => r = 1) (fun _ t => va_P (dC, dI) vwCl [(h0, .inr (6, [w0, .ref a1, .ref a2, w3, w4])), (a1, .inl (ka1, 8, .inl (fun _ => 0))), (a2, .inl (ka2, 8, .inl (slF (-6) 0 8)))] t.heap ∧ va_K (dC, dI) vwCl [(ka1, .int), (ka2, .int)] t ∧ va_D (va_A [(h0, .inr (6, [w0, .ref a1, .ref a2, w3, w4])), (a1, .inl (ka1, 8, .inl (fun _ => 0))), (a2, .inl (ka2, 8, .inl (slF (-6) 0 7)))] sz) [(h0, .inr (6, [w0, .ref a1, .ref a2, w3, w4])), (a1, .inl (ka1, 8, .inl (fun _ => 0))), (a2, .inl (ka2, 8, .inl (slF (-6) 0 8)))]) (va_A [(h0, .inr (6, [w0, .ref a1, .ref a2, w3, w4])), (a1, .inl (ka1, 8, .inl (fun _ => 0))), (a2, .inl (ka2, 8, .inl (slF (-6) 0 7)))] sz)) 0 0 (va_A [(h0, .inr (6, [w0, .ref a1, .ref a2, w3, w4])), (a1, .inl (ka1, 8, .inl (fun _ => 0))), (a2, .inl (ka2, 8, .inl (slF (-6) 0 7)))] sz) := by
  refine Met.ofW (cc := cX7_fitInto) (maxL := 5) (ret := (some .boolean)) (by decide) rfl ?_
  intro p e s m args below meth c s₁ B hml hv
  obtain ⟨rfl, hsz, hN, hP, hK, hD0⟩ := hv
  have hx := B.exec
  have hb := B.bytes
  have hr := B.returns
  have hts0 := atoms_spec (ws := (wq yX7_fitInto cX7_fitInto 5 (some .boolean))) B.pre
  have hts : ∀ w ∈ BG, w.before _ s = true := fun w h => hts0 w (List.mem_cons_of_mem _ h)
  have hown : s.vm.findClass RX7 = some m.cls := findClass_of_methodNamed B.named
  have hlocks := B.notSynchronized
  subst hsz
  have hD := hD0.self (sz := s.heap.size)
  generalize hAe : va_A [(h0, .inr (6, [w0, .ref a1, .ref a2, w3, w4])), (a1, .inl (ka1, 8, .inl (fun _ => 0))), (a2, .inl (ka2, 8, .inl (slF (-6) 0 7)))] s.heap.size = A at hD ⊢
  have hA : ∀ q : Nat, s.heap.size ≤ q → A q := fun q h => by rw [← hAe]; exact Or.inr h
  have hS : va_S A s.heap s.heap [] := va_S.rf
  have hP : va_P (dC, dI) vwCl [(h0, .inr (6, [w0, .ref a1, .ref a2, w3, w4])), (a1, .inl (ka1, 8, .inl (fun _ => 0))), (a2, .inl (ka2, 8, .inl (slF (-6) 0 7)))] s.heap := hP
  have hl := lv_entry ([.ref h0, .int 0, .int 7, .int 0]) (n := 5) (Nat.le_of_ble_eq_true rfl)
  rw [lg_entry_eq]
  generalize (lg_sl ([.ref h0, .int 0, .int 7, .int 0]) ++ List.replicate (5 - (lg_sl ([.ref h0, .int 0, .int 7, .int 0])).length) Slot.unset).toArray = ls at hl ⊢
  have hl : lv_has ls 5 [(0, .ref h0), (1, .int 0), (2, .int 7), (3, .int 0)] := hl
  skip
  refine lv_iload_n hx hb dX7_fitInto_0 rfl (lv_at hl 2 rfl) ?_
  refine lv_if_lt (tgt := 10) hx hb dX7_fitInto_1 (by decide) (fun h => absurd h (by decide)) (fun _ => ?_)
  refine lv_iload_n hx hb dX7_fitInto_4 rfl (lv_at hl 2 rfl) ?_
  refine lv_bipush (v := 8) hx hb dX7_fitInto_5 (by decide) ?_
  refine lv_icmp_lt (tgt := 12) hx hb dX7_fitInto_7 (by decide) (fun _ => ?_) (fun h => absurd (by decide) h)
  refine lv_aload_n hx hb dX7_fitInto_12 rfl (lv_at hl 0 rfl) ?_
  refine va_get (D := (dC, dI)) (ci := 6) (v := .ref a2) (C := RX7) (T := TX7) (N := 5) hx hb hts inB_7 hown hK hP 0 rfl rfl 2 (by decide) (hts _ mw_1_129) (fun _ h9 => h9) rfl dX7_fitInto_13 ?_
  refine lv_iload_n hx hb dX7_fitInto_16 rfl (lv_at hl 2 rfl) ?_
  refine lv_bipush (v := (-6)) hx hb dX7_fitInto_17 (by decide) ?_
  refine va_iast hx hb hK hP hD hS 2 1 rfl rfl (show vp_in 7 8 by unfold vp_in; decide) dX7_fitInto_19 (fun H locs hP hD hS => ?_)
  rw [show upd (slF (-6) 0 7) (Int32.toNatClampNeg 7) (-6) = (slF (-6) 0 8) from slF_u _ _ 7] at hP hD
  have hP : va_P (dC, dI) vwCl [(h0, .inr (6, [w0, .ref a1, .ref a2, w3, w4])), (a1, .inl (ka1, 8, .inl (fun _ => 0))), (a2, .inl (ka2, 8, .inl (slF (-6) 0 8)))] H := hP
  have hD : va_D A [(h0, .inr (6, [w0, .ref a1, .ref a2, w3, w4])), (a1, .inl (ka1, 8, .inl (fun _ => 0))), (a2, .inl (ka2, 8, .inl (slF (-6) 0 8)))] := hD
  refine lv_aload_n hx hb dX7_fitInto_20 rfl (lv_at hl 0 rfl) ?_
  refine va_get (D := (dC, dI)) (ci := 6) (v := .ref a1) (C := RX7) (T := TX7) (N := 5) hx hb hts inB_7 hown hK hP 0 rfl rfl 1 (by decide) (hts _ mw_1_128) (fun _ h9 => h9) rfl dX7_fitInto_21 ?_
  refine lv_iload_n hx hb dX7_fitInto_24 rfl (lv_at hl 2 rfl) ?_
  refine va_iald hx hb hK hP 1 0 rfl rfl (show vp_in 7 8 by unfold vp_in; decide) dX7_fitInto_25 ?_
  refine hx_top (y := 0) rfl ?_
  refine lv_if_ne (tgt := 39) hx hb dX7_fitInto_26 (by decide) (fun h => absurd h (by decide)) (fun _ => ?_)
  refine lv_aload_n hx hb dX7_fitInto_29 rfl (lv_at hl 0 rfl) ?_
  refine lv_iload_n hx hb dX7_fitInto_30 rfl (lv_at hl 1 rfl) ?_
  refine lv_iload_n hx hb dX7_fitInto_31 rfl (lv_at hl 2 rfl) ?_
  refine lv_iconst (v := 1) hx hb dX7_fitInto_32 (by decide) ?_
  refine lv_iadd hx hb dX7_fitInto_33 ?_
  refine hx_top (y := 8) (by decide) ?_
  refine lv_iload_n hx hb dX7_fitInto_34 rfl (lv_at hl 3 rfl) ?_
  have hPc := hP.sub (ws' := [(h0, .inr (6, [w0, .ref a1, .ref a2, w3, w4])), (a1, .inl (ka1, 8, .inl (fun _ => 0))), (a2, .inl (ka2, 8, .inl (slF (-6) 0 8)))]) [0, 1, 2] rfl
  have hDc := hD.sub (ws' := [(h0, .inr (6, [w0, .ref a1, .ref a2, w3, w4])), (a1, .inl (ka1, 8, .inl (fun _ => 0))), (a2, .inl (ka2, 8, .inl (slF (-6) 0 8)))]) [0, 1, 2] (by decide) rfl
  have hKc := hK.sub (tys' := [(ka1, .int), (ka2, .int)]) [0, 1] rfl
  have hFc := va_free (wc := [(h0, .inr (6, [w0, .ref a1, .ref a2, w3, w4])), (a1, .inl (ka1, 8, .inl (fun _ => 0))), (a2, .inl (ka2, 8, .inl (slF (-6) 0 8)))]) hD hS hA [0, 1, 2] rfl
  refine va_calli (va_runV (As := [.int 0, .int 8, .int 0]) (rest := []) ⟨hx, hb, hml, hown, hts⟩ (c_fit8 l dC dI H.size h0 (w0) a1 a2 (w3) (w4) ka1 ka2) (cwV 3 hts (gV mw_3_26 mw_3_28 mw_0_7 mw_1_7 mw_3_29) rfl rfl rfl (by decide +kernel) ⟨Nat.le_of_ble_eq_true rfl, Nat.le_of_ble_eq_true rfl⟩) ⟨pcW_blind, va_recv hKc hPc (ci := 6) (q0 := 0) rfl rfl, pcW_at hPc hKc hDc hN⟩ rfl rfl hl.1 rfl (lv_room (Nat.le_of_ble_eq_true rfl)) dX7_fitInto_35 ⟨Nat.le_of_ble_eq_true rfl, Nat.le_of_ble_eq_true rfl⟩) hS (fun q _ h => hFc q h) hFc (fun r_1 u t H1 locs ht hvm hw_1 hB hz1 hk1 hS => ?_)
  obtain ⟨hP1, hK1, hD1⟩ := hB
  rw [ht] at hP1
  have hK1 := va_K.moved hvm.symm hK1
  obtain ⟨hP, hD⟩ := va_join (wr := []) (w1 := [(h0, .inr (6, [w0, .ref a1, .ref a2, w3, w4])), (a1, .inl (ka1, 8, .inl (fun _ => 0))), (a2, .inl (ka2, 8, .inl (slF (-6) 0 8)))]) hP hD [0, 1, 2] [] rfl rfl (by decide) (by decide) hk1 hFc hP1 hD1
  have hK := (hK.sub (tys' := []) [] rfl).app hK1
  clear hz1 hk1 hPc hDc hKc hFc
  generalize H1 = H at hP hS ⊢
  have hK : va_K (dC, dI) vwCl [(ka1, .int), (ka2, .int)] s := hK
  have hP : va_P (dC, dI) vwCl [(h0, .inr (6, [w0, .ref a1, .ref a2, w3, w4])), (a1, .inl (ka1, 8, .inl (fun _ => 0))), (a2, .inl (ka2, 8, .inl (slF (-6) 0 8)))] H := hP
  have hD : va_D A [(h0, .inr (6, [w0, .ref a1, .ref a2, w3, w4])), (a1, .inl (ka1, 8, .inl (fun _ => 0))), (a2, .inl (ka2, 8, .inl (slF (-6) 0 8)))] := hD
  obtain rfl : r_1 = 1 := hw_1
  exact W.zret (v := 1) hx hb hr (by decide) (fun t ht hW => ⟨⟨1, (), rfl, rfl, by rw [ht]; exact hP, va_K.moved hW.alike hK, hD⟩, hS.F ht⟩) hS.2.2 dX7_fitInto_38
set_option maxHeartbeats 4000000 in
set_option maxRecDepth 100000 in
theorem c_fit6 (l : Launch) (dC : Nat → ClassId) (dI : Nat → Nat → Nat) (sz : Nat) (h0 : Nat) (w0 : Value) (a1 : Nat) (a2 : Nat) (w3 : Value) (w4 : Value) (ka1 : ClassId) (ka2 : ClassId)  : Met l yX7_fitInto (wq yX7_fitInto cX7_fitInto 5 (some .boolean)) ({ frames := 2, cells := 0, slots := 0, locals := 48 }) (va_Pc [.ref h0, .int 0, .int 6, .int 0] (pcW dC dI [(ka1, .int), (ka2, .int)] [(h0, .inr (6, [w0, .ref a1, .ref a2, w3, w4])), (a1, .inl (ka1, 8, .inl (fun _ => 0))), (a2, .inl (ka2, 8, .inl (slF (-6) 0 6)))] sz)) (va_Qi (fun (r : Int32) (_ : Unit) => r = 1) (fun _ t => va_P (dC, dI) vwCl [(h0, .inr (6, [w0, .ref a1, .ref a2, w3, w4])), (a1, .inl (ka1, 8, .inl (fun _ => 0))), (a2, .inl (ka2, 8, .inl (slF (-6) 0 8)))] t.heap ∧ va_K (dC, dI) vwCl [(ka1, .int), (ka2, .int)] t ∧ va_D (va_A [(h0, .inr (6, [w0, .ref a1, .ref a2, w3, w4])), (a1, .inl (ka1, 8, .inl (fun _ => 0))), (a2, .inl (ka2, 8, .inl (slF (-6) 0 6)))] sz) [(h0, .inr (6, [w0, .ref a1, .ref a2, w3, w4])), (a1, .inl (ka1, 8, .inl (fun _ => 0))), (a2, .inl (ka2, 8, .inl (slF (-6) 0 8)))]) (va_A [(h0, .inr (6, [w0, .ref a1, .ref a2, w3, w4])), (a1, .inl (ka1, 8, .inl (fun _ => 0))), (a2, .inl (ka2, 8, .inl (slF (-6) 0 6)))] sz)) 0 0 (va_A [(h0, .inr (6, [w0, .ref a1, .ref a2, w3, w4])), (a1, .inl (ka1, 8, .inl (fun _ => 0))), (a2, .inl (ka2, 8, .inl (slF (-6) 0 6)))] sz) := by
  refine Met.ofW (cc := cX7_fitInto) (maxL := 5) (ret := (some .boolean)) (by decide) rfl ?_
  intro p e s m args below meth c s₁ B hml hv
  obtain ⟨rfl, hsz, hN, hP, hK, hD0⟩ := hv
  have hx := B.exec
  have hb := B.bytes
  have hr := B.returns
  have hts0 := atoms_spec (ws := (wq yX7_fitInto cX7_fitInto 5 (some .boolean))) B.pre
  have hts : ∀ w ∈ BG, w.before _ s = true := fun w h => hts0 w (List.mem_cons_of_mem _ h)
  have hown : s.vm.findClass RX7 = some m.cls := findClass_of_methodNamed B.named
  have hlocks := B.notSynchronized
  subst hsz
  have hD := hD0.self (sz := s.heap.size)
  generalize hAe : va_A [(h0, .inr (6, [w0, .ref a1, .ref a2, w3, w4])), (a1, .inl (ka1, 8, .inl (fun _ => 0))), (a2, .inl (ka2, 8, .inl (slF (-6) 0 6)))] s.heap.size = A at hD ⊢
  have hA : ∀ q : Nat, s.heap.size ≤ q → A q := fun q h => by rw [← hAe]; exact Or.inr h
  have hS : va_S A s.heap s.heap [] := va_S.rf
  have hP : va_P (dC, dI) vwCl [(h0, .inr (6, [w0, .ref a1, .ref a2, w3, w4])), (a1, .inl (ka1, 8, .inl (fun _ => 0))), (a2, .inl (ka2, 8, .inl (slF (-6) 0 6)))] s.heap := hP
  have hl := lv_entry ([.ref h0, .int 0, .int 6, .int 0]) (n := 5) (Nat.le_of_ble_eq_true rfl)
  rw [lg_entry_eq]
  generalize (lg_sl ([.ref h0, .int 0, .int 6, .int 0]) ++ List.replicate (5 - (lg_sl ([.ref h0, .int 0, .int 6, .int 0])).length) Slot.unset).toArray = ls at hl ⊢
  have hl : lv_has ls 5 [(0, .ref h0), (1, .int 0), (2, .int 6), (3, .int 0)] := hl
  skip
  refine lv_iload_n hx hb dX7_fitInto_0 rfl (lv_at hl 2 rfl) ?_
  refine lv_if_lt (tgt := 10) hx hb dX7_fitInto_1 (by decide) (fun h => absurd h (by decide)) (fun _ => ?_)
  refine lv_iload_n hx hb dX7_fitInto_4 rfl (lv_at hl 2 rfl) ?_
  refine lv_bipush (v := 8) hx hb dX7_fitInto_5 (by decide) ?_
  refine lv_icmp_lt (tgt := 12) hx hb dX7_fitInto_7 (by decide) (fun _ => ?_) (fun h => absurd (by decide) h)
  refine lv_aload_n hx hb dX7_fitInto_12 rfl (lv_at hl 0 rfl) ?_
  refine va_get (D := (dC, dI)) (ci := 6) (v := .ref a2) (C := RX7) (T := TX7) (N := 5) hx hb hts inB_7 hown hK hP 0 rfl rfl 2 (by decide) (hts _ mw_1_129) (fun _ h9 => h9) rfl dX7_fitInto_13 ?_
  refine lv_iload_n hx hb dX7_fitInto_16 rfl (lv_at hl 2 rfl) ?_
  refine lv_bipush (v := (-6)) hx hb dX7_fitInto_17 (by decide) ?_
  refine va_iast hx hb hK hP hD hS 2 1 rfl rfl (show vp_in 6 8 by unfold vp_in; decide) dX7_fitInto_19 (fun H locs hP hD hS => ?_)
  rw [show upd (slF (-6) 0 6) (Int32.toNatClampNeg 6) (-6) = (slF (-6) 0 7) from slF_u _ _ 6] at hP hD
  have hP : va_P (dC, dI) vwCl [(h0, .inr (6, [w0, .ref a1, .ref a2, w3, w4])), (a1, .inl (ka1, 8, .inl (fun _ => 0))), (a2, .inl (ka2, 8, .inl (slF (-6) 0 7)))] H := hP
  have hD : va_D A [(h0, .inr (6, [w0, .ref a1, .ref a2, w3, w4])), (a1, .inl (ka1, 8, .inl (fun _ => 0))), (a2, .inl (ka2, 8, .inl (slF (-6) 0 7)))] := hD
  refine lv_aload_n hx hb dX7_fitInto_20 rfl (lv_at hl 0 rfl) ?_
  refine va_get (D := (dC, dI)) (ci := 6) (v := .ref a1) (C := RX7) (T := TX7) (N := 5) hx hb hts inB_7 hown hK hP 0 rfl rfl 1 (by decide) (hts _ mw_1_128) (fun _ h9 => h9) rfl dX7_fitInto_21 ?_
  refine lv_iload_n hx hb dX7_fitInto_24 rfl (lv_at hl 2 rfl) ?_
  refine va_iald hx hb hK hP 1 0 rfl rfl (show vp_in 6 8 by unfold vp_in; decide) dX7_fitInto_25 ?_
  refine hx_top (y := 0) rfl ?_
  refine lv_if_ne (tgt := 39) hx hb dX7_fitInto_26 (by decide) (fun h => absurd h (by decide)) (fun _ => ?_)
  refine lv_aload_n hx hb dX7_fitInto_29 rfl (lv_at hl 0 rfl) ?_
  refine lv_iload_n hx hb dX7_fitInto_30 rfl (lv_at hl 1 rfl) ?_
  refine lv_iload_n hx hb dX7_fitInto_31 rfl (lv_at hl 2 rfl) ?_
  refine lv_iconst (v := 1) hx hb dX7_fitInto_32 (by decide) ?_
  refine lv_iadd hx hb dX7_fitInto_33 ?_
  refine hx_top (y := 7) (by decide) ?_
  refine lv_iload_n hx hb dX7_fitInto_34 rfl (lv_at hl 3 rfl) ?_
  have hPc := hP.sub (ws' := [(h0, .inr (6, [w0, .ref a1, .ref a2, w3, w4])), (a1, .inl (ka1, 8, .inl (fun _ => 0))), (a2, .inl (ka2, 8, .inl (slF (-6) 0 7)))]) [0, 1, 2] rfl
  have hDc := hD.sub (ws' := [(h0, .inr (6, [w0, .ref a1, .ref a2, w3, w4])), (a1, .inl (ka1, 8, .inl (fun _ => 0))), (a2, .inl (ka2, 8, .inl (slF (-6) 0 7)))]) [0, 1, 2] (by decide) rfl
  have hKc := hK.sub (tys' := [(ka1, .int), (ka2, .int)]) [0, 1] rfl
  have hFc := va_free (wc := [(h0, .inr (6, [w0, .ref a1, .ref a2, w3, w4])), (a1, .inl (ka1, 8, .inl (fun _ => 0))), (a2, .inl (ka2, 8, .inl (slF (-6) 0 7)))]) hD hS hA [0, 1, 2] rfl
  refine va_calli (va_runV (As := [.int 0, .int 7, .int 0]) (rest := []) ⟨hx, hb, hml, hown, hts⟩ (c_fit7 l dC dI H.size h0 (w0) a1 a2 (w3) (w4) ka1 ka2) (cwV 3 hts (gV mw_3_26 mw_3_28 mw_0_7 mw_1_7 mw_3_29) rfl rfl rfl (by decide +kernel) ⟨Nat.le_of_ble_eq_true rfl, Nat.le_of_ble_eq_true rfl⟩) ⟨pcW_blind, va_recv hKc hPc (ci := 6) (q0 := 0) rfl rfl, pcW_at hPc hKc hDc hN⟩ rfl rfl hl.1 rfl (lv_room (Nat.le_of_ble_eq_true rfl)) dX7_fitInto_35 ⟨Nat.le_of_ble_eq_true rfl, Nat.le_of_ble_eq_true rfl⟩) hS (fun q _ h => hFc q h) hFc (fun r_1 u t H1 locs ht hvm hw_1 hB hz1 hk1 hS => ?_)
  obtain ⟨hP1, hK1, hD1⟩ := hB
  rw [ht] at hP1
  have hK1 := va_K.moved hvm.symm hK1
  obtain ⟨hP, hD⟩ := va_join (wr := []) (w1 := [(h0, .inr (6, [w0, .ref a1, .ref a2, w3, w4])), (a1, .inl (ka1, 8, .inl (fun _ => 0))), (a2, .inl (ka2, 8, .inl (slF (-6) 0 8)))]) hP hD [0, 1, 2] [] rfl rfl (by decide) (by decide) hk1 hFc hP1 hD1
  have hK := (hK.sub (tys' := []) [] rfl).app hK1
  clear hz1 hk1 hPc hDc hKc hFc
  generalize H1 = H at hP hS ⊢
  have hK : va_K (dC, dI) vwCl [(ka1, .int), (ka2, .int)] s := hK
  have hP : va_P (dC, dI) vwCl [(h0, .inr (6, [w0, .ref a1, .ref a2, w3, w4])), (a1, .inl (ka1, 8, .inl (fun _ => 0))), (a2, .inl (ka2, 8, .inl (slF (-6) 0 8)))] H := hP
  have hD : va_D A [(h0, .inr (6, [w0, .ref a1, .ref a2, w3, w4])), (a1, .inl (ka1, 8, .inl (fun _ => 0))), (a2, .inl (ka2, 8, .inl (slF (-6) 0 8)))] := hD
  obtain rfl : r_1 = 1 := hw_1
  exact W.zret (v := 1) hx hb hr (by decide) (fun t ht hW => ⟨⟨1, (), rfl, rfl, by rw [ht]; exact hP, va_K.moved hW.alike hK, hD⟩, hS.F ht⟩) hS.2.2 dX7_fitInto_38
set_option maxHeartbeats 4000000 in
set_option maxRecDepth 100000 in
theorem c_fit5 (l : Launch) (dC : Nat → ClassId) (dI : Nat → Nat → Nat) (sz : Nat) (h0 : Nat) (w0 : Value) (a1 : Nat) (a2 : Nat) (w3 : Value) (w4 : Value) (ka1 : ClassId) (ka2 : ClassId)  : Met l yX7_fitInto (wq yX7_fitInto cX7_fitInto 5 (some .boolean)) ({ frames := 3, cells := 0, slots := 0, locals := 72 }) (va_Pc [.ref h0, .int 0, .int 5, .int 0] (pcW dC dI [(ka1, .int), (ka2, .int)] [(h0, .inr (6, [w0, .ref a1, .ref a2, w3, w4])), (a1, .inl (ka1, 8, .inl (fun _ => 0))), (a2, .inl (ka2, 8, .inl (slF (-6) 0 5)))] sz)) (va_Qi (fun (r : Int32) (_ : Unit) => r = 1) (fun _ t => va_P (dC, dI) vwCl [(h0, .inr (6, [w0, .ref a1, .ref a2, w3, w4])), (a1, .inl (ka1, 8, .inl (fun _ => 0))), (a2, .inl (ka2, 8, .inl (slF (-6) 0 8)))] t.heap ∧ va_K (dC, dI) vwCl [(ka1, .int), (ka2, .int)] t ∧ va_D (va_A [(h0, .inr (6, [w0, .ref a1, .ref a2, w3, w4])), (a1, .inl (ka1, 8, .inl (fun _ => 0))), (a2, .inl (ka2, 8, .inl (slF (-6) 0 5)))] sz) [(h0, .inr (6, [w0, .ref a1, .ref a2, w3, w4])), (a1, .inl (ka1, 8, .inl (fun _ => 0))), (a2, .inl (ka2, 8, .inl (slF (-6) 0 8)))]) (va_A [(h0, .inr (6, [w0, .ref a1, .ref a2, w3, w4])), (a1, .inl (ka1, 8, .inl (fun _ => 0))), (a2, .inl (ka2, 8, .inl (slF (-6) 0 5)))] sz)) 0 0 (va_A [(h0, .inr (6, [w0, .ref a1, .ref a2, w3, w4])), (a1, .inl (ka1, 8, .inl (fun _ => 0))), (a2, .inl (ka2, 8, .inl (slF (-6) 0 5)))] sz) := by
  refine Met.ofW (cc := cX7_fitInto) (maxL := 5) (ret := (some .boolean)) (by decide) rfl ?_
  intro p e s m args below meth c s₁ B hml hv
  obtain ⟨rfl, hsz, hN, hP, hK, hD0⟩ := hv
  have hx := B.exec
  have hb := B.bytes
  have hr := B.returns
  have hts0 := atoms_spec (ws := (wq yX7_fitInto cX7_fitInto 5 (some .boolean))) B.pre
  have hts : ∀ w ∈ BG, w.before _ s = true := fun w h => hts0 w (List.mem_cons_of_mem _ h)
  have hown : s.vm.findClass RX7 = some m.cls := findClass_of_methodNamed B.named
  have hlocks := B.notSynchronized
  subst hsz
  have hD := hD0.self (sz := s.heap.size)
  generalize hAe : va_A [(h0, .inr (6, [w0, .ref a1, .ref a2, w3, w4])), (a1, .inl (ka1, 8, .inl (fun _ => 0))), (a2, .inl (ka2, 8, .inl (slF (-6) 0 5)))] s.heap.size = A at hD ⊢
  have hA : ∀ q : Nat, s.heap.size ≤ q → A q := fun q h => by rw [← hAe]; exact Or.inr h
  have hS : va_S A s.heap s.heap [] := va_S.rf
  have hP : va_P (dC, dI) vwCl [(h0, .inr (6, [w0, .ref a1, .ref a2, w3, w4])), (a1, .inl (ka1, 8, .inl (fun _ => 0))), (a2, .inl (ka2, 8, .inl (slF (-6) 0 5)))] s.heap := hP
  have hl := lv_entry ([.ref h0, .int 0, .int 5, .int 0]) (n := 5) (Nat.le_of_ble_eq_true rfl)
  rw [lg_entry_eq]
  generalize (lg_sl ([.ref h0, .int 0, .int 5, .int 0]) ++ List.replicate (5 - (lg_sl ([.ref h0, .int 0, .int 5, .int 0])).length) Slot.unset).toArray = ls at hl ⊢
  have hl : lv_has ls 5 [(0, .ref h0), (1, .int 0), (2, .int 5), (3, .int 0)] := hl
  skip
  refine lv_iload_n hx hb dX7_fitInto_0 rfl (lv_at hl 2 rfl) ?_
  refine lv_if_lt (tgt := 10) hx hb dX7_fitInto_1 (by decide) (fun h => absurd h (by decide)) (fun _ => ?_)
  refine lv_iload_n hx hb dX7_fitInto_4 rfl (lv_at hl 2 rfl) ?_
  refine lv_bipush (v := 8) hx hb dX7_fitInto_5 (by decide) ?_
  refine lv_icmp_lt (tgt := 12) hx hb dX7_fitInto_7 (by decide) (fun _ => ?_) (fun h => absurd (by decide) h)
  refine lv_aload_n hx hb dX7_fitInto_12 rfl (lv_at hl 0 rfl) ?_
  refine va_get (D := (dC, dI)) (ci := 6) (v := .ref a2) (C := RX7) (T := TX7) (N := 5) hx hb hts inB_7 hown hK hP 0 rfl rfl 2 (by decide) (hts _ mw_1_129) (fun _ h9 => h9) rfl dX7_fitInto_13 ?_
  refine lv_iload_n hx hb dX7_fitInto_16 rfl (lv_at hl 2 rfl) ?_
  refine lv_bipush (v := (-6)) hx hb dX7_fitInto_17 (by decide) ?_
  refine va_iast hx hb hK hP hD hS 2 1 rfl rfl (show vp_in 5 8 by unfold vp_in; decide) dX7_fitInto_19 (fun H locs hP hD hS => ?_)
  rw [show upd (slF (-6) 0 5) (Int32.toNatClampNeg 5) (-6) = (slF (-6) 0 6) from slF_u _ _ 5] at hP hD
  have hP : va_P (dC, dI) vwCl [(h0, .inr (6, [w0, .ref a1, .ref a2, w3, w4])), (a1, .inl (ka1, 8, .inl (fun _ => 0))), (a2, .inl (ka2, 8, .inl (slF (-6) 0 6)))] H := hP
  have hD : va_D A [(h0, .inr (6, [w0, .ref a1, .ref a2, w3, w4])), (a1, .inl (ka1, 8, .inl (fun _ => 0))), (a2, .inl (ka2, 8, .inl (slF (-6) 0 6)))] := hD
  refine lv_aload_n hx hb dX7_fitInto_20 rfl (lv_at hl 0 rfl) ?_
  refine va_get (D := (dC, dI)) (ci := 6) (v := .ref a1) (C := RX7) (T := TX7) (N := 5) hx hb hts inB_7 hown hK hP 0 rfl rfl 1 (by decide) (hts _ mw_1_128) (fun _ h9 => h9) rfl dX7_fitInto_21 ?_
  refine lv_iload_n hx hb dX7_fitInto_24 rfl (lv_at hl 2 rfl) ?_
  refine va_iald hx hb hK hP 1 0 rfl rfl (show vp_in 5 8 by unfold vp_in; decide) dX7_fitInto_25 ?_
  refine hx_top (y := 0) rfl ?_
  refine lv_if_ne (tgt := 39) hx hb dX7_fitInto_26 (by decide) (fun h => absurd h (by decide)) (fun _ => ?_)
  refine lv_aload_n hx hb dX7_fitInto_29 rfl (lv_at hl 0 rfl) ?_
  refine lv_iload_n hx hb dX7_fitInto_30 rfl (lv_at hl 1 rfl) ?_
  refine lv_iload_n hx hb dX7_fitInto_31 rfl (lv_at hl 2 rfl) ?_
  refine lv_iconst (v := 1) hx hb dX7_fitInto_32 (by decide) ?_
  refine lv_iadd hx hb dX7_fitInto_33 ?_
  refine hx_top (y := 6) (by decide) ?_
  refine lv_iload_n hx hb dX7_fitInto_34 rfl (lv_at hl 3 rfl) ?_
  have hPc := hP.sub (ws' := [(h0, .inr (6, [w0, .ref a1, .ref a2, w3, w4])), (a1, .inl (ka1, 8, .inl (fun _ => 0))), (a2, .inl (ka2, 8, .inl (slF (-6) 0 6)))]) [0, 1, 2] rfl
  have hDc := hD.sub (ws' := [(h0, .inr (6, [w0, .ref a1, .ref a2, w3, w4])), (a1, .inl (ka1, 8, .inl (fun _ => 0))), (a2, .inl (ka2, 8, .inl (slF (-6) 0 6)))]) [0, 1, 2] (by decide) rfl
  have hKc := hK.sub (tys' := [(ka1, .int), (ka2, .int)]) [0, 1] rfl
  have hFc := va_free (wc := [(h0, .inr (6, [w0, .ref a1, .ref a2, w3, w4])), (a1, .inl (ka1, 8, .inl (fun _ => 0))), (a2, .inl (ka2, 8, .inl (slF (-6) 0 6)))]) hD hS hA [0, 1, 2] rfl
  refine va_calli (va_runV (As := [.int 0, .int 6, .int 0]) (rest := []) ⟨hx, hb, hml, hown, hts⟩ (c_fit6 l dC dI H.size h0 (w0) a1 a2 (w3) (w4) ka1 ka2) (cwV 3 hts (gV mw_3_26 mw_3_28 mw_0_7 mw_1_7 mw_3_29) rfl rfl rfl (by decide +kernel) ⟨Nat.le_of_ble_eq_true rfl, Nat.le_of_ble_eq_true rfl⟩) ⟨pcW_blind, va_recv hKc hPc (ci := 6) (q0 := 0) rfl rfl, pcW_at hPc hKc hDc hN⟩ rfl rfl hl.1 rfl (lv_room (Nat.le_of_ble_eq_true rfl)) dX7_fitInto_35 ⟨Nat.le_of_ble_eq_true rfl, Nat.le_of_ble_eq_true rfl⟩) hS (fun q _ h => hFc q h) hFc (fun r_1 u t H1 locs ht hvm hw_1 hB hz1 hk1 hS => ?_)
  obtain ⟨hP1, hK1, hD1⟩ := hB
  rw [ht] at hP1
  have hK1 := va_K.moved hvm.symm hK1
  obtain ⟨hP, hD⟩ := va_join (wr := []) (w1 := [(h0, .inr (6, [w0, .ref a1, .ref a2, w3, w4])), (a1, .inl (ka1, 8, .inl (fun _ => 0))), (a2, .inl (ka2, 8, .inl (slF (-6) 0 8)))]) hP hD [0, 1, 2] [] rfl rfl (by decide) (by decide) hk1 hFc hP1 hD1
  have hK := (hK.sub (tys' := []) [] rfl).app hK1
  clear hz1 hk1 hPc hDc hKc hFc
  generalize H1 = H at hP hS ⊢
  have hK : va_K (dC, dI) vwCl [(ka1, .int), (ka2, .int)] s := hK
  have hP : va_P (dC, dI) vwCl [(h0, .inr (6, [w0, .ref a1, .ref a2, w3, w4])), (a1, .inl (ka1, 8, .inl (fun _ => 0))), (a2, .inl (ka2, 8, .inl (slF (-6) 0 8)))] H := hP
  have hD : va_D A [(h0, .inr (6, [w0, .ref a1, .ref a2, w3, w4])), (a1, .inl (ka1, 8, .inl (fun _ => 0))), (a2, .inl (ka2, 8, .inl (slF (-6) 0 8)))] := hD
  obtain rfl : r_1 = 1 := hw_1
  exact W.zret (v := 1) hx hb hr (by decide) (fun t ht hW => ⟨⟨1, (), rfl, rfl, by rw [ht]; exact hP, va_K.moved hW.alike hK, hD⟩, hS.F ht⟩) hS.2.2 dX7_fitInto_38
set_option maxHeartbeats 4000000 in
set_option maxRecDepth 100000 in
theorem c_fit4 (l : Launch) (dC : Nat → ClassId) (dI : Nat → Nat → Nat) (sz : Nat) (h0 : Nat) (w0 : Value) (a1 : Nat) (a2 : Nat) (w3 : Value) (w4 : Value) (ka1 : ClassId) (ka2 : ClassId)  : Met l yX7_fitInto (wq yX7_fitInto cX7_fitInto 5 (some .boolean)) ({ frames := 4, cells := 0, slots := 0, locals := 96 }) (va_Pc [.ref h0, .int 0, .int 4, .int 0] (pcW dC dI [(ka1, .int), (ka2, .int)] [(h0, .inr (6, [w0, .ref a1, .ref a2, w3, w4])), (a1, .inl (ka1, 8, .inl (fun _ => 0))), (a2, .inl (ka2, 8, .inl (slF (-6) 0 4)))] sz)) (va_Qi (fun (r : Int32) (_ : Unit) => r = 1) (fun _ t => va_P (dC, dI) vwCl [(h0, .inr (6, [w0, .ref a1, .ref a2, w3, w4])), (a1, .inl (ka1, 8, .inl (fun _ => 0))), (a2, .inl (ka2, 8, .inl (slF (-6) 0 8)))] t.heap ∧ va_K (dC, dI) vwCl [(ka1, .int), (ka2, .int)] t ∧ va_D (va_A [(h0, .inr (6, [w0, .ref a1, .ref a2, w3, w4])), (a1, .inl (ka1, 8, .inl (fun _ => 0))), (a2, .inl (ka2, 8, .inl (slF (-6) 0 4)))] sz) [(h0, .inr (6, [w0, .ref a1, .ref a2, w3, w4])), (a1, .inl (ka1, 8, .inl (fun _ => 0))), (a2, .inl (ka2, 8, .inl (slF (-6) 0 8)))]) (va_A [(h0, .inr (6, [w0, .ref a1, .ref a2, w3, w4])), (a1, .inl (ka1, 8, .inl (fun _ => 0))), (a2, .inl (ka2, 8, .inl (slF (-6) 0 4)))] sz)) 0 0 (va_A [(h0, .inr (6, [w0, .ref a1, .ref a2, w3, w4])), (a1, .inl (ka1, 8, .inl (fun _ => 0))), (a2, .inl (ka2, 8, .inl (slF (-6) 0 4)))] sz) := by
  refine Met.ofW (cc := cX7_fitInto) (maxL := 5) (ret := (some .boolean)) (by decide) rfl ?_
  intro p e s m args below meth c s₁ B hml hv
  obtain ⟨rfl, hsz, hN, hP, hK, hD0⟩ := hv
  have hx := B.exec
  have hb := B.bytes
  have hr := B.returns
  have hts0 := atoms_spec (ws := (wq yX7_fitInto cX7_fitInto 5 (some .boolean))) B.pre
  have hts : ∀ w ∈ BG, w.before _ s = true := fun w h => hts0 w (List.mem_cons_of_mem _ h)
  have hown : s.vm.findClass RX7 = some m.cls := findClass_of_methodNamed B.named
  have hlocks := B.notSynchronized
  subst hsz
  have hD := hD0.self (sz := s.heap.size)
  generalize hAe : va_A [(h0, .inr (6, [w0, .ref a1, .ref a2, w3, w4])), (a1, .inl (ka1, 8, .inl (fun _ => 0))), (a2, .inl (ka2, 8, .inl (slF (-6) 0 4)))] s.heap.size = A at hD ⊢
  have hA : ∀ q : Nat, s.heap.size ≤ q → A q := fun q h => by rw [← hAe]; exact Or.inr h
  have hS : va_S A s.heap s.heap [] := va_S.rf
  have hP : va_P (dC, dI) vwCl [(h0, .inr (6, [w0, .ref a1, .ref a2, w3, w4])), (a1, .inl (ka1, 8, .inl (fun _ => 0))), (a2, .inl (ka2, 8, .inl (slF (-6) 0 4)))] s.heap := hP
  have hl := lv_entry ([.ref h0, .int 0, .int 4, .int 0]) (n := 5) (Nat.le_of_ble_eq_true rfl)
  rw [lg_entry_eq]
  generalize (lg_sl ([.ref h0, .int 0, .int 4, .int 0]) ++ List.replicate (5 - (lg_sl ([.ref h0, .int 0, .int 4, .int 0])).length) Slot.unset).toArray = ls at hl ⊢
  have hl : lv_has ls 5 [(0, .ref h0), (1, .int 0), (2, .int 4), (3, .int 0)] := hl
  skip
  refine lv_iload_n hx hb dX7_fitInto_0 rfl (lv_at hl 2 rfl) ?_
  refine lv_if_lt (tgt := 10) hx hb dX7_fitInto_1 (by decide) (fun h => absurd h (by decide)) (fun _ => ?_)
  refine lv_iload_n hx hb dX7_fitInto_4 rfl (lv_at hl 2 rfl) ?_
  refine lv_bipush (v := 8) hx hb dX7_fitInto_5 (by decide) ?_
  refine lv_icmp_lt (tgt := 12) hx hb dX7_fitInto_7 (by decide) (fun _ => ?_) (fun h => absurd (by decide) h)
  refine lv_aload_n hx hb dX7_fitInto_12 rfl (lv_at hl 0 rfl) ?_
  refine va_get (D := (dC, dI)) (ci := 6) (v := .ref a2) (C := RX7) (T := TX7) (N := 5) hx hb hts inB_7 hown hK hP 0 rfl rfl 2 (by decide) (hts _ mw_1_129) (fun _ h9 => h9) rfl dX7_fitInto_13 ?_
  refine lv_iload_n hx hb dX7_fitInto_16 rfl (lv_at hl 2 rfl) ?_
  refine lv_bipush (v := (-6)) hx hb dX7_fitInto_17 (by decide) ?_
  refine va_iast hx hb hK hP hD hS 2 1 rfl rfl (show vp_in 4 8 by unfold vp_in; decide) dX7_fitInto_19 (fun H locs hP hD hS => ?_)
  rw [show upd (slF (-6) 0 4) (Int32.toNatClampNeg 4) (-6) = (slF (-6) 0 5) from slF_u _ _ 4] at hP hD
  have hP : va_P (dC, dI) vwCl [(h0, .inr (6, [w0, .ref a1, .ref a2, w3, w4])), (a1, .inl (ka1, 8, .inl (fun _ => 0))), (a2, .inl (ka2, 8, .inl (slF (-6) 0 5)))] H := hP
  have hD : va_D A [(h0, .inr (6, [w0, .ref a1, .ref a2, w3, w4])), (a1, .inl (ka1, 8, .inl (fun _ => 0))), (a2, .inl (ka2, 8, .inl (slF (-6) 0 5)))] := hD
  refine lv_aload_n hx hb dX7_fitInto_20 rfl (lv_at hl 0 rfl) ?_
  refine va_get (D := (dC, dI)) (ci := 6) (v := .ref a1) (C := RX7) (T := TX7) (N := 5) hx hb hts inB_7 hown hK hP 0 rfl rfl 1 (by decide) (hts _ mw_1_128) (fun _ h9 => h9) rfl dX7_fitInto_21 ?_
  refine lv_iload_n hx hb dX7_fitInto_24 rfl (lv_at hl 2 rfl) ?_
  refine va_iald hx hb hK hP 1 0 rfl rfl (show vp_in 4 8 by unfold vp_in; decide) dX7_fitInto_25 ?_
  refine hx_top (y := 0) rfl ?_
  refine lv_if_ne (tgt := 39) hx hb dX7_fitInto_26 (by decide) (fun h => absurd h (by decide)) (fun _ => ?_)
  refine lv_aload_n hx hb dX7_fitInto_29 rfl (lv_at hl 0 rfl) ?_
  refine lv_iload_n hx hb dX7_fitInto_30 rfl (lv_at hl 1 rfl) ?_
  refine lv_iload_n hx hb dX7_fitInto_31 rfl (lv_at hl 2 rfl) ?_
  refine lv_iconst (v := 1) hx hb dX7_fitInto_32 (by decide) ?_
  refine lv_iadd hx hb dX7_fitInto_33 ?_
  refine hx_top (y := 5) (by decide) ?_
  refine lv_iload_n hx hb dX7_fitInto_34 rfl (lv_at hl 3 rfl) ?_
  have hPc := hP.sub (ws' := [(h0, .inr (6, [w0, .ref a1, .ref a2, w3, w4])), (a1, .inl (ka1, 8, .inl (fun _ => 0))), (a2, .inl (ka2, 8, .inl (slF (-6) 0 5)))]) [0, 1, 2] rfl
  have hDc := hD.sub (ws' := [(h0, .inr (6, [w0, .ref a1, .ref a2, w3, w4])), (a1, .inl (ka1, 8, .inl (fun _ => 0))), (a2, .inl (ka2, 8, .inl (slF (-6) 0 5)))]) [0, 1, 2] (by decide) rfl
  have hKc := hK.sub (tys' := [(ka1, .int), (ka2, .int)]) [0, 1] rfl
  have hFc := va_free (wc := [(h0, .inr (6, [w0, .ref a1, .ref a2, w3, w4])), (a1, .inl (ka1, 8, .inl (fun _ => 0))), (a2, .inl (ka2, 8, .inl (slF (-6) 0 5)))]) hD hS hA [0, 1, 2] rfl
  refine va_calli (va_runV (As := [.int 0, .int 5, .int 0]) (rest := []) ⟨hx, hb, hml, hown, hts⟩ (c_fit5 l dC dI H.size h0 (w0) a1 a2 (w3) (w4) ka1 ka2) (cwV 3 hts (gV mw_3_26 mw_3_28 mw_0_7 mw_1_7 mw_3_29) rfl rfl rfl (by decide +kernel) ⟨Nat.le_of_ble_eq_true rfl, Nat.le_of_ble_eq_true rfl⟩) ⟨pcW_blind, va_recv hKc hPc (ci := 6) (q0 := 0) rfl rfl, pcW_at hPc hKc hDc hN⟩ rfl rfl hl.1 rfl (lv_room (Nat.le_of_ble_eq_true rfl)) dX7_fitInto_35 ⟨Nat.le_of_ble_eq_true rfl, Nat.le_of_ble_eq_true rfl⟩) hS (fun q _ h => hFc q h) hFc (fun r_1 u t H1 locs ht hvm hw_1 hB hz1 hk1 hS => ?_)
  obtain ⟨hP1, hK1, hD1⟩ := hB
  rw [ht] at hP1
  have hK1 := va_K.moved hvm.symm hK1
  obtain ⟨hP, hD⟩ := va_join (wr := []) (w1 := [(h0, .inr (6, [w0, .ref a1, .ref a2, w3, w4])), (a1, .inl (ka1, 8, .inl (fun _ => 0))), (a2, .inl (ka2, 8, .inl (slF (-6) 0 8)))]) hP hD [0, 1, 2] [] rfl rfl (by decide) (by decide) hk1 hFc hP1 hD1
  have hK := (hK.sub (tys' := []) [] rfl).app hK1
  clear hz1 hk1 hPc hDc hKc hFc
  generalize H1 = H at hP hS ⊢
  have hK : va_K (dC, dI) vwCl [(ka1, .int), (ka2, .int)] s := hK
  have hP : va_P (dC, dI) vwCl [(h0, .inr (6, [w0, .ref a1, .ref a2, w3, w4])), (a1, .inl (ka1, 8, .inl (fun _ => 0))), (a2, .inl (ka2, 8, .inl (slF (-6) 0 8)))] H := hP
  have hD : va_D A [(h0, .inr (6, [w0, .ref a1, .ref a2, w3, w4])), (a1, .inl (ka1, 8, .inl (fun _ => 0))), (a2, .inl (ka2, 8, .inl (slF (-6) 0 8)))] := hD
  obtain rfl : r_1 = 1 := hw_1
  exact W.zret (v := 1) hx hb hr (by decide) (fun t ht hW => ⟨⟨1, (), rfl, rfl, by rw [ht]; exact hP, va_K.moved hW.alike hK, hD⟩, hS.F ht⟩) hS.2.2 dX7_fitInto_38
set_option maxHeartbeats 4000000 in
set_option maxRecDepth 100000 in
theorem c_fit3 (l : Launch) (dC : Nat → ClassId) (dI : Nat → Nat → Nat) (sz : Nat) (h0 : Nat) (w0 : Value) (a1 : Nat) (a2 : Nat) (w3 : Value) (w4 : Value) (ka1 : ClassId) (ka2 : ClassId)  : Met l yX7_fitInto (wq yX7_fitInto cX7_fitInto 5 (some .boolean)) ({ frames := 5, cells := 0, slots := 0, locals := 120 }) (va_Pc [.ref h0, .int 0, .int 3, .int 0] (pcW dC dI [(ka1, .int), (ka2, .int)] [(h0, .inr (6, [w0, .ref a1, .ref a2, w3, w4])), (a1, .inl (ka1, 8, .inl (fun _ => 0))), (a2, .inl (ka2, 8, .inl (slF (-6) 0 3)))] sz)) (va_Qi (fun (r : Int32) (_ : Unit) => r = 1) (fun _ t => va_P (dC, dI) vwCl [(h0, .inr (6, [w0, .ref a1, .ref a2, w3, w4])), (a1, .inl (ka1, 8, .inl (fun _ => 0))), (a2, .inl (ka2, 8, .inl (slF (-6) 0 8)))] t.heap ∧ va_K (dC, dI) vwCl [(ka1, .int), (ka2, .int)] t ∧ va_D (va_A [(h0, .inr (6, [w0, .ref a1, .ref a2, w3, w4])), (a1, .inl (ka1, 8, .inl (fun _ => 0))), (a2, .inl (ka2, 8, .inl (slF (-6) 0 3)))] sz) [(h0, .inr (6, [w0, .ref a1, .ref a2, w3, w4])), (a1, .inl (ka1, 8, .inl (fun _ => 0))), (a2, .inl (ka2, 8, .inl (slF (-6) 0 8)))]) (va_A [(h0, .inr (6, [w0, .ref a1, .ref a2, w3, w4])), (a1, .inl (ka1, 8, .inl (fun _ => 0))), (a2, .inl (ka2, 8, .inl (slF (-6) 0 3)))] sz)) 0 0 (va_A [(h0, .inr (6, [w0, .ref a1, .ref a2, w3, w4])), (a1, .inl (ka1, 8, .inl (fun _ => 0))), (a2, .inl (ka2, 8, .inl (slF (-6) 0 3)))] sz) := by
  refine Met.ofW (cc := cX7_fitInto) (maxL := 5) (ret := (some .boolean)) (by decide) rfl ?_
  intro p e s m args below meth c s₁ B hml hv
  obtain ⟨rfl, hsz, hN, hP, hK, hD0⟩ := hv
  have hx := B.exec
  have hb := B.bytes
  have hr := B.returns
  have hts0 := atoms_spec (ws := (wq yX7_fitInto cX7_fitInto 5 (some .boolean))) B.pre
  have hts : ∀ w ∈ BG, w.before _ s = true := fun w h => hts0 w (List.mem_cons_of_mem _ h)
  have hown : s.vm.findClass RX7 = some m.cls := findClass_of_methodNamed B.named
  have hlocks := B.notSynchronized
  subst hsz
  have hD := hD0.self (sz := s.heap.size)
  generalize hAe : va_A [(h0, .inr (6, [w0, .ref a1, .ref a2, w3, w4])), (a1, .inl (ka1, 8, .inl (fun _ => 0))), (a2, .inl (ka2, 8, .inl (slF (-6) 0 3)))] s.heap.size = A at hD ⊢
  have hA : ∀ q : Nat, s.heap.size ≤ q → A q := fun q h => by rw [← hAe]; exact Or.inr h
  have hS : va_S A s.heap s.heap [] := va_S.rf
  have hP : va_P (dC, dI) vwCl [(h0, .inr (6, [w0, .ref a1, .ref a2, w3, w4])), (a1, .inl (ka1, 8, .inl (fun _ => 0))), (a2, .inl (ka2, 8, .inl (slF (-6) 0 3)))] s.heap := hP
  have hl := lv_entry ([.ref h0, .int 0, .int 3, .int 0]) (n := 5) (Nat.le_of_ble_eq_true rfl)
  rw [lg_entry_eq]
  generalize (lg_sl ([.ref h0, .int 0, .int 3, .int 0]) ++ List.replicate (5 - (lg_sl ([.ref h0, .int 0, .int 3, .int 0])).length) Slot.unset).toArray = ls at hl ⊢
  have hl : lv_has ls 5 [(0, .ref h0), (1, .int 0), (2, .int 3), (3, .int 0)] := hl
  skip
  refine lv_iload_n hx hb dX7_fitInto_0 rfl (lv_at hl 2 rfl) ?_
  refine lv_if_lt (tgt := 10) hx hb dX7_fitInto_1 (by decide) (fun h => absurd h (by decide)) (fun _ => ?_)
  refine lv_iload_n hx hb dX7_fitInto_4 rfl (lv_at hl 2 rfl) ?_
  refine lv_bipush (v := 8) hx hb dX7_fitInto_5 (by decide) ?_
  refine lv_icmp_lt (tgt := 12) hx hb dX7_fitInto_7 (by decide) (fun _ => ?_) (fun h => absurd (by decide) h)
  refine lv_aload_n hx hb dX7_fitInto_12 rfl (lv_at hl 0 rfl) ?_
  refine va_get (D := (dC, dI)) (ci := 6) (v := .ref a2) (C := RX7) (T := TX7) (N := 5) hx hb hts inB_7 hown hK hP 0 rfl rfl 2 (by decide) (hts _ mw_1_129) (fun _ h9 => h9) rfl dX7_fitInto_13 ?_
  refine lv_iload_n hx hb dX7_fitInto_16 rfl (lv_at hl 2 rfl) ?_
  refine lv_bipush (v := (-6)) hx hb dX7_fitInto_17 (by decide) ?_
  refine va_iast hx hb hK hP hD hS 2 1 rfl rfl (show vp_in 3 8 by unfold vp_in; decide) dX7_fitInto_19 (fun H locs hP hD hS => ?_)
  rw [show upd (slF (-6) 0 3) (Int32.toNatClampNeg 3) (-6) = (slF (-6) 0 4) from slF_u _ _ 3] at hP hD
  have hP : va_P (dC, dI) vwCl [(h0, .inr (6, [w0, .ref a1, .ref a2, w3, w4])), (a1, .inl (ka1, 8, .inl (fun _ => 0))), (a2, .inl (ka2, 8, .inl (slF (-6) 0 4)))] H := hP
  have hD : va_D A [(h0, .inr (6, [w0, .ref a1, .ref a2, w3, w4])), (a1, .inl (ka1, 8, .inl (fun _ => 0))), (a2, .inl (ka2, 8, .inl (slF (-6) 0 4)))] := hD
  refine lv_aload_n hx hb dX7_fitInto_20 rfl (lv_at hl 0 rfl) ?_
  refine va_get (D := (dC, dI)) (ci := 6) (v := .ref a1) (C := RX7) (T := TX7) (N := 5) hx hb hts inB_7 hown hK hP 0 rfl rfl 1 (by decide) (hts _ mw_1_128) (fun _ h9 => h9) rfl dX7_fitInto_21 ?_
  refine lv_iload_n hx hb dX7_fitInto_24 rfl (lv_at hl 2 rfl) ?_
  refine va_iald hx hb hK hP 1 0 rfl rfl (show vp_in 3 8 by unfold vp_in; decide) dX7_fitInto_25 ?_
  refine hx_top (y := 0) rfl ?_
  refine lv_if_ne (tgt := 39) hx hb dX7_fitInto_26 (by decide) (fun h => absurd h (by decide)) (fun _ => ?_)
  refine lv_aload_n hx hb dX7_fitInto_29 rfl (lv_at hl 0 rfl) ?_
  refine lv_iload_n hx hb dX7_fitInto_30 rfl (lv_at hl 1 rfl) ?_
  refine lv_iload_n hx hb dX7_fitInto_31 rfl (lv_at hl 2 rfl) ?_
  refine lv_iconst (v := 1) hx hb dX7_fitInto_32 (by decide) ?_
  refine lv_iadd hx hb dX7_fitInto_33 ?_
  refine hx_top (y := 4) (by decide) ?_
  refine lv_iload_n hx hb dX7_fitInto_34 rfl (lv_at hl 3 rfl) ?_
  have hPc := hP.sub (ws' := [(h0, .inr (6, [w0, .ref a1, .ref a2, w3, w4])), (a1, .inl (ka1, 8, .inl (fun _ => 0))), (a2, .inl (ka2, 8, .inl (slF (-6) 0 4)))]) [0, 1, 2] rfl
  have hDc := hD.sub (ws' := [(h0, .inr (6, [w0, .ref a1, .ref a2, w3, w4])), (a1, .inl (ka1, 8, .inl (fun _ => 0))), (a2, .inl (ka2, 8, .inl (slF (-6) 0 4)))]) [0, 1, 2] (by decide) rfl
  have hKc := hK.sub (tys' := [(ka1, .int), (ka2, .int)]) [0, 1] rfl
  have hFc := va_free (wc := [(h0, .inr (6, [w0, .ref a1, .ref a2, w3, w4])), (a1, .inl (ka1, 8, .inl (fun _ => 0))), (a2, .inl (ka2, 8, .inl (slF (-6) 0 4)))]) hD hS hA [0, 1, 2] rfl
  refine va_calli (va_runV (As := [.int 0, .int 4, .int 0]) (rest := []) ⟨hx, hb, hml, hown, hts⟩ (c_fit4 l dC dI H.size h0 (w0) a1 a2 (w3) (w4) ka1 ka2) (cwV 3 hts (gV mw_3_26 mw_3_28 mw_0_7 mw_1_7 mw_3_29) rfl rfl rfl (by decide +kernel) ⟨Nat.le_of_ble_eq_true rfl, Nat.le_of_ble_eq_true rfl⟩) ⟨pcW_blind, va_recv hKc hPc (ci := 6) (q0 := 0) rfl rfl, pcW_at hPc hKc hDc hN⟩ rfl rfl hl.1 rfl (lv_room (Nat.le_of_ble_eq_true rfl)) dX7_fitInto_35 ⟨Nat.le_of_ble_eq_true rfl, Nat.le_of_ble_eq_true rfl⟩) hS (fun q _ h => hFc q h) hFc (fun r_1 u t H1 locs ht hvm hw_1 hB hz1 hk1 hS => ?_)
  obtain ⟨hP1, hK1, hD1⟩ := hB
  rw [ht] at hP1
  have hK1 := va_K.moved hvm.symm hK1
  obtain ⟨hP, hD⟩ := va_join (wr := []) (w1 := [(h0, .inr (6, [w0, .ref a1, .ref a2, w3, w4])), (a1, .inl (ka1, 8, .inl (fun _ => 0))), (a2, .inl (ka2, 8, .inl (slF (-6) 0 8)))]) hP hD [0, 1, 2] [] rfl rfl (by decide) (by decide) hk1 hFc hP1 hD1
  have hK := (hK.sub (tys' := []) [] rfl).app hK1
  clear hz1 hk1 hPc hDc hKc hFc
  generalize H1 = H at hP hS ⊢
  have hK : va_K (dC, dI) vwCl [(ka1, .int), (ka2, .int)] s := hK
  have hP : va_P (dC, dI) vwCl [(h0, .inr (6, [w0, .ref a1, .ref a2, w3, w4])), (a1, .inl (ka1, 8, .inl (fun _ => 0))), (a2, .inl (ka2, 8, .inl (slF (-6) 0 8)))] H := hP
  have hD : va_D A [(h0, .inr (6, [w0, .ref a1, .ref a2, w3, w4])), (a1, .inl (ka1, 8, .inl (fun _ => 0))), (a2, .inl (ka2, 8, .inl (slF (-6) 0 8)))] := hD
  obtain rfl : r_1 = 1 := hw_1
  exact W.zret (v := 1) hx hb hr (by decide) (fun t ht hW => ⟨⟨1, (), rfl, rfl, by rw [ht]; exact hP, va_K.moved hW.alike hK, hD⟩, hS.F ht⟩) hS.2.2 dX7_fitInto_38
set_option maxHeartbeats 4000000 in
set_option maxRecDepth 100000 in
theorem c_fit2 (l : Launch) (dC : Nat → ClassId) (dI : Nat → Nat → Nat) (sz : Nat) (h0 : Nat) (w0 : Value) (a1 : Nat) (a2 : Nat) (w3 : Value) (w4 : Value) (ka1 : ClassId) (ka2 : ClassId)  : Met l yX7_fitInto (wq yX7_fitInto cX7_fitInto 5 (some .boolean)) ({ frames := 6, cells := 0, slots := 0, locals := 144 }) (va_Pc [.ref h0, .int 0, .int 2, .int 0] (pcW dC dI [(ka1, .int), (ka2, .int)] [(h0, .inr (6, [w0, .ref a1, .ref a2, w3, w4])), (a1, .inl (ka1, 8, .inl (fun _ => 0))), (a2, .inl (ka2, 8, .inl (slF (-6) 0 2)))] sz)) (va_Qi (fun (r : Int32) (_ : Unit) => r = 1) (fun _ t => va_P (dC, dI) vwCl [(h0, .inr (6, [w0, .ref a1, .ref a2, w3, w4])), (a1, .inl (ka1, 8, .inl (fun _ => 0))), (a2, .inl (ka2, 8, .inl (slF (-6) 0 8)))] t.heap ∧ va_K (dC, dI) vwCl [(ka1, .int), (ka2, .int)] t ∧ va_D (va_A [(h0, .inr (6, [w0, .ref a1, .ref a2, w3, w4])), (a1, .inl (ka1, 8, .inl (fun _ => 0))), (a2, .inl (ka2, 8, .inl (slF (-6) 0 2)))] sz) [(h0, .inr (6, [w0, .ref a1, .ref a2, w3, w4])), (a1, .inl (ka1, 8, .inl (fun _ => 0))), (a2, .inl (ka2, 8, .inl (slF (-6) 0 8)))]) (va_A [(h0, .inr (6, [w0, .ref a1, .ref a2, w3, w4])), (a1, .inl (ka1, 8, .inl (fun _ => 0))), (a2, .inl (ka2, 8, .inl (slF (-6) 0 2)))] sz)) 0 0 (va_A [(h0, .inr (6, [w0, .ref a1, .ref a2, w3, w4])), (a1, .inl (ka1, 8, .inl (fun _ => 0))), (a2, .inl (ka2, 8, .inl (slF (-6) 0 2)))] sz) := by
  refine Met.ofW (cc := cX7_fitInto) (maxL := 5) (ret := (some .boolean)) (by decide) rfl ?_
  intro p e s m args below meth c s₁ B hml hv
  obtain ⟨rfl, hsz, hN, hP, hK, hD0⟩ := hv
  have hx := B.exec
  have hb := B.bytes
  have hr := B.returns
  have hts0 := atoms_spec (ws := (wq yX7_fitInto cX7_fitInto 5 (some .boolean))) B.pre
  have hts : ∀ w ∈ BG, w.before _ s = true := fun w h => hts0 w (List.mem_cons_of_mem _ h)
  have hown : s.vm.findClass RX7 = some m.cls := findClass_of_methodNamed B.named
  have hlocks := B.notSynchronized
  subst hsz
  have hD := hD0.self (sz := s.heap.size)
  generalize hAe : va_A [(h0, .inr (6, [w0, .ref a1, .ref a2, w3, w4])), (a1, .inl (ka1, 8, .inl (fun _ => 0))), (a2, .inl (ka2, 8, .inl (slF (-6) 0 2)))] s.heap.size = A at hD ⊢
  have hA : ∀ q : Nat, s.heap.size ≤ q → A q := fun q h => by rw [← hAe]; exact Or.inr h
  have hS : va_S A s.heap s.heap [] := va_S.rf
  have hP : va_P (dC, dI) vwCl [(h0, .inr (6, [w0, .ref a1, .ref a2, w3, w4])), (a1, .inl (ka1, 8, .inl (fun _ => 0))), (a2, .inl (ka2, 8, .inl (slF (-6) 0 2)))] s.heap := hP
  have hl := lv_entry ([.ref h0, .int 0, .int 2, .int 0]) (n := 5) (Nat.le_of_ble_eq_true rfl)
  rw [lg_entry_eq]
  generalize (lg_sl ([.ref h0, .int 0, .int 2, .int 0]) ++ List.replicate (5 - (lg_sl ([.ref h0, .int 0, .int 2, .int 0])).length) Slot.unset).toArray = ls at hl ⊢
  have hl : lv_has ls 5 [(0, .ref h0), (1, .int 0), (2, .int 2), (3, .int 0)] := hl
  skip
  refine lv_iload_n hx hb dX7_fitInto_0 rfl (lv_at hl 2 rfl) ?_
  refine lv_if_lt (tgt := 10) hx hb dX7_fitInto_1 (by decide) (fun h => absurd h (by decide)) (fun _ => ?_)
  refine lv_iload_n hx hb dX7_fitInto_4 rfl (lv_at hl 2 rfl) ?_
  refine lv_bipush (v := 8) hx hb dX7_fitInto_5 (by decide) ?_
  refine lv_icmp_lt (tgt := 12) hx hb dX7_fitInto_7 (by decide) (fun _ => ?_) (fun h => absurd (by decide) h)
  refine lv_aload_n hx hb dX7_fitInto_12 rfl (lv_at hl 0 rfl) ?_
  refine va_get (D := (dC, dI)) (ci := 6) (v := .ref a2) (C := RX7) (T := TX7) (N := 5) hx hb hts inB_7 hown hK hP 0 rfl rfl 2 (by decide) (hts _ mw_1_129) (fun _ h9 => h9) rfl dX7_fitInto_13 ?_
  refine lv_iload_n hx hb dX7_fitInto_16 rfl (lv_at hl 2 rfl) ?_
  refine lv_bipush (v := (-6)) hx hb dX7_fitInto_17 (by decide) ?_
  refine va_iast hx hb hK hP hD hS 2 1 rfl rfl (show vp_in 2 8 by unfold vp_in; decide) dX7_fitInto_19 (fun H locs hP hD hS => ?_)
  rw [show upd (slF (-6) 0 2) (Int32.toNatClampNeg 2) (-6) = (slF (-6) 0 3) from slF_u _ _ 2] at hP hD
  have hP : va_P (dC, dI) vwCl [(h0, .inr (6, [w0, .ref a1, .ref a2, w3, w4])), (a1, .inl (ka1, 8, .inl (fun _ => 0))), (a2, .inl (ka2, 8, .inl (slF (-6) 0 3)))] H := hP
  have hD : va_D A [(h0, .inr (6, [w0, .ref a1, .ref a2, w3, w4])), (a1, .inl (ka1, 8, .inl (fun _ => 0))), (a2, .inl (ka2, 8, .inl (slF (-6) 0 3)))] := hD
  refine lv_aload_n hx hb dX7_fitInto_20 rfl (lv_at hl 0 rfl) ?_
  refine va_get (D := (dC, dI)) (ci := 6) (v := .ref a1) (C := RX7) (T := TX7) (N := 5) hx hb hts inB_7 hown hK hP 0 rfl rfl 1 (by decide) (hts _ mw_1_128) (fun _ h9 => h9) rfl dX7_fitInto_21 ?_
  refine lv_iload_n hx hb dX7_fitInto_24 rfl (lv_at hl 2 rfl) ?_
  refine va_iald hx hb hK hP 1 0 rfl rfl (show vp_in 2 8 by unfold vp_in; decide) dX7_fitInto_25 ?_
  refine hx_top (y := 0) rfl ?_
  refine lv_if_ne (tgt := 39) hx hb dX7_fitInto_26 (by decide) (fun h => absurd h (by decide)) (fun _ => ?_)
  refine lv_aload_n hx hb dX7_fitInto_29 rfl (lv_at hl 0 rfl) ?_
  refine lv_iload_n hx hb dX7_fitInto_30 rfl (lv_at hl 1 rfl) ?_
  refine lv_iload_n hx hb dX7_fitInto_31 rfl (lv_at hl 2 rfl) ?_
  refine lv_iconst (v := 1) hx hb dX7_fitInto_32 (by decide) ?_
  refine lv_iadd hx hb dX7_fitInto_33 ?_
  refine hx_top (y := 3) (by decide) ?_
  refine lv_iload_n hx hb dX7_fitInto_34 rfl (lv_at hl 3 rfl) ?_
  have hPc := hP.sub (ws' := [(h0, .inr (6, [w0, .ref a1, .ref a2, w3, w4])), (a1, .inl (ka1, 8, .inl (fun _ => 0))), (a2, .inl (ka2, 8, .inl (slF (-6) 0 3)))]) [0, 1, 2] rfl
  have hDc := hD.sub (ws' := [(h0, .inr (6, [w0, .ref a1, .ref a2, w3, w4])), (a1, .inl (ka1, 8, .inl (fun _ => 0))), (a2, .inl (ka2, 8, .inl (slF (-6) 0 3)))]) [0, 1, 2] (by decide) rfl
  have hKc := hK.sub (tys' := [(ka1, .int), (ka2, .int)]) [0, 1] rfl
  have hFc := va_free (wc := [(h0, .inr (6, [w0, .ref a1, .ref a2, w3, w4])), (a1, .inl (ka1, 8, .inl (fun _ => 0))), (a2, .inl (ka2, 8, .inl (slF (-6) 0 3)))]) hD hS hA [0, 1, 2] rfl
  refine va_calli (va_runV (As := [.int 0, .int 3, .int 0]) (rest := []) ⟨hx, hb, hml, hown, hts⟩ (c_fit3 l dC dI H.size h0 (w0) a1 a2 (w3) (w4) ka1 ka2) (cwV 3 hts (gV mw_3_26 mw_3_28 mw_0_7 mw_1_7 mw_3_29) rfl rfl rfl (by decide +kernel) ⟨Nat.le_of_ble_eq_true rfl, Nat.le_of_ble_eq_true rfl⟩) ⟨pcW_blind, va_recv hKc hPc (ci := 6) (q0 := 0) rfl rfl, pcW_at hPc hKc hDc hN⟩ rfl rfl hl.1 rfl (lv_room (Nat.le_of_ble_eq_true rfl)) dX7_fitInto_35 ⟨Nat.le_of_ble_eq_true rfl, Nat.le_of_ble_eq_true rfl⟩) hS (fun q _ h => hFc q h) hFc (fun r_1 u t H1 locs ht hvm hw_1 hB hz1 hk1 hS => ?_)
  obtain ⟨hP1, hK1, hD1⟩ := hB
  rw [ht] at hP1
  have hK1 := va_K.moved hvm.symm hK1
  obtain ⟨hP, hD⟩ := va_join (wr := []) (w1 := [(h0, .inr (6, [w0, .ref a1, .ref a2, w3, w4])), (a1, .inl (ka1, 8, .inl (fun _ => 0))), (a2, .inl (ka2, 8, .inl (slF (-6) 0 8)))]) hP hD [0, 1, 2] [] rfl rfl (by decide) (by decide) hk1 hFc hP1 hD1
  have hK := (hK.sub (tys' := []) [] rfl).app hK1
  clear hz1 hk1 hPc hDc hKc hFc
  generalize H1 = H at hP hS ⊢
  have hK : va_K (dC, dI) vwCl [(ka1, .int), (ka2, .int)] s := hK
  have hP : va_P (dC, dI) vwCl [(h0, .inr (6, [w0, .ref a1, .ref a2, w3, w4])), (a1, .inl (ka1, 8, .inl (fun _ => 0))), (a2, .inl (ka2, 8, .inl (slF (-6) 0 8)))] H := hP
  have hD : va_D A [(h0, .inr (6, [w0, .ref a1, .ref a2, w3, w4])), (a1, .inl (ka1, 8, .inl (fun _ => 0))), (a2, .inl (ka2, 8, .inl (slF (-6) 0 8)))] := hD
  obtain rfl : r_1 = 1 := hw_1
  exact W.zret (v := 1) hx hb hr (by decide) (fun t ht hW => ⟨⟨1, (), rfl, rfl, by rw [ht]; exact hP, va_K.moved hW.alike hK, hD⟩, hS.F ht⟩) hS.2.2 dX7_fitInto_38
set_option maxHeartbeats 4000000 in
set_option maxRecDepth 100000 in
theorem c_fit1 (l : Launch) (dC : Nat → ClassId) (dI : Nat → Nat → Nat) (sz : Nat) (h0 : Nat) (w0 : Value) (a1 : Nat) (a2 : Nat) (w3 : Value) (w4 : Value) (ka1 : ClassId) (ka2 : ClassId)  : Met l yX7_fitInto (wq yX7_fitInto cX7_fitInto 5 (some .boolean)) ({ frames := 7, cells := 0, slots := 0, locals := 168 }) (va_Pc [.ref h0, .int 0, .int 1, .int 0] (pcW dC dI [(ka1, .int), (ka2, .int)] [(h0, .inr (6, [w0, .ref a1, .ref a2, w3, w4])), (a1, .inl (ka1, 8, .inl (fun _ => 0))), (a2, .inl (ka2, 8, .inl (slF (-6) 0 1)))] sz)) (va_Qi (fun (r : Int32) (_ : Unit) => r = 1) (fun _ t => va_P (dC, dI) vwCl [(h0, .inr (6, [w0, .ref a1, .ref a2, w3, w4])), (a1, .inl (ka1, 8, .inl (fun _ => 0))), (a2, .inl (ka2, 8, .inl (slF (-6) 0 8)))] t.heap ∧ va_K (dC, dI) vwCl [(ka1, .int), (ka2, .int)] t ∧ va_D (va_A [(h0, .inr (6, [w0, .ref a1, .ref a2, w3, w4])), (a1, .inl (ka1, 8, .inl (fun _ => 0))), (a2, .inl (ka2, 8, .inl (slF (-6) 0 1)))] sz) [(h0, .inr (6, [w0, .ref a1, .ref a2, w3, w4])), (a1, .inl (ka1, 8, .inl (fun _ => 0))), (a2, .inl (ka2, 8, .inl (slF (-6) 0 8)))]) (va_A [(h0, .inr (6, [w0, .ref a1, .ref a2, w3, w4])), (a1, .inl (ka1, 8, .inl (fun _ => 0))), (a2, .inl (ka2, 8, .inl (slF (-6) 0 1)))] sz)) 0 0 (va_A [(h0, .inr (6, [w0, .ref a1, .ref a2, w3, w4])), (a1, .inl (ka1, 8, .inl (fun _ => 0))), (a2, .inl (ka2, 8, .inl (slF (-6) 0 1)))] sz) := by
  refine Met.ofW (cc := cX7_fitInto) (maxL := 5) (ret := (some .boolean)) (by decide) rfl ?_
  intro p e s m args below meth c s₁ B hml hv
  obtain ⟨rfl, hsz, hN, hP, hK, hD0⟩ := hv
  have hx := B.exec
  have hb := B.bytes
  have hr := B.returns
  have hts0 := atoms_spec (ws := (wq yX7_fitInto cX7_fitInto 5 (some .boolean))) B.pre
  have hts : ∀ w ∈ BG, w.before _ s = true := fun w h => hts0 w (List.mem_cons_of_mem _ h)
  have hown : s.vm.findClass RX7 = some m.cls := findClass_of_methodNamed B.named
  have hlocks := B.notSynchronized
  subst hsz
  have hD := hD0.self (sz := s.heap.size)
  generalize hAe : va_A [(h0, .inr (6, [w0, .ref a1, .ref a2, w3, w4])), (a1, .inl (ka1, 8, .inl (fun _ => 0))), (a2, .inl (ka2, 8, .inl (slF (-6) 0 1)))] s.heap.size = A at hD ⊢
  have hA : ∀ q : Nat, s.heap.size ≤ q → A q := fun q h => by rw [← hAe]; exact Or.inr h
  have hS : va_S A s.heap s.heap [] := va_S.rf
  have hP : va_P (dC, dI) vwCl [(h0, .inr (6, [w0, .ref a1, .ref a2, w3, w4])), (a1, .inl (ka1, 8, .inl (fun _ => 0))), (a2, .inl (ka2, 8, .inl (slF (-6) 0 1)))] s.heap := hP
  have hl := lv_entry ([.ref h0, .int 0, .int 1, .int 0]) (n := 5) (Nat.le_of_ble_eq_true rfl)
  rw [lg_entry_eq]
  generalize (lg_sl ([.ref h0, .int 0, .int 1, .int 0]) ++ List.replicate (5 - (lg_sl ([.ref h0, .int 0, .int 1, .int 0])).length) Slot.unset).toArray = ls at hl ⊢
  have hl : lv_has ls 5 [(0, .ref h0), (1, .int 0), (2, .int 1), (3, .int 0)] := hl
  skip
  refine lv_iload_n hx hb dX7_fitInto_0 rfl (lv_at hl 2 rfl) ?_
  refine lv_if_lt (tgt := 10) hx hb dX7_fitInto_1 (by decide) (fun h => absurd h (by decide)) (fun _ => ?_)
  refine lv_iload_n hx hb dX7_fitInto_4 rfl (lv_at hl 2 rfl) ?_
  refine lv_bipush (v := 8) hx hb dX7_fitInto_5 (by decide) ?_
  refine lv_icmp_lt (tgt := 12) hx hb dX7_fitInto_7 (by decide) (fun _ => ?_) (fun h => absurd (by decide) h)
  refine lv_aload_n hx hb dX7_fitInto_12 rfl (lv_at hl 0 rfl) ?_
  refine va_get (D := (dC, dI)) (ci := 6) (v := .ref a2) (C := RX7) (T := TX7) (N := 5) hx hb hts inB_7 hown hK hP 0 rfl rfl 2 (by decide) (hts _ mw_1_129) (fun _ h9 => h9) rfl dX7_fitInto_13 ?_
  refine lv_iload_n hx hb dX7_fitInto_16 rfl (lv_at hl 2 rfl) ?_
  refine lv_bipush (v := (-6)) hx hb dX7_fitInto_17 (by decide) ?_
  refine va_iast hx hb hK hP hD hS 2 1 rfl rfl (show vp_in 1 8 by unfold vp_in; decide) dX7_fitInto_19 (fun H locs hP hD hS => ?_)
  rw [show upd (slF (-6) 0 1) (Int32.toNatClampNeg 1) (-6) = (slF (-6) 0 2) from slF_u _ _ 1] at hP hD
  have hP : va_P (dC, dI) vwCl [(h0, .inr (6, [w0, .ref a1, .ref a2, w3, w4])), (a1, .inl (ka1, 8, .inl (fun _ => 0))), (a2, .inl (ka2, 8, .inl (slF (-6) 0 2)))] H := hP
  have hD : va_D A [(h0, .inr (6, [w0, .ref a1, .ref a2, w3, w4])), (a1, .inl (ka1, 8, .inl (fun _ => 0))), (a2, .inl (ka2, 8, .inl (slF (-6) 0 2)))] := hD
  refine lv_aload_n hx hb dX7_fitInto_20 rfl (lv_at hl 0 rfl) ?_
  refine va_get (D := (dC, dI)) (ci := 6) (v := .ref a1) (C := RX7) (T := TX7) (N := 5) hx hb hts inB_7 hown hK hP 0 rfl rfl 1 (by decide) (hts _ mw_1_128) (fun _ h9 => h9) rfl dX7_fitInto_21 ?_
  refine lv_iload_n hx hb dX7_fitInto_24 rfl (lv_at hl 2 rfl) ?_
  refine va_iald hx hb hK hP 1 0 rfl rfl (show vp_in 1 8 by unfold vp_in; decide) dX7_fitInto_25 ?_
  refine hx_top (y := 0) rfl ?_
  refine lv_if_ne (tgt := 39) hx hb dX7_fitInto_26 (by decide) (fun h => absurd h (by decide)) (fun _ => ?_)
  refine lv_aload_n hx hb dX7_fitInto_29 rfl (lv_at hl 0 rfl) ?_
  refine lv_iload_n hx hb dX7_fitInto_30 rfl (lv_at hl 1 rfl) ?_
  refine lv_iload_n hx hb dX7_fitInto_31 rfl (lv_at hl 2 rfl) ?_
  refine lv_iconst (v := 1) hx hb dX7_fitInto_32 (by decide) ?_
  refine lv_iadd hx hb dX7_fitInto_33 ?_
  refine hx_top (y := 2) (by decide) ?_
  refine lv_iload_n hx hb dX7_fitInto_34 rfl (lv_at hl 3 rfl) ?_
  have hPc := hP.sub (ws' := [(h0, .inr (6, [w0, .ref a1, .ref a2, w3, w4])), (a1, .inl (ka1, 8, .inl (fun _ => 0))), (a2, .inl (ka2, 8, .inl (slF (-6) 0 2)))]) [0, 1, 2] rfl
  have hDc := hD.sub (ws' := [(h0, .inr (6, [w0, .ref a1, .ref a2, w3, w4])), (a1, .inl (ka1, 8, .inl (fun _ => 0))), (a2, .inl (ka2, 8, .inl (slF (-6) 0 2)))]) [0, 1, 2] (by decide) rfl
  have hKc := hK.sub (tys' := [(ka1, .int), (ka2, .int)]) [0, 1] rfl
  have hFc := va_free (wc := [(h0, .inr (6, [w0, .ref a1, .ref a2, w3, w4])), (a1, .inl (ka1, 8, .inl (fun _ => 0))), (a2, .inl (ka2, 8, .inl (slF (-6) 0 2)))]) hD hS hA [0, 1, 2] rfl
  refine va_calli (va_runV (As := [.int 0, .int 2, .int 0]) (rest := []) ⟨hx, hb, hml, hown, hts⟩ (c_fit2 l dC dI H.size h0 (w0) a1 a2 (w3) (w4) ka1 ka2) (cwV 3 hts (gV mw_3_26 mw_3_28 mw_0_7 mw_1_7 mw_3_29) rfl rfl rfl (by decide +kernel) ⟨Nat.le_of_ble_eq_true rfl, Nat.le_of_ble_eq_true rfl⟩) ⟨pcW_blind, va_recv hKc hPc (ci := 6) (q0 := 0) rfl rfl, pcW_at hPc hKc hDc hN⟩ rfl rfl hl.1 rfl (lv_room (Nat.le_of_ble_eq_true rfl)) dX7_fitInto_35 ⟨Nat.le_of_ble_eq_true rfl, Nat.le_of_ble_eq_true rfl⟩) hS (fun q _ h => hFc q h) hFc (fun r_1 u t H1 locs ht hvm hw_1 hB hz1 hk1 hS => ?_)
  obtain ⟨hP1, hK1, hD1⟩ := hB
  rw [ht] at hP1
  have hK1 := va_K.moved hvm.symm hK1
  obtain ⟨hP, hD⟩ := va_join (wr := []) (w1 := [(h0, .inr (6, [w0, .ref a1, .ref a2, w3, w4])), (a1, .inl (ka1, 8, .inl (fun _ => 0))), (a2, .inl (ka2, 8, .inl (slF (-6) 0 8)))]) hP hD [0, 1, 2] [] rfl rfl (by decide) (by decide) hk1 hFc hP1 hD1
  have hK := (hK.sub (tys' := []) [] rfl).app hK1
  clear hz1 hk1 hPc hDc hKc hFc
  generalize H1 = H at hP hS ⊢
  have hK : va_K (dC, dI) vwCl [(ka1, .int), (ka2, .int)] s := hK
  have hP : va_P (dC, dI) vwCl [(h0, .inr (6, [w0, .ref a1, .ref a2, w3, w4])), (a1, .inl (ka1, 8, .inl (fun _ => 0))), (a2, .inl (ka2, 8, .inl (slF (-6) 0 8)))] H := hP
  have hD : va_D A [(h0, .inr (6, [w0, .ref a1, .ref a2, w3, w4])), (a1, .inl (ka1, 8, .inl (fun _ => 0))), (a2, .inl (ka2, 8, .inl (slF (-6) 0 8)))] := hD
  obtain rfl : r_1 = 1 := hw_1
  exact W.zret (v := 1) hx hb hr (by decide) (fun t ht hW => ⟨⟨1, (), rfl, rfl, by rw [ht]; exact hP, va_K.moved hW.alike hK, hD⟩, hS.F ht⟩) hS.2.2 dX7_fitInto_38
set_option maxHeartbeats 4000000 in
set_option maxRecDepth 100000 in
theorem c_fit0 (l : Launch) (dC : Nat → ClassId) (dI : Nat → Nat → Nat) (sz : Nat) (h0 : Nat) (w0 : Value) (a1 : Nat) (a2 : Nat) (w3 : Value) (w4 : Value) (ka1 : ClassId) (ka2 : ClassId)  : Met l yX7_fitInto (wq yX7_fitInto cX7_fitInto 5 (some .boolean)) ({ frames := 8, cells := 0, slots := 0, locals := 192 }) (va_Pc [.ref h0, .int 0, .int 0, .int 0] (pcW dC dI [(ka1, .int), (ka2, .int)] [(h0, .inr (6, [w0, .ref a1, .ref a2, w3, w4])), (a1, .inl (ka1, 8, .inl (fun _ => 0))), (a2, .inl (ka2, 8, .inl (fun _ => 0)))] sz)) (va_Qi (fun (r : Int32) (_ : Unit) => r = 1) (fun _ t => va_P (dC, dI) vwCl [(h0, .inr (6, [w0, .ref a1, .ref a2, w3, w4])), (a1, .inl (ka1, 8, .inl (fun _ => 0))), (a2, .inl (ka2, 8, .inl (slF (-6) 0 8)))] t.heap ∧ va_K (dC, dI) vwCl [(ka1, .int), (ka2, .int)] t ∧ va_D (va_A [(h0, .inr (6, [w0, .ref a1, .ref a2, w3, w4])), (a1, .inl (ka1, 8, .inl (fun _ => 0))), (a2, .inl (ka2, 8, .inl (fun _ => 0)))] sz) [(h0, .inr (6, [w0, .ref a1, .ref a2, w3, w4])), (a1, .inl (ka1, 8, .inl (fun _ => 0))), (a2, .inl (ka2, 8, .inl (slF (-6) 0 8)))]) (va_A [(h0, .inr (6, [w0, .ref a1, .ref a2, w3, w4])), (a1, .inl (ka1, 8, .inl (fun _ => 0))), (a2, .inl (ka2, 8, .inl (fun _ => 0)))] sz)) 0 0 (va_A [(h0, .inr (6, [w0, .ref a1, .ref a2, w3, w4])), (a1, .inl (ka1, 8, .inl (fun _ => 0))), (a2, .inl (ka2, 8, .inl (fun _ => 0)))] sz) := by
  refine Met.ofW (cc := cX7_fitInto) (maxL := 5) (ret := (some .boolean)) (by decide) rfl ?_
  intro p e s m args below meth c s₁ B hml hv
  obtain ⟨rfl, hsz, hN, hP, hK, hD0⟩ := hv
  have hx := B.exec
  have hb := B.bytes
  have hr := B.returns
  have hts0 := atoms_spec (ws := (wq yX7_fitInto cX7_fitInto 5 (some .boolean))) B.pre
  have hts : ∀ w ∈ BG, w.before _ s = true := fun w h => hts0 w (List.mem_cons_of_mem _ h)
  have hown : s.vm.findClass RX7 = some m.cls := findClass_of_methodNamed B.named
  have hlocks := B.notSynchronized
  subst hsz
  have hD := hD0.self (sz := s.heap.size)
  generalize hAe : va_A [(h0, .inr (6, [w0, .ref a1, .ref a2, w3, w4])), (a1, .inl (ka1, 8, .inl (fun _ => 0))), (a2, .inl (ka2, 8, .inl (fun _ => 0)))] s.heap.size = A at hD ⊢
  have hA : ∀ q : Nat, s.heap.size ≤ q → A q := fun q h => by rw [← hAe]; exact Or.inr h
  have hS : va_S A s.heap s.heap [] := va_S.rf
  have hP : va_P (dC, dI) vwCl [(h0, .inr (6, [w0, .ref a1, .ref a2, w3, w4])), (a1, .inl (ka1, 8, .inl (fun _ => 0))), (a2, .inl (ka2, 8, .inl (fun _ => 0)))] s.heap := hP
  have hl := lv_entry ([.ref h0, .int 0, .int 0, .int 0]) (n := 5) (Nat.le_of_ble_eq_true rfl)
  rw [lg_entry_eq]
  generalize (lg_sl ([.ref h0, .int 0, .int 0, .int 0]) ++ List.replicate (5 - (lg_sl ([.ref h0, .int 0, .int 0, .int 0])).length) Slot.unset).toArray = ls at hl ⊢
  have hl : lv_has ls 5 [(0, .ref h0), (1, .int 0), (2, .int 0), (3, .int 0)] := hl
  skip
  refine lv_iload_n hx hb dX7_fitInto_0 rfl (lv_at hl 2 rfl) ?_
  refine lv_if_lt (tgt := 10) hx hb dX7_fitInto_1 (by decide) (fun h => absurd h (by decide)) (fun _ => ?_)
  refine lv_iload_n hx hb dX7_fitInto_4 rfl (lv_at hl 2 rfl) ?_
  refine lv_bipush (v := 8) hx hb dX7_fitInto_5 (by decide) ?_
  refine lv_icmp_lt (tgt := 12) hx hb dX7_fitInto_7 (by decide) (fun _ => ?_) (fun h => absurd (by decide) h)
  refine lv_aload_n hx hb dX7_fitInto_12 rfl (lv_at hl 0 rfl) ?_
  refine va_get (D := (dC, dI)) (ci := 6) (v := .ref a2) (C := RX7) (T := TX7) (N := 5) hx hb hts inB_7 hown hK hP 0 rfl rfl 2 (by decide) (hts _ mw_1_129) (fun _ h9 => h9) rfl dX7_fitInto_13 ?_
  refine lv_iload_n hx hb dX7_fitInto_16 rfl (lv_at hl 2 rfl) ?_
  refine lv_bipush (v := (-6)) hx hb dX7_fitInto_17 (by decide) ?_
  refine va_iast hx hb hK hP hD hS 2 1 rfl rfl (show vp_in 0 8 by unfold vp_in; decide) dX7_fitInto_19 (fun H locs hP hD hS => ?_)
  rw [show upd (fun _ => 0) (Int32.toNatClampNeg 0) (-6) = (slF (-6) 0 1) from slF_u0 _ _] at hP hD
  have hP : va_P (dC, dI) vwCl [(h0, .inr (6, [w0, .ref a1, .ref a2, w3, w4])), (a1, .inl (ka1, 8, .inl (fun _ => 0))), (a2, .inl (ka2, 8, .inl (slF (-6) 0 1)))] H := hP
  have hD : va_D A [(h0, .inr (6, [w0, .ref a1, .ref a2, w3, w4])), (a1, .inl (ka1, 8, .inl (fun _ => 0))), (a2, .inl (ka2, 8, .inl (slF (-6) 0 1)))] := hD
  refine lv_aload_n hx hb dX7_fitInto_20 rfl (lv_at hl 0 rfl) ?_
  refine va_get (D := (dC, dI)) (ci := 6) (v := .ref a1) (C := RX7) (T := TX7) (N := 5) hx hb hts inB_7 hown hK hP 0 rfl rfl 1 (by decide) (hts _ mw_1_128) (fun _ h9 => h9) rfl dX7_fitInto_21 ?_
  refine lv_iload_n hx hb dX7_fitInto_24 rfl (lv_at hl 2 rfl) ?_
  refine va_iald hx hb hK hP 1 0 rfl rfl (show vp_in 0 8 by unfold vp_in; decide) dX7_fitInto_25 ?_
  refine hx_top (y := 0) rfl ?_
  refine lv_if_ne (tgt := 39) hx hb dX7_fitInto_26 (by decide) (fun h => absurd h (by decide)) (fun _ => ?_)
  refine lv_aload_n hx hb dX7_fitInto_29 rfl (lv_at hl 0 rfl) ?_
  refine lv_iload_n hx hb dX7_fitInto_30 rfl (lv_at hl 1 rfl) ?_
  refine lv_iload_n hx hb dX7_fitInto_31 rfl (lv_at hl 2 rfl) ?_
  refine lv_iconst (v := 1) hx hb dX7_fitInto_32 (by decide) ?_
  refine lv_iadd hx hb dX7_fitInto_33 ?_
  refine hx_top (y := 1) (by decide) ?_
  refine lv_iload_n hx hb dX7_fitInto_34 rfl (lv_at hl 3 rfl) ?_
  have hPc := hP.sub (ws' := [(h0, .inr (6, [w0, .ref a1, .ref a2, w3, w4])), (a1, .inl (ka1, 8, .inl (fun _ => 0))), (a2, .inl (ka2, 8, .inl (slF (-6) 0 1)))]) [0, 1, 2] rfl
  have hDc := hD.sub (ws' := [(h0, .inr (6, [w0, .ref a1, .ref a2, w3, w4])), (a1, .inl (ka1, 8, .inl (fun _ => 0))), (a2, .inl (ka2, 8, .inl (slF (-6) 0 1)))]) [0, 1, 2] (by decide) rfl
  have hKc := hK.sub (tys' := [(ka1, .int), (ka2, .int)]) [0, 1] rfl
  have hFc := va_free (wc := [(h0, .inr (6, [w0, .ref a1, .ref a2, w3, w4])), (a1, .inl (ka1, 8, .inl (fun _ => 0))), (a2, .inl (ka2, 8, .inl (slF (-6) 0 1)))]) hD hS hA [0, 1, 2] rfl
  refine va_calli (va_runV (As := [.int 0, .int 1, .int 0]) (rest := []) ⟨hx, hb, hml, hown, hts⟩ (c_fit1 l dC dI H.size h0 (w0) a1 a2 (w3) (w4) ka1 ka2) (cwV 3 hts (gV mw_3_26 mw_3_28 mw_0_7 mw_1_7 mw_3_29) rfl rfl rfl (by decide +kernel) ⟨Nat.le_of_ble_eq_true rfl, Nat.le_of_ble_eq_true rfl⟩) ⟨pcW_blind, va_recv hKc hPc (ci := 6) (q0 := 0) rfl rfl, pcW_at hPc hKc hDc hN⟩ rfl rfl hl.1 rfl (lv_room (Nat.le_of_ble_eq_true rfl)) dX7_fitInto_35 ⟨Nat.le_of_ble_eq_true rfl, Nat.le_of_ble_eq_true rfl⟩) hS (fun q _ h => hFc q h) hFc (fun r_1 u t H1 locs ht hvm hw_1 hB hz1 hk1 hS => ?_)
  obtain ⟨hP1, hK1, hD1⟩ := hB
  rw [ht] at hP1
  have hK1 := va_K.moved hvm.symm hK1
  obtain ⟨hP, hD⟩ := va_join (wr := []) (w1 := [(h0, .inr (6, [w0, .ref a1, .ref a2, w3, w4])), (a1, .inl (ka1, 8, .inl (fun _ => 0))), (a2, .inl (ka2, 8, .inl (slF (-6) 0 8)))]) hP hD [0, 1, 2] [] rfl rfl (by decide) (by decide) hk1 hFc hP1 hD1
  have hK := (hK.sub (tys' := []) [] rfl).app hK1
  clear hz1 hk1 hPc hDc hKc hFc
  generalize H1 = H at hP hS ⊢
  have hK : va_K (dC, dI) vwCl [(ka1, .int), (ka2, .int)] s := hK
  have hP : va_P (dC, dI) vwCl [(h0, .inr (6, [w0, .ref a1, .ref a2, w3, w4])), (a1, .inl (ka1, 8, .inl (fun _ => 0))), (a2, .inl (ka2, 8, .inl (slF (-6) 0 8)))] H := hP
  have hD : va_D A [(h0, .inr (6, [w0, .ref a1, .ref a2, w3, w4])), (a1, .inl (ka1, 8, .inl (fun _ => 0))), (a2, .inl (ka2, 8, .inl (slF (-6) 0 8)))] := hD
  obtain rfl : r_1 = 1 := hw_1
  exact W.zret (v := 1) hx hb hr (by decide) (fun t ht hW => ⟨⟨1, (), rfl, rfl, by rw [ht]; exact hP, va_K.moved hW.alike hK, hD⟩, hS.F ht⟩) hS.2.2 dX7_fitInto_38
set_option maxHeartbeats 4000000 in
set_option maxRecDepth 100000 in
theorem c_spread (l : Launch) (dC : Nat → ClassId) (dI : Nat → Nat → Nat) (sz : Nat) (h0 : Nat) (a0 : Nat) (a1 : Nat) (a2 : Nat) (w3 : Value) (w4 : Value) (ka0 : ClassId) (ka1 : ClassId) (ka2 : ClassId)  : Met l yX7_spread (wq yX7_spread cX7_spread 2 (some .int)) ({ frames := 9, cells := 0, slots := 0, locals := 216 }) (va_Pc [.ref h0] (pcW dC dI [(ka0, .int), (ka1, .int), (ka2, .int)] [(h0, .inr (6, [.ref a0, .ref a1, .ref a2, w3, w4])), (a0, .inl (ka0, 10, .inl (fun _ => 0))), (a1, .inl (ka1, 8, .inl (fun _ => 0))), (a2, .inl (ka2, 8, .inl (fun _ => 0)))] sz)) (va_Qi (fun (r : Int32) (_ : Unit) => r = 0) (fun _ t => va_P (dC, dI) vwCl [(a0, .inl (ka0, 10, .inl (fun _ => 0))), (h0, .inr (6, [.ref a0, .ref a1, .ref a2, w3, w4])), (a1, .inl (ka1, 8, .inl (fun _ => 0))), (a2, .inl (ka2, 8, .inl (slF (-6) 0 8)))] t.heap ∧ va_K (dC, dI) vwCl [(ka0, .int), (ka1, .int), (ka2, .int)] t ∧ va_D (va_A [(h0, .inr (6, [.ref a0, .ref a1, .ref a2, w3, w4])), (a0, .inl (ka0, 10, .inl (fun _ => 0))), (a1, .inl (ka1, 8, .inl (fun _ => 0))), (a2, .inl (ka2, 8, .inl (fun _ => 0)))] sz) [(a0, .inl (ka0, 10, .inl (fun _ => 0))), (h0, .inr (6, [.ref a0, .ref a1, .ref a2, w3, w4])), (a1, .inl (ka1, 8, .inl (fun _ => 0))), (a2, .inl (ka2, 8, .inl (slF (-6) 0 8)))]) (va_A [(h0, .inr (6, [.ref a0, .ref a1, .ref a2, w3, w4])), (a0, .inl (ka0, 10, .inl (fun _ => 0))), (a1, .inl (ka1, 8, .inl (fun _ => 0))), (a2, .inl (ka2, 8, .inl (fun _ => 0)))] sz)) 0 0 (va_A [(h0, .inr (6, [.ref a0, .ref a1, .ref a2, w3, w4])), (a0, .inl (ka0, 10, .inl (fun _ => 0))), (a1, .inl (ka1, 8, .inl (fun _ => 0))), (a2, .inl (ka2, 8, .inl (fun _ => 0)))] sz) := by
  refine Met.ofW (cc := cX7_spread) (maxL := 2) (ret := (some .int)) (by decide) rfl ?_
  intro p e s m args below meth c s₁ B hml hv
  obtain ⟨rfl, hsz, hN, hP, hK, hD0⟩ := hv
  have hx := B.exec
  have hb := B.bytes
  have hr := B.returns
  have hts0 := atoms_spec (ws := (wq yX7_spread cX7_spread 2 (some .int))) B.pre
  have hts : ∀ w ∈ BG, w.before _ s = true := fun w h => hts0 w (List.mem_cons_of_mem _ h)
  have hown : s.vm.findClass RX7 = some m.cls := findClass_of_methodNamed B.named
  have hlocks := B.notSynchronized
  subst hsz
  have hD := hD0.self (sz := s.heap.size)
  generalize hAe : va_A [(h0, .inr (6, [.ref a0, .ref a1, .ref a2, w3, w4])), (a0, .inl (ka0, 10, .inl (fun _ => 0))), (a1, .inl (ka1, 8, .inl (fun _ => 0))), (a2, .inl (ka2, 8, .inl (fun _ => 0)))] s.heap.size = A at hD ⊢
  have hA : ∀ q : Nat, s.heap.size ≤ q → A q := fun q h => by rw [← hAe]; exact Or.inr h
  have hS : va_S A s.heap s.heap [] := va_S.rf
  have hP : va_P (dC, dI) vwCl [(h0, .inr (6, [.ref a0, .ref a1, .ref a2, w3, w4])), (a0, .inl (ka0, 10, .inl (fun _ => 0))), (a1, .inl (ka1, 8, .inl (fun _ => 0))), (a2, .inl (ka2, 8, .inl (fun _ => 0)))] s.heap := hP
  have hl := lv_entry ([.ref h0]) (n := 2) (Nat.le_of_ble_eq_true rfl)
  rw [lg_entry_eq]
  generalize (lg_sl ([.ref h0]) ++ List.replicate (2 - (lg_sl ([.ref h0])).length) Slot.unset).toArray = ls at hl ⊢
  have hl : lv_has ls 2 [(0, .ref h0)] := hl
  skip
  refine lv_aload_n hx hb dX7_spread_0 rfl (lv_at hl 0 rfl) ?_
  have hPc := hP.sub (ws' := [(h0, .inr (6, [.ref a0, .ref a1, .ref a2, w3, w4])), (a0, .inl (ka0, 10, .inl (fun _ => 0))), (a1, .inl (ka1, 8, .inl (fun _ => 0)))]) [0, 1, 2] rfl
  have hDc := hD.sub (ws' := [(h0, .inr (6, [.ref a0, .ref a1, .ref a2, w3, w4])), (a0, .inl (ka0, 10, .inl (fun _ => 0))), (a1, .inl (ka1, 8, .inl (fun _ => 0)))]) [0, 1, 2] (by decide) rfl
  have hKc := hK.sub (tys' := [(ka0, .int), (ka1, .int)]) [0, 1] rfl
  have hFc := va_free (wc := [(h0, .inr (6, [.ref a0, .ref a1, .ref a2, w3, w4])), (a0, .inl (ka0, 10, .inl (fun _ => 0))), (a1, .inl (ka1, 8, .inl (fun _ => 0)))]) hD hS hA [0, 1, 2] rfl
  refine va_callv (va_runV (As := []) (rest := []) ⟨hx, hb, hml, hown, hts⟩ (c_findT l dC dI s.heap.size h0 a0 a1 (.ref a2) (w3) (w4) ka0 ka1) (cwV 0 hts (gV mw_3_21 mw_3_23 mw_0_6 mw_1_7 mw_3_24) rfl rfl rfl (by decide +kernel) ⟨Nat.le_of_ble_eq_true rfl, Nat.le_of_ble_eq_true rfl⟩) ⟨pcW_blind, va_recv hKc hPc (ci := 6) (q0 := 0) rfl rfl, pcW_at hPc hKc hDc hN⟩ rfl rfl hl.1 rfl (lv_room (Nat.le_of_ble_eq_true rfl)) dX7_spread_1 ⟨Nat.le_of_ble_eq_true rfl, Nat.le_of_ble_eq_true rfl⟩) hS (fun q _ h => hFc q h) hFc (fun u t H1 locs ht hvm hw_1 hB hz1 hk1 hS => ?_)
  obtain ⟨hP1, hK1, hD1⟩ := hB
  rw [ht] at hP1
  have hK1 := va_K.moved hvm.symm hK1
  obtain ⟨hP, hD⟩ := va_join (wr := [(a2, .inl (ka2, 8, .inl (fun _ => 0)))]) (w1 := [(h0, .inr (6, [.ref a0, .ref a1, .ref a2, w3, w4])), (a0, .inl (ka0, 10, .inl (fun _ => 0))), (a1, .inl (ka1, 8, .inl (fun _ => 0)))]) hP hD [0, 1, 2] [3] rfl rfl (by decide) (by decide) hk1 hFc hP1 hD1
  have hK := (hK.sub (tys' := [(ka2, .int)]) [2] rfl).app hK1
  clear hz1 hk1 hPc hDc hKc hFc
  generalize H1 = H at hP hS ⊢
  have hK : va_K (dC, dI) vwCl [(ka2, .int), (ka0, .int), (ka1, .int)] s := hK
  have hP : va_P (dC, dI) vwCl [(a2, .inl (ka2, 8, .inl (fun _ => 0))), (h0, .inr (6, [.ref a0, .ref a1, .ref a2, w3, w4])), (a0, .inl (ka0, 10, .inl (fun _ => 0))), (a1, .inl (ka1, 8, .inl (fun _ => 0)))] H := hP
  have hD : va_D A [(a2, .inl (ka2, 8, .inl (fun _ => 0))), (h0, .inr (6, [.ref a0, .ref a1, .ref a2, w3, w4])), (a0, .inl (ka0, 10, .inl (fun _ => 0))), (a1, .inl (ka1, 8, .inl (fun _ => 0)))] := hD
  refine lv_iconst (v := 0) hx hb dX7_spread_4 (by decide) ?_
  refine lv_istore_n (lv' := [(1, .int 0), (0, .ref h0)]) hx hb dX7_spread_5 rfl hl (by decide) rfl (fun ls hl => ?_)
  refine lv_iload_n hx hb dX7_spread_6 rfl (lv_at hl 0 rfl) ?_
  refine lv_bipush (v := 8) hx hb dX7_spread_7 (by decide) ?_
  refine lv_icmp_gt (tgt := 30) hx hb dX7_spread_9 (by decide) (fun h => absurd h (by decide)) (fun _ => ?_)
  refine lv_aload_n hx hb dX7_spread_12 rfl (lv_at hl 1 rfl) ?_
  refine lv_iload_n hx hb dX7_spread_13 rfl (lv_at hl 0 rfl) ?_
  refine lv_iconst (v := 0) hx hb dX7_spread_14 (by decide) ?_
  refine lv_iconst (v := 0) hx hb dX7_spread_15 (by decide) ?_
  have hPc := hP.sub (ws' := [(h0, .inr (6, [.ref a0, .ref a1, .ref a2, w3, w4])), (a1, .inl (ka1, 8, .inl (fun _ => 0))), (a2, .inl (ka2, 8, .inl (fun _ => 0)))]) [1, 3, 0] rfl
  have hDc := hD.sub (ws' := [(h0, .inr (6, [.ref a0, .ref a1, .ref a2, w3, w4])), (a1, .inl (ka1, 8, .inl (fun _ => 0))), (a2, .inl (ka2, 8, .inl (fun _ => 0)))]) [1, 3, 0] (by decide) rfl
  have hKc := hK.sub (tys' := [(ka1, .int), (ka2, .int)]) [2, 0] rfl
  have hFc := va_free (wc := [(h0, .inr (6, [.ref a0, .ref a1, .ref a2, w3, w4])), (a1, .inl (ka1, 8, .inl (fun _ => 0))), (a2, .inl (ka2, 8, .inl (fun _ => 0)))]) hD hS hA [1, 3, 0] rfl
  refine va_calli (va_runV (As := [.int 0, .int 0, .int 0]) (rest := []) ⟨hx, hb, hml, hown, hts⟩ (c_fit0 l dC dI H.size h0 (.ref a0) a1 a2 (w3) (w4) ka1 ka2) (cwV 3 hts (gV mw_3_26 mw_3_28 mw_0_7 mw_1_7 mw_3_29) rfl rfl rfl (by decide +kernel) ⟨Nat.le_of_ble_eq_true rfl, Nat.le_of_ble_eq_true rfl⟩) ⟨pcW_blind, va_recv hKc hPc (ci := 6) (q0 := 0) rfl rfl, pcW_at hPc hKc hDc hN⟩ rfl rfl hl.1 rfl (lv_room (Nat.le_of_ble_eq_true rfl)) dX7_spread_16 ⟨Nat.le_of_ble_eq_true rfl, Nat.le_of_ble_eq_true rfl⟩) hS (fun q _ h => hFc q h) hFc (fun r_2 u t H1 locs ht hvm hw_2 hB hz1 hk1 hS => ?_)
  obtain ⟨hP1, hK1, hD1⟩ := hB
  rw [ht] at hP1
  have hK1 := va_K.moved hvm.symm hK1
  obtain ⟨hP, hD⟩ := va_join (wr := [(a0, .inl (ka0, 10, .inl (fun _ => 0)))]) (w1 := [(h0, .inr (6, [.ref a0, .ref a1, .ref a2, w3, w4])), (a1, .inl (ka1, 8, .inl (fun _ => 0))), (a2, .inl (ka2, 8, .inl (slF (-6) 0 8)))]) hP hD [1, 3, 0] [2] rfl rfl (by decide) (by decide) hk1 hFc hP1 hD1
  have hK := (hK.sub (tys' := [(ka0, .int)]) [1] rfl).app hK1
  clear hz1 hk1 hPc hDc hKc hFc
  generalize H1 = H at hP hS ⊢
  have hK : va_K (dC, dI) vwCl [(ka0, .int), (ka1, .int), (ka2, .int)] s := hK
  have hP : va_P (dC, dI) vwCl [(a0, .inl (ka0, 10, .inl (fun _ => 0))), (h0, .inr (6, [.ref a0, .ref a1, .ref a2, w3, w4])), (a1, .inl (ka1, 8, .inl (fun _ => 0))), (a2, .inl (ka2, 8, .inl (slF (-6) 0 8)))] H := hP
  have hD : va_D A [(a0, .inl (ka0, 10, .inl (fun _ => 0))), (h0, .inr (6, [.ref a0, .ref a1, .ref a2, w3, w4])), (a1, .inl (ka1, 8, .inl (fun _ => 0))), (a2, .inl (ka2, 8, .inl (slF (-6) 0 8)))] := hD
  obtain rfl : r_2 = 1 := hw_2
  refine lv_if_eq (tgt := 24) hx hb dX7_spread_19 (by decide) (fun h => absurd h (by decide)) (fun _ => ?_)
  refine lv_iload_n hx hb dX7_spread_22 rfl (lv_at hl 0 rfl) ?_
  exact W.iret (v := 0) hx hb hr (fun t ht hW => ⟨⟨0, (), rfl, rfl, by rw [ht]; exact hP, va_K.moved hW.alike hK, hD⟩, hS.F ht⟩) hS.2.2 dX7_spread_23
set_option maxHeartbeats 4000000 in
set_option maxRecDepth 100000 in
theorem c_colOf (l : Launch) (dC : Nat → ClassId) (dI : Nat → Nat → Nat) (sz : Nat) (h0 : Nat) (w0 : Value) (w1 : Value) (a2 : Nat) (w3 : Value) (w4 : Value) (ka2 : ClassId) (n : Int32)  : Met l yX7_columnOf (wq yX7_columnOf cX7_columnOf 2 (some .int)) ({ frames := 1, cells := 0, slots := 0, locals := 20 }) (va_Pc [.ref h0, .int n] (pcW dC dI [(ka2, .int)] [(h0, .inr (6, [w0, w1, .ref a2, w3, w4])), (a2, .inl (ka2, 8, .inl (slF (-6) 0 8)))] sz)) (va_Qi (fun (r : Int32) (_ : Unit) => r = (-6)) (fun _ _ => True) (fun q : Nat => sz ≤ q)) 0 0 (fun q : Nat => sz ≤ q) := by
  refine Met.ofW (cc := cX7_columnOf) (maxL := 2) (ret := (some .int)) (by decide) rfl ?_
  intro p e s m args below meth c s₁ B hml hv
  obtain ⟨rfl, hsz, hN, hP, hK, hD0⟩ := hv
  have hx := B.exec
  have hb := B.bytes
  have hr := B.returns
  have hts0 := atoms_spec (ws := (wq yX7_columnOf cX7_columnOf 2 (some .int))) B.pre
  have hts : ∀ w ∈ BG, w.before _ s = true := fun w h => hts0 w (List.mem_cons_of_mem _ h)
  have hown : s.vm.findClass RX7 = some m.cls := findClass_of_methodNamed B.named
  have hlocks := B.notSynchronized
  subst hsz
  have hA : ∀ q : Nat, s.heap.size ≤ q → (fun q : Nat => s.heap.size ≤ q) q := fun _ h => h
  have hD := hD0
  have hS : va_S (fun q : Nat => s.heap.size ≤ q) s.heap s.heap [] := va_S.rf
  have hP : va_P (dC, dI) vwCl [(h0, .inr (6, [w0, w1, .ref a2, w3, w4])), (a2, .inl (ka2, 8, .inl (slF (-6) 0 8)))] s.heap := hP
  have hl := lv_entry ([.ref h0, .int n]) (n := 2) (Nat.le_of_ble_eq_true rfl)
  rw [lg_entry_eq]
  generalize (lg_sl ([.ref h0, .int n]) ++ List.replicate (2 - (lg_sl ([.ref h0, .int n])).length) Slot.unset).toArray = ls at hl ⊢
  have hl : lv_has ls 2 [(0, .ref h0), (1, .int n)] := hl
  skip
  refine lv_iload_n hx hb dX7_columnOf_0 rfl (lv_at hl 1 rfl) ?_
  have hPc := hP.sub (ws' := []) [] rfl
  have hDc := hD.sub (ws' := []) [] (by decide) rfl
  have hKc := hK.sub (tys' := []) [] rfl
  refine va_calli (va_runSN (As := [.int n]) (rest := []) ⟨hx, hb, hml, hown, hts⟩ (c_isName l dC dI s.heap.size n) ⟨va_cnB 1 hts (gN mw_2_99) rfl rfl rfl (hN (RX7, 50, yX8_isName, RX8) (List.mem_of_getElem? (i := 12) rfl)) (hts _ mw_1_1) (by decide +kernel) ⟨Nat.le_of_ble_eq_true rfl, Nat.le_of_ble_eq_true rfl⟩, (hts _ mw_2_98), trivial⟩ ⟨pcW_blind, pcW_at hPc hKc hDc hN⟩ rfl rfl hl.1 rfl (lv_room (Nat.le_of_ble_eq_true rfl)) dX7_columnOf_1 ⟨Nat.le_of_ble_eq_true rfl, Nat.le_of_ble_eq_true rfl⟩) hS (fun q h1 h2 => absurd h2 (Nat.not_le.mpr h1)) (fun q h => hA q (Nat.le_trans hS.1 h)) (fun r_1 u t H1 locs ht hvm hw_1 hB hz1 hk1 hS => ?_)
  have hP := keepP hP hk1
  clear hz1 hk1 hB ht hvm hPc hDc hKc
  generalize H1 = H at hP hS ⊢
  rcases fx_bool hw_1 with ⟨rfl, b_2⟩ | ⟨rfl, b_2⟩
  · skip
    refine lv_if_eq (tgt := 16) hx hb dX7_columnOf_4 (by decide) (fun h => absurd h (by decide)) (fun _ => ?_)
    refine lv_aload_n hx hb dX7_columnOf_7 rfl (lv_at hl 0 rfl) ?_
    refine va_get (D := (dC, dI)) (ci := 6) (v := .ref a2) (C := RX7) (T := TX7) (N := 5) hx hb hts inB_7 hown hK hP 0 rfl rfl 2 (by decide) (hts _ mw_1_129) (fun _ h9 => h9) rfl dX7_columnOf_8 ?_
    refine lv_iload_n hx hb dX7_columnOf_11 rfl (lv_at hl 1 rfl) ?_
    refine va_iald hx hb hK hP 1 0 rfl rfl (show vp_in n 8 from fx_in (by omega) (by omega)) dX7_columnOf_12 ?_
    refine hx_top (y := (-6)) (slF_in (fx_cl (by omega) (by omega))) ?_
    refine lv_goto (tgt := 18) hx hb dX7_columnOf_13 (by decide) ?_
    exact W.iret (v := (-6)) hx hb hr (fun t ht hW => ⟨⟨(-6), (), rfl, rfl, trivial⟩, hS.F ht⟩) hS.2.2 dX7_columnOf_18
  · skip
    refine lv_if_eq (tgt := 16) hx hb dX7_columnOf_4 (by decide) (fun _ => ?_) (fun h => absurd (by decide) h)
    refine lv_bipush (v := (-6)) hx hb dX7_columnOf_16 (by decide) ?_
    exact W.iret (v := (-6)) hx hb hr (fun t ht hW => ⟨⟨(-6), (), rfl, rfl, trivial⟩, hS.F ht⟩) hS.2.2 dX7_columnOf_18
end
section
theorem mw_1_130 : Cond.fieldLink RX7 21 "AnswerLines$Table" "pushedTo" "[I" ∈ BG := mB (t1 (i := 130) (by decide +kernel)) (by decide +kernel)
theorem mw_1_131 : Cond.fieldLink RX7 24 "AnswerLines$Table" "slots" "[I" ∈ BG := mB (t1 (i := 131) (by decide +kernel)) (by decide +kernel)
theorem dX7_push_0 : decode cX7_push 0 = .ok (.iconst 0, 1) := by decide +kernel
theorem dX7_push_1 : decode cX7_push 1 = .ok (.istore_n 1, 1) := by decide +kernel
theorem dX7_push_2 : decode cX7_push 2 = .ok (.iload_n 1, 1) := by decide +kernel
theorem dX7_push_3 : decode cX7_push 3 = .ok (.bipush 100, 2) := by decide +kernel
theorem dX7_push_5 : decode cX7_push 5 = .ok (.if_icmp .ge 17, 3) := by decide +kernel
theorem dX7_push_22 : decode cX7_push 22 = .ok (.iconst 0, 1) := by decide +kernel
theorem dX7_push_23 : decode cX7_push 23 = .ok (.istore_n 1, 1) := by decide +kernel
theorem dX7_push_24 : decode cX7_push 24 = .ok (.iconst 0, 1) := by decide +kernel
theorem dX7_push_25 : decode cX7_push 25 = .ok (.istore_n 2, 1) := by decide +kernel
theorem dX7_push_26 : decode cX7_push 26 = .ok (.iload_n 2, 1) := by decide +kernel
theorem dX7_push_27 : decode cX7_push 27 = .ok (.bipush 10, 2) := by decide +kernel
theorem dX7_push_29 : decode cX7_push 29 = .ok (.if_icmp .ge 36, 3) := by decide +kernel
theorem dX7_push_32 : decode cX7_push 32 = .ok (.aload_n 0, 1) := by decide +kernel
theorem dX7_push_33 : decode cX7_push 33 = .ok (.getfield 21, 3) := by decide +kernel
theorem dX7_push_36 : decode cX7_push 36 = .ok (.iload_n 2, 1) := by decide +kernel
theorem dX7_push_37 : decode cX7_push 37 = .ok (.bipush (-6), 2) := by decide +kernel
theorem dX7_push_39 : decode cX7_push 39 = .ok (.iastore, 1) := by decide +kernel
theorem dX7_push_40 : decode cX7_push 40 = .ok (.aload_n 0, 1) := by decide +kernel
theorem dX7_push_41 : decode cX7_push 41 = .ok (.getfield 9, 3) := by decide +kernel
theorem dX7_push_44 : decode cX7_push 44 = .ok (.iload_n 2, 1) := by decide +kernel
theorem dX7_push_45 : decode cX7_push 45 = .ok (.iaload, 1) := by decide +kernel
theorem dX7_push_46 : decode cX7_push 46 = .ok (.ifCond .eq 13, 3) := by decide +kernel
theorem dX7_push_59 : decode cX7_push 59 = .ok (.iinc 2 1, 3) := by decide +kernel
theorem dX7_push_62 : decode cX7_push 62 = .ok (.goto (-36), 3) := by decide +kernel
theorem dX7_push_65 : decode cX7_push 65 = .ok (.iload_n 1, 1) := by decide +kernel
theorem dX7_push_66 : decode cX7_push 66 = .ok (.ireturn, 1) := by decide +kernel
theorem dX7_push_8 : decode cX7_push 8 = .ok (.aload_n 0, 1) := by decide +kernel
theorem dX7_push_9 : decode cX7_push 9 = .ok (.getfield 24, 3) := by decide +kernel
theorem dX7_push_12 : decode cX7_push 12 = .ok (.iload_n 1, 1) := by decide +kernel
theorem dX7_push_13 : decode cX7_push 13 = .ok (.bipush (-6), 2) := by decide +kernel
theorem dX7_push_15 : decode cX7_push 15 = .ok (.iastore, 1) := by decide +kernel
theorem dX7_push_16 : decode cX7_push 16 = .ok (.iinc 1 1, 3) := by decide +kernel
theorem dX7_push_19 : decode cX7_push 19 = .ok (.goto (-17), 3) := by decide +kernel
theorem dX7_standsAt_0 : decode cX7_standsAt 0 = .ok (.iload_n 1, 1) := by decide +kernel
theorem dX7_standsAt_1 : decode cX7_standsAt 1 = .ok (.ifCond .lt 18, 3) := by decide +kernel
theorem dX7_standsAt_19 : decode cX7_standsAt 19 = .ok (.bipush (-6), 2) := by decide +kernel
theorem dX7_standsAt_21 : decode cX7_standsAt 21 = .ok (.ireturn, 1) := by decide +kernel
theorem dX7_standsAt_4 : decode cX7_standsAt 4 = .ok (.iload_n 1, 1) := by decide +kernel
theorem dX7_standsAt_5 : decode cX7_standsAt 5 = .ok (.bipush 100, 2) := by decide +kernel
theorem dX7_standsAt_7 : decode cX7_standsAt 7 = .ok (.if_icmp .ge 12, 3) := by decide +kernel
theorem dX7_standsAt_10 : decode cX7_standsAt 10 = .ok (.aload_n 0, 1) := by decide +kernel
theorem dX7_standsAt_11 : decode cX7_standsAt 11 = .ok (.getfield 24, 3) := by decide +kernel
theorem dX7_standsAt_14 : decode cX7_standsAt 14 = .ok (.iload_n 1, 1) := by decide +kernel
theorem dX7_standsAt_15 : decode cX7_standsAt 15 = .ok (.iaload, 1) := by decide +kernel
theorem dX7_standsAt_16 : decode cX7_standsAt 16 = .ok (.goto 5, 3) := by decide +kernel
set_option maxHeartbeats 4000000 in
set_option maxRecDepth 100000 in
theorem c_push (l : Launch) (dC : Nat → ClassId) (dI : Nat → Nat → Nat) (sz : Nat) (h0 : Nat) (a0 : Nat) (w1 : Value) (w2 : Value) (a3 : Nat) (a4 : Nat) (ka0 : ClassId) (ka3 : ClassId) (ka4 : ClassId)  : Met l yX7_push (wq yX7_push cX7_push 3 (some .int)) ({ frames := 0, cells := 0, slots := 0, locals := 0 }) (va_Pc [.ref h0] (pcW dC dI [(ka0, .int), (ka3, .int), (ka4, .int)] [(h0, .inr (6, [.ref a0, w1, w2, .ref a3, .ref a4])), (a0, .inl (ka0, 10, .inl (fun _ => 0))), (a3, .inl (ka3, 10, .inl (fun _ => 0))), (a4, .inl (ka4, 100, .inl (fun _ => 0)))] sz)) (va_Qi (fun (r : Int32) (_ : Unit) => r = 0) (fun _ t => va_P (dC, dI) vwCl [(h0, .inr (6, [.ref a0, w1, w2, .ref a3, .ref a4])), (a0, .inl (ka0, 10, .inl (fun _ => 0))), (a3, .inl (ka3, 10, .inl (slF (-6) 0 10))), (a4, .inl (ka4, 100, .inl (slF (-6) 0 100)))] t.heap ∧ va_K (dC, dI) vwCl [(ka0, .int), (ka3, .int), (ka4, .int)] t ∧ va_D (va_A [(h0, .inr (6, [.ref a0, w1, w2, .ref a3, .ref a4])), (a0, .inl (ka0, 10, .inl (fun _ => 0))), (a3, .inl (ka3, 10, .inl (fun _ => 0))), (a4, .inl (ka4, 100, .inl (fun _ => 0)))] sz) [(h0, .inr (6, [.ref a0, w1, w2, .ref a3, .ref a4])), (a0, .inl (ka0, 10, .inl (fun _ => 0))), (a3, .inl (ka3, 10, .inl (slF (-6) 0 10))), (a4, .inl (ka4, 100, .inl (slF (-6) 0 100)))]) (va_A [(h0, .inr (6, [.ref a0, w1, w2, .ref a3, .ref a4])), (a0, .inl (ka0, 10, .inl (fun _ => 0))), (a3, .inl (ka3, 10, .inl (fun _ => 0))), (a4, .inl (ka4, 100, .inl (fun _ => 0)))] sz)) 0 0 (va_A [(h0, .inr (6, [.ref a0, w1, w2, .ref a3, .ref a4])), (a0, .inl (ka0, 10, .inl (fun _ => 0))), (a3, .inl (ka3, 10, .inl (fun _ => 0))), (a4, .inl (ka4, 100, .inl (fun _ => 0)))] sz) := by
  refine Met.ofW (cc := cX7_push) (maxL := 3) (ret := (some .int)) (by decide) rfl ?_
  intro p e s m args below meth c s₁ B hml hv
  obtain ⟨rfl, hsz, hN, hP, hK, hD0⟩ := hv
  have hx := B.exec
  have hb := B.bytes
  have hr := B.returns
  have hts0 := atoms_spec (ws := (wq yX7_push cX7_push 3 (some .int))) B.pre
  have hts : ∀ w ∈ BG, w.before _ s = true := fun w h => hts0 w (List.mem_cons_of_mem _ h)
  have hown : s.vm.findClass RX7 = some m.cls := findClass_of_methodNamed B.named
  have hlocks := B.notSynchronized
  subst hsz
  have hD := hD0.self (sz := s.heap.size)
  generalize hAe : va_A [(h0, .inr (6, [.ref a0, w1, w2, .ref a3, .ref a4])), (a0, .inl (ka0, 10, .inl (fun _ => 0))), (a3, .inl (ka3, 10, .inl (fun _ => 0))), (a4, .inl (ka4, 100, .inl (fun _ => 0)))] s.heap.size = A at hD ⊢
  have hA : ∀ q : Nat, s.heap.size ≤ q → A q := fun q h => by rw [← hAe]; exact Or.inr h
  have hS : va_S A s.heap s.heap [] := va_S.rf
  have hP : va_P (dC, dI) vwCl [(h0, .inr (6, [.ref a0, w1, w2, .ref a3, .ref a4])), (a0, .inl (ka0, 10, .inl (fun _ => 0))), (a3, .inl (ka3, 10, .inl (fun _ => 0))), (a4, .inl (ka4, 100, .inl (fun _ => 0)))] s.heap := hP
  have hl := lv_entry ([.ref h0]) (n := 3) (Nat.le_of_ble_eq_true rfl)
  rw [lg_entry_eq]
  generalize (lg_sl ([.ref h0]) ++ List.replicate (3 - (lg_sl ([.ref h0])).length) Slot.unset).toArray = ls at hl ⊢
  have hl : lv_has ls 3 [(0, .ref h0)] := hl
  skip
  refine lv_iconst (v := 0) hx hb dX7_push_0 (by decide) ?_
  refine lv_istore_n (lv' := [(1, .int 0), (0, .ref h0)]) hx hb dX7_push_1 rfl hl (by decide) rfl (fun ls hl => ?_)
  have key_1 : ∀ (n : Nat) (k : Nat), k ≤ 100 → 100 - k < n → ∀ (H : Heap) (locs : List Loc), va_P (dC, dI) vwCl [(h0, .inr (6, [.ref a0, w1, w2, .ref a3, .ref a4])), (a0, .inl (ka0, 10, .inl (fun _ => 0))), (a3, .inl (ka3, 10, .inl (fun _ => 0))), (a4, .inl (ka4, 100, .inl (slF (-6) 0 k)))] H → va_D A [(h0, .inr (6, [.ref a0, w1, w2, .ref a3, .ref a4])), (a0, .inl (ka0, 10, .inl (fun _ => 0))), (a3, .inl (ka3, 10, .inl (fun _ => 0))), (a4, .inl (ka4, 100, .inl (slF (-6) 0 k)))] → va_S A s.heap H locs → ∀ (ls : Array Slot), lv_has ls 3 [(1, .int (nI k)), (0, .ref h0)] → W p l e (headSpec (wq yX7_push cX7_push 3 (some .int)) ({ frames := 0, cells := 0, slots := 0, locals := 0 })).room s m (([.ref h0] : List Value)).toArray below meth c H locs 0 0 (MQ below (va_Qi (fun (r : Int32) (_ : Unit) => r = 0) (fun _ t => va_P (dC, dI) vwCl [(h0, .inr (6, [.ref a0, w1, w2, .ref a3, .ref a4])), (a0, .inl (ka0, 10, .inl (fun _ => 0))), (a3, .inl (ka3, 10, .inl (slF (-6) 0 10))), (a4, .inl (ka4, 100, .inl (slF (-6) 0 100)))] t.heap ∧ va_K (dC, dI) vwCl [(ka0, .int), (ka3, .int), (ka4, .int)] t ∧ va_D A [(h0, .inr (6, [.ref a0, w1, w2, .ref a3, .ref a4])), (a0, .inl (ka0, 10, .inl (fun _ => 0))), (a3, .inl (ka3, 10, .inl (slF (-6) 0 10))), (a4, .inl (ka4, 100, .inl (slF (-6) 0 100)))]) A) (([.ref h0] : List Value)).toArray s 0 0 A) (F0 m 2 ls []) := by
    intro n
    induction n with
    | zero => intro k hk hme; exact absurd hme (Nat.not_lt_zero _)
    | succ n ih_2 =>
      intro k hk hme H locs hP hD hS ls hl
      refine lv_iload_n hx hb dX7_push_2 rfl (lv_at hl 0 rfl) ?_
      refine lv_bipush (v := 100) hx hb dX7_push_3 (by decide) ?_
      refine lv_icmp_ge (tgt := 22) hx hb dX7_push_5 (by decide) (fun c_3 => ?_) (fun c_3 => ?_)
      · have b_4 : k ≥ 100 := nz_ge (by omega) (by omega) c_3
        obtain rfl : k = 100 := by omega
        refine lv_iconst (v := 0) hx hb dX7_push_22 (by decide) ?_
        refine lv_istore_n (lv' := [(1, .int 0), (0, .ref h0)]) hx hb dX7_push_23 rfl hl (by decide) rfl (fun ls hl => ?_)
        refine lv_iconst (v := 0) hx hb dX7_push_24 (by decide) ?_
        refine lv_istore_n (lv' := [(2, .int 0), (1, .int 0), (0, .ref h0)]) hx hb dX7_push_25 rfl hl (by decide) rfl (fun ls hl => ?_)
        refine lv_iload_n hx hb dX7_push_26 rfl (lv_at hl 0 rfl) ?_
        refine lv_bipush (v := 10) hx hb dX7_push_27 (by decide) ?_
        refine lv_icmp_ge (tgt := 65) hx hb dX7_push_29 (by decide) (fun h => absurd h (by decide)) (fun _ => ?_)
        refine lv_aload_n hx hb dX7_push_32 rfl (lv_at hl 2 rfl) ?_
        refine va_get (D := (dC, dI)) (ci := 6) (v := .ref a3) (C := RX7) (T := TX7) (N := 5) hx hb hts inB_7 hown hK hP 0 rfl rfl 3 (by decide) (hts _ mw_1_130) (fun _ h9 => h9) rfl dX7_push_33 ?_
        refine lv_iload_n hx hb dX7_push_36 rfl (lv_at hl 0 rfl) ?_
        refine lv_bipush (v := (-6)) hx hb dX7_push_37 (by decide) ?_
        refine va_iast hx hb hK hP hD hS 2 1 rfl rfl (show vp_in 0 10 by unfold vp_in; decide) dX7_push_39 (fun H locs hP hD hS => ?_)
        rw [show upd (fun _ => 0) (Int32.toNatClampNeg 0) (-6) = (slF (-6) 0 1) from slF_u0 _ _] at hP hD
        have hP : va_P (dC, dI) vwCl [(h0, .inr (6, [.ref a0, w1, w2, .ref a3, .ref a4])), (a0, .inl (ka0, 10, .inl (fun _ => 0))), (a3, .inl (ka3, 10, .inl (slF (-6) 0 1))), (a4, .inl (ka4, 100, .inl (slF (-6) 0 100)))] H := hP
        have hD : va_D A [(h0, .inr (6, [.ref a0, w1, w2, .ref a3, .ref a4])), (a0, .inl (ka0, 10, .inl (fun _ => 0))), (a3, .inl (ka3, 10, .inl (slF (-6) 0 1))), (a4, .inl (ka4, 100, .inl (slF (-6) 0 100)))] := hD
        refine lv_aload_n hx hb dX7_push_40 rfl (lv_at hl 2 rfl) ?_
        refine va_get (D := (dC, dI)) (ci := 6) (v := .ref a0) (C := RX7) (T := TX7) (N := 5) hx hb hts inB_7 hown hK hP 0 rfl rfl 0 (by decide) (hts _ mw_1_127) (fun _ h9 => h9) rfl dX7_push_41 ?_
        refine lv_iload_n hx hb dX7_push_44 rfl (lv_at hl 0 rfl) ?_
        refine va_iald hx hb hK hP 1 0 rfl rfl (show vp_in 0 10 by unfold vp_in; decide) dX7_push_45 ?_
        refine hx_top (y := 0) rfl ?_
        refine lv_if_eq (tgt := 59) hx hb dX7_push_46 (by decide) (fun _ => ?_) (fun h => absurd (by decide) h)
        refine lv_iinc (v := 1) (lv' := [(2, .int 1), (1, .int 0), (0, .ref h0)]) hx hb dX7_push_59 hl (k := 0) rfl (by decide) (by decide) rfl (fun ls hl => ?_)
        refine lv_goto (tgt := 26) hx hb dX7_push_62 (by decide) ?_
        refine lv_iload_n hx hb dX7_push_26 rfl (lv_at hl 0 rfl) ?_
        refine lv_bipush (v := 10) hx hb dX7_push_27 (by decide) ?_
        refine lv_icmp_ge (tgt := 65) hx hb dX7_push_29 (by decide) (fun h => absurd h (by decide)) (fun _ => ?_)
        refine lv_aload_n hx hb dX7_push_32 rfl (lv_at hl 2 rfl) ?_
        refine va_get (D := (dC, dI)) (ci := 6) (v := .ref a3) (C := RX7) (T := TX7) (N := 5) hx hb hts inB_7 hown hK hP 0 rfl rfl 3 (by decide) (hts _ mw_1_130) (fun _ h9 => h9) rfl dX7_push_33 ?_
        refine lv_iload_n hx hb dX7_push_36 rfl (lv_at hl 0 rfl) ?_
        refine lv_bipush (v := (-6)) hx hb dX7_push_37 (by decide) ?_
        refine va_iast hx hb hK hP hD hS 2 1 rfl rfl (show vp_in 1 10 by unfold vp_in; decide) dX7_push_39 (fun H locs hP hD hS => ?_)
        rw [show upd (slF (-6) 0 1) (Int32.toNatClampNeg 1) (-6) = (slF (-6) 0 2) from slF_u _ _ 1] at hP hD
        have hP : va_P (dC, dI) vwCl [(h0, .inr (6, [.ref a0, w1, w2, .ref a3, .ref a4])), (a0, .inl (ka0, 10, .inl (fun _ => 0))), (a3, .inl (ka3, 10, .inl (slF (-6) 0 2))), (a4, .inl (ka4, 100, .inl (slF (-6) 0 100)))] H := hP
        have hD : va_D A [(h0, .inr (6, [.ref a0, w1, w2, .ref a3, .ref a4])), (a0, .inl (ka0, 10, .inl (fun _ => 0))), (a3, .inl (ka3, 10, .inl (slF (-6) 0 2))), (a4, .inl (ka4, 100, .inl (slF (-6) 0 100)))] := hD
        refine lv_aload_n hx hb dX7_push_40 rfl (lv_at hl 2 rfl) ?_
        refine va_get (D := (dC, dI)) (ci := 6) (v := .ref a0) (C := RX7) (T := TX7) (N := 5) hx hb hts inB_7 hown hK hP 0 rfl rfl 0 (by decide) (hts _ mw_1_127) (fun _ h9 => h9) rfl dX7_push_41 ?_
        refine lv_iload_n hx hb dX7_push_44 rfl (lv_at hl 0 rfl) ?_
        refine va_iald hx hb hK hP 1 0 rfl rfl (show vp_in 1 10 by unfold vp_in; decide) dX7_push_45 ?_
        refine hx_top (y := 0) rfl ?_
        refine lv_if_eq (tgt := 59) hx hb dX7_push_46 (by decide) (fun _ => ?_) (fun h => absurd (by decide) h)
        refine lv_iinc (v := 2) (lv' := [(2, .int 2), (1, .int 0), (0, .ref h0)]) hx hb dX7_push_59 hl (k := 0) rfl (by decide) (by decide) rfl (fun ls hl => ?_)
        refine lv_goto (tgt := 26) hx hb dX7_push_62 (by decide) ?_
        refine lv_iload_n hx hb dX7_push_26 rfl (lv_at hl 0 rfl) ?_
        refine lv_bipush (v := 10) hx hb dX7_push_27 (by decide) ?_
        refine lv_icmp_ge (tgt := 65) hx hb dX7_push_29 (by decide) (fun h => absurd h (by decide)) (fun _ => ?_)
        refine lv_aload_n hx hb dX7_push_32 rfl (lv_at hl 2 rfl) ?_
        refine va_get (D := (dC, dI)) (ci := 6) (v := .ref a3) (C := RX7) (T := TX7) (N := 5) hx hb hts inB_7 hown hK hP 0 rfl rfl 3 (by decide) (hts _ mw_1_130) (fun _ h9 => h9) rfl dX7_push_33 ?_
        refine lv_iload_n hx hb dX7_push_36 rfl (lv_at hl 0 rfl) ?_
        refine lv_bipush (v := (-6)) hx hb dX7_push_37 (by decide) ?_
        refine va_iast hx hb hK hP hD hS 2 1 rfl rfl (show vp_in 2 10 by unfold vp_in; decide) dX7_push_39 (fun H locs hP hD hS => ?_)
        rw [show upd (slF (-6) 0 2) (Int32.toNatClampNeg 2) (-6) = (slF (-6) 0 3) from slF_u _ _ 2] at hP hD
        have hP : va_P (dC, dI) vwCl [(h0, .inr (6, [.ref a0, w1, w2, .ref a3, .ref a4])), (a0, .inl (ka0, 10, .inl (fun _ => 0))), (a3, .inl (ka3, 10, .inl (slF (-6) 0 3))), (a4, .inl (ka4, 100, .inl (slF (-6) 0 100)))] H := hP
        have hD : va_D A [(h0, .inr (6, [.ref a0, w1, w2, .ref a3, .ref a4])), (a0, .inl (ka0, 10, .inl (fun _ => 0))), (a3, .inl (ka3, 10, .inl (slF (-6) 0 3))), (a4, .inl (ka4, 100, .inl (slF (-6) 0 100)))] := hD
        refine lv_aload_n hx hb dX7_push_40 rfl (lv_at hl 2 rfl) ?_
        refine va_get (D := (dC, dI)) (ci := 6) (v := .ref a0) (C := RX7) (T := TX7) (N := 5) hx hb hts inB_7 hown hK hP 0 rfl rfl 0 (by decide) (hts _ mw_1_127) (fun _ h9 => h9) rfl dX7_push_41 ?_
        refine lv_iload_n hx hb dX7_push_44 rfl (lv_at hl 0 rfl) ?_
        refine va_iald hx hb hK hP 1 0 rfl rfl (show vp_in 2 10 by unfold vp_in; decide) dX7_push_45 ?_
        refine hx_top (y := 0) rfl ?_
        refine lv_if_eq (tgt := 59) hx hb dX7_push_46 (by decide) (fun _ => ?_) (fun h => absurd (by decide) h)
        refine lv_iinc (v := 3) (lv' := [(2, .int 3), (1, .int 0), (0, .ref h0)]) hx hb dX7_push_59 hl (k := 0) rfl (by decide) (by decide) rfl (fun ls hl => ?_)
        refine lv_goto (tgt := 26) hx hb dX7_push_62 (by decide) ?_
        refine lv_iload_n hx hb dX7_push_26 rfl (lv_at hl 0 rfl) ?_
        refine lv_bipush (v := 10) hx hb dX7_push_27 (by decide) ?_
        refine lv_icmp_ge (tgt := 65) hx hb dX7_push_29 (by decide) (fun h => absurd h (by decide)) (fun _ => ?_)
        refine lv_aload_n hx hb dX7_push_32 rfl (lv_at hl 2 rfl) ?_
        refine va_get (D := (dC, dI)) (ci := 6) (v := .ref a3) (C := RX7) (T := TX7) (N := 5) hx hb hts inB_7 hown hK hP 0 rfl rfl 3 (by decide) (hts _ mw_1_130) (fun _ h9 => h9) rfl dX7_push_33 ?_
        refine lv_iload_n hx hb dX7_push_36 rfl (lv_at hl 0 rfl) ?_
        refine lv_bipush (v := (-6)) hx hb dX7_push_37 (by decide) ?_
        refine va_iast hx hb hK hP hD hS 2 1 rfl rfl (show vp_in 3 10 by unfold vp_in; decide) dX7_push_39 (fun H locs hP hD hS => ?_)
        rw [show upd (slF (-6) 0 3) (Int32.toNatClampNeg 3) (-6) = (slF (-6) 0 4) from slF_u _ _ 3] at hP hD
        have hP : va_P (dC, dI) vwCl [(h0, .inr (6, [.ref a0, w1, w2, .ref a3, .ref a4])), (a0, .inl (ka0, 10, .inl (fun _ => 0))), (a3, .inl (ka3, 10, .inl (slF (-6) 0 4))), (a4, .inl (ka4, 100, .inl (slF (-6) 0 100)))] H := hP
        have hD : va_D A [(h0, .inr (6, [.ref a0, w1, w2, .ref a3, .ref a4])), (a0, .inl (ka0, 10, .inl (fun _ => 0))), (a3, .inl (ka3, 10, .inl (slF (-6) 0 4))), (a4, .inl (ka4, 100, .inl (slF (-6) 0 100)))] := hD
        refine lv_aload_n hx hb dX7_push_40 rfl (lv_at hl 2 rfl) ?_
        refine va_get (D := (dC, dI)) (ci := 6) (v := .ref a0) (C := RX7) (T := TX7) (N := 5) hx hb hts inB_7 hown hK hP 0 rfl rfl 0 (by decide) (hts _ mw_1_127) (fun _ h9 => h9) rfl dX7_push_41 ?_
        refine lv_iload_n hx hb dX7_push_44 rfl (lv_at hl 0 rfl) ?_
        refine va_iald hx hb hK hP 1 0 rfl rfl (show vp_in 3 10 by unfold vp_in; decide) dX7_push_45 ?_
        refine hx_top (y := 0) rfl ?_
        refine lv_if_eq (tgt := 59) hx hb dX7_push_46 (by decide) (fun _ => ?_) (fun h => absurd (by decide) h)
        refine lv_iinc (v := 4) (lv' := [(2, .int 4), (1, .int 0), (0, .ref h0)]) hx hb dX7_push_59 hl (k := 0) rfl (by decide) (by decide) rfl (fun ls hl => ?_)
        refine lv_goto (tgt := 26) hx hb dX7_push_62 (by decide) ?_
        refine lv_iload_n hx hb dX7_push_26 rfl (lv_at hl 0 rfl) ?_
        refine lv_bipush (v := 10) hx hb dX7_push_27 (by decide) ?_
        refine lv_icmp_ge (tgt := 65) hx hb dX7_push_29 (by decide) (fun h => absurd h (by decide)) (fun _ => ?_)
        refine lv_aload_n hx hb dX7_push_32 rfl (lv_at hl 2 rfl) ?_
        refine va_get (D := (dC, dI)) (ci := 6) (v := .ref a3) (C := RX7) (T := TX7) (N := 5) hx hb hts inB_7 hown hK hP 0 rfl rfl 3 (by decide) (hts _ mw_1_130) (fun _ h9 => h9) rfl dX7_push_33 ?_
        refine lv_iload_n hx hb dX7_push_36 rfl (lv_at hl 0 rfl) ?_
        refine lv_bipush (v := (-6)) hx hb dX7_push_37 (by decide) ?_
        refine va_iast hx hb hK hP hD hS 2 1 rfl rfl (show vp_in 4 10 by unfold vp_in; decide) dX7_push_39 (fun H locs hP hD hS => ?_)
        rw [show upd (slF (-6) 0 4) (Int32.toNatClampNeg 4) (-6) = (slF (-6) 0 5) from slF_u _ _ 4] at hP hD
        have hP : va_P (dC, dI) vwCl [(h0, .inr (6, [.ref a0, w1, w2, .ref a3, .ref a4])), (a0, .inl (ka0, 10, .inl (fun _ => 0))), (a3, .inl (ka3, 10, .inl (slF (-6) 0 5))), (a4, .inl (ka4, 100, .inl (slF (-6) 0 100)))] H := hP
        have hD : va_D A [(h0, .inr (6, [.ref a0, w1, w2, .ref a3, .ref a4])), (a0, .inl (ka0, 10, .inl (fun _ => 0))), (a3, .inl (ka3, 10, .inl (slF (-6) 0 5))), (a4, .inl (ka4, 100, .inl (slF (-6) 0 100)))] := hD
        refine lv_aload_n hx hb dX7_push_40 rfl (lv_at hl 2 rfl) ?_
        refine va_get (D := (dC, dI)) (ci := 6) (v := .ref a0) (C := RX7) (T := TX7) (N := 5) hx hb hts inB_7 hown hK hP 0 rfl rfl 0 (by decide) (hts _ mw_1_127) (fun _ h9 => h9) rfl dX7_push_41 ?_
        refine lv_iload_n hx hb dX7_push_44 rfl (lv_at hl 0 rfl) ?_
        refine va_iald hx hb hK hP 1 0 rfl rfl (show vp_in 4 10 by unfold vp_in; decide) dX7_push_45 ?_
        refine hx_top (y := 0) rfl ?_
        refine lv_if_eq (tgt := 59) hx hb dX7_push_46 (by decide) (fun _ => ?_) (fun h => absurd (by decide) h)
        refine lv_iinc (v := 5) (lv' := [(2, .int 5), (1, .int 0), (0, .ref h0)]) hx hb dX7_push_59 hl (k := 0) rfl (by decide) (by decide) rfl (fun ls hl => ?_)
        refine lv_goto (tgt := 26) hx hb dX7_push_62 (by decide) ?_
        refine lv_iload_n hx hb dX7_push_26 rfl (lv_at hl 0 rfl) ?_
        refine lv_bipush (v := 10) hx hb dX7_push_27 (by decide) ?_
        refine lv_icmp_ge (tgt := 65) hx hb dX7_push_29 (by decide) (fun h => absurd h (by decide)) (fun _ => ?_)
        refine lv_aload_n hx hb dX7_push_32 rfl (lv_at hl 2 rfl) ?_
        refine va_get (D := (dC, dI)) (ci := 6) (v := .ref a3) (C := RX7) (T := TX7) (N := 5) hx hb hts inB_7 hown hK hP 0 rfl rfl 3 (by decide) (hts _ mw_1_130) (fun _ h9 => h9) rfl dX7_push_33 ?_
        refine lv_iload_n hx hb dX7_push_36 rfl (lv_at hl 0 rfl) ?_
        refine lv_bipush (v := (-6)) hx hb dX7_push_37 (by decide) ?_
        refine va_iast hx hb hK hP hD hS 2 1 rfl rfl (show vp_in 5 10 by unfold vp_in; decide) dX7_push_39 (fun H locs hP hD hS => ?_)
        rw [show upd (slF (-6) 0 5) (Int32.toNatClampNeg 5) (-6) = (slF (-6) 0 6) from slF_u _ _ 5] at hP hD
        have hP : va_P (dC, dI) vwCl [(h0, .inr (6, [.ref a0, w1, w2, .ref a3, .ref a4])), (a0, .inl (ka0, 10, .inl (fun _ => 0))), (a3, .inl (ka3, 10, .inl (slF (-6) 0 6))), (a4, .inl (ka4, 100, .inl (slF (-6) 0 100)))] H := hP
        have hD : va_D A [(h0, .inr (6, [.ref a0, w1, w2, .ref a3, .ref a4])), (a0, .inl (ka0, 10, .inl (fun _ => 0))), (a3, .inl (ka3, 10, .inl (slF (-6) 0 6))), (a4, .inl (ka4, 100, .inl (slF (-6) 0 100)))] := hD
        refine lv_aload_n hx hb dX7_push_40 rfl (lv_at hl 2 rfl) ?_
        refine va_get (D := (dC, dI)) (ci := 6) (v := .ref a0) (C := RX7) (T := TX7) (N := 5) hx hb hts inB_7 hown hK hP 0 rfl rfl 0 (by decide) (hts _ mw_1_127) (fun _ h9 => h9) rfl dX7_push_41 ?_
        refine lv_iload_n hx hb dX7_push_44 rfl (lv_at hl 0 rfl) ?_
        refine va_iald hx hb hK hP 1 0 rfl rfl (show vp_in 5 10 by unfold vp_in; decide) dX7_push_45 ?_
        refine hx_top (y := 0) rfl ?_
        refine lv_if_eq (tgt := 59) hx hb dX7_push_46 (by decide) (fun _ => ?_) (fun h => absurd (by decide) h)
        refine lv_iinc (v := 6) (lv' := [(2, .int 6), (1, .int 0), (0, .ref h0)]) hx hb dX7_push_59 hl (k := 0) rfl (by decide) (by decide) rfl (fun ls hl => ?_)
        refine lv_goto (tgt := 26) hx hb dX7_push_62 (by decide) ?_
        refine lv_iload_n hx hb dX7_push_26 rfl (lv_at hl 0 rfl) ?_
        refine lv_bipush (v := 10) hx hb dX7_push_27 (by decide) ?_
        refine lv_icmp_ge (tgt := 65) hx hb dX7_push_29 (by decide) (fun h => absurd h (by decide)) (fun _ => ?_)
        refine lv_aload_n hx hb dX7_push_32 rfl (lv_at hl 2 rfl) ?_
        refine va_get (D := (dC, dI)) (ci := 6) (v := .ref a3) (C := RX7) (T := TX7) (N := 5) hx hb hts inB_7 hown hK hP 0 rfl rfl 3 (by decide) (hts _ mw_1_130) (fun _ h9 => h9) rfl dX7_push_33 ?_
        refine lv_iload_n hx hb dX7_push_36 rfl (lv_at hl 0 rfl) ?_
        refine lv_bipush (v := (-6)) hx hb dX7_push_37 (by decide) ?_
        refine va_iast hx hb hK hP hD hS 2 1 rfl rfl (show vp_in 6 10 by unfold vp_in; decide) dX7_push_39 (fun H locs hP hD hS => ?_)
        rw [show upd (slF (-6) 0 6) (Int32.toNatClampNeg 6) (-6) = (slF (-6) 0 7) from slF_u _ _ 6] at hP hD
        have hP : va_P (dC, dI) vwCl [(h0, .inr (6, [.ref a0, w1, w2, .ref a3, .ref a4])), (a0, .inl (ka0, 10, .inl (fun _ => 0))), (a3, .inl (ka3, 10, .inl (slF (-6) 0 7))), (a4, .inl (ka4, 100, .inl (slF (-6) 0 100)))] H := hP
        have hD : va_D A [(h0, .inr (6, [.ref a0, w1, w2, .ref a3, .ref a4])), (a0, .inl (ka0, 10, .inl (fun _ => 0))), (a3, .inl (ka3, 10, .inl (slF (-6) 0 7))), (a4, .inl (ka4, 100, .inl (slF (-6) 0 100)))] := hD
        refine lv_aload_n hx hb dX7_push_40 rfl (lv_at hl 2 rfl) ?_
        refine va_get (D := (dC, dI)) (ci := 6) (v := .ref a0) (C := RX7) (T := TX7) (N := 5) hx hb hts inB_7 hown hK hP 0 rfl rfl 0 (by decide) (hts _ mw_1_127) (fun _ h9 => h9) rfl dX7_push_41 ?_
        refine lv_iload_n hx hb dX7_push_44 rfl (lv_at hl 0 rfl) ?_
        refine va_iald hx hb hK hP 1 0 rfl rfl (show vp_in 6 10 by unfold vp_in; decide) dX7_push_45 ?_
        refine hx_top (y := 0) rfl ?_
        refine lv_if_eq (tgt := 59) hx hb dX7_push_46 (by decide) (fun _ => ?_) (fun h => absurd (by decide) h)
        refine lv_iinc (v := 7) (lv' := [(2, .int 7), (1, .int 0), (0, .ref h0)]) hx hb dX7_push_59 hl (k := 0) rfl (by decide) (by decide) rfl (fun ls hl => ?_)
        refine lv_goto (tgt := 26) hx hb dX7_push_62 (by decide) ?_
        refine lv_iload_n hx hb dX7_push_26 rfl (lv_at hl 0 rfl) ?_
        refine lv_bipush (v := 10) hx hb dX7_push_27 (by decide) ?_
        refine lv_icmp_ge (tgt := 65) hx hb dX7_push_29 (by decide) (fun h => absurd h (by decide)) (fun _ => ?_)
        refine lv_aload_n hx hb dX7_push_32 rfl (lv_at hl 2 rfl) ?_
        refine va_get (D := (dC, dI)) (ci := 6) (v := .ref a3) (C := RX7) (T := TX7) (N := 5) hx hb hts inB_7 hown hK hP 0 rfl rfl 3 (by decide) (hts _ mw_1_130) (fun _ h9 => h9) rfl dX7_push_33 ?_
        refine lv_iload_n hx hb dX7_push_36 rfl (lv_at hl 0 rfl) ?_
        refine lv_bipush (v := (-6)) hx hb dX7_push_37 (by decide) ?_
        refine va_iast hx hb hK hP hD hS 2 1 rfl rfl (show vp_in 7 10 by unfold vp_in; decide) dX7_push_39 (fun H locs hP hD hS => ?_)
        rw [show upd (slF (-6) 0 7) (Int32.toNatClampNeg 7) (-6) = (slF (-6) 0 8) from slF_u _ _ 7] at hP hD
        have hP : va_P (dC, dI) vwCl [(h0, .inr (6, [.ref a0, w1, w2, .ref a3, .ref a4])), (a0, .inl (ka0, 10, .inl (fun _ => 0))), (a3, .inl (ka3, 10, .inl (slF (-6) 0 8))), (a4, .inl (ka4, 100, .inl (slF (-6) 0 100)))] H := hP
        have hD : va_D A [(h0, .inr (6, [.ref a0, w1, w2, .ref a3, .ref a4])), (a0, .inl (ka0, 10, .inl (fun _ => 0))), (a3, .inl (ka3, 10, .inl (slF (-6) 0 8))), (a4, .inl (ka4, 100, .inl (slF (-6) 0 100)))] := hD
        refine lv_aload_n hx hb dX7_push_40 rfl (lv_at hl 2 rfl) ?_
        refine va_get (D := (dC, dI)) (ci := 6) (v := .ref a0) (C := RX7) (T := TX7) (N := 5) hx hb hts inB_7 hown hK hP 0 rfl rfl 0 (by decide) (hts _ mw_1_127) (fun _ h9 => h9) rfl dX7_push_41 ?_
        refine lv_iload_n hx hb dX7_push_44 rfl (lv_at hl 0 rfl) ?_
        refine va_iald hx hb hK hP 1 0 rfl rfl (show vp_in 7 10 by unfold vp_in; decide) dX7_push_45 ?_
        refine hx_top (y := 0) rfl ?_
        refine lv_if_eq (tgt := 59) hx hb dX7_push_46 (by decide) (fun _ => ?_) (fun h => absurd (by decide) h)
        refine lv_iinc (v := 8) (lv' := [(2, .int 8), (1, .int 0), (0, .ref h0)]) hx hb dX7_push_59 hl (k := 0) rfl (by decide) (by decide) rfl (fun ls hl => ?_)
        refine lv_goto (tgt := 26) hx hb dX7_push_62 (by decide) ?_
        refine lv_iload_n hx hb dX7_push_26 rfl (lv_at hl 0 rfl) ?_
        refine lv_bipush (v := 10) hx hb dX7_push_27 (by decide) ?_
        refine lv_icmp_ge (tgt := 65) hx hb dX7_push_29 (by decide) (fun h => absurd h (by decide)) (fun _ => ?_)
        refine lv_aload_n hx hb dX7_push_32 rfl (lv_at hl 2 rfl) ?_
        refine va_get (D := (dC, dI)) (ci := 6) (v := .ref a3) (C := RX7) (T := TX7) (N := 5) hx hb hts inB_7 hown hK hP 0 rfl rfl 3 (by decide) (hts _ mw_1_130) (fun _ h9 => h9) rfl dX7_push_33 ?_
        refine lv_iload_n hx hb dX7_push_36 rfl (lv_at hl 0 rfl) ?_
        refine lv_bipush (v := (-6)) hx hb dX7_push_37 (by decide) ?_
        refine va_iast hx hb hK hP hD hS 2 1 rfl rfl (show vp_in 8 10 by unfold vp_in; decide) dX7_push_39 (fun H locs hP hD hS => ?_)
        rw [show upd (slF (-6) 0 8) (Int32.toNatClampNeg 8) (-6) = (slF (-6) 0 9) from slF_u _ _ 8] at hP hD
        have hP : va_P (dC, dI) vwCl [(h0, .inr (6, [.ref a0, w1, w2, .ref a3, .ref a4])), (a0, .inl (ka0, 10, .inl (fun _ => 0))), (a3, .inl (ka3, 10, .inl (slF (-6) 0 9))), (a4, .inl (ka4, 100, .inl (slF (-6) 0 100)))] H := hP
        have hD : va_D A [(h0, .inr (6, [.ref a0, w1, w2, .ref a3, .ref a4])), (a0, .inl (ka0, 10, .inl (fun _ => 0))), (a3, .inl (ka3, 10, .inl (slF (-6) 0 9))), (a4, .inl (ka4, 100, .inl (slF (-6) 0 100)))] := hD
        refine lv_aload_n hx hb dX7_push_40 rfl (lv_at hl 2 rfl) ?_
        refine va_get (D := (dC, dI)) (ci := 6) (v := .ref a0) (C := RX7) (T := TX7) (N := 5) hx hb hts inB_7 hown hK hP 0 rfl rfl 0 (by decide) (hts _ mw_1_127) (fun _ h9 => h9) rfl dX7_push_41 ?_
        refine lv_iload_n hx hb dX7_push_44 rfl (lv_at hl 0 rfl) ?_
        refine va_iald hx hb hK hP 1 0 rfl rfl (show vp_in 8 10 by unfold vp_in; decide) dX7_push_45 ?_
        refine hx_top (y := 0) rfl ?_
        refine lv_if_eq (tgt := 59) hx hb dX7_push_46 (by decide) (fun _ => ?_) (fun h => absurd (by decide) h)
        refine lv_iinc (v := 9) (lv' := [(2, .int 9), (1, .int 0), (0, .ref h0)]) hx hb dX7_push_59 hl (k := 0) rfl (by decide) (by decide) rfl (fun ls hl => ?_)
        refine lv_goto (tgt := 26) hx hb dX7_push_62 (by decide) ?_
        refine lv_iload_n hx hb dX7_push_26 rfl (lv_at hl 0 rfl) ?_
        refine lv_bipush (v := 10) hx hb dX7_push_27 (by decide) ?_
        refine lv_icmp_ge (tgt := 65) hx hb dX7_push_29 (by decide) (fun h => absurd h (by decide)) (fun _ => ?_)
        refine lv_aload_n hx hb dX7_push_32 rfl (lv_at hl 2 rfl) ?_
        refine va_get (D := (dC, dI)) (ci := 6) (v := .ref a3) (C := RX7) (T := TX7) (N := 5) hx hb hts inB_7 hown hK hP 0 rfl rfl 3 (by decide) (hts _ mw_1_130) (fun _ h9 => h9) rfl dX7_push_33 ?_
        refine lv_iload_n hx hb dX7_push_36 rfl (lv_at hl 0 rfl) ?_
        refine lv_bipush (v := (-6)) hx hb dX7_push_37 (by decide) ?_
        refine va_iast hx hb hK hP hD hS 2 1 rfl rfl (show vp_in 9 10 by unfold vp_in; decide) dX7_push_39 (fun H locs hP hD hS => ?_)
        rw [show upd (slF (-6) 0 9) (Int32.toNatClampNeg 9) (-6) = (slF (-6) 0 10) from slF_u _ _ 9] at hP hD
        have hP : va_P (dC, dI) vwCl [(h0, .inr (6, [.ref a0, w1, w2, .ref a3, .ref a4])), (a0, .inl (ka0, 10, .inl (fun _ => 0))), (a3, .inl (ka3, 10, .inl (slF (-6) 0 10))), (a4, .inl (ka4, 100, .inl (slF (-6) 0 100)))] H := hP
        have hD : va_D A [(h0, .inr (6, [.ref a0, w1, w2, .ref a3, .ref a4])), (a0, .inl (ka0, 10, .inl (fun _ => 0))), (a3, .inl (ka3, 10, .inl (slF (-6) 0 10))), (a4, .inl (ka4, 100, .inl (slF (-6) 0 100)))] := hD
        refine lv_aload_n hx hb dX7_push_40 rfl (lv_at hl 2 rfl) ?_
        refine va_get (D := (dC, dI)) (ci := 6) (v := .ref a0) (C := RX7) (T := TX7) (N := 5) hx hb hts inB_7 hown hK hP 0 rfl rfl 0 (by decide) (hts _ mw_1_127) (fun _ h9 => h9) rfl dX7_push_41 ?_
        refine lv_iload_n hx hb dX7_push_44 rfl (lv_at hl 0 rfl) ?_
        refine va_iald hx hb hK hP 1 0 rfl rfl (show vp_in 9 10 by unfold vp_in; decide) dX7_push_45 ?_
        refine hx_top (y := 0) rfl ?_
        refine lv_if_eq (tgt := 59) hx hb dX7_push_46 (by decide) (fun _ => ?_) (fun h => absurd (by decide) h)
        refine lv_iinc (v := 10) (lv' := [(2, .int 10), (1, .int 0), (0, .ref h0)]) hx hb dX7_push_59 hl (k := 0) rfl (by decide) (by decide) rfl (fun ls hl => ?_)
        refine lv_goto (tgt := 26) hx hb dX7_push_62 (by decide) ?_
        refine lv_iload_n hx hb dX7_push_26 rfl (lv_at hl 0 rfl) ?_
        refine lv_bipush (v := 10) hx hb dX7_push_27 (by decide) ?_
        refine lv_icmp_ge (tgt := 65) hx hb dX7_push_29 (by decide) (fun _ => ?_) (fun h => absurd (by decide) h)
        refine lv_iload_n hx hb dX7_push_65 rfl (lv_at hl 1 rfl) ?_
        exact W.iret (v := 0) hx hb hr (fun t ht hW => ⟨⟨0, (), rfl, rfl, by rw [ht]; exact hP, va_K.moved hW.alike hK, hD⟩, hS.F ht⟩) hS.2.2 dX7_push_66
      · have b_4 : ¬ (k ≥ 100) := nz_gen (by omega) (by omega) c_3
        refine lv_aload_n hx hb dX7_push_8 rfl (lv_at hl 1 rfl) ?_
        refine va_get (D := (dC, dI)) (ci := 6) (v := .ref a4) (C := RX7) (T := TX7) (N := 5) hx hb hts inB_7 hown hK hP 0 rfl rfl 4 (by decide) (hts _ mw_1_131) (fun _ h9 => h9) rfl dX7_push_9 ?_
        refine lv_iload_n hx hb dX7_push_12 rfl (lv_at hl 0 rfl) ?_
        refine lv_bipush (v := (-6)) hx hb dX7_push_13 (by decide) ?_
        refine va_iast hx hb hK hP hD hS 3 2 rfl rfl (show vp_in (nI k) 100 from vp_in_nI (by omega) (by omega)) dX7_push_15 (fun H locs hP hD hS => ?_)
        rw [show upd (slF (-6) 0 k) (Int32.toNatClampNeg (nI k)) (-6) = (slF (-6) 0 (k + 1)) from slF_n (by omega)] at hP hD
        have hP : va_P (dC, dI) vwCl [(h0, .inr (6, [.ref a0, w1, w2, .ref a3, .ref a4])), (a0, .inl (ka0, 10, .inl (fun _ => 0))), (a3, .inl (ka3, 10, .inl (fun _ => 0))), (a4, .inl (ka4, 100, .inl (slF (-6) 0 (k + 1))))] H := hP
        have hD : va_D A [(h0, .inr (6, [.ref a0, w1, w2, .ref a3, .ref a4])), (a0, .inl (ka0, 10, .inl (fun _ => 0))), (a3, .inl (ka3, 10, .inl (fun _ => 0))), (a4, .inl (ka4, 100, .inl (slF (-6) 0 (k + 1))))] := hD
        refine lv_iinc (v := (nI (k + 1))) (lv' := [(1, .int (nI (k + 1))), (0, .ref h0)]) hx hb dX7_push_16 hl (k := 0) rfl (nI_1 _) (by decide) rfl (fun ls hl => ?_)
        refine lv_goto (tgt := 2) hx hb dX7_push_19 (by decide) ?_
        exact ih_2 (k + 1) (by omega) (by omega) _ _ (by exact hP) (by exact hD) hS ls (by exact lv_sub hl [0, 1] rfl)
  exact key_1 ((100 - 0) + 1) (0) (by omega) (Nat.lt_succ_self _) _ _ (by rw [slF_0]; exact hP) (by rw [slF_0]; exact hD) hS ls (lv_sub hl [0, 1] rfl)
set_option maxHeartbeats 4000000 in
set_option maxRecDepth 100000 in
theorem c_stands (l : Launch) (dC : Nat → ClassId) (dI : Nat → Nat → Nat) (sz : Nat) (h0 : Nat) (w0 : Value) (w1 : Value) (w2 : Value) (w3 : Value) (a4 : Nat) (ka4 : ClassId) (n : Int32)  : Met l yX7_standsAt (wq yX7_standsAt cX7_standsAt 2 (some .int)) ({ frames := 0, cells := 0, slots := 0, locals := 0 }) (va_Pc [.ref h0, .int n] (pcW dC dI [(ka4, .int)] [(h0, .inr (6, [w0, w1, w2, w3, .ref a4])), (a4, .inl (ka4, 100, .inl (slF (-6) 0 100)))] sz)) (va_Qi (fun (r : Int32) (_ : Unit) => r = (-6)) (fun _ _ => True) (fun q : Nat => sz ≤ q)) 0 0 (fun q : Nat => sz ≤ q) := by
  refine Met.ofW (cc := cX7_standsAt) (maxL := 2) (ret := (some .int)) (by decide) rfl ?_
  intro p e s m args below meth c s₁ B hml hv
  obtain ⟨rfl, hsz, hN, hP, hK, hD0⟩ := hv
  have hx := B.exec
  have hb := B.bytes
  have hr := B.returns
  have hts0 := atoms_spec (ws := (wq yX7_standsAt cX7_standsAt 2 (some .int))) B.pre
  have hts : ∀ w ∈ BG, w.before _ s = true := fun w h => hts0 w (List.mem_cons_of_mem _ h)
  have hown : s.vm.findClass RX7 = some m.cls := findClass_of_methodNamed B.named
  have hlocks := B.notSynchronized
  subst hsz
  have hA : ∀ q : Nat, s.heap.size ≤ q → (fun q : Nat => s.heap.size ≤ q) q := fun _ h => h
  have hD := hD0
  have hS : va_S (fun q : Nat => s.heap.size ≤ q) s.heap s.heap [] := va_S.rf
  have hP : va_P (dC, dI) vwCl [(h0, .inr (6, [w0, w1, w2, w3, .ref a4])), (a4, .inl (ka4, 100, .inl (slF (-6) 0 100)))] s.heap := hP
  have hl := lv_entry ([.ref h0, .int n]) (n := 2) (Nat.le_of_ble_eq_true rfl)
  rw [lg_entry_eq]
  generalize (lg_sl ([.ref h0, .int n]) ++ List.replicate (2 - (lg_sl ([.ref h0, .int n])).length) Slot.unset).toArray = ls at hl ⊢
  have hl : lv_has ls 2 [(0, .ref h0), (1, .int n)] := hl
  skip
  refine lv_iload_n hx hb dX7_standsAt_0 rfl (lv_at hl 1 rfl) ?_
  refine lv_if_lt (tgt := 19) hx hb dX7_standsAt_1 (by decide) (fun c_1 => ?_) (fun c_1 => ?_)
  · have b_2 := fx_lt (x := n) (C := 0) (by decide) c_1
    refine lv_bipush (v := (-6)) hx hb dX7_standsAt_19 (by decide) ?_
    exact W.iret (v := (-6)) hx hb hr (fun t ht hW => ⟨⟨(-6), (), rfl, rfl, trivial⟩, hS.F ht⟩) hS.2.2 dX7_standsAt_21
  · have b_2 := fn_lt (x := n) (C := 0) (by decide) c_1
    refine lv_iload_n hx hb dX7_standsAt_4 rfl (lv_at hl 1 rfl) ?_
    refine lv_bipush (v := 100) hx hb dX7_standsAt_5 (by decide) ?_
    refine lv_icmp_ge (tgt := 19) hx hb dX7_standsAt_7 (by decide) (fun c_3 => ?_) (fun c_3 => ?_)
    · have b_4 := fx_ge (x := n) (C := 100) (by decide) c_3
      refine lv_bipush (v := (-6)) hx hb dX7_standsAt_19 (by decide) ?_
      exact W.iret (v := (-6)) hx hb hr (fun t ht hW => ⟨⟨(-6), (), rfl, rfl, trivial⟩, hS.F ht⟩) hS.2.2 dX7_standsAt_21
    · have b_4 := fn_ge (x := n) (C := 100) (by decide) c_3
      refine lv_aload_n hx hb dX7_standsAt_10 rfl (lv_at hl 0 rfl) ?_
      refine va_get (D := (dC, dI)) (ci := 6) (v := .ref a4) (C := RX7) (T := TX7) (N := 5) hx hb hts inB_7 hown hK hP 0 rfl rfl 4 (by decide) (hts _ mw_1_131) (fun _ h9 => h9) rfl dX7_standsAt_11 ?_
      refine lv_iload_n hx hb dX7_standsAt_14 rfl (lv_at hl 1 rfl) ?_
      refine va_iald hx hb hK hP 1 0 rfl rfl (show vp_in n 100 from fx_in (by omega) (by omega)) dX7_standsAt_15 ?_
      refine hx_top (y := (-6)) (slF_in (fx_cl (by omega) (by omega))) ?_
      refine lv_goto (tgt := 21) hx hb dX7_standsAt_16 (by decide) ?_
      exact W.iret (v := (-6)) hx hb hr (fun t ht hW => ⟨⟨(-6), (), rfl, rfl, trivial⟩, hS.F ht⟩) hS.2.2 dX7_standsAt_21
end
section
theorem mw_3_87 : Cond.code yX8_isPlace cX8_isPlace 1 (some .boolean) ∈ BG := mB (t3 (i := 87) rfl) (by decide +kernel)
theorem mw_3_86 : Cond.static yX8_isPlace ∈ BG := mB (t3 (i := 86) (by decide +kernel)) (by decide +kernel)
theorem mw_1_155 : Cond.laysFinal RX3 "AnswerLines$Places" "sizes" "[I" ∈ BG := mB (t1 (i := 155) (by decide +kernel)) (by decide +kernel)
theorem mw_1_157 : Cond.laysFinal RX3 "AnswerLines$Places" "calledPlaces" "[I" ∈ BG := mB (t1 (i := 157) (by decide +kernel)) (by decide +kernel)
theorem mw_1_159 : Cond.laysFinal RX3 "AnswerLines$Places" "calledKinds" "[I" ∈ BG := mB (t1 (i := 159) (by decide +kernel)) (by decide +kernel)
theorem mw_1_161 : Cond.laysFinal RX3 "AnswerLines$Places" "recent" "[I" ∈ BG := mB (t1 (i := 161) (by decide +kernel)) (by decide +kernel)
theorem mw_1_163 : Cond.lays RX3 "AnswerLines$Places" "count" "I" ∈ BG := mB (t1 (i := 163) (by decide +kernel)) (by decide +kernel)
theorem mw_1_165 : Cond.lays RX3 "AnswerLines$Places" "remembered" "I" ∈ BG := mB (t1 (i := 165) (by decide +kernel)) (by decide +kernel)
theorem inB_3 : ∀ w ∈ u_ws RX3 TX3 6, w ∈ BG := fun w hw => by
  obtain ⟨k, hk, rfl⟩ := List.mem_map.mp hw
  have hk := List.mem_range.mp hk
  rcases (by omega : k = 0 ∨ k = 1 ∨ k = 2 ∨ k = 3 ∨ k = 4 ∨ k = 5) with rfl | rfl | rfl | rfl | rfl | rfl
  · exact mw_1_155
  · exact mw_1_157
  · exact mw_1_159
  · exact mw_1_161
  · exact mw_1_163
  · exact mw_1_165
theorem mw_1_149 : Cond.fieldLink RX3 9 "AnswerLines$Places" "sizes" "[I" ∈ BG := mB (t1 (i := 149) (by decide +kernel)) (by decide +kernel)
theorem mw_3_116 : Cond.code yX3_sizeOf cX3_sizeOf 2 (some .int) ∈ BG := mB (t3 (i := 116) rfl) (by decide +kernel)
theorem mw_3_113 : Cond.methodLink RX3 36 yX3_sizeOf ∈ BG := mB (t3 (i := 113) (by decide +kernel)) (by decide +kernel)
theorem mw_3_114 : Cond.instanceMethod yX3_sizeOf ∈ BG := mB (t3 (i := 114) (by decide +kernel)) (by decide +kernel)
theorem mw_3_115 : Cond.selects RX3 yX3_sizeOf yX3_sizeOf ∈ BG := mB (t3 (i := 115) (by decide +kernel)) (by decide +kernel)
theorem mw_1_8 : Cond.initialized RX3 ∈ BG := mB (t1 (i := 8) (by decide +kernel)) (by decide +kernel)
theorem mw_1_153 : Cond.fieldLink RX3 24 "AnswerLines$Places" "count" "I" ∈ BG := mB (t1 (i := 153) (by decide +kernel)) (by decide +kernel)
theorem mw_1_154 : Cond.fieldLink RX3 40 "AnswerLines$Places" "remembered" "I" ∈ BG := mB (t1 (i := 154) (by decide +kernel)) (by decide +kernel)
theorem dX3_sizeOf_0 : decode cX3_sizeOf 0 = .ok (.iload_n 1, 1) := by decide +kernel
theorem dX3_sizeOf_1 : decode cX3_sizeOf 1 = .ok (.invokestatic 32, 3) := by decide +kernel
theorem dX3_sizeOf_4 : decode cX3_sizeOf 4 = .ok (.ifCond .eq 12, 3) := by decide +kernel
theorem dX3_sizeOf_7 : decode cX3_sizeOf 7 = .ok (.aload_n 0, 1) := by decide +kernel
theorem dX3_sizeOf_8 : decode cX3_sizeOf 8 = .ok (.getfield 9, 3) := by decide +kernel
theorem dX3_sizeOf_11 : decode cX3_sizeOf 11 = .ok (.iload_n 1, 1) := by decide +kernel
theorem dX3_sizeOf_12 : decode cX3_sizeOf 12 = .ok (.iaload, 1) := by decide +kernel
theorem dX3_sizeOf_13 : decode cX3_sizeOf 13 = .ok (.goto 4, 3) := by decide +kernel
theorem dX3_sizeOf_17 : decode cX3_sizeOf 17 = .ok (.ireturn, 1) := by decide +kernel
theorem dX3_sizeOf_16 : decode cX3_sizeOf 16 = .ok (.iconst 1, 1) := by decide +kernel
theorem dX3_resize_0 : decode cX3_resize 0 = .ok (.aload_n 0, 1) := by decide +kernel
theorem dX3_resize_1 : decode cX3_resize 1 = .ok (.iload_n 1, 1) := by decide +kernel
theorem dX3_resize_2 : decode cX3_resize 2 = .ok (.invokevirtual 36, 3) := by decide +kernel
theorem dX3_resize_5 : decode cX3_resize 5 = .ok (.istore_n 3, 1) := by decide +kernel
theorem dX3_resize_6 : decode cX3_resize 6 = .ok (.iload_n 1, 1) := by decide +kernel
theorem dX3_resize_7 : decode cX3_resize 7 = .ok (.invokestatic 32, 3) := by decide +kernel
theorem dX3_resize_10 : decode cX3_resize 10 = .ok (.ifCond .eq 10, 3) := by decide +kernel
theorem dX3_resize_13 : decode cX3_resize 13 = .ok (.aload_n 0, 1) := by decide +kernel
theorem dX3_resize_14 : decode cX3_resize 14 = .ok (.getfield 9, 3) := by decide +kernel
theorem dX3_resize_17 : decode cX3_resize 17 = .ok (.iload_n 1, 1) := by decide +kernel
theorem dX3_resize_18 : decode cX3_resize 18 = .ok (.iload_n 2, 1) := by decide +kernel
theorem dX3_resize_19 : decode cX3_resize 19 = .ok (.iastore, 1) := by decide +kernel
theorem dX3_resize_20 : decode cX3_resize 20 = .ok (.iload_n 3, 1) := by decide +kernel
theorem dX3_resize_21 : decode cX3_resize 21 = .ok (.ireturn, 1) := by decide +kernel
theorem dX3_callsAt_0 : decode cX3_callsAt 0 = .ok (.iconst 0, 1) := by decide +kernel
theorem dX3_callsAt_1 : decode cX3_callsAt 1 = .ok (.istore_n 2, 1) := by decide +kernel
theorem dX3_callsAt_2 : decode cX3_callsAt 2 = .ok (.iconst 0, 1) := by decide +kernel
theorem dX3_callsAt_3 : decode cX3_callsAt 3 = .ok (.istore_n 3, 1) := by decide +kernel
theorem dX3_callsAt_4 : decode cX3_callsAt 4 = .ok (.iload_n 3, 1) := by decide +kernel
theorem dX3_callsAt_5 : decode cX3_callsAt 5 = .ok (.aload_n 0, 1) := by decide +kernel
theorem dX3_callsAt_6 : decode cX3_callsAt 6 = .ok (.getfield 24, 3) := by decide +kernel
theorem dX3_callsAt_9 : decode cX3_callsAt 9 = .ok (.if_icmp .ge 22, 3) := by decide +kernel
theorem dX3_callsAt_31 : decode cX3_callsAt 31 = .ok (.iload_n 2, 1) := by decide +kernel
theorem dX3_callsAt_32 : decode cX3_callsAt 32 = .ok (.ireturn, 1) := by decide +kernel
theorem dX3_hitsBySize_0 : decode cX3_hitsBySize 0 = .ok (.aload_n 0, 1) := by decide +kernel
theorem dX3_hitsBySize_1 : decode cX3_hitsBySize 1 = .ok (.iconst 0, 1) := by decide +kernel
theorem dX3_hitsBySize_2 : decode cX3_hitsBySize 2 = .ok (.putfield 40, 3) := by decide +kernel
theorem dX3_hitsBySize_5 : decode cX3_hitsBySize 5 = .ok (.iconst 0, 1) := by decide +kernel
theorem dX3_hitsBySize_6 : decode cX3_hitsBySize 6 = .ok (.istore_n 3, 1) := by decide +kernel
theorem dX3_hitsBySize_7 : decode cX3_hitsBySize 7 = .ok (.iconst 0, 1) := by decide +kernel
theorem dX3_hitsBySize_8 : decode cX3_hitsBySize 8 = .ok (.istore 4, 2) := by decide +kernel
theorem dX3_hitsBySize_10 : decode cX3_hitsBySize 10 = .ok (.iload 4, 2) := by decide +kernel
theorem dX3_hitsBySize_12 : decode cX3_hitsBySize 12 = .ok (.aload_n 0, 1) := by decide +kernel
theorem dX3_hitsBySize_13 : decode cX3_hitsBySize 13 = .ok (.getfield 24, 3) := by decide +kernel
theorem dX3_hitsBySize_16 : decode cX3_hitsBySize 16 = .ok (.if_icmp .ge 102, 3) := by decide +kernel
theorem dX3_hitsBySize_118 : decode cX3_hitsBySize 118 = .ok (.iload_n 3, 1) := by decide +kernel
theorem dX3_hitsBySize_119 : decode cX3_hitsBySize 119 = .ok (.ireturn, 1) := by decide +kernel
theorem dX3_bestHits_0 : decode cX3_bestHits 0 = .ok (.aload_n 0, 1) := by decide +kernel
theorem dX3_bestHits_1 : decode cX3_bestHits 1 = .ok (.iload_n 1, 1) := by decide +kernel
theorem dX3_bestHits_2 : decode cX3_bestHits 2 = .ok (.invokevirtual 36, 3) := by decide +kernel
theorem dX3_bestHits_5 : decode cX3_bestHits 5 = .ok (.istore_n 2, 1) := by decide +kernel
theorem dX3_bestHits_6 : decode cX3_bestHits 6 = .ok (.iconst 0, 1) := by decide +kernel
theorem dX3_bestHits_7 : decode cX3_bestHits 7 = .ok (.istore_n 3, 1) := by decide +kernel
theorem dX3_bestHits_8 : decode cX3_bestHits 8 = .ok (.iconst 0, 1) := by decide +kernel
theorem dX3_bestHits_9 : decode cX3_bestHits 9 = .ok (.istore 4, 2) := by decide +kernel
theorem dX3_bestHits_11 : decode cX3_bestHits 11 = .ok (.iconst 0, 1) := by decide +kernel
theorem dX3_bestHits_12 : decode cX3_bestHits 12 = .ok (.istore 5, 2) := by decide +kernel
theorem dX3_bestHits_14 : decode cX3_bestHits 14 = .ok (.iload 5, 2) := by decide +kernel
theorem dX3_bestHits_16 : decode cX3_bestHits 16 = .ok (.aload_n 0, 1) := by decide +kernel
theorem dX3_bestHits_17 : decode cX3_bestHits 17 = .ok (.getfield 24, 3) := by decide +kernel
theorem dX3_bestHits_20 : decode cX3_bestHits 20 = .ok (.if_icmp .ge 78, 3) := by decide +kernel
theorem dX3_bestHits_98 : decode cX3_bestHits 98 = .ok (.iload 4, 2) := by decide +kernel
theorem dX3_bestHits_100 : decode cX3_bestHits 100 = .ok (.ireturn, 1) := by decide +kernel
theorem dX3_latest_0 : decode cX3_latest 0 = .ok (.iload_n 1, 1) := by decide +kernel
theorem dX3_latest_1 : decode cX3_latest 1 = .ok (.ifCond .lt 25, 3) := by decide +kernel
theorem dX3_latest_26 : decode cX3_latest 26 = .ok (.bipush (-6), 2) := by decide +kernel
theorem dX3_latest_28 : decode cX3_latest 28 = .ok (.ireturn, 1) := by decide +kernel
theorem dX3_latest_4 : decode cX3_latest 4 = .ok (.iload_n 1, 1) := by decide +kernel
theorem dX3_latest_5 : decode cX3_latest 5 = .ok (.aload_n 0, 1) := by decide +kernel
theorem dX3_latest_6 : decode cX3_latest 6 = .ok (.getfield 40, 3) := by decide +kernel
theorem dX3_latest_9 : decode cX3_latest 9 = .ok (.if_icmp .ge 17, 3) := by decide +kernel
theorem dX3_howMany_0 : decode cX3_howMany 0 = .ok (.aload_n 0, 1) := by decide +kernel
theorem dX3_howMany_1 : decode cX3_howMany 1 = .ok (.getfield 24, 3) := by decide +kernel
theorem dX3_howMany_4 : decode cX3_howMany 4 = .ok (.ireturn, 1) := by decide +kernel
theorem dX3_clear_0 : decode cX3_clear 0 = .ok (.aload_n 0, 1) := by decide +kernel
theorem dX3_clear_1 : decode cX3_clear 1 = .ok (.getfield 24, 3) := by decide +kernel
theorem dX3_clear_4 : decode cX3_clear 4 = .ok (.istore_n 1, 1) := by decide +kernel
theorem dX3_clear_5 : decode cX3_clear 5 = .ok (.aload_n 0, 1) := by decide +kernel
theorem dX3_clear_6 : decode cX3_clear 6 = .ok (.iconst 0, 1) := by decide +kernel
theorem dX3_clear_7 : decode cX3_clear 7 = .ok (.putfield 24, 3) := by decide +kernel
theorem dX3_clear_10 : decode cX3_clear 10 = .ok (.iload_n 1, 1) := by decide +kernel
theorem dX3_clear_11 : decode cX3_clear 11 = .ok (.ireturn, 1) := by decide +kernel
set_option maxHeartbeats 4000000 in
set_option maxRecDepth 100000 in
theorem c_sizeOf (l : Launch) (dC : Nat → ClassId) (dI : Nat → Nat → Nat) (sz : Nat) (h0 : Nat) (a0 : Nat) (w1 : Value) (w2 : Value) (w3 : Value) (ka0 : ClassId) (n : Int32)  : Met l yX3_sizeOf (wq yX3_sizeOf cX3_sizeOf 2 (some .int)) ({ frames := 1, cells := 0, slots := 0, locals := 20 }) (va_Pc [.ref h0, .int n] (pcW dC dI [(ka0, .int)] [(h0, .inr (3, [.ref a0, w1, w2, w3, .int 0, .int 0])), (a0, .inl (ka0, 4, .inl (slF 1 0 4)))] sz)) (va_Qi (fun (r : Int32) (_ : Unit) => r = 1) (fun _ _ => True) (fun q : Nat => sz ≤ q)) 0 0 (fun q : Nat => sz ≤ q) := by
  refine Met.ofW (cc := cX3_sizeOf) (maxL := 2) (ret := (some .int)) (by decide) rfl ?_
  intro p e s m args below meth c s₁ B hml hv
  obtain ⟨rfl, hsz, hN, hP, hK, hD0⟩ := hv
  have hx := B.exec
  have hb := B.bytes
  have hr := B.returns
  have hts0 := atoms_spec (ws := (wq yX3_sizeOf cX3_sizeOf 2 (some .int))) B.pre
  have hts : ∀ w ∈ BG, w.before _ s = true := fun w h => hts0 w (List.mem_cons_of_mem _ h)
  have hown : s.vm.findClass RX3 = some m.cls := findClass_of_methodNamed B.named
  have hlocks := B.notSynchronized
  subst hsz
  have hA : ∀ q : Nat, s.heap.size ≤ q → (fun q : Nat => s.heap.size ≤ q) q := fun _ h => h
  have hD := hD0
  have hS : va_S (fun q : Nat => s.heap.size ≤ q) s.heap s.heap [] := va_S.rf
  have hP : va_P (dC, dI) vwCl [(h0, .inr (3, [.ref a0, w1, w2, w3, .int 0, .int 0])), (a0, .inl (ka0, 4, .inl (slF 1 0 4)))] s.heap := hP
  have hl := lv_entry ([.ref h0, .int n]) (n := 2) (Nat.le_of_ble_eq_true rfl)
  rw [lg_entry_eq]
  generalize (lg_sl ([.ref h0, .int n]) ++ List.replicate (2 - (lg_sl ([.ref h0, .int n])).length) Slot.unset).toArray = ls at hl ⊢
  have hl : lv_has ls 2 [(0, .ref h0), (1, .int n)] := hl
  skip
  refine lv_iload_n hx hb dX3_sizeOf_0 rfl (lv_at hl 1 rfl) ?_
  have hPc := hP.sub (ws' := []) [] rfl
  have hDc := hD.sub (ws' := []) [] (by decide) rfl
  have hKc := hK.sub (tys' := []) [] rfl
  refine va_calli (va_runSN (As := [.int n]) (rest := []) ⟨hx, hb, hml, hown, hts⟩ (c_isPlace l dC dI s.heap.size n) ⟨va_cnB 1 hts (gN mw_3_87) rfl rfl rfl (hN (RX3, 32, yX8_isPlace, RX8) (List.mem_of_getElem? (i := 13) rfl)) (hts _ mw_1_1) (by decide +kernel) ⟨Nat.le_of_ble_eq_true rfl, Nat.le_of_ble_eq_true rfl⟩, (hts _ mw_3_86), trivial⟩ ⟨pcW_blind, pcW_at hPc hKc hDc hN⟩ rfl rfl hl.1 rfl (lv_room (Nat.le_of_ble_eq_true rfl)) dX3_sizeOf_1 ⟨Nat.le_of_ble_eq_true rfl, Nat.le_of_ble_eq_true rfl⟩) hS (fun q h1 h2 => absurd h2 (Nat.not_le.mpr h1)) (fun q h => hA q (Nat.le_trans hS.1 h)) (fun r_1 u t H1 locs ht hvm hw_1 hB hz1 hk1 hS => ?_)
  have hP := keepP hP hk1
  clear hz1 hk1 hB ht hvm hPc hDc hKc
  generalize H1 = H at hP hS ⊢
  rcases fx_bool hw_1 with ⟨rfl, b_2⟩ | ⟨rfl, b_2⟩
  · skip
    refine lv_if_eq (tgt := 16) hx hb dX3_sizeOf_4 (by decide) (fun h => absurd h (by decide)) (fun _ => ?_)
    refine lv_aload_n hx hb dX3_sizeOf_7 rfl (lv_at hl 0 rfl) ?_
    refine va_get (D := (dC, dI)) (ci := 3) (v := .ref a0) (C := RX3) (T := TX3) (N := 6) hx hb hts inB_3 hown hK hP 0 rfl rfl 0 (by decide) (hts _ mw_1_149) (fun _ h9 => h9) rfl dX3_sizeOf_8 ?_
    refine lv_iload_n hx hb dX3_sizeOf_11 rfl (lv_at hl 1 rfl) ?_
    refine va_iald hx hb hK hP 1 0 rfl rfl (show vp_in n 4 from fx_in (by omega) (by omega)) dX3_sizeOf_12 ?_
    refine hx_top (y := 1) (slF_in (fx_cl (by omega) (by omega))) ?_
    refine lv_goto (tgt := 17) hx hb dX3_sizeOf_13 (by decide) ?_
    exact W.iret (v := 1) hx hb hr (fun t ht hW => ⟨⟨1, (), rfl, rfl, trivial⟩, hS.F ht⟩) hS.2.2 dX3_sizeOf_17
  · skip
    refine lv_if_eq (tgt := 16) hx hb dX3_sizeOf_4 (by decide) (fun _ => ?_) (fun h => absurd (by decide) h)
    refine lv_iconst (v := 1) hx hb dX3_sizeOf_16 (by decide) ?_
    exact W.iret (v := 1) hx hb hr (fun t ht hW => ⟨⟨1, (), rfl, rfl, trivial⟩, hS.F ht⟩) hS.2.2 dX3_sizeOf_17
set_option maxHeartbeats 4000000 in
set_option maxRecDepth 100000 in
theorem c_resize (l : Launch) (dC : Nat → ClassId) (dI : Nat → Nat → Nat) (sz : Nat) (h0 : Nat) (a0 : Nat) (w1 : Value) (w2 : Value) (w3 : Value) (ka0 : ClassId) (n : Int32) (v : Int32)  : Met l yX3_resize (wq yX3_resize cX3_resize 4 (some .int)) ({ frames := 2, cells := 0, slots := 0, locals := 41 }) (va_Pc [.ref h0, .int n, .int v] (pcW dC dI [(ka0, .int)] [(h0, .inr (3, [.ref a0, w1, w2, w3, .int 0, .int 0])), (a0, .inl (ka0, 4, .inl (slF 1 0 4)))] sz)) (va_Qi (fun (r : Int32) (_ : Unit) => r = 1) (fun _ _ => True) (va_A [(h0, .inr (3, [.ref a0, w1, w2, w3, .int 0, .int 0])), (a0, .inl (ka0, 4, .inl (slF 1 0 4)))] sz)) 0 0 (va_A [(h0, .inr (3, [.ref a0, w1, w2, w3, .int 0, .int 0])), (a0, .inl (ka0, 4, .inl (slF 1 0 4)))] sz) := by
  refine Met.ofW (cc := cX3_resize) (maxL := 4) (ret := (some .int)) (by decide) rfl ?_
  intro p e s m args below meth c s₁ B hml hv
  obtain ⟨rfl, hsz, hN, hP, hK, hD0⟩ := hv
  have hx := B.exec
  have hb := B.bytes
  have hr := B.returns
  have hts0 := atoms_spec (ws := (wq yX3_resize cX3_resize 4 (some .int))) B.pre
  have hts : ∀ w ∈ BG, w.before _ s = true := fun w h => hts0 w (List.mem_cons_of_mem _ h)
  have hown : s.vm.findClass RX3 = some m.cls := findClass_of_methodNamed B.named
  have hlocks := B.notSynchronized
  subst hsz
  have hD := hD0.self (sz := s.heap.size)
  generalize hAe : va_A [(h0, .inr (3, [.ref a0, w1, w2, w3, .int 0, .int 0])), (a0, .inl (ka0, 4, .inl (slF 1 0 4)))] s.heap.size = A at hD ⊢
  have hA : ∀ q : Nat, s.heap.size ≤ q → A q := fun q h => by rw [← hAe]; exact Or.inr h
  have hS : va_S A s.heap s.heap [] := va_S.rf
  have hP : va_P (dC, dI) vwCl [(h0, .inr (3, [.ref a0, w1, w2, w3, .int 0, .int 0])), (a0, .inl (ka0, 4, .inl (slF 1 0 4)))] s.heap := hP
  have hl := lv_entry ([.ref h0, .int n, .int v]) (n := 4) (Nat.le_of_ble_eq_true rfl)
  rw [lg_entry_eq]
  generalize (lg_sl ([.ref h0, .int n, .int v]) ++ List.replicate (4 - (lg_sl ([.ref h0, .int n, .int v])).length) Slot.unset).toArray = ls at hl ⊢
  have hl : lv_has ls 4 [(0, .ref h0), (1, .int n), (2, .int v)] := hl
  skip
  refine lv_aload_n hx hb dX3_resize_0 rfl (lv_at hl 0 rfl) ?_
  refine lv_iload_n hx hb dX3_resize_1 rfl (lv_at hl 1 rfl) ?_
  have hPc := hP.sub (ws' := [(h0, .inr (3, [.ref a0, w1, w2, w3, .int 0, .int 0])), (a0, .inl (ka0, 4, .inl (slF 1 0 4)))]) [0, 1] rfl
  have hDc := hD.sub (ws' := [(h0, .inr (3, [.ref a0, w1, w2, w3, .int 0, .int 0])), (a0, .inl (ka0, 4, .inl (slF 1 0 4)))]) [0, 1] (by decide) rfl
  have hKc := hK.sub (tys' := [(ka0, .int)]) [0] rfl
  refine va_calli (va_runV (As := [.int n]) (rest := []) ⟨hx, hb, hml, hown, hts⟩ (c_sizeOf l dC dI s.heap.size h0 a0 (w1) (w2) (w3) ka0 n) (cwV 1 hts (gV mw_3_113 mw_3_114 mw_3_115 mw_1_8 mw_3_116) rfl rfl rfl (by decide +kernel) ⟨Nat.le_of_ble_eq_true rfl, Nat.le_of_ble_eq_true rfl⟩) ⟨pcW_blind, va_recv hKc hPc (ci := 3) (q0 := 0) rfl rfl, pcW_at hPc hKc hDc hN⟩ rfl rfl hl.1 rfl (lv_room (Nat.le_of_ble_eq_true rfl)) dX3_resize_2 ⟨Nat.le_of_ble_eq_true rfl, Nat.le_of_ble_eq_true rfl⟩) hS (fun q h1 h2 => absurd h2 (Nat.not_le.mpr h1)) (fun q h => hA q (Nat.le_trans hS.1 h)) (fun r_1 u t H1 locs ht hvm hw_1 hB hz1 hk1 hS => ?_)
  have hP := keepP hP hk1
  clear hz1 hk1 hB ht hvm hPc hDc hKc
  generalize H1 = H at hP hS ⊢
  obtain rfl : r_1 = 1 := hw_1
  refine lv_istore_n (lv' := [(3, .int 1), (0, .ref h0), (1, .int n), (2, .int v)]) hx hb dX3_resize_5 rfl hl (by decide) rfl (fun ls hl => ?_)
  refine lv_iload_n hx hb dX3_resize_6 rfl (lv_at hl 2 rfl) ?_
  have hPc := hP.sub (ws' := []) [] rfl
  have hDc := hD.sub (ws' := []) [] (by decide) rfl
  have hKc := hK.sub (tys' := []) [] rfl
  refine va_calli (va_runSN (As := [.int n]) (rest := []) ⟨hx, hb, hml, hown, hts⟩ (c_isPlace l dC dI H.size n) ⟨va_cnB 1 hts (gN mw_3_87) rfl rfl rfl (hN (RX3, 32, yX8_isPlace, RX8) (List.mem_of_getElem? (i := 13) rfl)) (hts _ mw_1_1) (by decide +kernel) ⟨Nat.le_of_ble_eq_true rfl, Nat.le_of_ble_eq_true rfl⟩, (hts _ mw_3_86), trivial⟩ ⟨pcW_blind, pcW_at hPc hKc hDc hN⟩ rfl rfl hl.1 rfl (lv_room (Nat.le_of_ble_eq_true rfl)) dX3_resize_7 ⟨Nat.le_of_ble_eq_true rfl, Nat.le_of_ble_eq_true rfl⟩) hS (fun q h1 h2 => absurd h2 (Nat.not_le.mpr h1)) (fun q h => hA q (Nat.le_trans hS.1 h)) (fun r_2 u t H1 locs ht hvm hw_2 hB hz1 hk1 hS => ?_)
  have hP := keepP hP hk1
  clear hz1 hk1 hB ht hvm hPc hDc hKc
  generalize H1 = H at hP hS ⊢
  rcases fx_bool hw_2 with ⟨rfl, b_3⟩ | ⟨rfl, b_3⟩
  · skip
    refine lv_if_eq (tgt := 20) hx hb dX3_resize_10 (by decide) (fun h => absurd h (by decide)) (fun _ => ?_)
    refine lv_aload_n hx hb dX3_resize_13 rfl (lv_at hl 1 rfl) ?_
    refine va_get (D := (dC, dI)) (ci := 3) (v := .ref a0) (C := RX3) (T := TX3) (N := 6) hx hb hts inB_3 hown hK hP 0 rfl rfl 0 (by decide) (hts _ mw_1_149) (fun _ h9 => h9) rfl dX3_resize_14 ?_
    refine lv_iload_n hx hb dX3_resize_17 rfl (lv_at hl 2 rfl) ?_
    refine lv_iload_n hx hb dX3_resize_18 rfl (lv_at hl 3 rfl) ?_
    refine va_iast hx hb hK hP hD hS 1 0 rfl rfl (show vp_in n 4 from fx_in (by omega) (by omega)) dX3_resize_19 (fun H locs hP hD hS => ?_)
    have hP : va_P (dC, dI) vwCl [(h0, .inr (3, [.ref a0, w1, w2, w3, .int 0, .int 0])), (a0, .inl (ka0, 4, .inl (upd (slF 1 0 4) (Int32.toNatClampNeg n) v)))] H := hP
    have hD : va_D A [(h0, .inr (3, [.ref a0, w1, w2, w3, .int 0, .int 0])), (a0, .inl (ka0, 4, .inl (upd (slF 1 0 4) (Int32.toNatClampNeg n) v)))] := hD
    refine lv_iload_n hx hb dX3_resize_20 rfl (lv_at hl 0 rfl) ?_
    exact W.iret (v := 1) hx hb hr (fun t ht hW => ⟨⟨1, (), rfl, rfl, trivial⟩, hS.F ht⟩) hS.2.2 dX3_resize_21
  · skip
    refine lv_if_eq (tgt := 20) hx hb dX3_resize_10 (by decide) (fun _ => ?_) (fun h => absurd (by decide) h)
    refine lv_iload_n hx hb dX3_resize_20 rfl (lv_at hl 0 rfl) ?_
    exact W.iret (v := 1) hx hb hr (fun t ht hW => ⟨⟨1, (), rfl, rfl, trivial⟩, hS.F ht⟩) hS.2.2 dX3_resize_21
set_option maxHeartbeats 4000000 in
set_option maxRecDepth 100000 in
theorem c_callsAt (l : Launch) (dC : Nat → ClassId) (dI : Nat → Nat → Nat) (sz : Nat) (h0 : Nat) (w0 : Value) (w1 : Value) (w2 : Value) (w3 : Value) (n : Int32)  : Met l yX3_callsAt (wq yX3_callsAt cX3_callsAt 4 (some .int)) ({ frames := 0, cells := 0, slots := 0, locals := 0 }) (va_Pc [.ref h0, .int n] (pcW dC dI [] [(h0, .inr (3, [w0, w1, w2, w3, .int 0, .int 0]))] sz)) (va_Qi (fun (r : Int32) (_ : Unit) => r = 0) (fun _ _ => True) (fun q : Nat => sz ≤ q)) 0 0 (fun q : Nat => sz ≤ q) := by
  refine Met.ofW (cc := cX3_callsAt) (maxL := 4) (ret := (some .int)) (by decide) rfl ?_
  intro p e s m args below meth c s₁ B hml hv
  obtain ⟨rfl, hsz, hN, hP, hK, hD0⟩ := hv
  have hx := B.exec
  have hb := B.bytes
  have hr := B.returns
  have hts0 := atoms_spec (ws := (wq yX3_callsAt cX3_callsAt 4 (some .int))) B.pre
  have hts : ∀ w ∈ BG, w.before _ s = true := fun w h => hts0 w (List.mem_cons_of_mem _ h)
  have hown : s.vm.findClass RX3 = some m.cls := findClass_of_methodNamed B.named
  have hlocks := B.notSynchronized
  subst hsz
  have hA : ∀ q : Nat, s.heap.size ≤ q → (fun q : Nat => s.heap.size ≤ q) q := fun _ h => h
  have hD := hD0
  have hS : va_S (fun q : Nat => s.heap.size ≤ q) s.heap s.heap [] := va_S.rf
  have hP : va_P (dC, dI) vwCl [(h0, .inr (3, [w0, w1, w2, w3, .int 0, .int 0]))] s.heap := hP
  have hl := lv_entry ([.ref h0, .int n]) (n := 4) (Nat.le_of_ble_eq_true rfl)
  rw [lg_entry_eq]
  generalize (lg_sl ([.ref h0, .int n]) ++ List.replicate (4 - (lg_sl ([.ref h0, .int n])).length) Slot.unset).toArray = ls at hl ⊢
  have hl : lv_has ls 4 [(0, .ref h0), (1, .int n)] := hl
  skip
  refine lv_iconst (v := 0) hx hb dX3_callsAt_0 (by decide) ?_
  refine lv_istore_n (lv' := [(2, .int 0), (0, .ref h0), (1, .int n)]) hx hb dX3_callsAt_1 rfl hl (by decide) rfl (fun ls hl => ?_)
  refine lv_iconst (v := 0) hx hb dX3_callsAt_2 (by decide) ?_
  refine lv_istore_n (lv' := [(3, .int 0), (2, .int 0), (0, .ref h0), (1, .int n)]) hx hb dX3_callsAt_3 rfl hl (by decide) rfl (fun ls hl => ?_)
  refine lv_iload_n hx hb dX3_callsAt_4 rfl (lv_at hl 0 rfl) ?_
  refine lv_aload_n hx hb dX3_callsAt_5 rfl (lv_at hl 2 rfl) ?_
  refine va_get (D := (dC, dI)) (ci := 3) (v := .int 0) (C := RX3) (T := TX3) (N := 6) hx hb hts inB_3 hown hK hP 0 rfl rfl 4 (by decide) (hts _ mw_1_153) (fun _ h9 => h9) rfl dX3_callsAt_6 ?_
  refine lv_icmp_ge (tgt := 31) hx hb dX3_callsAt_9 (by decide) (fun _ => ?_) (fun h => absurd (by decide) h)
  refine lv_iload_n hx hb dX3_callsAt_31 rfl (lv_at hl 1 rfl) ?_
  exact W.iret (v := 0) hx hb hr (fun t ht hW => ⟨⟨0, (), rfl, rfl, trivial⟩, hS.F ht⟩) hS.2.2 dX3_callsAt_32
set_option maxHeartbeats 4000000 in
set_option maxRecDepth 100000 in
theorem c_hbs (l : Launch) (dC : Nat → ClassId) (dI : Nat → Nat → Nat) (sz : Nat) (h0 : Nat) (w0 : Value) (w1 : Value) (w2 : Value) (w3 : Value) (n : Int32) (v : Int32)  : Met l yX3_hitsBySize (wq yX3_hitsBySize cX3_hitsBySize 6 (some .int)) ({ frames := 0, cells := 0, slots := 0, locals := 0 }) (va_Pc [.ref h0, .int n, .int v] (pcW dC dI [] [(h0, .inr (3, [w0, w1, w2, w3, .int 0, .int 0]))] sz)) (va_Qi (fun (r : Int32) (_ : Unit) => r = 0) (fun _ t => va_P (dC, dI) vwCl [(h0, .inr (3, [w0, w1, w2, w3, .int 0, .int 0]))] t.heap ∧ va_K (dC, dI) vwCl [] t ∧ va_D (va_A [(h0, .inr (3, [w0, w1, w2, w3, .int 0, .int 0]))] sz) [(h0, .inr (3, [w0, w1, w2, w3, .int 0, .int 0]))]) (va_A [(h0, .inr (3, [w0, w1, w2, w3, .int 0, .int 0]))] sz)) 0 0 (va_A [(h0, .inr (3, [w0, w1, w2, w3, .int 0, .int 0]))] sz) := by
  refine Met.ofW (cc := cX3_hitsBySize) (maxL := 6) (ret := (some .int)) (by decide) rfl ?_
  intro p e s m args below meth c s₁ B hml hv
  obtain ⟨rfl, hsz, hN, hP, hK, hD0⟩ := hv
  have hx := B.exec
  have hb := B.bytes
  have hr := B.returns
  have hts0 := atoms_spec (ws := (wq yX3_hitsBySize cX3_hitsBySize 6 (some .int))) B.pre
  have hts : ∀ w ∈ BG, w.before _ s = true := fun w h => hts0 w (List.mem_cons_of_mem _ h)
  have hown : s.vm.findClass RX3 = some m.cls := findClass_of_methodNamed B.named
  have hlocks := B.notSynchronized
  subst hsz
  have hD := hD0.self (sz := s.heap.size)
  generalize hAe : va_A [(h0, .inr (3, [w0, w1, w2, w3, .int 0, .int 0]))] s.heap.size = A at hD ⊢
  have hA : ∀ q : Nat, s.heap.size ≤ q → A q := fun q h => by rw [← hAe]; exact Or.inr h
  have hS : va_S A s.heap s.heap [] := va_S.rf
  have hP : va_P (dC, dI) vwCl [(h0, .inr (3, [w0, w1, w2, w3, .int 0, .int 0]))] s.heap := hP
  have hl := lv_entry ([.ref h0, .int n, .int v]) (n := 6) (Nat.le_of_ble_eq_true rfl)
  rw [lg_entry_eq]
  generalize (lg_sl ([.ref h0, .int n, .int v]) ++ List.replicate (6 - (lg_sl ([.ref h0, .int n, .int v])).length) Slot.unset).toArray = ls at hl ⊢
  have hl : lv_has ls 6 [(0, .ref h0), (1, .int n), (2, .int v)] := hl
  skip
  refine lv_aload_n hx hb dX3_hitsBySize_0 rfl (lv_at hl 0 rfl) ?_
  refine lv_iconst (v := 0) hx hb dX3_hitsBySize_1 (by decide) ?_
  refine va_put (D := (dC, dI)) (ci := 3) (v := .int 0) (ty := .int) (C := RX3) (T := TX3) (N := 6) hx hb hts inB_3 tyX3 tyX3_ok nmX3 hown hK hP hD hS 0 rfl rfl 5 (by decide) (hts _ mw_1_154) (fun _ h9 => h9) rfl (by decide +kernel) rfl rfl (Nat.le_of_ble_eq_true rfl) dX3_hitsBySize_2 (fun H locs hP hD hS => ?_)
  have hP : va_P (dC, dI) vwCl [(h0, .inr (3, [w0, w1, w2, w3, .int 0, .int 0]))] H := hP
  have hD : va_D A [(h0, .inr (3, [w0, w1, w2, w3, .int 0, .int 0]))] := hD
  refine lv_iconst (v := 0) hx hb dX3_hitsBySize_5 (by decide) ?_
  refine lv_istore_n (lv' := [(3, .int 0), (0, .ref h0), (1, .int n), (2, .int v)]) hx hb dX3_hitsBySize_6 rfl hl (by decide) rfl (fun ls hl => ?_)
  refine lv_iconst (v := 0) hx hb dX3_hitsBySize_7 (by decide) ?_
  refine lv_istore (lv' := [(4, .int 0), (3, .int 0), (0, .ref h0), (1, .int n), (2, .int v)]) hx hb dX3_hitsBySize_8 hl (by decide) rfl (fun ls hl => ?_)
  refine lv_iload hx hb dX3_hitsBySize_10 (lv_at hl 0 rfl) ?_
  refine lv_aload_n hx hb dX3_hitsBySize_12 rfl (lv_at hl 2 rfl) ?_
  refine va_get (D := (dC, dI)) (ci := 3) (v := .int 0) (C := RX3) (T := TX3) (N := 6) hx hb hts inB_3 hown hK hP 0 rfl rfl 4 (by decide) (hts _ mw_1_153) (fun _ h9 => h9) rfl dX3_hitsBySize_13 ?_
  refine lv_icmp_ge (tgt := 118) hx hb dX3_hitsBySize_16 (by decide) (fun _ => ?_) (fun h => absurd (by decide) h)
  refine lv_iload_n hx hb dX3_hitsBySize_118 rfl (lv_at hl 1 rfl) ?_
  exact W.iret (v := 0) hx hb hr (fun t ht hW => ⟨⟨0, (), rfl, rfl, by rw [ht]; exact hP, va_K.moved hW.alike hK, hD⟩, hS.F ht⟩) hS.2.2 dX3_hitsBySize_119
set_option maxHeartbeats 4000000 in
set_option maxRecDepth 100000 in
theorem c_best (l : Launch) (dC : Nat → ClassId) (dI : Nat → Nat → Nat) (sz : Nat) (h0 : Nat) (a0 : Nat) (w1 : Value) (w2 : Value) (w3 : Value) (ka0 : ClassId) (n : Int32)  : Met l yX3_bestHits (wq yX3_bestHits cX3_bestHits 6 (some .int)) ({ frames := 2, cells := 0, slots := 0, locals := 41 }) (va_Pc [.ref h0, .int n] (pcW dC dI [(ka0, .int)] [(h0, .inr (3, [.ref a0, w1, w2, w3, .int 0, .int 0])), (a0, .inl (ka0, 4, .inl (slF 1 0 4)))] sz)) (va_Qi (fun (r : Int32) (_ : Unit) => r = 0) (fun _ _ => True) (fun q : Nat => sz ≤ q)) 0 0 (fun q : Nat => sz ≤ q) := by
  refine Met.ofW (cc := cX3_bestHits) (maxL := 6) (ret := (some .int)) (by decide) rfl ?_
  intro p e s m args below meth c s₁ B hml hv
  obtain ⟨rfl, hsz, hN, hP, hK, hD0⟩ := hv
  have hx := B.exec
  have hb := B.bytes
  have hr := B.returns
  have hts0 := atoms_spec (ws := (wq yX3_bestHits cX3_bestHits 6 (some .int))) B.pre
  have hts : ∀ w ∈ BG, w.before _ s = true := fun w h => hts0 w (List.mem_cons_of_mem _ h)
  have hown : s.vm.findClass RX3 = some m.cls := findClass_of_methodNamed B.named
  have hlocks := B.notSynchronized
  subst hsz
  have hA : ∀ q : Nat, s.heap.size ≤ q → (fun q : Nat => s.heap.size ≤ q) q := fun _ h => h
  have hD := hD0
  have hS : va_S (fun q : Nat => s.heap.size ≤ q) s.heap s.heap [] := va_S.rf
  have hP : va_P (dC, dI) vwCl [(h0, .inr (3, [.ref a0, w1, w2, w3, .int 0, .int 0])), (a0, .inl (ka0, 4, .inl (slF 1 0 4)))] s.heap := hP
  have hl := lv_entry ([.ref h0, .int n]) (n := 6) (Nat.le_of_ble_eq_true rfl)
  rw [lg_entry_eq]
  generalize (lg_sl ([.ref h0, .int n]) ++ List.replicate (6 - (lg_sl ([.ref h0, .int n])).length) Slot.unset).toArray = ls at hl ⊢
  have hl : lv_has ls 6 [(0, .ref h0), (1, .int n)] := hl
  skip
  refine lv_aload_n hx hb dX3_bestHits_0 rfl (lv_at hl 0 rfl) ?_
  refine lv_iload_n hx hb dX3_bestHits_1 rfl (lv_at hl 1 rfl) ?_
  have hPc := hP.sub (ws' := [(h0, .inr (3, [.ref a0, w1, w2, w3, .int 0, .int 0])), (a0, .inl (ka0, 4, .inl (slF 1 0 4)))]) [0, 1] rfl
  have hDc := hD.sub (ws' := [(h0, .inr (3, [.ref a0, w1, w2, w3, .int 0, .int 0])), (a0, .inl (ka0, 4, .inl (slF 1 0 4)))]) [0, 1] (by decide) rfl
  have hKc := hK.sub (tys' := [(ka0, .int)]) [0] rfl
  refine va_calli (va_runV (As := [.int n]) (rest := []) ⟨hx, hb, hml, hown, hts⟩ (c_sizeOf l dC dI s.heap.size h0 a0 (w1) (w2) (w3) ka0 n) (cwV 1 hts (gV mw_3_113 mw_3_114 mw_3_115 mw_1_8 mw_3_116) rfl rfl rfl (by decide +kernel) ⟨Nat.le_of_ble_eq_true rfl, Nat.le_of_ble_eq_true rfl⟩) ⟨pcW_blind, va_recv hKc hPc (ci := 3) (q0 := 0) rfl rfl, pcW_at hPc hKc hDc hN⟩ rfl rfl hl.1 rfl (lv_room (Nat.le_of_ble_eq_true rfl)) dX3_bestHits_2 ⟨Nat.le_of_ble_eq_true rfl, Nat.le_of_ble_eq_true rfl⟩) hS (fun q h1 h2 => absurd h2 (Nat.not_le.mpr h1)) (fun q h => hA q (Nat.le_trans hS.1 h)) (fun r_1 u t H1 locs ht hvm hw_1 hB hz1 hk1 hS => ?_)
  have hP := keepP hP hk1
  clear hz1 hk1 hB ht hvm hPc hDc hKc
  generalize H1 = H at hP hS ⊢
  obtain rfl : r_1 = 1 := hw_1
  refine lv_istore_n (lv' := [(2, .int 1), (0, .ref h0), (1, .int n)]) hx hb dX3_bestHits_5 rfl hl (by decide) rfl (fun ls hl => ?_)
  refine lv_iconst (v := 0) hx hb dX3_bestHits_6 (by decide) ?_
  refine lv_istore_n (lv' := [(3, .int 0), (2, .int 1), (0, .ref h0), (1, .int n)]) hx hb dX3_bestHits_7 rfl hl (by decide) rfl (fun ls hl => ?_)
  refine lv_iconst (v := 0) hx hb dX3_bestHits_8 (by decide) ?_
  refine lv_istore (lv' := [(4, .int 0), (3, .int 0), (2, .int 1), (0, .ref h0), (1, .int n)]) hx hb dX3_bestHits_9 hl (by decide) rfl (fun ls hl => ?_)
  refine lv_iconst (v := 0) hx hb dX3_bestHits_11 (by decide) ?_
  refine lv_istore (lv' := [(5, .int 0), (4, .int 0), (3, .int 0), (2, .int 1), (0, .ref h0), (1, .int n)]) hx hb dX3_bestHits_12 hl (by decide) rfl (fun ls hl => ?_)
  refine lv_iload hx hb dX3_bestHits_14 (lv_at hl 0 rfl) ?_
  refine lv_aload_n hx hb dX3_bestHits_16 rfl (lv_at hl 4 rfl) ?_
  refine va_get (D := (dC, dI)) (ci := 3) (v := .int 0) (C := RX3) (T := TX3) (N := 6) hx hb hts inB_3 hown hK hP 0 rfl rfl 4 (by decide) (hts _ mw_1_153) (fun _ h9 => h9) rfl dX3_bestHits_17 ?_
  refine lv_icmp_ge (tgt := 98) hx hb dX3_bestHits_20 (by decide) (fun _ => ?_) (fun h => absurd (by decide) h)
  refine lv_iload hx hb dX3_bestHits_98 (lv_at hl 1 rfl) ?_
  exact W.iret (v := 0) hx hb hr (fun t ht hW => ⟨⟨0, (), rfl, rfl, trivial⟩, hS.F ht⟩) hS.2.2 dX3_bestHits_100
set_option maxHeartbeats 4000000 in
set_option maxRecDepth 100000 in
theorem c_latest (l : Launch) (dC : Nat → ClassId) (dI : Nat → Nat → Nat) (sz : Nat) (h0 : Nat) (w0 : Value) (w1 : Value) (w2 : Value) (w3 : Value) (n : Int32)  : Met l yX3_latest (wq yX3_latest cX3_latest 2 (some .int)) ({ frames := 0, cells := 0, slots := 0, locals := 0 }) (va_Pc [.ref h0, .int n] (pcW dC dI [] [(h0, .inr (3, [w0, w1, w2, w3, .int 0, .int 0]))] sz)) (va_Qi (fun (r : Int32) (_ : Unit) => r = (-6)) (fun _ _ => True) (fun q : Nat => sz ≤ q)) 0 0 (fun q : Nat => sz ≤ q) := by
  refine Met.ofW (cc := cX3_latest) (maxL := 2) (ret := (some .int)) (by decide) rfl ?_
  intro p e s m args below meth c s₁ B hml hv
  obtain ⟨rfl, hsz, hN, hP, hK, hD0⟩ := hv
  have hx := B.exec
  have hb := B.bytes
  have hr := B.returns
  have hts0 := atoms_spec (ws := (wq yX3_latest cX3_latest 2 (some .int))) B.pre
  have hts : ∀ w ∈ BG, w.before _ s = true := fun w h => hts0 w (List.mem_cons_of_mem _ h)
  have hown : s.vm.findClass RX3 = some m.cls := findClass_of_methodNamed B.named
  have hlocks := B.notSynchronized
  subst hsz
  have hA : ∀ q : Nat, s.heap.size ≤ q → (fun q : Nat => s.heap.size ≤ q) q := fun _ h => h
  have hD := hD0
  have hS : va_S (fun q : Nat => s.heap.size ≤ q) s.heap s.heap [] := va_S.rf
  have hP : va_P (dC, dI) vwCl [(h0, .inr (3, [w0, w1, w2, w3, .int 0, .int 0]))] s.heap := hP
  have hl := lv_entry ([.ref h0, .int n]) (n := 2) (Nat.le_of_ble_eq_true rfl)
  rw [lg_entry_eq]
  generalize (lg_sl ([.ref h0, .int n]) ++ List.replicate (2 - (lg_sl ([.ref h0, .int n])).length) Slot.unset).toArray = ls at hl ⊢
  have hl : lv_has ls 2 [(0, .ref h0), (1, .int n)] := hl
  skip
  refine lv_iload_n hx hb dX3_latest_0 rfl (lv_at hl 1 rfl) ?_
  refine lv_if_lt (tgt := 26) hx hb dX3_latest_1 (by decide) (fun c_1 => ?_) (fun c_1 => ?_)
  · have b_2 := fx_lt (x := n) (C := 0) (by decide) c_1
    refine lv_bipush (v := (-6)) hx hb dX3_latest_26 (by decide) ?_
    exact W.iret (v := (-6)) hx hb hr (fun t ht hW => ⟨⟨(-6), (), rfl, rfl, trivial⟩, hS.F ht⟩) hS.2.2 dX3_latest_28
  · have b_2 := fn_lt (x := n) (C := 0) (by decide) c_1
    refine lv_iload_n hx hb dX3_latest_4 rfl (lv_at hl 1 rfl) ?_
    refine lv_aload_n hx hb dX3_latest_5 rfl (lv_at hl 0 rfl) ?_
    refine va_get (D := (dC, dI)) (ci := 3) (v := .int 0) (C := RX3) (T := TX3) (N := 6) hx hb hts inB_3 hown hK hP 0 rfl rfl 5 (by decide) (hts _ mw_1_154) (fun _ h9 => h9) rfl dX3_latest_6 ?_
    refine lv_icmp_ge (tgt := 26) hx hb dX3_latest_9 (by decide) (fun _ => ?_) (fun h => absurd (fn_ge (x := n) (C := 0) (by decide) h) (by omega))
    refine lv_bipush (v := (-6)) hx hb dX3_latest_26 (by decide) ?_
    exact W.iret (v := (-6)) hx hb hr (fun t ht hW => ⟨⟨(-6), (), rfl, rfl, trivial⟩, hS.F ht⟩) hS.2.2 dX3_latest_28
set_option maxHeartbeats 4000000 in
set_option maxRecDepth 100000 in
theorem c_plHow (l : Launch) (dC : Nat → ClassId) (dI : Nat → Nat → Nat) (sz : Nat) (h0 : Nat) (w0 : Value) (w1 : Value) (w2 : Value) (w3 : Value)  : Met l yX3_howMany (wq yX3_howMany cX3_howMany 1 (some .int)) ({ frames := 0, cells := 0, slots := 0, locals := 0 }) (va_Pc [.ref h0] (pcW dC dI [] [(h0, .inr (3, [w0, w1, w2, w3, .int 0, .int 0]))] sz)) (va_Qi (fun (r : Int32) (_ : Unit) => r = 0) (fun _ _ => True) (fun q : Nat => sz ≤ q)) 0 0 (fun q : Nat => sz ≤ q) := by
  refine Met.ofW (cc := cX3_howMany) (maxL := 1) (ret := (some .int)) (by decide) rfl ?_
  intro p e s m args below meth c s₁ B hml hv
  obtain ⟨rfl, hsz, hN, hP, hK, hD0⟩ := hv
  have hx := B.exec
  have hb := B.bytes
  have hr := B.returns
  have hts0 := atoms_spec (ws := (wq yX3_howMany cX3_howMany 1 (some .int))) B.pre
  have hts : ∀ w ∈ BG, w.before _ s = true := fun w h => hts0 w (List.mem_cons_of_mem _ h)
  have hown : s.vm.findClass RX3 = some m.cls := findClass_of_methodNamed B.named
  have hlocks := B.notSynchronized
  subst hsz
  have hA : ∀ q : Nat, s.heap.size ≤ q → (fun q : Nat => s.heap.size ≤ q) q := fun _ h => h
  have hD := hD0
  have hS : va_S (fun q : Nat => s.heap.size ≤ q) s.heap s.heap [] := va_S.rf
  have hP : va_P (dC, dI) vwCl [(h0, .inr (3, [w0, w1, w2, w3, .int 0, .int 0]))] s.heap := hP
  have hl := lv_entry ([.ref h0]) (n := 1) (Nat.le_of_ble_eq_true rfl)
  rw [lg_entry_eq]
  generalize (lg_sl ([.ref h0]) ++ List.replicate (1 - (lg_sl ([.ref h0])).length) Slot.unset).toArray = ls at hl ⊢
  have hl : lv_has ls 1 [(0, .ref h0)] := hl
  skip
  refine lv_aload_n hx hb dX3_howMany_0 rfl (lv_at hl 0 rfl) ?_
  refine va_get (D := (dC, dI)) (ci := 3) (v := .int 0) (C := RX3) (T := TX3) (N := 6) hx hb hts inB_3 hown hK hP 0 rfl rfl 4 (by decide) (hts _ mw_1_153) (fun _ h9 => h9) rfl dX3_howMany_1 ?_
  exact W.iret (v := 0) hx hb hr (fun t ht hW => ⟨⟨0, (), rfl, rfl, trivial⟩, hS.F ht⟩) hS.2.2 dX3_howMany_4
set_option maxHeartbeats 4000000 in
set_option maxRecDepth 100000 in
theorem c_plClear (l : Launch) (dC : Nat → ClassId) (dI : Nat → Nat → Nat) (sz : Nat) (h0 : Nat) (w0 : Value) (w1 : Value) (w2 : Value) (w3 : Value)  : Met l yX3_clear (wq yX3_clear cX3_clear 2 (some .int)) ({ frames := 0, cells := 0, slots := 0, locals := 0 }) (va_Pc [.ref h0] (pcW dC dI [] [(h0, .inr (3, [w0, w1, w2, w3, .int 0, .int 0]))] sz)) (va_Qi (fun (r : Int32) (_ : Unit) => r = 0) (fun _ _ => True) (va_A [(h0, .inr (3, [w0, w1, w2, w3, .int 0, .int 0]))] sz)) 0 0 (va_A [(h0, .inr (3, [w0, w1, w2, w3, .int 0, .int 0]))] sz) := by
  refine Met.ofW (cc := cX3_clear) (maxL := 2) (ret := (some .int)) (by decide) rfl ?_
  intro p e s m args below meth c s₁ B hml hv
  obtain ⟨rfl, hsz, hN, hP, hK, hD0⟩ := hv
  have hx := B.exec
  have hb := B.bytes
  have hr := B.returns
  have hts0 := atoms_spec (ws := (wq yX3_clear cX3_clear 2 (some .int))) B.pre
  have hts : ∀ w ∈ BG, w.before _ s = true := fun w h => hts0 w (List.mem_cons_of_mem _ h)
  have hown : s.vm.findClass RX3 = some m.cls := findClass_of_methodNamed B.named
  have hlocks := B.notSynchronized
  subst hsz
  have hD := hD0.self (sz := s.heap.size)
  generalize hAe : va_A [(h0, .inr (3, [w0, w1, w2, w3, .int 0, .int 0]))] s.heap.size = A at hD ⊢
  have hA : ∀ q : Nat, s.heap.size ≤ q → A q := fun q h => by rw [← hAe]; exact Or.inr h
  have hS : va_S A s.heap s.heap [] := va_S.rf
  have hP : va_P (dC, dI) vwCl [(h0, .inr (3, [w0, w1, w2, w3, .int 0, .int 0]))] s.heap := hP
  have hl := lv_entry ([.ref h0]) (n := 2) (Nat.le_of_ble_eq_true rfl)
  rw [lg_entry_eq]
  generalize (lg_sl ([.ref h0]) ++ List.replicate (2 - (lg_sl ([.ref h0])).length) Slot.unset).toArray = ls at hl ⊢
  have hl : lv_has ls 2 [(0, .ref h0)] := hl
  skip
  refine lv_aload_n hx hb dX3_clear_0 rfl (lv_at hl 0 rfl) ?_
  refine va_get (D := (dC, dI)) (ci := 3) (v := .int 0) (C := RX3) (T := TX3) (N := 6) hx hb hts inB_3 hown hK hP 0 rfl rfl 4 (by decide) (hts _ mw_1_153) (fun _ h9 => h9) rfl dX3_clear_1 ?_
  refine lv_istore_n (lv' := [(1, .int 0), (0, .ref h0)]) hx hb dX3_clear_4 rfl hl (by decide) rfl (fun ls hl => ?_)
  refine lv_aload_n hx hb dX3_clear_5 rfl (lv_at hl 1 rfl) ?_
  refine lv_iconst (v := 0) hx hb dX3_clear_6 (by decide) ?_
  refine va_put (D := (dC, dI)) (ci := 3) (v := .int 0) (ty := .int) (C := RX3) (T := TX3) (N := 6) hx hb hts inB_3 tyX3 tyX3_ok nmX3 hown hK hP hD hS 0 rfl rfl 4 (by decide) (hts _ mw_1_153) (fun _ h9 => h9) rfl (by decide +kernel) rfl rfl (Nat.le_of_ble_eq_true rfl) dX3_clear_7 (fun H locs hP hD hS => ?_)
  have hP : va_P (dC, dI) vwCl [(h0, .inr (3, [w0, w1, w2, w3, .int 0, .int 0]))] H := hP
  have hD : va_D A [(h0, .inr (3, [w0, w1, w2, w3, .int 0, .int 0]))] := hD
  refine lv_iload_n hx hb dX3_clear_10 rfl (lv_at hl 0 rfl) ?_
  exact W.iret (v := 0) hx hb hr (fun t ht hW => ⟨⟨0, (), rfl, rfl, trivial⟩, hS.F ht⟩) hS.2.2 dX3_clear_11
end
section
theorem mw_1_37 : Cond.laysFinal RX4 "AnswerLines$Rows" "cells" "[I" ∈ BG := mB (t1 (i := 37) (by decide +kernel)) (by decide +kernel)
theorem mw_1_39 : Cond.laysFinal RX4 "AnswerLines$Rows" "heads" "[I" ∈ BG := mB (t1 (i := 39) (by decide +kernel)) (by decide +kernel)
theorem mw_1_41 : Cond.laysFinal RX4 "AnswerLines$Rows" "lengths" "[I" ∈ BG := mB (t1 (i := 41) (by decide +kernel)) (by decide +kernel)
theorem mw_1_43 : Cond.lays RX4 "AnswerLines$Rows" "count" "I" ∈ BG := mB (t1 (i := 43) (by decide +kernel)) (by decide +kernel)
theorem inB_4 : ∀ w ∈ u_ws RX4 TX4 4, w ∈ BG := fun w hw => by
  obtain ⟨k, hk, rfl⟩ := List.mem_map.mp hw
  have hk := List.mem_range.mp hk
  rcases (by omega : k = 0 ∨ k = 1 ∨ k = 2 ∨ k = 3) with rfl | rfl | rfl | rfl
  · exact mw_1_37
  · exact mw_1_39
  · exact mw_1_41
  · exact mw_1_43
theorem mw_1_36 : Cond.fieldLink RX4 21 "AnswerLines$Rows" "count" "I" ∈ BG := mB (t1 (i := 36) (by decide +kernel)) (by decide +kernel)
theorem mw_1_34 : Cond.fieldLink RX4 15 "AnswerLines$Rows" "heads" "[I" ∈ BG := mB (t1 (i := 34) (by decide +kernel)) (by decide +kernel)
theorem mw_1_35 : Cond.fieldLink RX4 18 "AnswerLines$Rows" "lengths" "[I" ∈ BG := mB (t1 (i := 35) (by decide +kernel)) (by decide +kernel)
theorem mw_2_8 : Cond.code yX4_tail cX4_tail 4 (some .int) ∈ BG := mB (t2 (i := 8) rfl) (by decide +kernel)
theorem mw_2_5 : Cond.methodLink RX4 29 yX4_tail ∈ BG := mB (t2 (i := 5) (by decide +kernel)) (by decide +kernel)
theorem mw_2_7 : Cond.instanceMethod yX4_tail ∈ BG := mB (t2 (i := 7) (by decide +kernel)) (by decide +kernel)
theorem mw_0_2 : Cond.selects RX4 yX4_tail yX4_tail ∈ BG := mB (t0 (i := 2) (by decide +kernel)) (by decide +kernel)
theorem mw_1_3 : Cond.initialized RX4 ∈ BG := mB (t1 (i := 3) (by decide +kernel)) (by decide +kernel)
theorem mw_2_12 : Cond.code yX4_head cX4_head 2 (some .int) ∈ BG := mB (t2 (i := 12) rfl) (by decide +kernel)
theorem mw_2_9 : Cond.methodLink RX4 25 yX4_head ∈ BG := mB (t2 (i := 9) (by decide +kernel)) (by decide +kernel)
theorem mw_2_11 : Cond.instanceMethod yX4_head ∈ BG := mB (t2 (i := 11) (by decide +kernel)) (by decide +kernel)
theorem mw_0_3 : Cond.selects RX4 yX4_head yX4_head ∈ BG := mB (t0 (i := 3) (by decide +kernel)) (by decide +kernel)
theorem mw_1_52 : Cond.fieldLink RX1 30 "AnswerLines$Kinds" "rows" "LAnswerLines$Rows;" ∈ BG := mB (t1 (i := 52) (by decide +kernel)) (by decide +kernel)
theorem mw_1_228 : Cond.code yX4_clear cX4_clear 1 none ∈ BG := mB (t1 (i := 228) rfl) (by decide +kernel)
theorem mw_1_225 : Cond.methodLink RX1 97 yX4_clear ∈ BG := mB (t1 (i := 225) (by decide +kernel)) (by decide +kernel)
theorem mw_1_226 : Cond.instanceMethod yX4_clear ∈ BG := mB (t1 (i := 226) (by decide +kernel)) (by decide +kernel)
theorem mw_1_227 : Cond.selects RX4 yX4_clear yX4_clear ∈ BG := mB (t1 (i := 227) (by decide +kernel)) (by decide +kernel)
theorem mw_1_232 : Cond.code yX4_begin cX4_begin 1 none ∈ BG := mB (t1 (i := 232) rfl) (by decide +kernel)
theorem mw_1_229 : Cond.methodLink RX1 100 yX4_begin ∈ BG := mB (t1 (i := 229) (by decide +kernel)) (by decide +kernel)
theorem mw_1_230 : Cond.instanceMethod yX4_begin ∈ BG := mB (t1 (i := 230) (by decide +kernel)) (by decide +kernel)
theorem mw_1_231 : Cond.selects RX4 yX4_begin yX4_begin ∈ BG := mB (t1 (i := 231) (by decide +kernel)) (by decide +kernel)
theorem mw_1_224 : Cond.code yX1_layRows cX1_layRows 5 none ∈ BG := mB (t1 (i := 224) rfl) (by decide +kernel)
theorem mw_1_221 : Cond.methodLink RX1 83 yX1_layRows ∈ BG := mB (t1 (i := 221) (by decide +kernel)) (by decide +kernel)
theorem mw_1_223 : Cond.instanceMethod yX1_layRows ∈ BG := mB (t1 (i := 223) (by decide +kernel)) (by decide +kernel)
theorem mw_0_1 : Cond.selects RX1 yX1_layRows yX1_layRows ∈ BG := mB (t0 (i := 1) (by decide +kernel)) (by decide +kernel)
theorem mw_1_50 : Cond.fieldLink RX1 21 "AnswerLines$Kinds" "lines" "[I" ∈ BG := mB (t1 (i := 50) (by decide +kernel)) (by decide +kernel)
theorem mw_2_4 : Cond.code yX4_firstFree cX4_firstFree 4 (some .int) ∈ BG := mB (t2 (i := 4) rfl) (by decide +kernel)
theorem mw_2_1 : Cond.methodLink RX1 87 yX4_firstFree ∈ BG := mB (t2 (i := 1) (by decide +kernel)) (by decide +kernel)
theorem mw_2_2 : Cond.instanceMethod yX4_firstFree ∈ BG := mB (t2 (i := 2) (by decide +kernel)) (by decide +kernel)
theorem mw_2_3 : Cond.selects RX4 yX4_firstFree yX4_firstFree ∈ BG := mB (t2 (i := 3) (by decide +kernel)) (by decide +kernel)
theorem mw_2_23 : Cond.code yX4_beginnings cX4_beginnings 4 (some .int) ∈ BG := mB (t2 (i := 23) rfl) (by decide +kernel)
theorem mw_2_20 : Cond.methodLink RX1 94 yX4_beginnings ∈ BG := mB (t2 (i := 20) (by decide +kernel)) (by decide +kernel)
theorem mw_2_21 : Cond.instanceMethod yX4_beginnings ∈ BG := mB (t2 (i := 21) (by decide +kernel)) (by decide +kernel)
theorem mw_2_22 : Cond.selects RX4 yX4_beginnings yX4_beginnings ∈ BG := mB (t2 (i := 22) (by decide +kernel)) (by decide +kernel)
theorem mw_1_49 : Cond.fieldLink RX1 18 "AnswerLines$Kinds" "quarrels" "[I" ∈ BG := mB (t1 (i := 49) (by decide +kernel)) (by decide +kernel)
theorem mw_1_48 : Cond.fieldLink RX1 15 "AnswerLines$Kinds" "lengths" "[I" ∈ BG := mB (t1 (i := 48) (by decide +kernel)) (by decide +kernel)
theorem mw_1_198 : Cond.code yX1_isFull cX1_isFull 1 (some .boolean) ∈ BG := mB (t1 (i := 198) rfl) (by decide +kernel)
theorem mw_1_203 : Cond.methodLink RX1 72 yX1_isFull ∈ BG := mB (t1 (i := 203) (by decide +kernel)) (by decide +kernel)
theorem mw_1_196 : Cond.instanceMethod yX1_isFull ∈ BG := mB (t1 (i := 196) (by decide +kernel)) (by decide +kernel)
theorem mw_1_197 : Cond.selects RX1 yX1_isFull yX1_isFull ∈ BG := mB (t1 (i := 197) (by decide +kernel)) (by decide +kernel)
theorem mw_1_51 : Cond.fieldLink RX1 24 "AnswerLines$Kinds" "parents" "[I" ∈ BG := mB (t1 (i := 51) (by decide +kernel)) (by decide +kernel)
theorem mw_1_47 : Cond.fieldLink RX1 9 "AnswerLines$Kinds" "above" "[I" ∈ BG := mB (t1 (i := 47) (by decide +kernel)) (by decide +kernel)
theorem mw_1_220 : Cond.code yX1_layLine cX1_layLine 6 none ∈ BG := mB (t1 (i := 220) rfl) (by decide +kernel)
theorem mw_1_217 : Cond.methodLink RX1 79 yX1_layLine ∈ BG := mB (t1 (i := 217) (by decide +kernel)) (by decide +kernel)
theorem mw_1_219 : Cond.instanceMethod yX1_layLine ∈ BG := mB (t1 (i := 219) (by decide +kernel)) (by decide +kernel)
theorem mw_0_0 : Cond.selects RX1 yX1_layLine yX1_layLine ∈ BG := mB (t0 (i := 0) (by decide +kernel)) (by decide +kernel)
theorem dX4_clear_0 : decode cX4_clear 0 = .ok (.aload_n 0, 1) := by decide +kernel
theorem dX4_clear_1 : decode cX4_clear 1 = .ok (.iconst 0, 1) := by decide +kernel
theorem dX4_clear_2 : decode cX4_clear 2 = .ok (.putfield 21, 3) := by decide +kernel
theorem dX4_clear_5 : decode cX4_clear 5 = .ok (.return_, 1) := by decide +kernel
theorem dX4_begin_0 : decode cX4_begin 0 = .ok (.aload_n 0, 1) := by decide +kernel
theorem dX4_begin_1 : decode cX4_begin 1 = .ok (.getfield 21, 3) := by decide +kernel
theorem dX4_begin_4 : decode cX4_begin 4 = .ok (.iconst 4, 1) := by decide +kernel
theorem dX4_begin_5 : decode cX4_begin 5 = .ok (.if_icmp .lt 4, 3) := by decide +kernel
theorem dX4_begin_9 : decode cX4_begin 9 = .ok (.aload_n 0, 1) := by decide +kernel
theorem dX4_begin_10 : decode cX4_begin 10 = .ok (.getfield 15, 3) := by decide +kernel
theorem dX4_begin_13 : decode cX4_begin 13 = .ok (.aload_n 0, 1) := by decide +kernel
theorem dX4_begin_14 : decode cX4_begin 14 = .ok (.getfield 21, 3) := by decide +kernel
theorem dX4_begin_17 : decode cX4_begin 17 = .ok (.iconst 0, 1) := by decide +kernel
theorem dX4_begin_18 : decode cX4_begin 18 = .ok (.iastore, 1) := by decide +kernel
theorem dX4_begin_19 : decode cX4_begin 19 = .ok (.aload_n 0, 1) := by decide +kernel
theorem dX4_begin_20 : decode cX4_begin 20 = .ok (.getfield 18, 3) := by decide +kernel
theorem dX4_begin_23 : decode cX4_begin 23 = .ok (.aload_n 0, 1) := by decide +kernel
theorem dX4_begin_24 : decode cX4_begin 24 = .ok (.getfield 21, 3) := by decide +kernel
theorem dX4_begin_27 : decode cX4_begin 27 = .ok (.iconst 0, 1) := by decide +kernel
theorem dX4_begin_28 : decode cX4_begin 28 = .ok (.iastore, 1) := by decide +kernel
theorem dX4_begin_29 : decode cX4_begin 29 = .ok (.aload_n 0, 1) := by decide +kernel
theorem dX4_begin_30 : decode cX4_begin 30 = .ok (.dup, 1) := by decide +kernel
theorem dX4_begin_31 : decode cX4_begin 31 = .ok (.getfield 21, 3) := by decide +kernel
theorem dX4_begin_34 : decode cX4_begin 34 = .ok (.iconst 1, 1) := by decide +kernel
theorem dX4_begin_35 : decode cX4_begin 35 = .ok (.iadd, 1) := by decide +kernel
theorem dX4_begin_36 : decode cX4_begin 36 = .ok (.putfield 21, 3) := by decide +kernel
theorem dX4_begin_39 : decode cX4_begin 39 = .ok (.return_, 1) := by decide +kernel
theorem dX4_head_0 : decode cX4_head 0 = .ok (.aload_n 0, 1) := by decide +kernel
theorem dX4_head_1 : decode cX4_head 1 = .ok (.getfield 15, 3) := by decide +kernel
theorem dX4_head_4 : decode cX4_head 4 = .ok (.iload_n 1, 1) := by decide +kernel
theorem dX4_head_5 : decode cX4_head 5 = .ok (.iaload, 1) := by decide +kernel
theorem dX4_head_6 : decode cX4_head 6 = .ok (.aload_n 0, 1) := by decide +kernel
theorem dX4_head_7 : decode cX4_head 7 = .ok (.getfield 18, 3) := by decide +kernel
theorem dX4_head_10 : decode cX4_head 10 = .ok (.iload_n 1, 1) := by decide +kernel
theorem dX4_head_11 : decode cX4_head 11 = .ok (.iaload, 1) := by decide +kernel
theorem dX4_head_12 : decode cX4_head 12 = .ok (.if_icmp .ge 22, 3) := by decide +kernel
theorem dX4_head_34 : decode cX4_head 34 = .ok (.bipush (-6), 2) := by decide +kernel
theorem dX4_head_36 : decode cX4_head 36 = .ok (.ireturn, 1) := by decide +kernel
theorem dX4_tail_0 : decode cX4_tail 0 = .ok (.iconst 0, 1) := by decide +kernel
theorem dX4_tail_1 : decode cX4_tail 1 = .ok (.istore_n 2, 1) := by decide +kernel
theorem dX4_tail_2 : decode cX4_tail 2 = .ok (.aload_n 0, 1) := by decide +kernel
theorem dX4_tail_3 : decode cX4_tail 3 = .ok (.getfield 15, 3) := by decide +kernel
theorem dX4_tail_6 : decode cX4_tail 6 = .ok (.iload_n 1, 1) := by decide +kernel
theorem dX4_tail_7 : decode cX4_tail 7 = .ok (.iaload, 1) := by decide +kernel
theorem dX4_tail_8 : decode cX4_tail 8 = .ok (.iconst 1, 1) := by decide +kernel
theorem dX4_tail_9 : decode cX4_tail 9 = .ok (.iadd, 1) := by decide +kernel
theorem dX4_tail_10 : decode cX4_tail 10 = .ok (.istore_n 3, 1) := by decide +kernel
theorem dX4_tail_11 : decode cX4_tail 11 = .ok (.iload_n 3, 1) := by decide +kernel
theorem dX4_tail_12 : decode cX4_tail 12 = .ok (.aload_n 0, 1) := by decide +kernel
theorem dX4_tail_13 : decode cX4_tail 13 = .ok (.getfield 18, 3) := by decide +kernel
theorem dX4_tail_16 : decode cX4_tail 16 = .ok (.iload_n 1, 1) := by decide +kernel
theorem dX4_tail_17 : decode cX4_tail 17 = .ok (.iaload, 1) := by decide +kernel
theorem dX4_tail_18 : decode cX4_tail 18 = .ok (.if_icmp .ge 25, 3) := by decide +kernel
theorem dX4_tail_43 : decode cX4_tail 43 = .ok (.iload_n 2, 1) := by decide +kernel
theorem dX4_tail_44 : decode cX4_tail 44 = .ok (.ireturn, 1) := by decide +kernel
theorem dX4_firstFree_0 : decode cX4_firstFree 0 = .ok (.iconst 0, 1) := by decide +kernel
theorem dX4_firstFree_1 : decode cX4_firstFree 1 = .ok (.istore_n 1, 1) := by decide +kernel
theorem dX4_firstFree_2 : decode cX4_firstFree 2 = .ok (.iconst 0, 1) := by decide +kernel
theorem dX4_firstFree_3 : decode cX4_firstFree 3 = .ok (.istore_n 2, 1) := by decide +kernel
theorem dX4_firstFree_4 : decode cX4_firstFree 4 = .ok (.iload_n 2, 1) := by decide +kernel
theorem dX4_firstFree_5 : decode cX4_firstFree 5 = .ok (.aload_n 0, 1) := by decide +kernel
theorem dX4_firstFree_6 : decode cX4_firstFree 6 = .ok (.getfield 21, 3) := by decide +kernel
theorem dX4_firstFree_9 : decode cX4_firstFree 9 = .ok (.if_icmp .ge 17, 3) := by decide +kernel
theorem dX4_firstFree_12 : decode cX4_firstFree 12 = .ok (.iload_n 1, 1) := by decide +kernel
theorem dX4_firstFree_13 : decode cX4_firstFree 13 = .ok (.aload_n 0, 1) := by decide +kernel
theorem dX4_firstFree_14 : decode cX4_firstFree 14 = .ok (.iload_n 2, 1) := by decide +kernel
theorem dX4_firstFree_15 : decode cX4_firstFree 15 = .ok (.invokevirtual 29, 3) := by decide +kernel
theorem dX4_firstFree_18 : decode cX4_firstFree 18 = .ok (.ior, 1) := by decide +kernel
theorem dX4_firstFree_19 : decode cX4_firstFree 19 = .ok (.istore_n 1, 1) := by decide +kernel
theorem dX4_firstFree_20 : decode cX4_firstFree 20 = .ok (.iinc 2 1, 3) := by decide +kernel
theorem dX4_firstFree_23 : decode cX4_firstFree 23 = .ok (.goto (-19), 3) := by decide +kernel
theorem dX4_firstFree_26 : decode cX4_firstFree 26 = .ok (.iconst 0, 1) := by decide +kernel
theorem dX4_firstFree_27 : decode cX4_firstFree 27 = .ok (.istore_n 2, 1) := by decide +kernel
theorem dX4_firstFree_28 : decode cX4_firstFree 28 = .ok (.iload_n 2, 1) := by decide +kernel
theorem dX4_firstFree_29 : decode cX4_firstFree 29 = .ok (.aload_n 0, 1) := by decide +kernel
theorem dX4_firstFree_30 : decode cX4_firstFree 30 = .ok (.getfield 21, 3) := by decide +kernel
theorem dX4_firstFree_33 : decode cX4_firstFree 33 = .ok (.if_icmp .ge 31, 3) := by decide +kernel
theorem dX4_firstFree_36 : decode cX4_firstFree 36 = .ok (.aload_n 0, 1) := by decide +kernel
theorem dX4_firstFree_37 : decode cX4_firstFree 37 = .ok (.iload_n 2, 1) := by decide +kernel
theorem dX4_firstFree_38 : decode cX4_firstFree 38 = .ok (.invokevirtual 25, 3) := by decide +kernel
theorem dX4_firstFree_41 : decode cX4_firstFree 41 = .ok (.istore_n 3, 1) := by decide +kernel
theorem dX4_firstFree_42 : decode cX4_firstFree 42 = .ok (.iload_n 3, 1) := by decide +kernel
theorem dX4_firstFree_43 : decode cX4_firstFree 43 = .ok (.bipush (-6), 2) := by decide +kernel
theorem dX4_firstFree_45 : decode cX4_firstFree 45 = .ok (.if_icmp .eq 13, 3) := by decide +kernel
theorem dX4_firstFree_58 : decode cX4_firstFree 58 = .ok (.iinc 2 1, 3) := by decide +kernel
theorem dX4_firstFree_61 : decode cX4_firstFree 61 = .ok (.goto (-33), 3) := by decide +kernel
theorem dX4_firstFree_64 : decode cX4_firstFree 64 = .ok (.bipush (-6), 2) := by decide +kernel
theorem dX4_firstFree_66 : decode cX4_firstFree 66 = .ok (.ireturn, 1) := by decide +kernel
theorem dX4_beginnings_0 : decode cX4_beginnings 0 = .ok (.iconst 0, 1) := by decide +kernel
theorem dX4_beginnings_1 : decode cX4_beginnings 1 = .ok (.istore_n 1, 1) := by decide +kernel
theorem dX4_beginnings_2 : decode cX4_beginnings 2 = .ok (.iconst 0, 1) := by decide +kernel
theorem dX4_beginnings_3 : decode cX4_beginnings 3 = .ok (.istore_n 2, 1) := by decide +kernel
theorem dX4_beginnings_4 : decode cX4_beginnings 4 = .ok (.iload_n 2, 1) := by decide +kernel
theorem dX4_beginnings_5 : decode cX4_beginnings 5 = .ok (.aload_n 0, 1) := by decide +kernel
theorem dX4_beginnings_6 : decode cX4_beginnings 6 = .ok (.getfield 21, 3) := by decide +kernel
theorem dX4_beginnings_9 : decode cX4_beginnings 9 = .ok (.if_icmp .ge 27, 3) := by decide +kernel
theorem dX4_beginnings_12 : decode cX4_beginnings 12 = .ok (.aload_n 0, 1) := by decide +kernel
theorem dX4_beginnings_13 : decode cX4_beginnings 13 = .ok (.iload_n 2, 1) := by decide +kernel
theorem dX4_beginnings_14 : decode cX4_beginnings 14 = .ok (.invokevirtual 25, 3) := by decide +kernel
theorem dX4_beginnings_17 : decode cX4_beginnings 17 = .ok (.istore_n 3, 1) := by decide +kernel
theorem dX4_beginnings_18 : decode cX4_beginnings 18 = .ok (.iload_n 3, 1) := by decide +kernel
theorem dX4_beginnings_19 : decode cX4_beginnings 19 = .ok (.bipush (-6), 2) := by decide +kernel
theorem dX4_beginnings_21 : decode cX4_beginnings 21 = .ok (.if_icmp .eq 9, 3) := by decide +kernel
theorem dX4_beginnings_30 : decode cX4_beginnings 30 = .ok (.iinc 2 1, 3) := by decide +kernel
theorem dX4_beginnings_33 : decode cX4_beginnings 33 = .ok (.goto (-29), 3) := by decide +kernel
theorem dX4_beginnings_36 : decode cX4_beginnings 36 = .ok (.iload_n 1, 1) := by decide +kernel
theorem dX4_beginnings_37 : decode cX4_beginnings 37 = .ok (.ireturn, 1) := by decide +kernel
theorem dX1_layRows_0 : decode cX1_layRows 0 = .ok (.aload_n 0, 1) := by decide +kernel
theorem dX1_layRows_1 : decode cX1_layRows 1 = .ok (.getfield 30, 3) := by decide +kernel
theorem dX1_layRows_4 : decode cX1_layRows 4 = .ok (.invokevirtual 97, 3) := by decide +kernel
theorem dX1_layRows_7 : decode cX1_layRows 7 = .ok (.iconst 0, 1) := by decide +kernel
theorem dX1_layRows_8 : decode cX1_layRows 8 = .ok (.istore_n 2, 1) := by decide +kernel
theorem dX1_layRows_9 : decode cX1_layRows 9 = .ok (.iload_n 2, 1) := by decide +kernel
theorem dX1_layRows_10 : decode cX1_layRows 10 = .ok (.iload_n 1, 1) := by decide +kernel
theorem dX1_layRows_11 : decode cX1_layRows 11 = .ok (.if_icmp .ge 61, 3) := by decide +kernel
theorem dX1_layRows_72 : decode cX1_layRows 72 = .ok (.aload_n 0, 1) := by decide +kernel
theorem dX1_layRows_73 : decode cX1_layRows 73 = .ok (.getfield 30, 3) := by decide +kernel
theorem dX1_layRows_76 : decode cX1_layRows 76 = .ok (.invokevirtual 100, 3) := by decide +kernel
theorem dX1_layRows_79 : decode cX1_layRows 79 = .ok (.iconst 0, 1) := by decide +kernel
theorem dX1_layRows_80 : decode cX1_layRows 80 = .ok (.istore_n 2, 1) := by decide +kernel
theorem dX1_layRows_81 : decode cX1_layRows 81 = .ok (.iload_n 2, 1) := by decide +kernel
theorem dX1_layRows_82 : decode cX1_layRows 82 = .ok (.iload_n 1, 1) := by decide +kernel
theorem dX1_layRows_83 : decode cX1_layRows 83 = .ok (.if_icmp .ge 22, 3) := by decide +kernel
theorem dX1_layRows_105 : decode cX1_layRows 105 = .ok (.return_, 1) := by decide +kernel
theorem dX1_layLine_0 : decode cX1_layLine 0 = .ok (.aload_n 0, 1) := by decide +kernel
theorem dX1_layLine_1 : decode cX1_layLine 1 = .ok (.iload_n 2, 1) := by decide +kernel
theorem dX1_layLine_2 : decode cX1_layLine 2 = .ok (.invokevirtual 83, 3) := by decide +kernel
theorem dX1_layLine_5 : decode cX1_layLine 5 = .ok (.aload_n 0, 1) := by decide +kernel
theorem dX1_layLine_6 : decode cX1_layLine 6 = .ok (.getfield 21, 3) := by decide +kernel
theorem dX1_layLine_9 : decode cX1_layLine 9 = .ok (.iload_n 1, 1) := by decide +kernel
theorem dX1_layLine_10 : decode cX1_layLine 10 = .ok (.bipush 10, 2) := by decide +kernel
theorem dX1_layLine_12 : decode cX1_layLine 12 = .ok (.imul, 1) := by decide +kernel
theorem dX1_layLine_13 : decode cX1_layLine 13 = .ok (.iload_n 1, 1) := by decide +kernel
theorem dX1_layLine_14 : decode cX1_layLine 14 = .ok (.iastore, 1) := by decide +kernel
theorem dX1_layLine_15 : decode cX1_layLine 15 = .ok (.iconst 1, 1) := by decide +kernel
theorem dX1_layLine_16 : decode cX1_layLine 16 = .ok (.istore_n 3, 1) := by decide +kernel
theorem dX1_layLine_17 : decode cX1_layLine 17 = .ok (.aload_n 0, 1) := by decide +kernel
theorem dX1_layLine_18 : decode cX1_layLine 18 = .ok (.getfield 30, 3) := by decide +kernel
theorem dX1_layLine_21 : decode cX1_layLine 21 = .ok (.invokevirtual 87, 3) := by decide +kernel
theorem dX1_layLine_24 : decode cX1_layLine 24 = .ok (.istore 4, 2) := by decide +kernel
theorem dX1_layLine_26 : decode cX1_layLine 26 = .ok (.iload 4, 2) := by decide +kernel
theorem dX1_layLine_28 : decode cX1_layLine 28 = .ok (.bipush (-6), 2) := by decide +kernel
theorem dX1_layLine_30 : decode cX1_layLine 30 = .ok (.if_icmp .eq 46, 3) := by decide +kernel
theorem dX1_layLine_76 : decode cX1_layLine 76 = .ok (.aload_n 0, 1) := by decide +kernel
theorem dX1_layLine_77 : decode cX1_layLine 77 = .ok (.getfield 30, 3) := by decide +kernel
theorem dX1_layLine_80 : decode cX1_layLine 80 = .ok (.invokevirtual 94, 3) := by decide +kernel
theorem dX1_layLine_83 : decode cX1_layLine 83 = .ok (.istore 5, 2) := by decide +kernel
theorem dX1_layLine_85 : decode cX1_layLine 85 = .ok (.aload_n 0, 1) := by decide +kernel
theorem dX1_layLine_86 : decode cX1_layLine 86 = .ok (.getfield 18, 3) := by decide +kernel
theorem dX1_layLine_89 : decode cX1_layLine 89 = .ok (.iload_n 1, 1) := by decide +kernel
theorem dX1_layLine_90 : decode cX1_layLine 90 = .ok (.iload 5, 2) := by decide +kernel
theorem dX1_layLine_92 : decode cX1_layLine 92 = .ok (.ifCond .ne 8, 3) := by decide +kernel
theorem dX1_layLine_95 : decode cX1_layLine 95 = .ok (.bipush (-6), 2) := by decide +kernel
theorem dX1_layLine_97 : decode cX1_layLine 97 = .ok (.goto 5, 3) := by decide +kernel
theorem dX1_layLine_102 : decode cX1_layLine 102 = .ok (.iastore, 1) := by decide +kernel
theorem dX1_layLine_103 : decode cX1_layLine 103 = .ok (.aload_n 0, 1) := by decide +kernel
theorem dX1_layLine_104 : decode cX1_layLine 104 = .ok (.getfield 15, 3) := by decide +kernel
theorem dX1_layLine_107 : decode cX1_layLine 107 = .ok (.iload_n 1, 1) := by decide +kernel
theorem dX1_layLine_108 : decode cX1_layLine 108 = .ok (.iload 5, 2) := by decide +kernel
theorem dX1_layLine_110 : decode cX1_layLine 110 = .ok (.ifCond .ne 7, 3) := by decide +kernel
theorem dX1_layLine_113 : decode cX1_layLine 113 = .ok (.iload_n 3, 1) := by decide +kernel
theorem dX1_layLine_114 : decode cX1_layLine 114 = .ok (.goto 4, 3) := by decide +kernel
theorem dX1_layLine_118 : decode cX1_layLine 118 = .ok (.iastore, 1) := by decide +kernel
theorem dX1_layLine_119 : decode cX1_layLine 119 = .ok (.return_, 1) := by decide +kernel
theorem dX1_add_0 : decode cX1_add 0 = .ok (.aload_n 0, 1) := by decide +kernel
theorem dX1_add_1 : decode cX1_add 1 = .ok (.invokevirtual 72, 3) := by decide +kernel
theorem dX1_add_4 : decode cX1_add 4 = .ok (.ifCond .ne 12, 3) := by decide +kernel
theorem dX1_add_7 : decode cX1_add 7 = .ok (.iload_n 1, 1) := by decide +kernel
theorem dX1_add_8 : decode cX1_add 8 = .ok (.ifCond .lt 8, 3) := by decide +kernel
theorem dX1_add_11 : decode cX1_add 11 = .ok (.iload_n 1, 1) := by decide +kernel
theorem dX1_add_12 : decode cX1_add 12 = .ok (.iconst 3, 1) := by decide +kernel
theorem dX1_add_13 : decode cX1_add 13 = .ok (.if_icmp .le 6, 3) := by decide +kernel
theorem dX1_add_19 : decode cX1_add 19 = .ok (.aload_n 0, 1) := by decide +kernel
theorem dX1_add_20 : decode cX1_add 20 = .ok (.getfield 34, 3) := by decide +kernel
theorem dX1_add_23 : decode cX1_add 23 = .ok (.istore 5, 2) := by decide +kernel
theorem dX1_add_25 : decode cX1_add 25 = .ok (.aload_n 0, 1) := by decide +kernel
theorem dX1_add_26 : decode cX1_add 26 = .ok (.getfield 24, 3) := by decide +kernel
theorem dX1_add_29 : decode cX1_add 29 = .ok (.iconst 0, 1) := by decide +kernel
theorem dX1_add_30 : decode cX1_add 30 = .ok (.iload_n 2, 1) := by decide +kernel
theorem dX1_add_31 : decode cX1_add 31 = .ok (.iastore, 1) := by decide +kernel
theorem dX1_add_32 : decode cX1_add 32 = .ok (.aload_n 0, 1) := by decide +kernel
theorem dX1_add_33 : decode cX1_add 33 = .ok (.getfield 24, 3) := by decide +kernel
theorem dX1_add_36 : decode cX1_add 36 = .ok (.iconst 1, 1) := by decide +kernel
theorem dX1_add_37 : decode cX1_add 37 = .ok (.iload_n 3, 1) := by decide +kernel
theorem dX1_add_38 : decode cX1_add 38 = .ok (.iastore, 1) := by decide +kernel
theorem dX1_add_39 : decode cX1_add 39 = .ok (.aload_n 0, 1) := by decide +kernel
theorem dX1_add_40 : decode cX1_add 40 = .ok (.getfield 24, 3) := by decide +kernel
theorem dX1_add_43 : decode cX1_add 43 = .ok (.iconst 2, 1) := by decide +kernel
theorem dX1_add_44 : decode cX1_add 44 = .ok (.iload 4, 2) := by decide +kernel
theorem dX1_add_46 : decode cX1_add 46 = .ok (.iastore, 1) := by decide +kernel
theorem dX1_add_47 : decode cX1_add 47 = .ok (.aload_n 0, 1) := by decide +kernel
theorem dX1_add_48 : decode cX1_add 48 = .ok (.getfield 9, 3) := by decide +kernel
theorem dX1_add_51 : decode cX1_add 51 = .ok (.iload 5, 2) := by decide +kernel
theorem dX1_add_53 : decode cX1_add 53 = .ok (.iconst 0, 1) := by decide +kernel
theorem dX1_add_54 : decode cX1_add 54 = .ok (.iastore, 1) := by decide +kernel
theorem dX1_add_55 : decode cX1_add 55 = .ok (.iconst 1, 1) := by decide +kernel
theorem dX1_add_56 : decode cX1_add 56 = .ok (.istore 6, 2) := by decide +kernel
theorem dX1_add_58 : decode cX1_add 58 = .ok (.iconst 0, 1) := by decide +kernel
theorem dX1_add_59 : decode cX1_add 59 = .ok (.istore 7, 2) := by decide +kernel
theorem dX1_add_61 : decode cX1_add 61 = .ok (.iload 7, 2) := by decide +kernel
theorem dX1_add_63 : decode cX1_add 63 = .ok (.iload_n 1, 1) := by decide +kernel
theorem dX1_add_64 : decode cX1_add 64 = .ok (.if_icmp .ge 57, 3) := by decide +kernel
theorem dX1_add_121 : decode cX1_add 121 = .ok (.aload_n 0, 1) := by decide +kernel
theorem dX1_add_122 : decode cX1_add 122 = .ok (.getfield 15, 3) := by decide +kernel
theorem dX1_add_125 : decode cX1_add 125 = .ok (.iload 5, 2) := by decide +kernel
theorem dX1_add_127 : decode cX1_add 127 = .ok (.iconst 0, 1) := by decide +kernel
theorem dX1_add_128 : decode cX1_add 128 = .ok (.iastore, 1) := by decide +kernel
theorem dX1_add_129 : decode cX1_add 129 = .ok (.aload_n 0, 1) := by decide +kernel
theorem dX1_add_130 : decode cX1_add 130 = .ok (.getfield 18, 3) := by decide +kernel
theorem dX1_add_133 : decode cX1_add 133 = .ok (.iload 5, 2) := by decide +kernel
theorem dX1_add_135 : decode cX1_add 135 = .ok (.bipush (-5), 2) := by decide +kernel
theorem dX1_add_137 : decode cX1_add 137 = .ok (.iastore, 1) := by decide +kernel
theorem dX1_add_138 : decode cX1_add 138 = .ok (.iload 6, 2) := by decide +kernel
theorem dX1_add_140 : decode cX1_add 140 = .ok (.ifCond .eq 10, 3) := by decide +kernel
theorem dX1_add_143 : decode cX1_add 143 = .ok (.aload_n 0, 1) := by decide +kernel
theorem dX1_add_144 : decode cX1_add 144 = .ok (.iload 5, 2) := by decide +kernel
theorem dX1_add_146 : decode cX1_add 146 = .ok (.iload_n 1, 1) := by decide +kernel
theorem dX1_add_147 : decode cX1_add 147 = .ok (.invokevirtual 79, 3) := by decide +kernel
theorem dX1_add_150 : decode cX1_add 150 = .ok (.aload_n 0, 1) := by decide +kernel
theorem dX1_add_151 : decode cX1_add 151 = .ok (.dup, 1) := by decide +kernel
theorem dX1_add_152 : decode cX1_add 152 = .ok (.getfield 34, 3) := by decide +kernel
theorem dX1_add_155 : decode cX1_add 155 = .ok (.iconst 1, 1) := by decide +kernel
theorem dX1_add_156 : decode cX1_add 156 = .ok (.iadd, 1) := by decide +kernel
theorem dX1_add_157 : decode cX1_add 157 = .ok (.putfield 34, 3) := by decide +kernel
theorem dX1_add_160 : decode cX1_add 160 = .ok (.iload 5, 2) := by decide +kernel
theorem dX1_add_162 : decode cX1_add 162 = .ok (.ireturn, 1) := by decide +kernel
set_option maxHeartbeats 4000000 in
set_option maxRecDepth 100000 in
theorem c_rClear (l : Launch) (dC : Nat → ClassId) (dI : Nat → Nat → Nat) (sz : Nat) (h0 : Nat) (w0 : Value) (w1 : Value) (w2 : Value)  : Met l yX4_clear (wq yX4_clear cX4_clear 1 none) ({ frames := 0, cells := 0, slots := 0, locals := 0 }) (va_Pc [.ref h0] (pcW dC dI [] [(h0, .inr (4, [w0, w1, w2, .int 0]))] sz)) (va_Qv (fun _ : Unit => True) (fun _ t => va_P (dC, dI) vwCl [(h0, .inr (4, [w0, w1, w2, .int 0]))] t.heap ∧ va_K (dC, dI) vwCl [] t ∧ va_D (va_A [(h0, .inr (4, [w0, w1, w2, .int 0]))] sz) [(h0, .inr (4, [w0, w1, w2, .int 0]))]) (va_A [(h0, .inr (4, [w0, w1, w2, .int 0]))] sz)) 0 0 (va_A [(h0, .inr (4, [w0, w1, w2, .int 0]))] sz) := by
  refine Met.ofW (cc := cX4_clear) (maxL := 1) (ret := none) (by decide) rfl ?_
  intro p e s m args below meth c s₁ B hml hv
  obtain ⟨rfl, hsz, hN, hP, hK, hD0⟩ := hv
  have hx := B.exec
  have hb := B.bytes
  have hr := B.returns
  have hts0 := atoms_spec (ws := (wq yX4_clear cX4_clear 1 none)) B.pre
  have hts : ∀ w ∈ BG, w.before _ s = true := fun w h => hts0 w (List.mem_cons_of_mem _ h)
  have hown : s.vm.findClass RX4 = some m.cls := findClass_of_methodNamed B.named
  have hlocks := B.notSynchronized
  subst hsz
  have hD := hD0.self (sz := s.heap.size)
  generalize hAe : va_A [(h0, .inr (4, [w0, w1, w2, .int 0]))] s.heap.size = A at hD ⊢
  have hA : ∀ q : Nat, s.heap.size ≤ q → A q := fun q h => by rw [← hAe]; exact Or.inr h
  have hS : va_S A s.heap s.heap [] := va_S.rf
  have hP : va_P (dC, dI) vwCl [(h0, .inr (4, [w0, w1, w2, .int 0]))] s.heap := hP
  have hl := lv_entry ([.ref h0]) (n := 1) (Nat.le_of_ble_eq_true rfl)
  rw [lg_entry_eq]
  generalize (lg_sl ([.ref h0]) ++ List.replicate (1 - (lg_sl ([.ref h0])).length) Slot.unset).toArray = ls at hl ⊢
  have hl : lv_has ls 1 [(0, .ref h0)] := hl
  skip
  refine lv_aload_n hx hb dX4_clear_0 rfl (lv_at hl 0 rfl) ?_
  refine lv_iconst (v := 0) hx hb dX4_clear_1 (by decide) ?_
  refine va_put (D := (dC, dI)) (ci := 4) (v := .int 0) (ty := .int) (C := RX4) (T := TX4) (N := 4) hx hb hts inB_4 tyX4 tyX4_ok nmX4 hown hK hP hD hS 0 rfl rfl 3 (by decide) (hts _ mw_1_36) (fun _ h9 => h9) rfl (by decide +kernel) rfl rfl (Nat.le_of_ble_eq_true rfl) dX4_clear_2 (fun H locs hP hD hS => ?_)
  have hP : va_P (dC, dI) vwCl [(h0, .inr (4, [w0, w1, w2, .int 0]))] H := hP
  have hD : va_D A [(h0, .inr (4, [w0, w1, w2, .int 0]))] := hD
  exact W.vret hx hb hr (fun t ht hW => ⟨⟨(), rfl, trivial, by rw [ht]; exact hP, va_K.moved hW.alike hK, hD⟩, hS.F ht⟩) hS.2.2 dX4_clear_5
set_option maxHeartbeats 4000000 in
set_option maxRecDepth 100000 in
theorem c_rBegin (l : Launch) (dC : Nat → ClassId) (dI : Nat → Nat → Nat) (sz : Nat) (h0 : Nat) (w0 : Value) (a1 : Nat) (a2 : Nat) (ka1 : ClassId) (ka2 : ClassId)  : Met l yX4_begin (wq yX4_begin cX4_begin 1 none) ({ frames := 0, cells := 0, slots := 0, locals := 0 }) (va_Pc [.ref h0] (pcW dC dI [(ka1, .int), (ka2, .int)] [(h0, .inr (4, [w0, .ref a1, .ref a2, .int 0])), (a1, .inl (ka1, 4, .inl (fun _ => 0))), (a2, .inl (ka2, 4, .inl (fun _ => 0)))] sz)) (va_Qv (fun _ : Unit => True) (fun _ t => va_P (dC, dI) vwCl [(h0, .inr (4, [w0, .ref a1, .ref a2, .int 1])), (a1, .inl (ka1, 4, .inl (fun _ => 0))), (a2, .inl (ka2, 4, .inl (fun _ => 0)))] t.heap ∧ va_K (dC, dI) vwCl [(ka1, .int), (ka2, .int)] t ∧ va_D (va_A [(h0, .inr (4, [w0, .ref a1, .ref a2, .int 0])), (a1, .inl (ka1, 4, .inl (fun _ => 0))), (a2, .inl (ka2, 4, .inl (fun _ => 0)))] sz) [(h0, .inr (4, [w0, .ref a1, .ref a2, .int 1])), (a1, .inl (ka1, 4, .inl (fun _ => 0))), (a2, .inl (ka2, 4, .inl (fun _ => 0)))]) (va_A [(h0, .inr (4, [w0, .ref a1, .ref a2, .int 0])), (a1, .inl (ka1, 4, .inl (fun _ => 0))), (a2, .inl (ka2, 4, .inl (fun _ => 0)))] sz)) 0 0 (va_A [(h0, .inr (4, [w0, .ref a1, .ref a2, .int 0])), (a1, .inl (ka1, 4, .inl (fun _ => 0))), (a2, .inl (ka2, 4, .inl (fun _ => 0)))] sz) := by
  refine Met.ofW (cc := cX4_begin) (maxL := 1) (ret := none) (by decide) rfl ?_
  intro p e s m args below meth c s₁ B hml hv
  obtain ⟨rfl, hsz, hN, hP, hK, hD0⟩ := hv
  have hx := B.exec
  have hb := B.bytes
  have hr := B.returns
  have hts0 := atoms_spec (ws := (wq yX4_begin cX4_begin 1 none)) B.pre
  have hts : ∀ w ∈ BG, w.before _ s = true := fun w h => hts0 w (List.mem_cons_of_mem _ h)
  have hown : s.vm.findClass RX4 = some m.cls := findClass_of_methodNamed B.named
  have hlocks := B.notSynchronized
  subst hsz
  have hD := hD0.self (sz := s.heap.size)
  generalize hAe : va_A [(h0, .inr (4, [w0, .ref a1, .ref a2, .int 0])), (a1, .inl (ka1, 4, .inl (fun _ => 0))), (a2, .inl (ka2, 4, .inl (fun _ => 0)))] s.heap.size = A at hD ⊢
  have hA : ∀ q : Nat, s.heap.size ≤ q → A q := fun q h => by rw [← hAe]; exact Or.inr h
  have hS : va_S A s.heap s.heap [] := va_S.rf
  have hP : va_P (dC, dI) vwCl [(h0, .inr (4, [w0, .ref a1, .ref a2, .int 0])), (a1, .inl (ka1, 4, .inl (fun _ => 0))), (a2, .inl (ka2, 4, .inl (fun _ => 0)))] s.heap := hP
  have hl := lv_entry ([.ref h0]) (n := 1) (Nat.le_of_ble_eq_true rfl)
  rw [lg_entry_eq]
  generalize (lg_sl ([.ref h0]) ++ List.replicate (1 - (lg_sl ([.ref h0])).length) Slot.unset).toArray = ls at hl ⊢
  have hl : lv_has ls 1 [(0, .ref h0)] := hl
  skip
  refine lv_aload_n hx hb dX4_begin_0 rfl (lv_at hl 0 rfl) ?_
  refine va_get (D := (dC, dI)) (ci := 4) (v := .int 0) (C := RX4) (T := TX4) (N := 4) hx hb hts inB_4 hown hK hP 0 rfl rfl 3 (by decide) (hts _ mw_1_36) (fun _ h9 => h9) rfl dX4_begin_1 ?_
  refine lv_iconst (v := 4) hx hb dX4_begin_4 (by decide) ?_
  refine lv_icmp_lt (tgt := 9) hx hb dX4_begin_5 (by decide) (fun _ => ?_) (fun h => absurd (by decide) h)
  refine lv_aload_n hx hb dX4_begin_9 rfl (lv_at hl 0 rfl) ?_
  refine va_get (D := (dC, dI)) (ci := 4) (v := .ref a1) (C := RX4) (T := TX4) (N := 4) hx hb hts inB_4 hown hK hP 0 rfl rfl 1 (by decide) (hts _ mw_1_34) (fun _ h9 => h9) rfl dX4_begin_10 ?_
  refine lv_aload_n hx hb dX4_begin_13 rfl (lv_at hl 0 rfl) ?_
  refine va_get (D := (dC, dI)) (ci := 4) (v := .int 0) (C := RX4) (T := TX4) (N := 4) hx hb hts inB_4 hown hK hP 0 rfl rfl 3 (by decide) (hts _ mw_1_36) (fun _ h9 => h9) rfl dX4_begin_14 ?_
  refine lv_iconst (v := 0) hx hb dX4_begin_17 (by decide) ?_
  refine va_iast hx hb hK hP hD hS 1 0 rfl rfl (show vp_in 0 4 by unfold vp_in; decide) dX4_begin_18 (fun H locs hP hD hS => ?_)
  rw [show upd (fun _ => 0) (Int32.toNatClampNeg 0) 0 = (fun _ => 0) from upd_const _ _] at hP hD
  have hP : va_P (dC, dI) vwCl [(h0, .inr (4, [w0, .ref a1, .ref a2, .int 0])), (a1, .inl (ka1, 4, .inl (fun _ => 0))), (a2, .inl (ka2, 4, .inl (fun _ => 0)))] H := hP
  have hD : va_D A [(h0, .inr (4, [w0, .ref a1, .ref a2, .int 0])), (a1, .inl (ka1, 4, .inl (fun _ => 0))), (a2, .inl (ka2, 4, .inl (fun _ => 0)))] := hD
  refine lv_aload_n hx hb dX4_begin_19 rfl (lv_at hl 0 rfl) ?_
  refine va_get (D := (dC, dI)) (ci := 4) (v := .ref a2) (C := RX4) (T := TX4) (N := 4) hx hb hts inB_4 hown hK hP 0 rfl rfl 2 (by decide) (hts _ mw_1_35) (fun _ h9 => h9) rfl dX4_begin_20 ?_
  refine lv_aload_n hx hb dX4_begin_23 rfl (lv_at hl 0 rfl) ?_
  refine va_get (D := (dC, dI)) (ci := 4) (v := .int 0) (C := RX4) (T := TX4) (N := 4) hx hb hts inB_4 hown hK hP 0 rfl rfl 3 (by decide) (hts _ mw_1_36) (fun _ h9 => h9) rfl dX4_begin_24 ?_
  refine lv_iconst (v := 0) hx hb dX4_begin_27 (by decide) ?_
  refine va_iast hx hb hK hP hD hS 2 1 rfl rfl (show vp_in 0 4 by unfold vp_in; decide) dX4_begin_28 (fun H locs hP hD hS => ?_)
  rw [show upd (fun _ => 0) (Int32.toNatClampNeg 0) 0 = (fun _ => 0) from upd_const _ _] at hP hD
  have hP : va_P (dC, dI) vwCl [(h0, .inr (4, [w0, .ref a1, .ref a2, .int 0])), (a1, .inl (ka1, 4, .inl (fun _ => 0))), (a2, .inl (ka2, 4, .inl (fun _ => 0)))] H := hP
  have hD : va_D A [(h0, .inr (4, [w0, .ref a1, .ref a2, .int 0])), (a1, .inl (ka1, 4, .inl (fun _ => 0))), (a2, .inl (ka2, 4, .inl (fun _ => 0)))] := hD
  refine lv_aload_n hx hb dX4_begin_29 rfl (lv_at hl 0 rfl) ?_
  refine lv_dup hx hb dX4_begin_30 rfl ?_
  refine va_get (D := (dC, dI)) (ci := 4) (v := .int 0) (C := RX4) (T := TX4) (N := 4) hx hb hts inB_4 hown hK hP 0 rfl rfl 3 (by decide) (hts _ mw_1_36) (fun _ h9 => h9) rfl dX4_begin_31 ?_
  refine lv_iconst (v := 1) hx hb dX4_begin_34 (by decide) ?_
  refine lv_iadd hx hb dX4_begin_35 ?_
  refine hx_top (y := 1) (by decide) ?_
  refine va_put (D := (dC, dI)) (ci := 4) (v := .int 1) (ty := .int) (C := RX4) (T := TX4) (N := 4) hx hb hts inB_4 tyX4 tyX4_ok nmX4 hown hK hP hD hS 0 rfl rfl 3 (by decide) (hts _ mw_1_36) (fun _ h9 => h9) rfl (by decide +kernel) rfl rfl (Nat.le_of_ble_eq_true rfl) dX4_begin_36 (fun H locs hP hD hS => ?_)
  have hP : va_P (dC, dI) vwCl [(h0, .inr (4, [w0, .ref a1, .ref a2, .int 1])), (a1, .inl (ka1, 4, .inl (fun _ => 0))), (a2, .inl (ka2, 4, .inl (fun _ => 0)))] H := hP
  have hD : va_D A [(h0, .inr (4, [w0, .ref a1, .ref a2, .int 1])), (a1, .inl (ka1, 4, .inl (fun _ => 0))), (a2, .inl (ka2, 4, .inl (fun _ => 0)))] := hD
  exact W.vret hx hb hr (fun t ht hW => ⟨⟨(), rfl, trivial, by rw [ht]; exact hP, va_K.moved hW.alike hK, hD⟩, hS.F ht⟩) hS.2.2 dX4_begin_39
set_option maxHeartbeats 4000000 in
set_option maxRecDepth 100000 in
theorem c_rHead (l : Launch) (dC : Nat → ClassId) (dI : Nat → Nat → Nat) (sz : Nat) (h0 : Nat) (w0 : Value) (a1 : Nat) (a2 : Nat) (c1 : Int32) (ka1 : ClassId) (ka2 : ClassId)  : Met l yX4_head (wq yX4_head cX4_head 2 (some .int)) ({ frames := 0, cells := 0, slots := 0, locals := 0 }) (va_Pc [.ref h0, .int 0] (pcW dC dI [(ka1, .int), (ka2, .int)] [(h0, .inr (4, [w0, .ref a1, .ref a2, .int c1])), (a1, .inl (ka1, 4, .inl (fun _ => 0))), (a2, .inl (ka2, 4, .inl (fun _ => 0)))] sz)) (va_Qi (fun (r : Int32) (_ : Unit) => r = (-6)) (fun _ _ => True) (fun q : Nat => sz ≤ q)) 0 0 (fun q : Nat => sz ≤ q) := by
  refine Met.ofW (cc := cX4_head) (maxL := 2) (ret := (some .int)) (by decide) rfl ?_
  intro p e s m args below meth c s₁ B hml hv
  obtain ⟨rfl, hsz, hN, hP, hK, hD0⟩ := hv
  have hx := B.exec
  have hb := B.bytes
  have hr := B.returns
  have hts0 := atoms_spec (ws := (wq yX4_head cX4_head 2 (some .int))) B.pre
  have hts : ∀ w ∈ BG, w.before _ s = true := fun w h => hts0 w (List.mem_cons_of_mem _ h)
  have hown : s.vm.findClass RX4 = some m.cls := findClass_of_methodNamed B.named
  have hlocks := B.notSynchronized
  subst hsz
  have hA : ∀ q : Nat, s.heap.size ≤ q → (fun q : Nat => s.heap.size ≤ q) q := fun _ h => h
  have hD := hD0
  have hS : va_S (fun q : Nat => s.heap.size ≤ q) s.heap s.heap [] := va_S.rf
  have hP : va_P (dC, dI) vwCl [(h0, .inr (4, [w0, .ref a1, .ref a2, .int c1])), (a1, .inl (ka1, 4, .inl (fun _ => 0))), (a2, .inl (ka2, 4, .inl (fun _ => 0)))] s.heap := hP
  have hl := lv_entry ([.ref h0, .int 0]) (n := 2) (Nat.le_of_ble_eq_true rfl)
  rw [lg_entry_eq]
  generalize (lg_sl ([.ref h0, .int 0]) ++ List.replicate (2 - (lg_sl ([.ref h0, .int 0])).length) Slot.unset).toArray = ls at hl ⊢
  have hl : lv_has ls 2 [(0, .ref h0), (1, .int 0)] := hl
  skip
  refine lv_aload_n hx hb dX4_head_0 rfl (lv_at hl 0 rfl) ?_
  refine va_get (D := (dC, dI)) (ci := 4) (v := .ref a1) (C := RX4) (T := TX4) (N := 4) hx hb hts inB_4 hown hK hP 0 rfl rfl 1 (by decide) (hts _ mw_1_34) (fun _ h9 => h9) rfl dX4_head_1 ?_
  refine lv_iload_n hx hb dX4_head_4 rfl (lv_at hl 1 rfl) ?_
  refine va_iald hx hb hK hP 1 0 rfl rfl (show vp_in 0 4 by unfold vp_in; decide) dX4_head_5 ?_
  refine hx_top (y := 0) rfl ?_
  refine lv_aload_n hx hb dX4_head_6 rfl (lv_at hl 0 rfl) ?_
  refine va_get (D := (dC, dI)) (ci := 4) (v := .ref a2) (C := RX4) (T := TX4) (N := 4) hx hb hts inB_4 hown hK hP 0 rfl rfl 2 (by decide) (hts _ mw_1_35) (fun _ h9 => h9) rfl dX4_head_7 ?_
  refine lv_iload_n hx hb dX4_head_10 rfl (lv_at hl 1 rfl) ?_
  refine va_iald hx hb hK hP 2 1 rfl rfl (show vp_in 0 4 by unfold vp_in; decide) dX4_head_11 ?_
  refine hx_top (y := 0) rfl ?_
  refine lv_icmp_ge (tgt := 34) hx hb dX4_head_12 (by decide) (fun _ => ?_) (fun h => absurd (by decide) h)
  refine lv_bipush (v := (-6)) hx hb dX4_head_34 (by decide) ?_
  exact W.iret (v := (-6)) hx hb hr (fun t ht hW => ⟨⟨(-6), (), rfl, rfl, trivial⟩, hS.F ht⟩) hS.2.2 dX4_head_36
set_option maxHeartbeats 4000000 in
set_option maxRecDepth 100000 in
theorem c_rTail (l : Launch) (dC : Nat → ClassId) (dI : Nat → Nat → Nat) (sz : Nat) (h0 : Nat) (w0 : Value) (a1 : Nat) (a2 : Nat) (c1 : Int32) (ka1 : ClassId) (ka2 : ClassId)  : Met l yX4_tail (wq yX4_tail cX4_tail 4 (some .int)) ({ frames := 0, cells := 0, slots := 0, locals := 0 }) (va_Pc [.ref h0, .int 0] (pcW dC dI [(ka1, .int), (ka2, .int)] [(h0, .inr (4, [w0, .ref a1, .ref a2, .int c1])), (a1, .inl (ka1, 4, .inl (fun _ => 0))), (a2, .inl (ka2, 4, .inl (fun _ => 0)))] sz)) (va_Qi (fun (r : Int32) (_ : Unit) => r = 0) (fun _ _ => True) (fun q : Nat => sz ≤ q)) 0 0 (fun q : Nat => sz ≤ q) := by
  refine Met.ofW (cc := cX4_tail) (maxL := 4) (ret := (some .int)) (by decide) rfl ?_
  intro p e s m args below meth c s₁ B hml hv
  obtain ⟨rfl, hsz, hN, hP, hK, hD0⟩ := hv
  have hx := B.exec
  have hb := B.bytes
  have hr := B.returns
  have hts0 := atoms_spec (ws := (wq yX4_tail cX4_tail 4 (some .int))) B.pre
  have hts : ∀ w ∈ BG, w.before _ s = true := fun w h => hts0 w (List.mem_cons_of_mem _ h)
  have hown : s.vm.findClass RX4 = some m.cls := findClass_of_methodNamed B.named
  have hlocks := B.notSynchronized
  subst hsz
  have hA : ∀ q : Nat, s.heap.size ≤ q → (fun q : Nat => s.heap.size ≤ q) q := fun _ h => h
  have hD := hD0
  have hS : va_S (fun q : Nat => s.heap.size ≤ q) s.heap s.heap [] := va_S.rf
  have hP : va_P (dC, dI) vwCl [(h0, .inr (4, [w0, .ref a1, .ref a2, .int c1])), (a1, .inl (ka1, 4, .inl (fun _ => 0))), (a2, .inl (ka2, 4, .inl (fun _ => 0)))] s.heap := hP
  have hl := lv_entry ([.ref h0, .int 0]) (n := 4) (Nat.le_of_ble_eq_true rfl)
  rw [lg_entry_eq]
  generalize (lg_sl ([.ref h0, .int 0]) ++ List.replicate (4 - (lg_sl ([.ref h0, .int 0])).length) Slot.unset).toArray = ls at hl ⊢
  have hl : lv_has ls 4 [(0, .ref h0), (1, .int 0)] := hl
  skip
  refine lv_iconst (v := 0) hx hb dX4_tail_0 (by decide) ?_
  refine lv_istore_n (lv' := [(2, .int 0), (0, .ref h0), (1, .int 0)]) hx hb dX4_tail_1 rfl hl (by decide) rfl (fun ls hl => ?_)
  refine lv_aload_n hx hb dX4_tail_2 rfl (lv_at hl 1 rfl) ?_
  refine va_get (D := (dC, dI)) (ci := 4) (v := .ref a1) (C := RX4) (T := TX4) (N := 4) hx hb hts inB_4 hown hK hP 0 rfl rfl 1 (by decide) (hts _ mw_1_34) (fun _ h9 => h9) rfl dX4_tail_3 ?_
  refine lv_iload_n hx hb dX4_tail_6 rfl (lv_at hl 2 rfl) ?_
  refine va_iald hx hb hK hP 1 0 rfl rfl (show vp_in 0 4 by unfold vp_in; decide) dX4_tail_7 ?_
  refine hx_top (y := 0) rfl ?_
  refine lv_iconst (v := 1) hx hb dX4_tail_8 (by decide) ?_
  refine lv_iadd hx hb dX4_tail_9 ?_
  refine hx_top (y := 1) (by decide) ?_
  refine lv_istore_n (lv' := [(3, .int 1), (2, .int 0), (0, .ref h0), (1, .int 0)]) hx hb dX4_tail_10 rfl hl (by decide) rfl (fun ls hl => ?_)
  refine lv_iload_n hx hb dX4_tail_11 rfl (lv_at hl 0 rfl) ?_
  refine lv_aload_n hx hb dX4_tail_12 rfl (lv_at hl 2 rfl) ?_
  refine va_get (D := (dC, dI)) (ci := 4) (v := .ref a2) (C := RX4) (T := TX4) (N := 4) hx hb hts inB_4 hown hK hP 0 rfl rfl 2 (by decide) (hts _ mw_1_35) (fun _ h9 => h9) rfl dX4_tail_13 ?_
  refine lv_iload_n hx hb dX4_tail_16 rfl (lv_at hl 3 rfl) ?_
  refine va_iald hx hb hK hP 2 1 rfl rfl (show vp_in 0 4 by unfold vp_in; decide) dX4_tail_17 ?_
  refine hx_top (y := 0) rfl ?_
  refine lv_icmp_ge (tgt := 43) hx hb dX4_tail_18 (by decide) (fun _ => ?_) (fun h => absurd (by decide) h)
  refine lv_iload_n hx hb dX4_tail_43 rfl (lv_at hl 1 rfl) ?_
  exact W.iret (v := 0) hx hb hr (fun t ht hW => ⟨⟨0, (), rfl, rfl, trivial⟩, hS.F ht⟩) hS.2.2 dX4_tail_44
set_option maxHeartbeats 4000000 in
set_option maxRecDepth 100000 in
theorem c_rFree (l : Launch) (dC : Nat → ClassId) (dI : Nat → Nat → Nat) (sz : Nat) (h0 : Nat) (w0 : Value) (a1 : Nat) (a2 : Nat) (ka1 : ClassId) (ka2 : ClassId)  : Met l yX4_firstFree (wq yX4_firstFree cX4_firstFree 4 (some .int)) ({ frames := 1, cells := 0, slots := 0, locals := 23 }) (va_Pc [.ref h0] (pcW dC dI [(ka1, .int), (ka2, .int)] [(h0, .inr (4, [w0, .ref a1, .ref a2, .int 1])), (a1, .inl (ka1, 4, .inl (fun _ => 0))), (a2, .inl (ka2, 4, .inl (fun _ => 0)))] sz)) (va_Qi (fun (r : Int32) (_ : Unit) => r = (-6)) (fun _ _ => True) (fun q : Nat => sz ≤ q)) 0 0 (fun q : Nat => sz ≤ q) := by
  refine Met.ofW (cc := cX4_firstFree) (maxL := 4) (ret := (some .int)) (by decide) rfl ?_
  intro p e s m args below meth c s₁ B hml hv
  obtain ⟨rfl, hsz, hN, hP, hK, hD0⟩ := hv
  have hx := B.exec
  have hb := B.bytes
  have hr := B.returns
  have hts0 := atoms_spec (ws := (wq yX4_firstFree cX4_firstFree 4 (some .int))) B.pre
  have hts : ∀ w ∈ BG, w.before _ s = true := fun w h => hts0 w (List.mem_cons_of_mem _ h)
  have hown : s.vm.findClass RX4 = some m.cls := findClass_of_methodNamed B.named
  have hlocks := B.notSynchronized
  subst hsz
  have hA : ∀ q : Nat, s.heap.size ≤ q → (fun q : Nat => s.heap.size ≤ q) q := fun _ h => h
  have hD := hD0
  have hS : va_S (fun q : Nat => s.heap.size ≤ q) s.heap s.heap [] := va_S.rf
  have hP : va_P (dC, dI) vwCl [(h0, .inr (4, [w0, .ref a1, .ref a2, .int 1])), (a1, .inl (ka1, 4, .inl (fun _ => 0))), (a2, .inl (ka2, 4, .inl (fun _ => 0)))] s.heap := hP
  have hl := lv_entry ([.ref h0]) (n := 4) (Nat.le_of_ble_eq_true rfl)
  rw [lg_entry_eq]
  generalize (lg_sl ([.ref h0]) ++ List.replicate (4 - (lg_sl ([.ref h0])).length) Slot.unset).toArray = ls at hl ⊢
  have hl : lv_has ls 4 [(0, .ref h0)] := hl
  skip
  refine lv_iconst (v := 0) hx hb dX4_firstFree_0 (by decide) ?_
  refine lv_istore_n (lv' := [(1, .int 0), (0, .ref h0)]) hx hb dX4_firstFree_1 rfl hl (by decide) rfl (fun ls hl => ?_)
  refine lv_iconst (v := 0) hx hb dX4_firstFree_2 (by decide) ?_
  refine lv_istore_n (lv' := [(2, .int 0), (1, .int 0), (0, .ref h0)]) hx hb dX4_firstFree_3 rfl hl (by decide) rfl (fun ls hl => ?_)
  refine lv_iload_n hx hb dX4_firstFree_4 rfl (lv_at hl 0 rfl) ?_
  refine lv_aload_n hx hb dX4_firstFree_5 rfl (lv_at hl 2 rfl) ?_
  refine va_get (D := (dC, dI)) (ci := 4) (v := .int 1) (C := RX4) (T := TX4) (N := 4) hx hb hts inB_4 hown hK hP 0 rfl rfl 3 (by decide) (hts _ mw_1_36) (fun _ h9 => h9) rfl dX4_firstFree_6 ?_
  refine lv_icmp_ge (tgt := 26) hx hb dX4_firstFree_9 (by decide) (fun h => absurd h (by decide)) (fun _ => ?_)
  refine lv_iload_n hx hb dX4_firstFree_12 rfl (lv_at hl 1 rfl) ?_
  refine lv_aload_n hx hb dX4_firstFree_13 rfl (lv_at hl 2 rfl) ?_
  refine lv_iload_n hx hb dX4_firstFree_14 rfl (lv_at hl 0 rfl) ?_
  have hPc := hP.sub (ws' := [(h0, .inr (4, [w0, .ref a1, .ref a2, .int 1])), (a1, .inl (ka1, 4, .inl (fun _ => 0))), (a2, .inl (ka2, 4, .inl (fun _ => 0)))]) [0, 1, 2] rfl
  have hDc := hD.sub (ws' := [(h0, .inr (4, [w0, .ref a1, .ref a2, .int 1])), (a1, .inl (ka1, 4, .inl (fun _ => 0))), (a2, .inl (ka2, 4, .inl (fun _ => 0)))]) [0, 1, 2] (by decide) rfl
  have hKc := hK.sub (tys' := [(ka1, .int), (ka2, .int)]) [0, 1] rfl
  refine va_calli (va_runV (As := [.int 0]) (rest := [.int 0]) ⟨hx, hb, hml, hown, hts⟩ (c_rTail l dC dI s.heap.size h0 (w0) a1 a2 1 ka1 ka2) (cwV 1 hts (gV mw_2_5 mw_2_7 mw_0_2 mw_1_3 mw_2_8) rfl rfl rfl (by decide +kernel) ⟨Nat.le_of_ble_eq_true rfl, Nat.le_of_ble_eq_true rfl⟩) ⟨pcW_blind, va_recv hKc hPc (ci := 4) (q0 := 0) rfl rfl, pcW_at hPc hKc hDc hN⟩ rfl rfl hl.1 rfl (lv_room (Nat.le_of_ble_eq_true rfl)) dX4_firstFree_15 ⟨Nat.le_of_ble_eq_true rfl, Nat.le_of_ble_eq_true rfl⟩) hS (fun q h1 h2 => absurd h2 (Nat.not_le.mpr h1)) (fun q h => hA q (Nat.le_trans hS.1 h)) (fun r_1 u t H1 locs ht hvm hw_1 hB hz1 hk1 hS => ?_)
  have hP := keepP hP hk1
  clear hz1 hk1 hB ht hvm hPc hDc hKc
  generalize H1 = H at hP hS ⊢
  obtain rfl : r_1 = 0 := hw_1
  refine lv_ior hx hb dX4_firstFree_18 ?_
  refine hx_top (y := 0) (by decide) ?_
  refine lv_istore_n (lv' := [(1, .int 0), (2, .int 0), (0, .ref h0)]) hx hb dX4_firstFree_19 rfl hl (by decide) rfl (fun ls hl => ?_)
  refine lv_iinc (v := 1) (lv' := [(2, .int 1), (1, .int 0), (0, .ref h0)]) hx hb dX4_firstFree_20 hl (k := 1) rfl (by decide) (by decide) rfl (fun ls hl => ?_)
  refine lv_goto (tgt := 4) hx hb dX4_firstFree_23 (by decide) ?_
  refine lv_iload_n hx hb dX4_firstFree_4 rfl (lv_at hl 0 rfl) ?_
  refine lv_aload_n hx hb dX4_firstFree_5 rfl (lv_at hl 2 rfl) ?_
  refine va_get (D := (dC, dI)) (ci := 4) (v := .int 1) (C := RX4) (T := TX4) (N := 4) hx hb hts inB_4 hown hK hP 0 rfl rfl 3 (by decide) (hts _ mw_1_36) (fun _ h9 => h9) rfl dX4_firstFree_6 ?_
  refine lv_icmp_ge (tgt := 26) hx hb dX4_firstFree_9 (by decide) (fun _ => ?_) (fun h => absurd (by decide) h)
  refine lv_iconst (v := 0) hx hb dX4_firstFree_26 (by decide) ?_
  refine lv_istore_n (lv' := [(2, .int 0), (1, .int 0), (0, .ref h0)]) hx hb dX4_firstFree_27 rfl hl (by decide) rfl (fun ls hl => ?_)
  refine lv_iload_n hx hb dX4_firstFree_28 rfl (lv_at hl 0 rfl) ?_
  refine lv_aload_n hx hb dX4_firstFree_29 rfl (lv_at hl 2 rfl) ?_
  refine va_get (D := (dC, dI)) (ci := 4) (v := .int 1) (C := RX4) (T := TX4) (N := 4) hx hb hts inB_4 hown hK hP 0 rfl rfl 3 (by decide) (hts _ mw_1_36) (fun _ h9 => h9) rfl dX4_firstFree_30 ?_
  refine lv_icmp_ge (tgt := 64) hx hb dX4_firstFree_33 (by decide) (fun h => absurd h (by decide)) (fun _ => ?_)
  refine lv_aload_n hx hb dX4_firstFree_36 rfl (lv_at hl 2 rfl) ?_
  refine lv_iload_n hx hb dX4_firstFree_37 rfl (lv_at hl 0 rfl) ?_
  have hPc := hP.sub (ws' := [(h0, .inr (4, [w0, .ref a1, .ref a2, .int 1])), (a1, .inl (ka1, 4, .inl (fun _ => 0))), (a2, .inl (ka2, 4, .inl (fun _ => 0)))]) [0, 1, 2] rfl
  have hDc := hD.sub (ws' := [(h0, .inr (4, [w0, .ref a1, .ref a2, .int 1])), (a1, .inl (ka1, 4, .inl (fun _ => 0))), (a2, .inl (ka2, 4, .inl (fun _ => 0)))]) [0, 1, 2] (by decide) rfl
  have hKc := hK.sub (tys' := [(ka1, .int), (ka2, .int)]) [0, 1] rfl
  refine va_calli (va_runV (As := [.int 0]) (rest := []) ⟨hx, hb, hml, hown, hts⟩ (c_rHead l dC dI H.size h0 (w0) a1 a2 1 ka1 ka2) (cwV 1 hts (gV mw_2_9 mw_2_11 mw_0_3 mw_1_3 mw_2_12) rfl rfl rfl (by decide +kernel) ⟨Nat.le_of_ble_eq_true rfl, Nat.le_of_ble_eq_true rfl⟩) ⟨pcW_blind, va_recv hKc hPc (ci := 4) (q0 := 0) rfl rfl, pcW_at hPc hKc hDc hN⟩ rfl rfl hl.1 rfl (lv_room (Nat.le_of_ble_eq_true rfl)) dX4_firstFree_38 ⟨Nat.le_of_ble_eq_true rfl, Nat.le_of_ble_eq_true rfl⟩) hS (fun q h1 h2 => absurd h2 (Nat.not_le.mpr h1)) (fun q h => hA q (Nat.le_trans hS.1 h)) (fun r_2 u t H1 locs ht hvm hw_2 hB hz1 hk1 hS => ?_)
  have hP := keepP hP hk1
  clear hz1 hk1 hB ht hvm hPc hDc hKc
  generalize H1 = H at hP hS ⊢
  obtain rfl : r_2 = (-6) := hw_2
  refine lv_istore_n (lv' := [(3, .int (-6)), (2, .int 0), (1, .int 0), (0, .ref h0)]) hx hb dX4_firstFree_41 rfl hl (by decide) rfl (fun ls hl => ?_)
  refine lv_iload_n hx hb dX4_firstFree_42 rfl (lv_at hl 0 rfl) ?_
  refine lv_bipush (v := (-6)) hx hb dX4_firstFree_43 (by decide) ?_
  refine lv_icmp_eq (tgt := 58) hx hb dX4_firstFree_45 (by decide) (fun _ => ?_) (fun h => absurd (by decide) h)
  refine lv_iinc (v := 1) (lv' := [(2, .int 1), (3, .int (-6)), (1, .int 0), (0, .ref h0)]) hx hb dX4_firstFree_58 hl (k := 1) rfl (by decide) (by decide) rfl (fun ls hl => ?_)
  refine lv_goto (tgt := 28) hx hb dX4_firstFree_61 (by decide) ?_
  refine lv_iload_n hx hb dX4_firstFree_28 rfl (lv_at hl 0 rfl) ?_
  refine lv_aload_n hx hb dX4_firstFree_29 rfl (lv_at hl 3 rfl) ?_
  refine va_get (D := (dC, dI)) (ci := 4) (v := .int 1) (C := RX4) (T := TX4) (N := 4) hx hb hts inB_4 hown hK hP 0 rfl rfl 3 (by decide) (hts _ mw_1_36) (fun _ h9 => h9) rfl dX4_firstFree_30 ?_
  refine lv_icmp_ge (tgt := 64) hx hb dX4_firstFree_33 (by decide) (fun _ => ?_) (fun h => absurd (by decide) h)
  refine lv_bipush (v := (-6)) hx hb dX4_firstFree_64 (by decide) ?_
  exact W.iret (v := (-6)) hx hb hr (fun t ht hW => ⟨⟨(-6), (), rfl, rfl, trivial⟩, hS.F ht⟩) hS.2.2 dX4_firstFree_66
set_option maxHeartbeats 4000000 in
set_option maxRecDepth 100000 in
theorem c_rBegs (l : Launch) (dC : Nat → ClassId) (dI : Nat → Nat → Nat) (sz : Nat) (h0 : Nat) (w0 : Value) (a1 : Nat) (a2 : Nat) (ka1 : ClassId) (ka2 : ClassId)  : Met l yX4_beginnings (wq yX4_beginnings cX4_beginnings 4 (some .int)) ({ frames := 1, cells := 0, slots := 0, locals := 21 }) (va_Pc [.ref h0] (pcW dC dI [(ka1, .int), (ka2, .int)] [(h0, .inr (4, [w0, .ref a1, .ref a2, .int 1])), (a1, .inl (ka1, 4, .inl (fun _ => 0))), (a2, .inl (ka2, 4, .inl (fun _ => 0)))] sz)) (va_Qi (fun (r : Int32) (_ : Unit) => r = 0) (fun _ _ => True) (fun q : Nat => sz ≤ q)) 0 0 (fun q : Nat => sz ≤ q) := by
  refine Met.ofW (cc := cX4_beginnings) (maxL := 4) (ret := (some .int)) (by decide) rfl ?_
  intro p e s m args below meth c s₁ B hml hv
  obtain ⟨rfl, hsz, hN, hP, hK, hD0⟩ := hv
  have hx := B.exec
  have hb := B.bytes
  have hr := B.returns
  have hts0 := atoms_spec (ws := (wq yX4_beginnings cX4_beginnings 4 (some .int))) B.pre
  have hts : ∀ w ∈ BG, w.before _ s = true := fun w h => hts0 w (List.mem_cons_of_mem _ h)
  have hown : s.vm.findClass RX4 = some m.cls := findClass_of_methodNamed B.named
  have hlocks := B.notSynchronized
  subst hsz
  have hA : ∀ q : Nat, s.heap.size ≤ q → (fun q : Nat => s.heap.size ≤ q) q := fun _ h => h
  have hD := hD0
  have hS : va_S (fun q : Nat => s.heap.size ≤ q) s.heap s.heap [] := va_S.rf
  have hP : va_P (dC, dI) vwCl [(h0, .inr (4, [w0, .ref a1, .ref a2, .int 1])), (a1, .inl (ka1, 4, .inl (fun _ => 0))), (a2, .inl (ka2, 4, .inl (fun _ => 0)))] s.heap := hP
  have hl := lv_entry ([.ref h0]) (n := 4) (Nat.le_of_ble_eq_true rfl)
  rw [lg_entry_eq]
  generalize (lg_sl ([.ref h0]) ++ List.replicate (4 - (lg_sl ([.ref h0])).length) Slot.unset).toArray = ls at hl ⊢
  have hl : lv_has ls 4 [(0, .ref h0)] := hl
  skip
  refine lv_iconst (v := 0) hx hb dX4_beginnings_0 (by decide) ?_
  refine lv_istore_n (lv' := [(1, .int 0), (0, .ref h0)]) hx hb dX4_beginnings_1 rfl hl (by decide) rfl (fun ls hl => ?_)
  refine lv_iconst (v := 0) hx hb dX4_beginnings_2 (by decide) ?_
  refine lv_istore_n (lv' := [(2, .int 0), (1, .int 0), (0, .ref h0)]) hx hb dX4_beginnings_3 rfl hl (by decide) rfl (fun ls hl => ?_)
  refine lv_iload_n hx hb dX4_beginnings_4 rfl (lv_at hl 0 rfl) ?_
  refine lv_aload_n hx hb dX4_beginnings_5 rfl (lv_at hl 2 rfl) ?_
  refine va_get (D := (dC, dI)) (ci := 4) (v := .int 1) (C := RX4) (T := TX4) (N := 4) hx hb hts inB_4 hown hK hP 0 rfl rfl 3 (by decide) (hts _ mw_1_36) (fun _ h9 => h9) rfl dX4_beginnings_6 ?_
  refine lv_icmp_ge (tgt := 36) hx hb dX4_beginnings_9 (by decide) (fun h => absurd h (by decide)) (fun _ => ?_)
  refine lv_aload_n hx hb dX4_beginnings_12 rfl (lv_at hl 2 rfl) ?_
  refine lv_iload_n hx hb dX4_beginnings_13 rfl (lv_at hl 0 rfl) ?_
  have hPc := hP.sub (ws' := [(h0, .inr (4, [w0, .ref a1, .ref a2, .int 1])), (a1, .inl (ka1, 4, .inl (fun _ => 0))), (a2, .inl (ka2, 4, .inl (fun _ => 0)))]) [0, 1, 2] rfl
  have hDc := hD.sub (ws' := [(h0, .inr (4, [w0, .ref a1, .ref a2, .int 1])), (a1, .inl (ka1, 4, .inl (fun _ => 0))), (a2, .inl (ka2, 4, .inl (fun _ => 0)))]) [0, 1, 2] (by decide) rfl
  have hKc := hK.sub (tys' := [(ka1, .int), (ka2, .int)]) [0, 1] rfl
  refine va_calli (va_runV (As := [.int 0]) (rest := []) ⟨hx, hb, hml, hown, hts⟩ (c_rHead l dC dI s.heap.size h0 (w0) a1 a2 1 ka1 ka2) (cwV 1 hts (gV mw_2_9 mw_2_11 mw_0_3 mw_1_3 mw_2_12) rfl rfl rfl (by decide +kernel) ⟨Nat.le_of_ble_eq_true rfl, Nat.le_of_ble_eq_true rfl⟩) ⟨pcW_blind, va_recv hKc hPc (ci := 4) (q0 := 0) rfl rfl, pcW_at hPc hKc hDc hN⟩ rfl rfl hl.1 rfl (lv_room (Nat.le_of_ble_eq_true rfl)) dX4_beginnings_14 ⟨Nat.le_of_ble_eq_true rfl, Nat.le_of_ble_eq_true rfl⟩) hS (fun q h1 h2 => absurd h2 (Nat.not_le.mpr h1)) (fun q h => hA q (Nat.le_trans hS.1 h)) (fun r_1 u t H1 locs ht hvm hw_1 hB hz1 hk1 hS => ?_)
  have hP := keepP hP hk1
  clear hz1 hk1 hB ht hvm hPc hDc hKc
  generalize H1 = H at hP hS ⊢
  obtain rfl : r_1 = (-6) := hw_1
  refine lv_istore_n (lv' := [(3, .int (-6)), (2, .int 0), (1, .int 0), (0, .ref h0)]) hx hb dX4_beginnings_17 rfl hl (by decide) rfl (fun ls hl => ?_)
  refine lv_iload_n hx hb dX4_beginnings_18 rfl (lv_at hl 0 rfl) ?_
  refine lv_bipush (v := (-6)) hx hb dX4_beginnings_19 (by decide) ?_
  refine lv_icmp_eq (tgt := 30) hx hb dX4_beginnings_21 (by decide) (fun _ => ?_) (fun h => absurd (by decide) h)
  refine lv_iinc (v := 1) (lv' := [(2, .int 1), (3, .int (-6)), (1, .int 0), (0, .ref h0)]) hx hb dX4_beginnings_30 hl (k := 1) rfl (by decide) (by decide) rfl (fun ls hl => ?_)
  refine lv_goto (tgt := 4) hx hb dX4_beginnings_33 (by decide) ?_
  refine lv_iload_n hx hb dX4_beginnings_4 rfl (lv_at hl 0 rfl) ?_
  refine lv_aload_n hx hb dX4_beginnings_5 rfl (lv_at hl 3 rfl) ?_
  refine va_get (D := (dC, dI)) (ci := 4) (v := .int 1) (C := RX4) (T := TX4) (N := 4) hx hb hts inB_4 hown hK hP 0 rfl rfl 3 (by decide) (hts _ mw_1_36) (fun _ h9 => h9) rfl dX4_beginnings_6 ?_
  refine lv_icmp_ge (tgt := 36) hx hb dX4_beginnings_9 (by decide) (fun _ => ?_) (fun h => absurd (by decide) h)
  refine lv_iload_n hx hb dX4_beginnings_36 rfl (lv_at hl 2 rfl) ?_
  exact W.iret (v := 0) hx hb hr (fun t ht hW => ⟨⟨0, (), rfl, rfl, trivial⟩, hS.F ht⟩) hS.2.2 dX4_beginnings_37
set_option maxHeartbeats 4000000 in
set_option maxRecDepth 100000 in
theorem c_layRows (l : Launch) (dC : Nat → ClassId) (dI : Nat → Nat → Nat) (sz : Nat) (h0 : Nat) (w0 : Value) (w1 : Value) (w2 : Value) (w3 : Value) (w4 : Value) (r0 : Nat) (w6 : Value) (w7 : Value) (y0 : Value) (a1 : Nat) (a2 : Nat) (ka1 : ClassId) (ka2 : ClassId)  : Met l yX1_layRows (wq yX1_layRows cX1_layRows 5 none) ({ frames := 1, cells := 0, slots := 0, locals := 20 }) (va_Pc [.ref h0, .int 0] (pcW dC dI [(ka1, .int), (ka2, .int)] [(h0, .inr (1, [w0, w1, w2, w3, w4, .ref r0, w6, w7])), (r0, .inr (4, [y0, .ref a1, .ref a2, .int 0])), (a1, .inl (ka1, 4, .inl (fun _ => 0))), (a2, .inl (ka2, 4, .inl (fun _ => 0)))] sz)) (va_Qv (fun _ : Unit => True) (fun _ t => va_P (dC, dI) vwCl [(h0, .inr (1, [w0, w1, w2, w3, w4, .ref r0, w6, w7])), (r0, .inr (4, [y0, .ref a1, .ref a2, .int 1])), (a1, .inl (ka1, 4, .inl (fun _ => 0))), (a2, .inl (ka2, 4, .inl (fun _ => 0)))] t.heap ∧ va_K (dC, dI) vwCl [(ka1, .int), (ka2, .int)] t ∧ va_D (va_A [(h0, .inr (1, [w0, w1, w2, w3, w4, .ref r0, w6, w7])), (r0, .inr (4, [y0, .ref a1, .ref a2, .int 0])), (a1, .inl (ka1, 4, .inl (fun _ => 0))), (a2, .inl (ka2, 4, .inl (fun _ => 0)))] sz) [(h0, .inr (1, [w0, w1, w2, w3, w4, .ref r0, w6, w7])), (r0, .inr (4, [y0, .ref a1, .ref a2, .int 1])), (a1, .inl (ka1, 4, .inl (fun _ => 0))), (a2, .inl (ka2, 4, .inl (fun _ => 0)))]) (va_A [(h0, .inr (1, [w0, w1, w2, w3, w4, .ref r0, w6, w7])), (r0, .inr (4, [y0, .ref a1, .ref a2, .int 0])), (a1, .inl (ka1, 4, .inl (fun _ => 0))), (a2, .inl (ka2, 4, .inl (fun _ => 0)))] sz)) 0 0 (va_A [(h0, .inr (1, [w0, w1, w2, w3, w4, .ref r0, w6, w7])), (r0, .inr (4, [y0, .ref a1, .ref a2, .int 0])), (a1, .inl (ka1, 4, .inl (fun _ => 0))), (a2, .inl (ka2, 4, .inl (fun _ => 0)))] sz) := by
  refine Met.ofW (cc := cX1_layRows) (maxL := 5) (ret := none) (by decide) rfl ?_
  intro p e s m args below meth c s₁ B hml hv
  obtain ⟨rfl, hsz, hN, hP, hK, hD0⟩ := hv
  have hx := B.exec
  have hb := B.bytes
  have hr := B.returns
  have hts0 := atoms_spec (ws := (wq yX1_layRows cX1_layRows 5 none)) B.pre
  have hts : ∀ w ∈ BG, w.before _ s = true := fun w h => hts0 w (List.mem_cons_of_mem _ h)
  have hown : s.vm.findClass RX1 = some m.cls := findClass_of_methodNamed B.named
  have hlocks := B.notSynchronized
  subst hsz
  have hD := hD0.self (sz := s.heap.size)
  generalize hAe : va_A [(h0, .inr (1, [w0, w1, w2, w3, w4, .ref r0, w6, w7])), (r0, .inr (4, [y0, .ref a1, .ref a2, .int 0])), (a1, .inl (ka1, 4, .inl (fun _ => 0))), (a2, .inl (ka2, 4, .inl (fun _ => 0)))] s.heap.size = A at hD ⊢
  have hA : ∀ q : Nat, s.heap.size ≤ q → A q := fun q h => by rw [← hAe]; exact Or.inr h
  have hS : va_S A s.heap s.heap [] := va_S.rf
  have hP : va_P (dC, dI) vwCl [(h0, .inr (1, [w0, w1, w2, w3, w4, .ref r0, w6, w7])), (r0, .inr (4, [y0, .ref a1, .ref a2, .int 0])), (a1, .inl (ka1, 4, .inl (fun _ => 0))), (a2, .inl (ka2, 4, .inl (fun _ => 0)))] s.heap := hP
  have hl := lv_entry ([.ref h0, .int 0]) (n := 5) (Nat.le_of_ble_eq_true rfl)
  rw [lg_entry_eq]
  generalize (lg_sl ([.ref h0, .int 0]) ++ List.replicate (5 - (lg_sl ([.ref h0, .int 0])).length) Slot.unset).toArray = ls at hl ⊢
  have hl : lv_has ls 5 [(0, .ref h0), (1, .int 0)] := hl
  skip
  refine lv_aload_n hx hb dX1_layRows_0 rfl (lv_at hl 0 rfl) ?_
  refine va_get (D := (dC, dI)) (ci := 1) (v := .ref r0) (C := RX1) (T := TX1) (N := 8) hx hb hts inB_1 hown hK hP 0 rfl rfl 5 (by decide) (hts _ mw_1_52) (fun _ h9 => h9) rfl dX1_layRows_1 ?_
  have hPc := hP.sub (ws' := [(r0, .inr (4, [y0, .ref a1, .ref a2, .int 0]))]) [1] rfl
  have hDc := hD.sub (ws' := [(r0, .inr (4, [y0, .ref a1, .ref a2, .int 0]))]) [1] (by decide) rfl
  have hKc := hK.sub (tys' := []) [] rfl
  have hFc := va_free (wc := [(r0, .inr (4, [y0, .ref a1, .ref a2, .int 0]))]) hD hS hA [1] rfl
  refine va_callv (va_runV (As := []) (rest := []) ⟨hx, hb, hml, hown, hts⟩ (c_rClear l dC dI s.heap.size r0 (y0) (.ref a1) (.ref a2)) (cwV 0 hts (gV mw_1_225 mw_1_226 mw_1_227 mw_1_3 mw_1_228) rfl rfl rfl (by decide +kernel) ⟨Nat.le_of_ble_eq_true rfl, Nat.le_of_ble_eq_true rfl⟩) ⟨pcW_blind, va_recv hKc hPc (ci := 4) (q0 := 0) rfl rfl, pcW_at hPc hKc hDc hN⟩ rfl rfl hl.1 rfl (lv_room (Nat.le_of_ble_eq_true rfl)) dX1_layRows_4 ⟨Nat.le_of_ble_eq_true rfl, Nat.le_of_ble_eq_true rfl⟩) hS (fun q _ h => hFc q h) hFc (fun u t H1 locs ht hvm hw_1 hB hz1 hk1 hS => ?_)
  obtain ⟨hP1, hK1, hD1⟩ := hB
  rw [ht] at hP1
  have hK1 := va_K.moved hvm.symm hK1
  obtain ⟨hP, hD⟩ := va_join (wr := [(h0, .inr (1, [w0, w1, w2, w3, w4, .ref r0, w6, w7])), (a1, .inl (ka1, 4, .inl (fun _ => 0))), (a2, .inl (ka2, 4, .inl (fun _ => 0)))]) (w1 := [(r0, .inr (4, [y0, .ref a1, .ref a2, .int 0]))]) hP hD [1] [0, 2, 3] rfl rfl (by decide) (by decide) hk1 hFc hP1 hD1
  have hK := (hK.sub (tys' := [(ka1, .int), (ka2, .int)]) [0, 1] rfl).app hK1
  clear hz1 hk1 hPc hDc hKc hFc
  generalize H1 = H at hP hS ⊢
  have hK : va_K (dC, dI) vwCl [(ka1, .int), (ka2, .int)] s := hK
  have hP : va_P (dC, dI) vwCl [(h0, .inr (1, [w0, w1, w2, w3, w4, .ref r0, w6, w7])), (a1, .inl (ka1, 4, .inl (fun _ => 0))), (a2, .inl (ka2, 4, .inl (fun _ => 0))), (r0, .inr (4, [y0, .ref a1, .ref a2, .int 0]))] H := hP
  have hD : va_D A [(h0, .inr (1, [w0, w1, w2, w3, w4, .ref r0, w6, w7])), (a1, .inl (ka1, 4, .inl (fun _ => 0))), (a2, .inl (ka2, 4, .inl (fun _ => 0))), (r0, .inr (4, [y0, .ref a1, .ref a2, .int 0]))] := hD
  refine lv_iconst (v := 0) hx hb dX1_layRows_7 (by decide) ?_
  refine lv_istore_n (lv' := [(2, .int 0), (0, .ref h0), (1, .int 0)]) hx hb dX1_layRows_8 rfl hl (by decide) rfl (fun ls hl => ?_)
  refine lv_iload_n hx hb dX1_layRows_9 rfl (lv_at hl 0 rfl) ?_
  refine lv_iload_n hx hb dX1_layRows_10 rfl (lv_at hl 2 rfl) ?_
  refine lv_icmp_ge (tgt := 72) hx hb dX1_layRows_11 (by decide) (fun _ => ?_) (fun h => absurd (by decide) h)
  refine lv_aload_n hx hb dX1_layRows_72 rfl (lv_at hl 1 rfl) ?_
  refine va_get (D := (dC, dI)) (ci := 1) (v := .ref r0) (C := RX1) (T := TX1) (N := 8) hx hb hts inB_1 hown hK hP 0 rfl rfl 5 (by decide) (hts _ mw_1_52) (fun _ h9 => h9) rfl dX1_layRows_73 ?_
  have hPc := hP.sub (ws' := [(r0, .inr (4, [y0, .ref a1, .ref a2, .int 0])), (a1, .inl (ka1, 4, .inl (fun _ => 0))), (a2, .inl (ka2, 4, .inl (fun _ => 0)))]) [3, 1, 2] rfl
  have hDc := hD.sub (ws' := [(r0, .inr (4, [y0, .ref a1, .ref a2, .int 0])), (a1, .inl (ka1, 4, .inl (fun _ => 0))), (a2, .inl (ka2, 4, .inl (fun _ => 0)))]) [3, 1, 2] (by decide) rfl
  have hKc := hK.sub (tys' := [(ka1, .int), (ka2, .int)]) [0, 1] rfl
  have hFc := va_free (wc := [(r0, .inr (4, [y0, .ref a1, .ref a2, .int 0])), (a1, .inl (ka1, 4, .inl (fun _ => 0))), (a2, .inl (ka2, 4, .inl (fun _ => 0)))]) hD hS hA [3, 1, 2] rfl
  refine va_callv (va_runV (As := []) (rest := []) ⟨hx, hb, hml, hown, hts⟩ (c_rBegin l dC dI H.size r0 (y0) a1 a2 ka1 ka2) (cwV 0 hts (gV mw_1_229 mw_1_230 mw_1_231 mw_1_3 mw_1_232) rfl rfl rfl (by decide +kernel) ⟨Nat.le_of_ble_eq_true rfl, Nat.le_of_ble_eq_true rfl⟩) ⟨pcW_blind, va_recv hKc hPc (ci := 4) (q0 := 0) rfl rfl, pcW_at hPc hKc hDc hN⟩ rfl rfl hl.1 rfl (lv_room (Nat.le_of_ble_eq_true rfl)) dX1_layRows_76 ⟨Nat.le_of_ble_eq_true rfl, Nat.le_of_ble_eq_true rfl⟩) hS (fun q _ h => hFc q h) hFc (fun u t H1 locs ht hvm hw_2 hB hz1 hk1 hS => ?_)
  obtain ⟨hP1, hK1, hD1⟩ := hB
  rw [ht] at hP1
  have hK1 := va_K.moved hvm.symm hK1
  obtain ⟨hP, hD⟩ := va_join (wr := [(h0, .inr (1, [w0, w1, w2, w3, w4, .ref r0, w6, w7]))]) (w1 := [(r0, .inr (4, [y0, .ref a1, .ref a2, .int 1])), (a1, .inl (ka1, 4, .inl (fun _ => 0))), (a2, .inl (ka2, 4, .inl (fun _ => 0)))]) hP hD [3, 1, 2] [0] rfl rfl (by decide) (by decide) hk1 hFc hP1 hD1
  have hK := (hK.sub (tys' := []) [] rfl).app hK1
  clear hz1 hk1 hPc hDc hKc hFc
  generalize H1 = H at hP hS ⊢
  have hK : va_K (dC, dI) vwCl [(ka1, .int), (ka2, .int)] s := hK
  have hP : va_P (dC, dI) vwCl [(h0, .inr (1, [w0, w1, w2, w3, w4, .ref r0, w6, w7])), (r0, .inr (4, [y0, .ref a1, .ref a2, .int 1])), (a1, .inl (ka1, 4, .inl (fun _ => 0))), (a2, .inl (ka2, 4, .inl (fun _ => 0)))] H := hP
  have hD : va_D A [(h0, .inr (1, [w0, w1, w2, w3, w4, .ref r0, w6, w7])), (r0, .inr (4, [y0, .ref a1, .ref a2, .int 1])), (a1, .inl (ka1, 4, .inl (fun _ => 0))), (a2, .inl (ka2, 4, .inl (fun _ => 0)))] := hD
  refine lv_iconst (v := 0) hx hb dX1_layRows_79 (by decide) ?_
  refine lv_istore_n (lv' := [(2, .int 0), (0, .ref h0), (1, .int 0)]) hx hb dX1_layRows_80 rfl hl (by decide) rfl (fun ls hl => ?_)
  refine lv_iload_n hx hb dX1_layRows_81 rfl (lv_at hl 0 rfl) ?_
  refine lv_iload_n hx hb dX1_layRows_82 rfl (lv_at hl 2 rfl) ?_
  refine lv_icmp_ge (tgt := 105) hx hb dX1_layRows_83 (by decide) (fun _ => ?_) (fun h => absurd (by decide) h)
  exact W.vret hx hb hr (fun t ht hW => ⟨⟨(), rfl, trivial, by rw [ht]; exact hP, va_K.moved hW.alike hK, hD⟩, hS.F ht⟩) hS.2.2 dX1_layRows_105
set_option maxHeartbeats 4000000 in
set_option maxRecDepth 100000 in
theorem c_layLine (l : Launch) (dC : Nat → ClassId) (dI : Nat → Nat → Nat) (sz : Nat) (h0 : Nat) (w0 : Value) (b1 : Nat) (b2 : Nat) (b3 : Nat) (w4 : Value) (r0 : Nat) (w6 : Value) (w7 : Value) (kb1 : ClassId) (kb2 : ClassId) (fq : Nat → Int32) (kb3 : ClassId) (y0 : Value) (a1 : Nat) (a2 : Nat) (ka1 : ClassId) (ka2 : ClassId)  : Met l yX1_layLine (wq yX1_layLine cX1_layLine 6 none) ({ frames := 2, cells := 0, slots := 0, locals := 46 }) (va_Pc [.ref h0, .int 0, .int 0] (pcW dC dI [(kb1, .int), (kb2, .int), (kb3, .int), (ka1, .int), (ka2, .int)] [(h0, .inr (1, [w0, .ref b1, .ref b2, .ref b3, w4, .ref r0, w6, w7])), (b1, .inl (kb1, 10, .inl (fun _ => 0))), (b2, .inl (kb2, 10, .inl fq)), (b3, .inl (kb3, 100, .inl (fun _ => 0))), (r0, .inr (4, [y0, .ref a1, .ref a2, .int 0])), (a1, .inl (ka1, 4, .inl (fun _ => 0))), (a2, .inl (ka2, 4, .inl (fun _ => 0)))] sz)) (va_Qv (fun _ : Unit => True) (fun _ t => va_P (dC, dI) vwCl [(b1, .inl (kb1, 10, .inl (slF 1 0 1))), (b2, .inl (kb2, 10, .inl (upd fq 0 (-6)))), (b3, .inl (kb3, 100, .inl (fun _ => 0))), (h0, .inr (1, [w0, .ref b1, .ref b2, .ref b3, w4, .ref r0, w6, w7])), (r0, .inr (4, [y0, .ref a1, .ref a2, .int 1])), (a1, .inl (ka1, 4, .inl (fun _ => 0))), (a2, .inl (ka2, 4, .inl (fun _ => 0)))] t.heap ∧ va_K (dC, dI) vwCl [(kb1, .int), (kb2, .int), (kb3, .int), (ka1, .int), (ka2, .int)] t ∧ va_D (va_A [(h0, .inr (1, [w0, .ref b1, .ref b2, .ref b3, w4, .ref r0, w6, w7])), (b1, .inl (kb1, 10, .inl (fun _ => 0))), (b2, .inl (kb2, 10, .inl fq)), (b3, .inl (kb3, 100, .inl (fun _ => 0))), (r0, .inr (4, [y0, .ref a1, .ref a2, .int 0])), (a1, .inl (ka1, 4, .inl (fun _ => 0))), (a2, .inl (ka2, 4, .inl (fun _ => 0)))] sz) [(b1, .inl (kb1, 10, .inl (slF 1 0 1))), (b2, .inl (kb2, 10, .inl (upd fq 0 (-6)))), (b3, .inl (kb3, 100, .inl (fun _ => 0))), (h0, .inr (1, [w0, .ref b1, .ref b2, .ref b3, w4, .ref r0, w6, w7])), (r0, .inr (4, [y0, .ref a1, .ref a2, .int 1])), (a1, .inl (ka1, 4, .inl (fun _ => 0))), (a2, .inl (ka2, 4, .inl (fun _ => 0)))]) (va_A [(h0, .inr (1, [w0, .ref b1, .ref b2, .ref b3, w4, .ref r0, w6, w7])), (b1, .inl (kb1, 10, .inl (fun _ => 0))), (b2, .inl (kb2, 10, .inl fq)), (b3, .inl (kb3, 100, .inl (fun _ => 0))), (r0, .inr (4, [y0, .ref a1, .ref a2, .int 0])), (a1, .inl (ka1, 4, .inl (fun _ => 0))), (a2, .inl (ka2, 4, .inl (fun _ => 0)))] sz)) 0 0 (va_A [(h0, .inr (1, [w0, .ref b1, .ref b2, .ref b3, w4, .ref r0, w6, w7])), (b1, .inl (kb1, 10, .inl (fun _ => 0))), (b2, .inl (kb2, 10, .inl fq)), (b3, .inl (kb3, 100, .inl (fun _ => 0))), (r0, .inr (4, [y0, .ref a1, .ref a2, .int 0])), (a1, .inl (ka1, 4, .inl (fun _ => 0))), (a2, .inl (ka2, 4, .inl (fun _ => 0)))] sz) := by
  refine Met.ofW (cc := cX1_layLine) (maxL := 6) (ret := none) (by decide) rfl ?_
  intro p e s m args below meth c s₁ B hml hv
  obtain ⟨rfl, hsz, hN, hP, hK, hD0⟩ := hv
  have hx := B.exec
  have hb := B.bytes
  have hr := B.returns
  have hts0 := atoms_spec (ws := (wq yX1_layLine cX1_layLine 6 none)) B.pre
  have hts : ∀ w ∈ BG, w.before _ s = true := fun w h => hts0 w (List.mem_cons_of_mem _ h)
  have hown : s.vm.findClass RX1 = some m.cls := findClass_of_methodNamed B.named
  have hlocks := B.notSynchronized
  subst hsz
  have hD := hD0.self (sz := s.heap.size)
  generalize hAe : va_A [(h0, .inr (1, [w0, .ref b1, .ref b2, .ref b3, w4, .ref r0, w6, w7])), (b1, .inl (kb1, 10, .inl (fun _ => 0))), (b2, .inl (kb2, 10, .inl fq)), (b3, .inl (kb3, 100, .inl (fun _ => 0))), (r0, .inr (4, [y0, .ref a1, .ref a2, .int 0])), (a1, .inl (ka1, 4, .inl (fun _ => 0))), (a2, .inl (ka2, 4, .inl (fun _ => 0)))] s.heap.size = A at hD ⊢
  have hA : ∀ q : Nat, s.heap.size ≤ q → A q := fun q h => by rw [← hAe]; exact Or.inr h
  have hS : va_S A s.heap s.heap [] := va_S.rf
  have hP : va_P (dC, dI) vwCl [(h0, .inr (1, [w0, .ref b1, .ref b2, .ref b3, w4, .ref r0, w6, w7])), (b1, .inl (kb1, 10, .inl (fun _ => 0))), (b2, .inl (kb2, 10, .inl fq)), (b3, .inl (kb3, 100, .inl (fun _ => 0))), (r0, .inr (4, [y0, .ref a1, .ref a2, .int 0])), (a1, .inl (ka1, 4, .inl (fun _ => 0))), (a2, .inl (ka2, 4, .inl (fun _ => 0)))] s.heap := hP
  have hl := lv_entry ([.ref h0, .int 0, .int 0]) (n := 6) (Nat.le_of_ble_eq_true rfl)
  rw [lg_entry_eq]
  generalize (lg_sl ([.ref h0, .int 0, .int 0]) ++ List.replicate (6 - (lg_sl ([.ref h0, .int 0, .int 0])).length) Slot.unset).toArray = ls at hl ⊢
  have hl : lv_has ls 6 [(0, .ref h0), (1, .int 0), (2, .int 0)] := hl
  skip
  refine lv_aload_n hx hb dX1_layLine_0 rfl (lv_at hl 0 rfl) ?_
  refine lv_iload_n hx hb dX1_layLine_1 rfl (lv_at hl 2 rfl) ?_
  have hPc := hP.sub (ws' := [(h0, .inr (1, [w0, .ref b1, .ref b2, .ref b3, w4, .ref r0, w6, w7])), (r0, .inr (4, [y0, .ref a1, .ref a2, .int 0])), (a1, .inl (ka1, 4, .inl (fun _ => 0))), (a2, .inl (ka2, 4, .inl (fun _ => 0)))]) [0, 4, 5, 6] rfl
  have hDc := hD.sub (ws' := [(h0, .inr (1, [w0, .ref b1, .ref b2, .ref b3, w4, .ref r0, w6, w7])), (r0, .inr (4, [y0, .ref a1, .ref a2, .int 0])), (a1, .inl (ka1, 4, .inl (fun _ => 0))), (a2, .inl (ka2, 4, .inl (fun _ => 0)))]) [0, 4, 5, 6] (by decide) rfl
  have hKc := hK.sub (tys' := [(ka1, .int), (ka2, .int)]) [3, 4] rfl
  have hFc := va_free (wc := [(h0, .inr (1, [w0, .ref b1, .ref b2, .ref b3, w4, .ref r0, w6, w7])), (r0, .inr (4, [y0, .ref a1, .ref a2, .int 0])), (a1, .inl (ka1, 4, .inl (fun _ => 0))), (a2, .inl (ka2, 4, .inl (fun _ => 0)))]) hD hS hA [0, 4, 5, 6] rfl
  refine va_callv (va_runV (As := [.int 0]) (rest := []) ⟨hx, hb, hml, hown, hts⟩ (c_layRows l dC dI s.heap.size h0 (w0) (.ref b1) (.ref b2) (.ref b3) (w4) r0 (w6) (w7) (y0) a1 a2 ka1 ka2) (cwV 1 hts (gV mw_1_221 mw_1_223 mw_0_1 mw_1_2 mw_1_224) rfl rfl rfl (by decide +kernel) ⟨Nat.le_of_ble_eq_true rfl, Nat.le_of_ble_eq_true rfl⟩) ⟨pcW_blind, va_recv hKc hPc (ci := 1) (q0 := 0) rfl rfl, pcW_at hPc hKc hDc hN⟩ rfl rfl hl.1 rfl (lv_room (Nat.le_of_ble_eq_true rfl)) dX1_layLine_2 ⟨Nat.le_of_ble_eq_true rfl, Nat.le_of_ble_eq_true rfl⟩) hS (fun q _ h => hFc q h) hFc (fun u t H1 locs ht hvm hw_1 hB hz1 hk1 hS => ?_)
  obtain ⟨hP1, hK1, hD1⟩ := hB
  rw [ht] at hP1
  have hK1 := va_K.moved hvm.symm hK1
  obtain ⟨hP, hD⟩ := va_join (wr := [(b1, .inl (kb1, 10, .inl (fun _ => 0))), (b2, .inl (kb2, 10, .inl fq)), (b3, .inl (kb3, 100, .inl (fun _ => 0)))]) (w1 := [(h0, .inr (1, [w0, .ref b1, .ref b2, .ref b3, w4, .ref r0, w6, w7])), (r0, .inr (4, [y0, .ref a1, .ref a2, .int 1])), (a1, .inl (ka1, 4, .inl (fun _ => 0))), (a2, .inl (ka2, 4, .inl (fun _ => 0)))]) hP hD [0, 4, 5, 6] [1, 2, 3] rfl rfl (by decide) (by decide) hk1 hFc hP1 hD1
  have hK := (hK.sub (tys' := [(kb1, .int), (kb2, .int), (kb3, .int)]) [0, 1, 2] rfl).app hK1
  clear hz1 hk1 hPc hDc hKc hFc
  generalize H1 = H at hP hS ⊢
  have hK : va_K (dC, dI) vwCl [(kb1, .int), (kb2, .int), (kb3, .int), (ka1, .int), (ka2, .int)] s := hK
  have hP : va_P (dC, dI) vwCl [(b1, .inl (kb1, 10, .inl (fun _ => 0))), (b2, .inl (kb2, 10, .inl fq)), (b3, .inl (kb3, 100, .inl (fun _ => 0))), (h0, .inr (1, [w0, .ref b1, .ref b2, .ref b3, w4, .ref r0, w6, w7])), (r0, .inr (4, [y0, .ref a1, .ref a2, .int 1])), (a1, .inl (ka1, 4, .inl (fun _ => 0))), (a2, .inl (ka2, 4, .inl (fun _ => 0)))] H := hP
  have hD : va_D A [(b1, .inl (kb1, 10, .inl (fun _ => 0))), (b2, .inl (kb2, 10, .inl fq)), (b3, .inl (kb3, 100, .inl (fun _ => 0))), (h0, .inr (1, [w0, .ref b1, .ref b2, .ref b3, w4, .ref r0, w6, w7])), (r0, .inr (4, [y0, .ref a1, .ref a2, .int 1])), (a1, .inl (ka1, 4, .inl (fun _ => 0))), (a2, .inl (ka2, 4, .inl (fun _ => 0)))] := hD
  refine lv_aload_n hx hb dX1_layLine_5 rfl (lv_at hl 0 rfl) ?_
  refine va_get (D := (dC, dI)) (ci := 1) (v := .ref b3) (C := RX1) (T := TX1) (N := 8) hx hb hts inB_1 hown hK hP 3 rfl rfl 3 (by decide) (hts _ mw_1_50) (fun _ h9 => h9) rfl dX1_layLine_6 ?_
  refine lv_iload_n hx hb dX1_layLine_9 rfl (lv_at hl 1 rfl) ?_
  refine lv_bipush (v := 10) hx hb dX1_layLine_10 (by decide) ?_
  refine lv_imul hx hb dX1_layLine_12 ?_
  refine hx_top (y := 0) (by decide) ?_
  refine lv_iload_n hx hb dX1_layLine_13 rfl (lv_at hl 1 rfl) ?_
  refine va_iast hx hb hK hP hD hS 2 2 rfl rfl (show vp_in 0 100 by unfold vp_in; decide) dX1_layLine_14 (fun H locs hP hD hS => ?_)
  rw [show upd (fun _ => 0) (Int32.toNatClampNeg 0) 0 = (fun _ => 0) from upd_const _ _] at hP hD
  have hP : va_P (dC, dI) vwCl [(b1, .inl (kb1, 10, .inl (fun _ => 0))), (b2, .inl (kb2, 10, .inl fq)), (b3, .inl (kb3, 100, .inl (fun _ => 0))), (h0, .inr (1, [w0, .ref b1, .ref b2, .ref b3, w4, .ref r0, w6, w7])), (r0, .inr (4, [y0, .ref a1, .ref a2, .int 1])), (a1, .inl (ka1, 4, .inl (fun _ => 0))), (a2, .inl (ka2, 4, .inl (fun _ => 0)))] H := hP
  have hD : va_D A [(b1, .inl (kb1, 10, .inl (fun _ => 0))), (b2, .inl (kb2, 10, .inl fq)), (b3, .inl (kb3, 100, .inl (fun _ => 0))), (h0, .inr (1, [w0, .ref b1, .ref b2, .ref b3, w4, .ref r0, w6, w7])), (r0, .inr (4, [y0, .ref a1, .ref a2, .int 1])), (a1, .inl (ka1, 4, .inl (fun _ => 0))), (a2, .inl (ka2, 4, .inl (fun _ => 0)))] := hD
  refine lv_iconst (v := 1) hx hb dX1_layLine_15 (by decide) ?_
  refine lv_istore_n (lv' := [(3, .int 1), (0, .ref h0), (1, .int 0), (2, .int 0)]) hx hb dX1_layLine_16 rfl hl (by decide) rfl (fun ls hl => ?_)
  refine lv_aload_n hx hb dX1_layLine_17 rfl (lv_at hl 1 rfl) ?_
  refine va_get (D := (dC, dI)) (ci := 1) (v := .ref r0) (C := RX1) (T := TX1) (N := 8) hx hb hts inB_1 hown hK hP 3 rfl rfl 5 (by decide) (hts _ mw_1_52) (fun _ h9 => h9) rfl dX1_layLine_18 ?_
  have hPc := hP.sub (ws' := [(r0, .inr (4, [y0, .ref a1, .ref a2, .int 1])), (a1, .inl (ka1, 4, .inl (fun _ => 0))), (a2, .inl (ka2, 4, .inl (fun _ => 0)))]) [4, 5, 6] rfl
  have hDc := hD.sub (ws' := [(r0, .inr (4, [y0, .ref a1, .ref a2, .int 1])), (a1, .inl (ka1, 4, .inl (fun _ => 0))), (a2, .inl (ka2, 4, .inl (fun _ => 0)))]) [4, 5, 6] (by decide) rfl
  have hKc := hK.sub (tys' := [(ka1, .int), (ka2, .int)]) [3, 4] rfl
  refine va_calli (va_runV (As := []) (rest := []) ⟨hx, hb, hml, hown, hts⟩ (c_rFree l dC dI H.size r0 (y0) a1 a2 ka1 ka2) (cwV 0 hts (gV mw_2_1 mw_2_2 mw_2_3 mw_1_3 mw_2_4) rfl rfl rfl (by decide +kernel) ⟨Nat.le_of_ble_eq_true rfl, Nat.le_of_ble_eq_true rfl⟩) ⟨pcW_blind, va_recv hKc hPc (ci := 4) (q0 := 0) rfl rfl, pcW_at hPc hKc hDc hN⟩ rfl rfl hl.1 rfl (lv_room (Nat.le_of_ble_eq_true rfl)) dX1_layLine_21 ⟨Nat.le_of_ble_eq_true rfl, Nat.le_of_ble_eq_true rfl⟩) hS (fun q h1 h2 => absurd h2 (Nat.not_le.mpr h1)) (fun q h => hA q (Nat.le_trans hS.1 h)) (fun r_2 u t H1 locs ht hvm hw_2 hB hz1 hk1 hS => ?_)
  have hP := keepP hP hk1
  clear hz1 hk1 hB ht hvm hPc hDc hKc
  generalize H1 = H at hP hS ⊢
  obtain rfl : r_2 = (-6) := hw_2
  refine lv_istore (lv' := [(4, .int (-6)), (3, .int 1), (0, .ref h0), (1, .int 0), (2, .int 0)]) hx hb dX1_layLine_24 hl (by decide) rfl (fun ls hl => ?_)
  refine lv_iload hx hb dX1_layLine_26 (lv_at hl 0 rfl) ?_
  refine lv_bipush (v := (-6)) hx hb dX1_layLine_28 (by decide) ?_
  refine lv_icmp_eq (tgt := 76) hx hb dX1_layLine_30 (by decide) (fun _ => ?_) (fun h => absurd (by decide) h)
  refine lv_aload_n hx hb dX1_layLine_76 rfl (lv_at hl 2 rfl) ?_
  refine va_get (D := (dC, dI)) (ci := 1) (v := .ref r0) (C := RX1) (T := TX1) (N := 8) hx hb hts inB_1 hown hK hP 3 rfl rfl 5 (by decide) (hts _ mw_1_52) (fun _ h9 => h9) rfl dX1_layLine_77 ?_
  have hPc := hP.sub (ws' := [(r0, .inr (4, [y0, .ref a1, .ref a2, .int 1])), (a1, .inl (ka1, 4, .inl (fun _ => 0))), (a2, .inl (ka2, 4, .inl (fun _ => 0)))]) [4, 5, 6] rfl
  have hDc := hD.sub (ws' := [(r0, .inr (4, [y0, .ref a1, .ref a2, .int 1])), (a1, .inl (ka1, 4, .inl (fun _ => 0))), (a2, .inl (ka2, 4, .inl (fun _ => 0)))]) [4, 5, 6] (by decide) rfl
  have hKc := hK.sub (tys' := [(ka1, .int), (ka2, .int)]) [3, 4] rfl
  refine va_calli (va_runV (As := []) (rest := []) ⟨hx, hb, hml, hown, hts⟩ (c_rBegs l dC dI H.size r0 (y0) a1 a2 ka1 ka2) (cwV 0 hts (gV mw_2_20 mw_2_21 mw_2_22 mw_1_3 mw_2_23) rfl rfl rfl (by decide +kernel) ⟨Nat.le_of_ble_eq_true rfl, Nat.le_of_ble_eq_true rfl⟩) ⟨pcW_blind, va_recv hKc hPc (ci := 4) (q0 := 0) rfl rfl, pcW_at hPc hKc hDc hN⟩ rfl rfl hl.1 rfl (lv_room (Nat.le_of_ble_eq_true rfl)) dX1_layLine_80 ⟨Nat.le_of_ble_eq_true rfl, Nat.le_of_ble_eq_true rfl⟩) hS (fun q h1 h2 => absurd h2 (Nat.not_le.mpr h1)) (fun q h => hA q (Nat.le_trans hS.1 h)) (fun r_3 u t H1 locs ht hvm hw_3 hB hz1 hk1 hS => ?_)
  have hP := keepP hP hk1
  clear hz1 hk1 hB ht hvm hPc hDc hKc
  generalize H1 = H at hP hS ⊢
  obtain rfl : r_3 = 0 := hw_3
  refine lv_istore (lv' := [(5, .int 0), (4, .int (-6)), (3, .int 1), (0, .ref h0), (1, .int 0), (2, .int 0)]) hx hb dX1_layLine_83 hl (by decide) rfl (fun ls hl => ?_)
  refine lv_aload_n hx hb dX1_layLine_85 rfl (lv_at hl 3 rfl) ?_
  refine va_get (D := (dC, dI)) (ci := 1) (v := .ref b2) (C := RX1) (T := TX1) (N := 8) hx hb hts inB_1 hown hK hP 3 rfl rfl 2 (by decide) (hts _ mw_1_49) (fun _ h9 => h9) rfl dX1_layLine_86 ?_
  refine lv_iload_n hx hb dX1_layLine_89 rfl (lv_at hl 4 rfl) ?_
  refine lv_iload hx hb dX1_layLine_90 (lv_at hl 0 rfl) ?_
  refine lv_if_ne (tgt := 100) hx hb dX1_layLine_92 (by decide) (fun h => absurd h (by decide)) (fun _ => ?_)
  refine lv_bipush (v := (-6)) hx hb dX1_layLine_95 (by decide) ?_
  refine lv_goto (tgt := 102) hx hb dX1_layLine_97 (by decide) ?_
  refine va_iast hx hb hK hP hD hS 1 1 rfl rfl (show vp_in 0 10 by unfold vp_in; decide) dX1_layLine_102 (fun H locs hP hD hS => ?_)
  have hP : va_P (dC, dI) vwCl [(b1, .inl (kb1, 10, .inl (fun _ => 0))), (b2, .inl (kb2, 10, .inl (upd fq 0 (-6)))), (b3, .inl (kb3, 100, .inl (fun _ => 0))), (h0, .inr (1, [w0, .ref b1, .ref b2, .ref b3, w4, .ref r0, w6, w7])), (r0, .inr (4, [y0, .ref a1, .ref a2, .int 1])), (a1, .inl (ka1, 4, .inl (fun _ => 0))), (a2, .inl (ka2, 4, .inl (fun _ => 0)))] H := hP
  have hD : va_D A [(b1, .inl (kb1, 10, .inl (fun _ => 0))), (b2, .inl (kb2, 10, .inl (upd fq 0 (-6)))), (b3, .inl (kb3, 100, .inl (fun _ => 0))), (h0, .inr (1, [w0, .ref b1, .ref b2, .ref b3, w4, .ref r0, w6, w7])), (r0, .inr (4, [y0, .ref a1, .ref a2, .int 1])), (a1, .inl (ka1, 4, .inl (fun _ => 0))), (a2, .inl (ka2, 4, .inl (fun _ => 0)))] := hD
  refine lv_aload_n hx hb dX1_layLine_103 rfl (lv_at hl 3 rfl) ?_
  refine va_get (D := (dC, dI)) (ci := 1) (v := .ref b1) (C := RX1) (T := TX1) (N := 8) hx hb hts inB_1 hown hK hP 3 rfl rfl 1 (by decide) (hts _ mw_1_48) (fun _ h9 => h9) rfl dX1_layLine_104 ?_
  refine lv_iload_n hx hb dX1_layLine_107 rfl (lv_at hl 4 rfl) ?_
  refine lv_iload hx hb dX1_layLine_108 (lv_at hl 0 rfl) ?_
  refine lv_if_ne (tgt := 117) hx hb dX1_layLine_110 (by decide) (fun h => absurd h (by decide)) (fun _ => ?_)
  refine lv_iload_n hx hb dX1_layLine_113 rfl (lv_at hl 2 rfl) ?_
  refine lv_goto (tgt := 118) hx hb dX1_layLine_114 (by decide) ?_
  refine va_iast hx hb hK hP hD hS 0 0 rfl rfl (show vp_in 0 10 by unfold vp_in; decide) dX1_layLine_118 (fun H locs hP hD hS => ?_)
  rw [show upd (fun _ => 0) (Int32.toNatClampNeg 0) 1 = (slF 1 0 1) from slF_u0 _ _] at hP hD
  have hP : va_P (dC, dI) vwCl [(b1, .inl (kb1, 10, .inl (slF 1 0 1))), (b2, .inl (kb2, 10, .inl (upd fq 0 (-6)))), (b3, .inl (kb3, 100, .inl (fun _ => 0))), (h0, .inr (1, [w0, .ref b1, .ref b2, .ref b3, w4, .ref r0, w6, w7])), (r0, .inr (4, [y0, .ref a1, .ref a2, .int 1])), (a1, .inl (ka1, 4, .inl (fun _ => 0))), (a2, .inl (ka2, 4, .inl (fun _ => 0)))] H := hP
  have hD : va_D A [(b1, .inl (kb1, 10, .inl (slF 1 0 1))), (b2, .inl (kb2, 10, .inl (upd fq 0 (-6)))), (b3, .inl (kb3, 100, .inl (fun _ => 0))), (h0, .inr (1, [w0, .ref b1, .ref b2, .ref b3, w4, .ref r0, w6, w7])), (r0, .inr (4, [y0, .ref a1, .ref a2, .int 1])), (a1, .inl (ka1, 4, .inl (fun _ => 0))), (a2, .inl (ka2, 4, .inl (fun _ => 0)))] := hD
  exact W.vret hx hb hr (fun t ht hW => ⟨⟨(), rfl, trivial, by rw [ht]; exact hP, va_K.moved hW.alike hK, hD⟩, hS.F ht⟩) hS.2.2 dX1_layLine_119
set_option maxHeartbeats 4000000 in
set_option maxRecDepth 100000 in
theorem c_add (l : Launch) (dC : Nat → ClassId) (dI : Nat → Nat → Nat) (sz : Nat) (h0 : Nat) (b0 : Nat) (b1 : Nat) (b2 : Nat) (b3 : Nat) (b4 : Nat) (r0 : Nat) (w7 : Value) (kb0 : ClassId) (kb1 : ClassId) (kb2 : ClassId) (kb3 : ClassId) (kb4 : ClassId) (y0 : Value) (a1 : Nat) (a2 : Nat) (ka1 : ClassId) (ka2 : ClassId) (n1 : Int32) (n2 : Int32) (n3 : Int32)  : Met l yX1_add (wq yX1_add cX1_add 8 (some .int)) ({ frames := 3, cells := 0, slots := 0, locals := 71 }) (va_Pc [.ref h0, .int 0, .int n1, .int n2, .int n3] (pcW dC dI [(kb0, .int), (kb1, .int), (kb2, .int), (kb3, .int), (kb4, .int), (ka1, .int), (ka2, .int)] [(h0, .inr (1, [.ref b0, .ref b1, .ref b2, .ref b3, .ref b4, .ref r0, .int 0, w7])), (b0, .inl (kb0, 10, .inl (fun _ => 0))), (b1, .inl (kb1, 10, .inl (fun _ => 0))), (b2, .inl (kb2, 10, .inl (fun _ => 0))), (b3, .inl (kb3, 100, .inl (fun _ => 0))), (b4, .inl (kb4, 3, .inl (fun _ => 0))), (r0, .inr (4, [y0, .ref a1, .ref a2, .int 0])), (a1, .inl (ka1, 4, .inl (fun _ => 0))), (a2, .inl (ka2, 4, .inl (fun _ => 0)))] sz)) (va_Qi (fun (r : Int32) (_ : Unit) => r = 0) (fun _ _ => True) (va_A [(h0, .inr (1, [.ref b0, .ref b1, .ref b2, .ref b3, .ref b4, .ref r0, .int 0, w7])), (b0, .inl (kb0, 10, .inl (fun _ => 0))), (b1, .inl (kb1, 10, .inl (fun _ => 0))), (b2, .inl (kb2, 10, .inl (fun _ => 0))), (b3, .inl (kb3, 100, .inl (fun _ => 0))), (b4, .inl (kb4, 3, .inl (fun _ => 0))), (r0, .inr (4, [y0, .ref a1, .ref a2, .int 0])), (a1, .inl (ka1, 4, .inl (fun _ => 0))), (a2, .inl (ka2, 4, .inl (fun _ => 0)))] sz)) 0 0 (va_A [(h0, .inr (1, [.ref b0, .ref b1, .ref b2, .ref b3, .ref b4, .ref r0, .int 0, w7])), (b0, .inl (kb0, 10, .inl (fun _ => 0))), (b1, .inl (kb1, 10, .inl (fun _ => 0))), (b2, .inl (kb2, 10, .inl (fun _ => 0))), (b3, .inl (kb3, 100, .inl (fun _ => 0))), (b4, .inl (kb4, 3, .inl (fun _ => 0))), (r0, .inr (4, [y0, .ref a1, .ref a2, .int 0])), (a1, .inl (ka1, 4, .inl (fun _ => 0))), (a2, .inl (ka2, 4, .inl (fun _ => 0)))] sz) := by
  refine Met.ofW (cc := cX1_add) (maxL := 8) (ret := (some .int)) (by decide) rfl ?_
  intro p e s m args below meth c s₁ B hml hv
  obtain ⟨rfl, hsz, hN, hP, hK, hD0⟩ := hv
  have hx := B.exec
  have hb := B.bytes
  have hr := B.returns
  have hts0 := atoms_spec (ws := (wq yX1_add cX1_add 8 (some .int))) B.pre
  have hts : ∀ w ∈ BG, w.before _ s = true := fun w h => hts0 w (List.mem_cons_of_mem _ h)
  have hown : s.vm.findClass RX1 = some m.cls := findClass_of_methodNamed B.named
  have hlocks := B.notSynchronized
  subst hsz
  have hD := hD0.self (sz := s.heap.size)
  generalize hAe : va_A [(h0, .inr (1, [.ref b0, .ref b1, .ref b2, .ref b3, .ref b4, .ref r0, .int 0, w7])), (b0, .inl (kb0, 10, .inl (fun _ => 0))), (b1, .inl (kb1, 10, .inl (fun _ => 0))), (b2, .inl (kb2, 10, .inl (fun _ => 0))), (b3, .inl (kb3, 100, .inl (fun _ => 0))), (b4, .inl (kb4, 3, .inl (fun _ => 0))), (r0, .inr (4, [y0, .ref a1, .ref a2, .int 0])), (a1, .inl (ka1, 4, .inl (fun _ => 0))), (a2, .inl (ka2, 4, .inl (fun _ => 0)))] s.heap.size = A at hD ⊢
  have hA : ∀ q : Nat, s.heap.size ≤ q → A q := fun q h => by rw [← hAe]; exact Or.inr h
  have hS : va_S A s.heap s.heap [] := va_S.rf
  have hP : va_P (dC, dI) vwCl [(h0, .inr (1, [.ref b0, .ref b1, .ref b2, .ref b3, .ref b4, .ref r0, .int 0, w7])), (b0, .inl (kb0, 10, .inl (fun _ => 0))), (b1, .inl (kb1, 10, .inl (fun _ => 0))), (b2, .inl (kb2, 10, .inl (fun _ => 0))), (b3, .inl (kb3, 100, .inl (fun _ => 0))), (b4, .inl (kb4, 3, .inl (fun _ => 0))), (r0, .inr (4, [y0, .ref a1, .ref a2, .int 0])), (a1, .inl (ka1, 4, .inl (fun _ => 0))), (a2, .inl (ka2, 4, .inl (fun _ => 0)))] s.heap := hP
  have hl := lv_entry ([.ref h0, .int 0, .int n1, .int n2, .int n3]) (n := 8) (Nat.le_of_ble_eq_true rfl)
  rw [lg_entry_eq]
  generalize (lg_sl ([.ref h0, .int 0, .int n1, .int n2, .int n3]) ++ List.replicate (8 - (lg_sl ([.ref h0, .int 0, .int n1, .int n2, .int n3])).length) Slot.unset).toArray = ls at hl ⊢
  have hl : lv_has ls 8 [(0, .ref h0), (1, .int 0), (2, .int n1), (3, .int n2), (4, .int n3)] := hl
  skip
  refine lv_aload_n hx hb dX1_add_0 rfl (lv_at hl 0 rfl) ?_
  have hPc := hP.sub (ws' := [(h0, .inr (1, [.ref b0, .ref b1, .ref b2, .ref b3, .ref b4, .ref r0, .int 0, w7]))]) [0] rfl
  have hDc := hD.sub (ws' := [(h0, .inr (1, [.ref b0, .ref b1, .ref b2, .ref b3, .ref b4, .ref r0, .int 0, w7]))]) [0] (by decide) rfl
  have hKc := hK.sub (tys' := []) [] rfl
  refine va_calli (va_runV (As := []) (rest := []) ⟨hx, hb, hml, hown, hts⟩ (c_isFull l dC dI s.heap.size h0 (.ref b0) (.ref b1) (.ref b2) (.ref b3) (.ref b4) (.ref r0) (w7)) (cwV 0 hts (gV mw_1_203 mw_1_196 mw_1_197 mw_1_2 mw_1_198) rfl rfl rfl (by decide +kernel) ⟨Nat.le_of_ble_eq_true rfl, Nat.le_of_ble_eq_true rfl⟩) ⟨pcW_blind, va_recv hKc hPc (ci := 1) (q0 := 0) rfl rfl, pcW_at hPc hKc hDc hN⟩ rfl rfl hl.1 rfl (lv_room (Nat.le_of_ble_eq_true rfl)) dX1_add_1 ⟨Nat.le_of_ble_eq_true rfl, Nat.le_of_ble_eq_true rfl⟩) hS (fun q h1 h2 => absurd h2 (Nat.not_le.mpr h1)) (fun q h => hA q (Nat.le_trans hS.1 h)) (fun r_1 u t H1 locs ht hvm hw_1 hB hz1 hk1 hS => ?_)
  have hP := keepP hP hk1
  clear hz1 hk1 hB ht hvm hPc hDc hKc
  generalize H1 = H at hP hS ⊢
  obtain rfl : r_1 = 0 := hw_1
  refine lv_if_ne (tgt := 16) hx hb dX1_add_4 (by decide) (fun h => absurd h (by decide)) (fun _ => ?_)
  refine lv_iload_n hx hb dX1_add_7 rfl (lv_at hl 1 rfl) ?_
  refine lv_if_lt (tgt := 16) hx hb dX1_add_8 (by decide) (fun h => absurd h (by decide)) (fun _ => ?_)
  refine lv_iload_n hx hb dX1_add_11 rfl (lv_at hl 1 rfl) ?_
  refine lv_iconst (v := 3) hx hb dX1_add_12 (by decide) ?_
  refine lv_icmp_le (tgt := 19) hx hb dX1_add_13 (by decide) (fun _ => ?_) (fun h => absurd (by decide) h)
  refine lv_aload_n hx hb dX1_add_19 rfl (lv_at hl 0 rfl) ?_
  refine va_get (D := (dC, dI)) (ci := 1) (v := .int 0) (C := RX1) (T := TX1) (N := 8) hx hb hts inB_1 hown hK hP 0 rfl rfl 6 (by decide) (hts _ mw_1_53) (fun _ h9 => h9) rfl dX1_add_20 ?_
  refine lv_istore (lv' := [(5, .int 0), (0, .ref h0), (1, .int 0), (2, .int n1), (3, .int n2), (4, .int n3)]) hx hb dX1_add_23 hl (by decide) rfl (fun ls hl => ?_)
  refine lv_aload_n hx hb dX1_add_25 rfl (lv_at hl 1 rfl) ?_
  refine va_get (D := (dC, dI)) (ci := 1) (v := .ref b4) (C := RX1) (T := TX1) (N := 8) hx hb hts inB_1 hown hK hP 0 rfl rfl 4 (by decide) (hts _ mw_1_51) (fun _ h9 => h9) rfl dX1_add_26 ?_
  refine lv_iconst (v := 0) hx hb dX1_add_29 (by decide) ?_
  refine lv_iload_n hx hb dX1_add_30 rfl (lv_at hl 3 rfl) ?_
  refine va_iast hx hb hK hP hD hS 5 4 rfl rfl (show vp_in 0 3 by unfold vp_in; decide) dX1_add_31 (fun H locs hP hD hS => ?_)
  have hP : va_P (dC, dI) vwCl [(h0, .inr (1, [.ref b0, .ref b1, .ref b2, .ref b3, .ref b4, .ref r0, .int 0, w7])), (b0, .inl (kb0, 10, .inl (fun _ => 0))), (b1, .inl (kb1, 10, .inl (fun _ => 0))), (b2, .inl (kb2, 10, .inl (fun _ => 0))), (b3, .inl (kb3, 100, .inl (fun _ => 0))), (b4, .inl (kb4, 3, .inl (upd (fun _ => 0) 0 n1))), (r0, .inr (4, [y0, .ref a1, .ref a2, .int 0])), (a1, .inl (ka1, 4, .inl (fun _ => 0))), (a2, .inl (ka2, 4, .inl (fun _ => 0)))] H := hP
  have hD : va_D A [(h0, .inr (1, [.ref b0, .ref b1, .ref b2, .ref b3, .ref b4, .ref r0, .int 0, w7])), (b0, .inl (kb0, 10, .inl (fun _ => 0))), (b1, .inl (kb1, 10, .inl (fun _ => 0))), (b2, .inl (kb2, 10, .inl (fun _ => 0))), (b3, .inl (kb3, 100, .inl (fun _ => 0))), (b4, .inl (kb4, 3, .inl (upd (fun _ => 0) 0 n1))), (r0, .inr (4, [y0, .ref a1, .ref a2, .int 0])), (a1, .inl (ka1, 4, .inl (fun _ => 0))), (a2, .inl (ka2, 4, .inl (fun _ => 0)))] := hD
  refine lv_aload_n hx hb dX1_add_32 rfl (lv_at hl 1 rfl) ?_
  refine va_get (D := (dC, dI)) (ci := 1) (v := .ref b4) (C := RX1) (T := TX1) (N := 8) hx hb hts inB_1 hown hK hP 0 rfl rfl 4 (by decide) (hts _ mw_1_51) (fun _ h9 => h9) rfl dX1_add_33 ?_
  refine lv_iconst (v := 1) hx hb dX1_add_36 (by decide) ?_
  refine lv_iload_n hx hb dX1_add_37 rfl (lv_at hl 4 rfl) ?_
  refine va_iast hx hb hK hP hD hS 5 4 rfl rfl (show vp_in 1 3 by unfold vp_in; decide) dX1_add_38 (fun H locs hP hD hS => ?_)
  have hP : va_P (dC, dI) vwCl [(h0, .inr (1, [.ref b0, .ref b1, .ref b2, .ref b3, .ref b4, .ref r0, .int 0, w7])), (b0, .inl (kb0, 10, .inl (fun _ => 0))), (b1, .inl (kb1, 10, .inl (fun _ => 0))), (b2, .inl (kb2, 10, .inl (fun _ => 0))), (b3, .inl (kb3, 100, .inl (fun _ => 0))), (b4, .inl (kb4, 3, .inl (upd (upd (fun _ => 0) 0 n1) 1 n2))), (r0, .inr (4, [y0, .ref a1, .ref a2, .int 0])), (a1, .inl (ka1, 4, .inl (fun _ => 0))), (a2, .inl (ka2, 4, .inl (fun _ => 0)))] H := hP
  have hD : va_D A [(h0, .inr (1, [.ref b0, .ref b1, .ref b2, .ref b3, .ref b4, .ref r0, .int 0, w7])), (b0, .inl (kb0, 10, .inl (fun _ => 0))), (b1, .inl (kb1, 10, .inl (fun _ => 0))), (b2, .inl (kb2, 10, .inl (fun _ => 0))), (b3, .inl (kb3, 100, .inl (fun _ => 0))), (b4, .inl (kb4, 3, .inl (upd (upd (fun _ => 0) 0 n1) 1 n2))), (r0, .inr (4, [y0, .ref a1, .ref a2, .int 0])), (a1, .inl (ka1, 4, .inl (fun _ => 0))), (a2, .inl (ka2, 4, .inl (fun _ => 0)))] := hD
  refine lv_aload_n hx hb dX1_add_39 rfl (lv_at hl 1 rfl) ?_
  refine va_get (D := (dC, dI)) (ci := 1) (v := .ref b4) (C := RX1) (T := TX1) (N := 8) hx hb hts inB_1 hown hK hP 0 rfl rfl 4 (by decide) (hts _ mw_1_51) (fun _ h9 => h9) rfl dX1_add_40 ?_
  refine lv_iconst (v := 2) hx hb dX1_add_43 (by decide) ?_
  refine lv_iload hx hb dX1_add_44 (lv_at hl 5 rfl) ?_
  refine va_iast hx hb hK hP hD hS 5 4 rfl rfl (show vp_in 2 3 by unfold vp_in; decide) dX1_add_46 (fun H locs hP hD hS => ?_)
  have hP : va_P (dC, dI) vwCl [(h0, .inr (1, [.ref b0, .ref b1, .ref b2, .ref b3, .ref b4, .ref r0, .int 0, w7])), (b0, .inl (kb0, 10, .inl (fun _ => 0))), (b1, .inl (kb1, 10, .inl (fun _ => 0))), (b2, .inl (kb2, 10, .inl (fun _ => 0))), (b3, .inl (kb3, 100, .inl (fun _ => 0))), (b4, .inl (kb4, 3, .inl (upd (upd (upd (fun _ => 0) 0 n1) 1 n2) 2 n3))), (r0, .inr (4, [y0, .ref a1, .ref a2, .int 0])), (a1, .inl (ka1, 4, .inl (fun _ => 0))), (a2, .inl (ka2, 4, .inl (fun _ => 0)))] H := hP
  have hD : va_D A [(h0, .inr (1, [.ref b0, .ref b1, .ref b2, .ref b3, .ref b4, .ref r0, .int 0, w7])), (b0, .inl (kb0, 10, .inl (fun _ => 0))), (b1, .inl (kb1, 10, .inl (fun _ => 0))), (b2, .inl (kb2, 10, .inl (fun _ => 0))), (b3, .inl (kb3, 100, .inl (fun _ => 0))), (b4, .inl (kb4, 3, .inl (upd (upd (upd (fun _ => 0) 0 n1) 1 n2) 2 n3))), (r0, .inr (4, [y0, .ref a1, .ref a2, .int 0])), (a1, .inl (ka1, 4, .inl (fun _ => 0))), (a2, .inl (ka2, 4, .inl (fun _ => 0)))] := hD
  refine lv_aload_n hx hb dX1_add_47 rfl (lv_at hl 1 rfl) ?_
  refine va_get (D := (dC, dI)) (ci := 1) (v := .ref b0) (C := RX1) (T := TX1) (N := 8) hx hb hts inB_1 hown hK hP 0 rfl rfl 0 (by decide) (hts _ mw_1_47) (fun _ h9 => h9) rfl dX1_add_48 ?_
  refine lv_iload hx hb dX1_add_51 (lv_at hl 0 rfl) ?_
  refine lv_iconst (v := 0) hx hb dX1_add_53 (by decide) ?_
  refine va_iast hx hb hK hP hD hS 1 0 rfl rfl (show vp_in 0 10 by unfold vp_in; decide) dX1_add_54 (fun H locs hP hD hS => ?_)
  rw [show upd (fun _ => 0) (Int32.toNatClampNeg 0) 0 = (fun _ => 0) from upd_const _ _] at hP hD
  have hP : va_P (dC, dI) vwCl [(h0, .inr (1, [.ref b0, .ref b1, .ref b2, .ref b3, .ref b4, .ref r0, .int 0, w7])), (b0, .inl (kb0, 10, .inl (fun _ => 0))), (b1, .inl (kb1, 10, .inl (fun _ => 0))), (b2, .inl (kb2, 10, .inl (fun _ => 0))), (b3, .inl (kb3, 100, .inl (fun _ => 0))), (b4, .inl (kb4, 3, .inl (upd (upd (upd (fun _ => 0) 0 n1) 1 n2) 2 n3))), (r0, .inr (4, [y0, .ref a1, .ref a2, .int 0])), (a1, .inl (ka1, 4, .inl (fun _ => 0))), (a2, .inl (ka2, 4, .inl (fun _ => 0)))] H := hP
  have hD : va_D A [(h0, .inr (1, [.ref b0, .ref b1, .ref b2, .ref b3, .ref b4, .ref r0, .int 0, w7])), (b0, .inl (kb0, 10, .inl (fun _ => 0))), (b1, .inl (kb1, 10, .inl (fun _ => 0))), (b2, .inl (kb2, 10, .inl (fun _ => 0))), (b3, .inl (kb3, 100, .inl (fun _ => 0))), (b4, .inl (kb4, 3, .inl (upd (upd (upd (fun _ => 0) 0 n1) 1 n2) 2 n3))), (r0, .inr (4, [y0, .ref a1, .ref a2, .int 0])), (a1, .inl (ka1, 4, .inl (fun _ => 0))), (a2, .inl (ka2, 4, .inl (fun _ => 0)))] := hD
  refine lv_iconst (v := 1) hx hb dX1_add_55 (by decide) ?_
  refine lv_istore (lv' := [(6, .int 1), (5, .int 0), (0, .ref h0), (1, .int 0), (2, .int n1), (3, .int n2), (4, .int n3)]) hx hb dX1_add_56 hl (by decide) rfl (fun ls hl => ?_)
  refine lv_iconst (v := 0) hx hb dX1_add_58 (by decide) ?_
  refine lv_istore (lv' := [(7, .int 0), (6, .int 1), (5, .int 0), (0, .ref h0), (1, .int 0), (2, .int n1), (3, .int n2), (4, .int n3)]) hx hb dX1_add_59 hl (by decide) rfl (fun ls hl => ?_)
  refine lv_iload hx hb dX1_add_61 (lv_at hl 0 rfl) ?_
  refine lv_iload_n hx hb dX1_add_63 rfl (lv_at hl 4 rfl) ?_
  refine lv_icmp_ge (tgt := 121) hx hb dX1_add_64 (by decide) (fun _ => ?_) (fun h => absurd (by decide) h)
  refine lv_aload_n hx hb dX1_add_121 rfl (lv_at hl 3 rfl) ?_
  refine va_get (D := (dC, dI)) (ci := 1) (v := .ref b1) (C := RX1) (T := TX1) (N := 8) hx hb hts inB_1 hown hK hP 0 rfl rfl 1 (by decide) (hts _ mw_1_48) (fun _ h9 => h9) rfl dX1_add_122 ?_
  refine lv_iload hx hb dX1_add_125 (lv_at hl 2 rfl) ?_
  refine lv_iconst (v := 0) hx hb dX1_add_127 (by decide) ?_
  refine va_iast hx hb hK hP hD hS 2 1 rfl rfl (show vp_in 0 10 by unfold vp_in; decide) dX1_add_128 (fun H locs hP hD hS => ?_)
  rw [show upd (fun _ => 0) (Int32.toNatClampNeg 0) 0 = (fun _ => 0) from upd_const _ _] at hP hD
  have hP : va_P (dC, dI) vwCl [(h0, .inr (1, [.ref b0, .ref b1, .ref b2, .ref b3, .ref b4, .ref r0, .int 0, w7])), (b0, .inl (kb0, 10, .inl (fun _ => 0))), (b1, .inl (kb1, 10, .inl (fun _ => 0))), (b2, .inl (kb2, 10, .inl (fun _ => 0))), (b3, .inl (kb3, 100, .inl (fun _ => 0))), (b4, .inl (kb4, 3, .inl (upd (upd (upd (fun _ => 0) 0 n1) 1 n2) 2 n3))), (r0, .inr (4, [y0, .ref a1, .ref a2, .int 0])), (a1, .inl (ka1, 4, .inl (fun _ => 0))), (a2, .inl (ka2, 4, .inl (fun _ => 0)))] H := hP
  have hD : va_D A [(h0, .inr (1, [.ref b0, .ref b1, .ref b2, .ref b3, .ref b4, .ref r0, .int 0, w7])), (b0, .inl (kb0, 10, .inl (fun _ => 0))), (b1, .inl (kb1, 10, .inl (fun _ => 0))), (b2, .inl (kb2, 10, .inl (fun _ => 0))), (b3, .inl (kb3, 100, .inl (fun _ => 0))), (b4, .inl (kb4, 3, .inl (upd (upd (upd (fun _ => 0) 0 n1) 1 n2) 2 n3))), (r0, .inr (4, [y0, .ref a1, .ref a2, .int 0])), (a1, .inl (ka1, 4, .inl (fun _ => 0))), (a2, .inl (ka2, 4, .inl (fun _ => 0)))] := hD
  refine lv_aload_n hx hb dX1_add_129 rfl (lv_at hl 3 rfl) ?_
  refine va_get (D := (dC, dI)) (ci := 1) (v := .ref b2) (C := RX1) (T := TX1) (N := 8) hx hb hts inB_1 hown hK hP 0 rfl rfl 2 (by decide) (hts _ mw_1_49) (fun _ h9 => h9) rfl dX1_add_130 ?_
  refine lv_iload hx hb dX1_add_133 (lv_at hl 2 rfl) ?_
  refine lv_bipush (v := (-5)) hx hb dX1_add_135 (by decide) ?_
  refine va_iast hx hb hK hP hD hS 3 2 rfl rfl (show vp_in 0 10 by unfold vp_in; decide) dX1_add_137 (fun H locs hP hD hS => ?_)
  rw [show upd (fun _ => 0) (Int32.toNatClampNeg 0) (-5) = (slF (-5) 0 1) from slF_u0 _ _] at hP hD
  have hP : va_P (dC, dI) vwCl [(h0, .inr (1, [.ref b0, .ref b1, .ref b2, .ref b3, .ref b4, .ref r0, .int 0, w7])), (b0, .inl (kb0, 10, .inl (fun _ => 0))), (b1, .inl (kb1, 10, .inl (fun _ => 0))), (b2, .inl (kb2, 10, .inl (slF (-5) 0 1))), (b3, .inl (kb3, 100, .inl (fun _ => 0))), (b4, .inl (kb4, 3, .inl (upd (upd (upd (fun _ => 0) 0 n1) 1 n2) 2 n3))), (r0, .inr (4, [y0, .ref a1, .ref a2, .int 0])), (a1, .inl (ka1, 4, .inl (fun _ => 0))), (a2, .inl (ka2, 4, .inl (fun _ => 0)))] H := hP
  have hD : va_D A [(h0, .inr (1, [.ref b0, .ref b1, .ref b2, .ref b3, .ref b4, .ref r0, .int 0, w7])), (b0, .inl (kb0, 10, .inl (fun _ => 0))), (b1, .inl (kb1, 10, .inl (fun _ => 0))), (b2, .inl (kb2, 10, .inl (slF (-5) 0 1))), (b3, .inl (kb3, 100, .inl (fun _ => 0))), (b4, .inl (kb4, 3, .inl (upd (upd (upd (fun _ => 0) 0 n1) 1 n2) 2 n3))), (r0, .inr (4, [y0, .ref a1, .ref a2, .int 0])), (a1, .inl (ka1, 4, .inl (fun _ => 0))), (a2, .inl (ka2, 4, .inl (fun _ => 0)))] := hD
  refine lv_iload hx hb dX1_add_138 (lv_at hl 1 rfl) ?_
  refine lv_if_eq (tgt := 150) hx hb dX1_add_140 (by decide) (fun h => absurd h (by decide)) (fun _ => ?_)
  refine lv_aload_n hx hb dX1_add_143 rfl (lv_at hl 3 rfl) ?_
  refine lv_iload hx hb dX1_add_144 (lv_at hl 2 rfl) ?_
  refine lv_iload_n hx hb dX1_add_146 rfl (lv_at hl 4 rfl) ?_
  have hPc := hP.sub (ws' := [(h0, .inr (1, [.ref b0, .ref b1, .ref b2, .ref b3, .ref b4, .ref r0, .int 0, w7])), (b1, .inl (kb1, 10, .inl (fun _ => 0))), (b2, .inl (kb2, 10, .inl (slF (-5) 0 1))), (b3, .inl (kb3, 100, .inl (fun _ => 0))), (r0, .inr (4, [y0, .ref a1, .ref a2, .int 0])), (a1, .inl (ka1, 4, .inl (fun _ => 0))), (a2, .inl (ka2, 4, .inl (fun _ => 0)))]) [0, 2, 3, 4, 6, 7, 8] rfl
  have hDc := hD.sub (ws' := [(h0, .inr (1, [.ref b0, .ref b1, .ref b2, .ref b3, .ref b4, .ref r0, .int 0, w7])), (b1, .inl (kb1, 10, .inl (fun _ => 0))), (b2, .inl (kb2, 10, .inl (slF (-5) 0 1))), (b3, .inl (kb3, 100, .inl (fun _ => 0))), (r0, .inr (4, [y0, .ref a1, .ref a2, .int 0])), (a1, .inl (ka1, 4, .inl (fun _ => 0))), (a2, .inl (ka2, 4, .inl (fun _ => 0)))]) [0, 2, 3, 4, 6, 7, 8] (by decide) rfl
  have hKc := hK.sub (tys' := [(kb1, .int), (kb2, .int), (kb3, .int), (ka1, .int), (ka2, .int)]) [1, 2, 3, 5, 6] rfl
  have hFc := va_free (wc := [(h0, .inr (1, [.ref b0, .ref b1, .ref b2, .ref b3, .ref b4, .ref r0, .int 0, w7])), (b1, .inl (kb1, 10, .inl (fun _ => 0))), (b2, .inl (kb2, 10, .inl (slF (-5) 0 1))), (b3, .inl (kb3, 100, .inl (fun _ => 0))), (r0, .inr (4, [y0, .ref a1, .ref a2, .int 0])), (a1, .inl (ka1, 4, .inl (fun _ => 0))), (a2, .inl (ka2, 4, .inl (fun _ => 0)))]) hD hS hA [0, 2, 3, 4, 6, 7, 8] rfl
  refine va_callv (va_runV (As := [.int 0, .int 0]) (rest := []) ⟨hx, hb, hml, hown, hts⟩ (c_layLine l dC dI H.size h0 (.ref b0) b1 b2 b3 (.ref b4) r0 (.int 0) (w7) kb1 kb2 (slF (-5) 0 1) kb3 (y0) a1 a2 ka1 ka2) (cwV 2 hts (gV mw_1_217 mw_1_219 mw_0_0 mw_1_2 mw_1_220) rfl rfl rfl (by decide +kernel) ⟨Nat.le_of_ble_eq_true rfl, Nat.le_of_ble_eq_true rfl⟩) ⟨pcW_blind, va_recv hKc hPc (ci := 1) (q0 := 0) rfl rfl, pcW_at hPc hKc hDc hN⟩ rfl rfl hl.1 rfl (lv_room (Nat.le_of_ble_eq_true rfl)) dX1_add_147 ⟨Nat.le_of_ble_eq_true rfl, Nat.le_of_ble_eq_true rfl⟩) hS (fun q _ h => hFc q h) hFc (fun u t H1 locs ht hvm hw_2 hB hz1 hk1 hS => ?_)
  obtain ⟨hP1, hK1, hD1⟩ := hB
  rw [ht] at hP1
  have hK1 := va_K.moved hvm.symm hK1
  obtain ⟨hP, hD⟩ := va_join (wr := [(b0, .inl (kb0, 10, .inl (fun _ => 0))), (b4, .inl (kb4, 3, .inl (upd (upd (upd (fun _ => 0) 0 n1) 1 n2) 2 n3)))]) (w1 := [(b1, .inl (kb1, 10, .inl (slF 1 0 1))), (b2, .inl (kb2, 10, .inl (upd (slF (-5) 0 1) 0 (-6)))), (b3, .inl (kb3, 100, .inl (fun _ => 0))), (h0, .inr (1, [.ref b0, .ref b1, .ref b2, .ref b3, .ref b4, .ref r0, .int 0, w7])), (r0, .inr (4, [y0, .ref a1, .ref a2, .int 1])), (a1, .inl (ka1, 4, .inl (fun _ => 0))), (a2, .inl (ka2, 4, .inl (fun _ => 0)))]) hP hD [0, 2, 3, 4, 6, 7, 8] [1, 5] rfl rfl (by decide) (by decide) hk1 hFc hP1 hD1
  have hK := (hK.sub (tys' := [(kb0, .int), (kb4, .int)]) [0, 4] rfl).app hK1
  clear hz1 hk1 hPc hDc hKc hFc
  generalize H1 = H at hP hS ⊢
  have hK : va_K (dC, dI) vwCl [(kb0, .int), (kb4, .int), (kb1, .int), (kb2, .int), (kb3, .int), (ka1, .int), (ka2, .int)] s := hK
  have hP : va_P (dC, dI) vwCl [(b0, .inl (kb0, 10, .inl (fun _ => 0))), (b4, .inl (kb4, 3, .inl (upd (upd (upd (fun _ => 0) 0 n1) 1 n2) 2 n3))), (b1, .inl (kb1, 10, .inl (slF 1 0 1))), (b2, .inl (kb2, 10, .inl (upd (slF (-5) 0 1) 0 (-6)))), (b3, .inl (kb3, 100, .inl (fun _ => 0))), (h0, .inr (1, [.ref b0, .ref b1, .ref b2, .ref b3, .ref b4, .ref r0, .int 0, w7])), (r0, .inr (4, [y0, .ref a1, .ref a2, .int 1])), (a1, .inl (ka1, 4, .inl (fun _ => 0))), (a2, .inl (ka2, 4, .inl (fun _ => 0)))] H := hP
  have hD : va_D A [(b0, .inl (kb0, 10, .inl (fun _ => 0))), (b4, .inl (kb4, 3, .inl (upd (upd (upd (fun _ => 0) 0 n1) 1 n2) 2 n3))), (b1, .inl (kb1, 10, .inl (slF 1 0 1))), (b2, .inl (kb2, 10, .inl (upd (slF (-5) 0 1) 0 (-6)))), (b3, .inl (kb3, 100, .inl (fun _ => 0))), (h0, .inr (1, [.ref b0, .ref b1, .ref b2, .ref b3, .ref b4, .ref r0, .int 0, w7])), (r0, .inr (4, [y0, .ref a1, .ref a2, .int 1])), (a1, .inl (ka1, 4, .inl (fun _ => 0))), (a2, .inl (ka2, 4, .inl (fun _ => 0)))] := hD
  refine lv_aload_n hx hb dX1_add_150 rfl (lv_at hl 3 rfl) ?_
  refine lv_dup hx hb dX1_add_151 rfl ?_
  refine va_get (D := (dC, dI)) (ci := 1) (v := .int 0) (C := RX1) (T := TX1) (N := 8) hx hb hts inB_1 hown hK hP 5 rfl rfl 6 (by decide) (hts _ mw_1_53) (fun _ h9 => h9) rfl dX1_add_152 ?_
  refine lv_iconst (v := 1) hx hb dX1_add_155 (by decide) ?_
  refine lv_iadd hx hb dX1_add_156 ?_
  refine hx_top (y := 1) (by decide) ?_
  refine va_put (D := (dC, dI)) (ci := 1) (v := .int 1) (ty := .int) (C := RX1) (T := TX1) (N := 8) hx hb hts inB_1 tyX1 tyX1_ok nmX1 hown hK hP hD hS 5 rfl rfl 6 (by decide) (hts _ mw_1_53) (fun _ h9 => h9) rfl (by decide +kernel) rfl rfl (Nat.le_of_ble_eq_true rfl) dX1_add_157 (fun H locs hP hD hS => ?_)
  have hP : va_P (dC, dI) vwCl [(b0, .inl (kb0, 10, .inl (fun _ => 0))), (b4, .inl (kb4, 3, .inl (upd (upd (upd (fun _ => 0) 0 n1) 1 n2) 2 n3))), (b1, .inl (kb1, 10, .inl (slF 1 0 1))), (b2, .inl (kb2, 10, .inl (upd (slF (-5) 0 1) 0 (-6)))), (b3, .inl (kb3, 100, .inl (fun _ => 0))), (h0, .inr (1, [.ref b0, .ref b1, .ref b2, .ref b3, .ref b4, .ref r0, .int 1, w7])), (r0, .inr (4, [y0, .ref a1, .ref a2, .int 1])), (a1, .inl (ka1, 4, .inl (fun _ => 0))), (a2, .inl (ka2, 4, .inl (fun _ => 0)))] H := hP
  have hD : va_D A [(b0, .inl (kb0, 10, .inl (fun _ => 0))), (b4, .inl (kb4, 3, .inl (upd (upd (upd (fun _ => 0) 0 n1) 1 n2) 2 n3))), (b1, .inl (kb1, 10, .inl (slF 1 0 1))), (b2, .inl (kb2, 10, .inl (upd (slF (-5) 0 1) 0 (-6)))), (b3, .inl (kb3, 100, .inl (fun _ => 0))), (h0, .inr (1, [.ref b0, .ref b1, .ref b2, .ref b3, .ref b4, .ref r0, .int 1, w7])), (r0, .inr (4, [y0, .ref a1, .ref a2, .int 1])), (a1, .inl (ka1, 4, .inl (fun _ => 0))), (a2, .inl (ka2, 4, .inl (fun _ => 0)))] := hD
  refine lv_iload hx hb dX1_add_160 (lv_at hl 2 rfl) ?_
  exact W.iret (v := 0) hx hb hr (fun t ht hW => ⟨⟨0, (), rfl, rfl, trivial⟩, hS.F ht⟩) hS.2.2 dX1_add_162
end
