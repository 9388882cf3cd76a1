section
-- ===== PART A: goes FIRST, ahead of the names: the tables' words, and 'selects' of the private methods out of them =====
/-- a private method of a class that the tables say can be made, by its rows of tables_1 -/
def lw_okq (q : MethodName × Nat) : Prop := (q.1.cls ≠ "java/lang/invoke/MethodHandle" ∧ q.1.cls ≠ "java/lang/invoke/VarHandle") ∧ Cond.instantiable q.1.cls q.2 ∈ tables_1 ∧ Cond.privateMethod q.1 ∈ tables_1 ∧ Cond.instanceMethod q.1 ∈ tables_1
theorem lw_p0 : lw_okq (⟨"TupleMethods$Classes", "layRows", "(II)V"⟩, 10) := ⟨⟨by decide +kernel, by decide +kernel⟩, List.mem_of_getElem? (i := 21) (by decide +kernel), List.mem_of_getElem? (i := 163) (by decide +kernel), List.mem_of_getElem? (i := 164) (by decide +kernel)⟩
theorem lw_p1 : lw_okq (⟨"TupleMethods$Classes", "mergeRows", "(II)Z"⟩, 10) := ⟨⟨by decide +kernel, by decide +kernel⟩, List.mem_of_getElem? (i := 21) (by decide +kernel), List.mem_of_getElem? (i := 170) (by decide +kernel), List.mem_of_getElem? (i := 171) (by decide +kernel)⟩
theorem lw_p2 : lw_okq (⟨"TupleMethods$Classes", "nextOfRows", "(I)I"⟩, 10) := ⟨⟨by decide +kernel, by decide +kernel⟩, List.mem_of_getElem? (i := 21) (by decide +kernel), List.mem_of_getElem? (i := 174) (by decide +kernel), List.mem_of_getElem? (i := 175) (by decide +kernel)⟩
theorem lw_p3 : lw_okq (⟨"TupleMethods$Classes", "standsBehindBegin", "(II)Z"⟩, 10) := ⟨⟨by decide +kernel, by decide +kernel⟩, List.mem_of_getElem? (i := 21) (by decide +kernel), List.mem_of_getElem? (i := 178) (by decide +kernel), List.mem_of_getElem? (i := 179) (by decide +kernel)⟩
theorem lw_p4 : lw_okq (⟨"TupleMethods$Classes", "takeOut", "(II)V"⟩, 10) := ⟨⟨by decide +kernel, by decide +kernel⟩, List.mem_of_getElem? (i := 21) (by decide +kernel), List.mem_of_getElem? (i := 182) (by decide +kernel), List.mem_of_getElem? (i := 183) (by decide +kernel)⟩
theorem lw_p5 : lw_okq (⟨"TupleMethods", "hasCall", "(II)Z"⟩, 12) := ⟨⟨by decide +kernel, by decide +kernel⟩, List.mem_of_getElem? (i := 13) (by decide +kernel), List.mem_of_getElem? (i := 224) (by decide +kernel), List.mem_of_getElem? (i := 225) (by decide +kernel)⟩
theorem lw_p6 : lw_okq (⟨"TupleMethods", "hasFunction", "(I)Z"⟩, 12) := ⟨⟨by decide +kernel, by decide +kernel⟩, List.mem_of_getElem? (i := 13) (by decide +kernel), List.mem_of_getElem? (i := 228) (by decide +kernel), List.mem_of_getElem? (i := 229) (by decide +kernel)⟩
theorem lw_p7 : lw_okq (⟨"TupleMethods$Function", "orderMethods", "()V"⟩, 9) := ⟨⟨by decide +kernel, by decide +kernel⟩, List.mem_of_getElem? (i := 68) (by decide +kernel), List.mem_of_getElem? (i := 245) (by decide +kernel), List.mem_of_getElem? (i := 246) (by decide +kernel)⟩
theorem lw_p8 : lw_okq (⟨"TupleMethods", "hasMethod", "(II)Z"⟩, 12) := ⟨⟨by decide +kernel, by decide +kernel⟩, List.mem_of_getElem? (i := 13) (by decide +kernel), List.mem_of_getElem? (i := 261) (by decide +kernel), List.mem_of_getElem? (i := 262) (by decide +kernel)⟩
theorem lw_p9 : lw_okq (⟨"TupleMethods", "methodsOfAll", "()I"⟩, 12) := ⟨⟨by decide +kernel, by decide +kernel⟩, List.mem_of_getElem? (i := 13) (by decide +kernel), List.mem_of_getElem? (i := 283) (by decide +kernel), List.mem_of_getElem? (i := 284) (by decide +kernel)⟩
theorem lw_p10 : lw_okq (⟨"TupleMethods", "keptOfAll", "()I"⟩, 12) := ⟨⟨by decide +kernel, by decide +kernel⟩, List.mem_of_getElem? (i := 13) (by decide +kernel), List.mem_of_getElem? (i := 287) (by decide +kernel), List.mem_of_getElem? (i := 288) (by decide +kernel)⟩
theorem lw_p11 : lw_okq (⟨"TupleMethods", "callCount", "(LTupleMethods$Function;)I"⟩, 12) := ⟨⟨by decide +kernel, by decide +kernel⟩, List.mem_of_getElem? (i := 13) (by decide +kernel), List.mem_of_getElem? (i := 295) (by decide +kernel), List.mem_of_getElem? (i := 296) (by decide +kernel)⟩
theorem lw_p12 : lw_okq (⟨"TupleMethods", "callsAnswered", "(II)I"⟩, 12) := ⟨⟨by decide +kernel, by decide +kernel⟩, List.mem_of_getElem? (i := 13) (by decide +kernel), List.mem_of_getElem? (i := 299) (by decide +kernel), List.mem_of_getElem? (i := 300) (by decide +kernel)⟩
theorem lw_p13 : lw_okq (⟨"TupleMethods", "fillAnswers", "(I)V"⟩, 12) := ⟨⟨by decide +kernel, by decide +kernel⟩, List.mem_of_getElem? (i := 13) (by decide +kernel), List.mem_of_getElem? (i := 303) (by decide +kernel), List.mem_of_getElem? (i := 304) (by decide +kernel)⟩
theorem lw_p14 : lw_okq (⟨"TupleMethods", "firstOf", "(LTupleMethods$Function;II)I"⟩, 12) := ⟨⟨by decide +kernel, by decide +kernel⟩, List.mem_of_getElem? (i := 13) (by decide +kernel), List.mem_of_getElem? (i := 308) (by decide +kernel), List.mem_of_getElem? (i := 309) (by decide +kernel)⟩
theorem lw_p15 : lw_okq (⟨"TupleMethods", "foremostOf", "(LTupleMethods$Function;II)I"⟩, 12) := ⟨⟨by decide +kernel, by decide +kernel⟩, List.mem_of_getElem? (i := 13) (by decide +kernel), List.mem_of_getElem? (i := 316) (by decide +kernel), List.mem_of_getElem? (i := 317) (by decide +kernel)⟩
def lw_privs_1 : List (MethodName × Nat) := [(⟨"TupleMethods$Classes", "layRows", "(II)V"⟩, 10), (⟨"TupleMethods$Classes", "mergeRows", "(II)Z"⟩, 10), (⟨"TupleMethods$Classes", "nextOfRows", "(I)I"⟩, 10), (⟨"TupleMethods$Classes", "standsBehindBegin", "(II)Z"⟩, 10), (⟨"TupleMethods$Classes", "takeOut", "(II)V"⟩, 10), (⟨"TupleMethods", "hasCall", "(II)Z"⟩, 12), (⟨"TupleMethods", "hasFunction", "(I)Z"⟩, 12), (⟨"TupleMethods$Function", "orderMethods", "()V"⟩, 9), (⟨"TupleMethods", "hasMethod", "(II)Z"⟩, 12), (⟨"TupleMethods", "methodsOfAll", "()I"⟩, 12), (⟨"TupleMethods", "keptOfAll", "()I"⟩, 12), (⟨"TupleMethods", "callCount", "(LTupleMethods$Function;)I"⟩, 12), (⟨"TupleMethods", "callsAnswered", "(II)I"⟩, 12), (⟨"TupleMethods", "fillAnswers", "(I)V"⟩, 12), (⟨"TupleMethods", "firstOf", "(LTupleMethods$Function;II)I"⟩, 12), (⟨"TupleMethods", "foremostOf", "(LTupleMethods$Function;II)I"⟩, 12)]
theorem lw_r1 : ∀ q ∈ lw_privs_1, lw_okq q := List.forall_mem_cons.mpr ⟨lw_p0, List.forall_mem_cons.mpr ⟨lw_p1, List.forall_mem_cons.mpr ⟨lw_p2, List.forall_mem_cons.mpr ⟨lw_p3, List.forall_mem_cons.mpr ⟨lw_p4, List.forall_mem_cons.mpr ⟨lw_p5, List.forall_mem_cons.mpr ⟨lw_p6, List.forall_mem_cons.mpr ⟨lw_p7, List.forall_mem_cons.mpr ⟨lw_p8, List.forall_mem_cons.mpr ⟨lw_p9, List.forall_mem_cons.mpr ⟨lw_p10, List.forall_mem_cons.mpr ⟨lw_p11, List.forall_mem_cons.mpr ⟨lw_p12, List.forall_mem_cons.mpr ⟨lw_p13, List.forall_mem_cons.mpr ⟨lw_p14, List.forall_mem_cons.mpr ⟨lw_p15, fun _ h => absurd h List.not_mem_nil⟩⟩⟩⟩⟩⟩⟩⟩⟩⟩⟩⟩⟩⟩⟩⟩
theorem lw_p16 : lw_okq (⟨"TupleMethods", "comesAhead", "(III)Z"⟩, 12) := ⟨⟨by decide +kernel, by decide +kernel⟩, List.mem_of_getElem? (i := 13) (by decide +kernel), List.mem_of_getElem? (i := 320) (by decide +kernel), List.mem_of_getElem? (i := 321) (by decide +kernel)⟩
theorem lw_p17 : lw_okq (⟨"TupleMethods", "ambiguousCalls", "(LTupleMethods$Function;)I"⟩, 12) := ⟨⟨by decide +kernel, by decide +kernel⟩, List.mem_of_getElem? (i := 13) (by decide +kernel), List.mem_of_getElem? (i := 329) (by decide +kernel), List.mem_of_getElem? (i := 330) (by decide +kernel)⟩
theorem lw_p18 : lw_okq (⟨"TupleMethods", "greatestMarked", "(LTupleMethods$Function;ZI)I"⟩, 12) := ⟨⟨by decide +kernel, by decide +kernel⟩, List.mem_of_getElem? (i := 13) (by decide +kernel), List.mem_of_getElem? (i := 333) (by decide +kernel), List.mem_of_getElem? (i := 334) (by decide +kernel)⟩
theorem lw_p19 : lw_okq (⟨"TupleMethods", "isBelowCovered", "(I)Z"⟩, 12) := ⟨⟨by decide +kernel, by decide +kernel⟩, List.mem_of_getElem? (i := 13) (by decide +kernel), List.mem_of_getElem? (i := 337) (by decide +kernel), List.mem_of_getElem? (i := 338) (by decide +kernel)⟩
theorem lw_p20 : lw_okq (⟨"TupleMethods", "tableSize", "(I)I"⟩, 12) := ⟨⟨by decide +kernel, by decide +kernel⟩, List.mem_of_getElem? (i := 13) (by decide +kernel), List.mem_of_getElem? (i := 341) (by decide +kernel), List.mem_of_getElem? (i := 342) (by decide +kernel)⟩
theorem lw_p21 : lw_okq (⟨"TupleMethods", "leastAlike", "(LTupleMethods$Function;II)I"⟩, 12) := ⟨⟨by decide +kernel, by decide +kernel⟩, List.mem_of_getElem? (i := 13) (by decide +kernel), List.mem_of_getElem? (i := 345) (by decide +kernel), List.mem_of_getElem? (i := 346) (by decide +kernel)⟩
theorem lw_p22 : lw_okq (⟨"TupleMethods", "areAlike", "(LTupleMethods$Function;III)Z"⟩, 12) := ⟨⟨by decide +kernel, by decide +kernel⟩, List.mem_of_getElem? (i := 13) (by decide +kernel), List.mem_of_getElem? (i := 349) (by decide +kernel), List.mem_of_getElem? (i := 350) (by decide +kernel)⟩
theorem lw_p23 : lw_okq (⟨"TupleMethods", "idleMethods", "(I)I"⟩, 12) := ⟨⟨by decide +kernel, by decide +kernel⟩, List.mem_of_getElem? (i := 13) (by decide +kernel), List.mem_of_getElem? (i := 353) (by decide +kernel), List.mem_of_getElem? (i := 354) (by decide +kernel)⟩
theorem lw_p24 : lw_okq (⟨"TupleMethods$Function", "removeKept", "(I)V"⟩, 9) := ⟨⟨by decide +kernel, by decide +kernel⟩, List.mem_of_getElem? (i := 68) (by decide +kernel), List.mem_of_getElem? (i := 365) (by decide +kernel), List.mem_of_getElem? (i := 366) (by decide +kernel)⟩
theorem lw_p25 : lw_okq (⟨"TupleMethods$Function", "addKept", "(I)V"⟩, 9) := ⟨⟨by decide +kernel, by decide +kernel⟩, List.mem_of_getElem? (i := 68) (by decide +kernel), List.mem_of_getElem? (i := 369) (by decide +kernel), List.mem_of_getElem? (i := 370) (by decide +kernel)⟩
theorem lw_p26 : lw_okq (⟨"TupleMethods", "layChain", "(LTupleMethods$Function;I)I"⟩, 12) := ⟨⟨by decide +kernel, by decide +kernel⟩, List.mem_of_getElem? (i := 13) (by decide +kernel), List.mem_of_getElem? (i := 385) (by decide +kernel), List.mem_of_getElem? (i := 386) (by decide +kernel)⟩
theorem lw_p27 : lw_okq (⟨"java/lang/Throwable", "fillInStackTrace", "(I)Ljava/lang/Throwable;"⟩, 6) := ⟨⟨by decide +kernel, by decide +kernel⟩, List.mem_of_getElem? (i := 474) (by decide +kernel), List.mem_of_getElem? (i := 472) (by decide +kernel), List.mem_of_getElem? (i := 473) (by decide +kernel)⟩
theorem lw_p28 : lw_okq (⟨"TupleMethods", "callsTaken", "(LTupleMethods$Function;I)I"⟩, 12) := ⟨⟨by decide +kernel, by decide +kernel⟩, List.mem_of_getElem? (i := 13) (by decide +kernel), List.mem_of_getElem? (i := 504) (by decide +kernel), List.mem_of_getElem? (i := 505) (by decide +kernel)⟩
theorem lw_p29 : lw_okq (⟨"TupleMethodsModel", "isClass", "(I)Z"⟩, 26) := ⟨⟨by decide +kernel, by decide +kernel⟩, List.mem_of_getElem? (i := 525) (by decide +kernel), List.mem_of_getElem? (i := 618) (by decide +kernel), List.mem_of_getElem? (i := 619) (by decide +kernel)⟩
theorem lw_p30 : lw_okq (⟨"TupleMethodsModel", "laysRow", "(II)V"⟩, 26) := ⟨⟨by decide +kernel, by decide +kernel⟩, List.mem_of_getElem? (i := 525) (by decide +kernel), List.mem_of_getElem? (i := 625) (by decide +kernel), List.mem_of_getElem? (i := 626) (by decide +kernel)⟩
theorem lw_p31 : lw_okq (⟨"TupleMethodsModel", "merges", "(I)Z"⟩, 26) := ⟨⟨by decide +kernel, by decide +kernel⟩, List.mem_of_getElem? (i := 525) (by decide +kernel), List.mem_of_getElem? (i := 629) (by decide +kernel), List.mem_of_getElem? (i := 630) (by decide +kernel)⟩
def lw_privs_2 : List (MethodName × Nat) := [(⟨"TupleMethods", "comesAhead", "(III)Z"⟩, 12), (⟨"TupleMethods", "ambiguousCalls", "(LTupleMethods$Function;)I"⟩, 12), (⟨"TupleMethods", "greatestMarked", "(LTupleMethods$Function;ZI)I"⟩, 12), (⟨"TupleMethods", "isBelowCovered", "(I)Z"⟩, 12), (⟨"TupleMethods", "tableSize", "(I)I"⟩, 12), (⟨"TupleMethods", "leastAlike", "(LTupleMethods$Function;II)I"⟩, 12), (⟨"TupleMethods", "areAlike", "(LTupleMethods$Function;III)Z"⟩, 12), (⟨"TupleMethods", "idleMethods", "(I)I"⟩, 12), (⟨"TupleMethods$Function", "removeKept", "(I)V"⟩, 9), (⟨"TupleMethods$Function", "addKept", "(I)V"⟩, 9), (⟨"TupleMethods", "layChain", "(LTupleMethods$Function;I)I"⟩, 12), (⟨"java/lang/Throwable", "fillInStackTrace", "(I)Ljava/lang/Throwable;"⟩, 6), (⟨"TupleMethods", "callsTaken", "(LTupleMethods$Function;I)I"⟩, 12), (⟨"TupleMethodsModel", "isClass", "(I)Z"⟩, 26), (⟨"TupleMethodsModel", "laysRow", "(II)V"⟩, 26), (⟨"TupleMethodsModel", "merges", "(I)Z"⟩, 26)]
theorem lw_r2 : ∀ q ∈ lw_privs_2, lw_okq q := List.forall_mem_cons.mpr ⟨lw_p16, List.forall_mem_cons.mpr ⟨lw_p17, List.forall_mem_cons.mpr ⟨lw_p18, List.forall_mem_cons.mpr ⟨lw_p19, List.forall_mem_cons.mpr ⟨lw_p20, List.forall_mem_cons.mpr ⟨lw_p21, List.forall_mem_cons.mpr ⟨lw_p22, List.forall_mem_cons.mpr ⟨lw_p23, List.forall_mem_cons.mpr ⟨lw_p24, List.forall_mem_cons.mpr ⟨lw_p25, List.forall_mem_cons.mpr ⟨lw_p26, List.forall_mem_cons.mpr ⟨lw_p27, List.forall_mem_cons.mpr ⟨lw_p28, List.forall_mem_cons.mpr ⟨lw_p29, List.forall_mem_cons.mpr ⟨lw_p30, List.forall_mem_cons.mpr ⟨lw_p31, fun _ h => absurd h List.not_mem_nil⟩⟩⟩⟩⟩⟩⟩⟩⟩⟩⟩⟩⟩⟩⟩⟩
theorem lw_p32 : lw_okq (⟨"TupleMethodsModel", "isLeft", "()Z"⟩, 26) := ⟨⟨by decide +kernel, by decide +kernel⟩, List.mem_of_getElem? (i := 525) (by decide +kernel), List.mem_of_getElem? (i := 633) (by decide +kernel), List.mem_of_getElem? (i := 634) (by decide +kernel)⟩
theorem lw_p33 : lw_okq (⟨"TupleMethodsModel", "comesNext", "()I"⟩, 26) := ⟨⟨by decide +kernel, by decide +kernel⟩, List.mem_of_getElem? (i := 525) (by decide +kernel), List.mem_of_getElem? (i := 637) (by decide +kernel), List.mem_of_getElem? (i := 638) (by decide +kernel)⟩
theorem lw_p34 : lw_okq (⟨"TupleMethodsModel", "standsBehind", "(I)Z"⟩, 26) := ⟨⟨by decide +kernel, by decide +kernel⟩, List.mem_of_getElem? (i := 525) (by decide +kernel), List.mem_of_getElem? (i := 641) (by decide +kernel), List.mem_of_getElem? (i := 642) (by decide +kernel)⟩
theorem lw_p35 : lw_okq (⟨"TupleMethodsModel", "isMeet", "(III)Z"⟩, 26) := ⟨⟨by decide +kernel, by decide +kernel⟩, List.mem_of_getElem? (i := 525) (by decide +kernel), List.mem_of_getElem? (i := 660) (by decide +kernel), List.mem_of_getElem? (i := 661) (by decide +kernel)⟩
theorem lw_p36 : lw_okq (⟨"TupleMethodsModel", "isCall", "(II)Z"⟩, 26) := ⟨⟨by decide +kernel, by decide +kernel⟩, List.mem_of_getElem? (i := 525) (by decide +kernel), List.mem_of_getElem? (i := 672) (by decide +kernel), List.mem_of_getElem? (i := 673) (by decide +kernel)⟩
theorem lw_p37 : lw_okq (⟨"TupleMethodsModel", "isFunction", "(I)Z"⟩, 26) := ⟨⟨by decide +kernel, by decide +kernel⟩, List.mem_of_getElem? (i := 525) (by decide +kernel), List.mem_of_getElem? (i := 676) (by decide +kernel), List.mem_of_getElem? (i := 677) (by decide +kernel)⟩
theorem lw_p38 : lw_okq (⟨"TupleMethodsModel", "methodFor", "(II)I"⟩, 26) := ⟨⟨by decide +kernel, by decide +kernel⟩, List.mem_of_getElem? (i := 525) (by decide +kernel), List.mem_of_getElem? (i := 683) (by decide +kernel), List.mem_of_getElem? (i := 684) (by decide +kernel)⟩
theorem lw_p39 : lw_okq (⟨"TupleMethodsModel", "drops", "(II)V"⟩, 26) := ⟨⟨by decide +kernel, by decide +kernel⟩, List.mem_of_getElem? (i := 525) (by decide +kernel), List.mem_of_getElem? (i := 687) (by decide +kernel), List.mem_of_getElem? (i := 688) (by decide +kernel)⟩
theorem lw_p40 : lw_okq (⟨"TupleMethodsModel", "areOf", "(III)Z"⟩, 26) := ⟨⟨by decide +kernel, by decide +kernel⟩, List.mem_of_getElem? (i := 525) (by decide +kernel), List.mem_of_getElem? (i := 691) (by decide +kernel), List.mem_of_getElem? (i := 692) (by decide +kernel)⟩
theorem lw_p41 : lw_okq (⟨"TupleMethodsModel", "isMethod", "(II)Z"⟩, 26) := ⟨⟨by decide +kernel, by decide +kernel⟩, List.mem_of_getElem? (i := 525) (by decide +kernel), List.mem_of_getElem? (i := 699) (by decide +kernel), List.mem_of_getElem? (i := 700) (by decide +kernel)⟩
theorem lw_p42 : lw_okq (⟨"TupleMethodsModel", "methodsOf", "(I)I"⟩, 26) := ⟨⟨by decide +kernel, by decide +kernel⟩, List.mem_of_getElem? (i := 525) (by decide +kernel), List.mem_of_getElem? (i := 703) (by decide +kernel), List.mem_of_getElem? (i := 704) (by decide +kernel)⟩
theorem lw_p43 : lw_okq (⟨"TupleMethodsModel", "answerOf", "(III)I"⟩, 26) := ⟨⟨by decide +kernel, by decide +kernel⟩, List.mem_of_getElem? (i := 525) (by decide +kernel), List.mem_of_getElem? (i := 722) (by decide +kernel), List.mem_of_getElem? (i := 723) (by decide +kernel)⟩
theorem lw_p44 : lw_okq (⟨"TupleMethodsModel", "applicableTo", "(II)I"⟩, 26) := ⟨⟨by decide +kernel, by decide +kernel⟩, List.mem_of_getElem? (i := 525) (by decide +kernel), List.mem_of_getElem? (i := 726) (by decide +kernel), List.mem_of_getElem? (i := 727) (by decide +kernel)⟩
theorem lw_p45 : lw_okq (⟨"TupleMethodsModel", "firstOf", "(IIII)I"⟩, 26) := ⟨⟨by decide +kernel, by decide +kernel⟩, List.mem_of_getElem? (i := 525) (by decide +kernel), List.mem_of_getElem? (i := 730) (by decide +kernel), List.mem_of_getElem? (i := 731) (by decide +kernel)⟩
theorem lw_p46 : lw_okq (⟨"TupleMethodsModel", "whatOf", "(II)I"⟩, 26) := ⟨⟨by decide +kernel, by decide +kernel⟩, List.mem_of_getElem? (i := 525) (by decide +kernel), List.mem_of_getElem? (i := 734) (by decide +kernel), List.mem_of_getElem? (i := 735) (by decide +kernel)⟩
theorem lw_p47 : lw_okq (⟨"TupleMethodsModel", "isAhead", "(IIII)Z"⟩, 26) := ⟨⟨by decide +kernel, by decide +kernel⟩, List.mem_of_getElem? (i := 525) (by decide +kernel), List.mem_of_getElem? (i := 738) (by decide +kernel), List.mem_of_getElem? (i := 739) (by decide +kernel)⟩
def lw_privs_3 : List (MethodName × Nat) := [(⟨"TupleMethodsModel", "isLeft", "()Z"⟩, 26), (⟨"TupleMethodsModel", "comesNext", "()I"⟩, 26), (⟨"TupleMethodsModel", "standsBehind", "(I)Z"⟩, 26), (⟨"TupleMethodsModel", "isMeet", "(III)Z"⟩, 26), (⟨"TupleMethodsModel", "isCall", "(II)Z"⟩, 26), (⟨"TupleMethodsModel", "isFunction", "(I)Z"⟩, 26), (⟨"TupleMethodsModel", "methodFor", "(II)I"⟩, 26), (⟨"TupleMethodsModel", "drops", "(II)V"⟩, 26), (⟨"TupleMethodsModel", "areOf", "(III)Z"⟩, 26), (⟨"TupleMethodsModel", "isMethod", "(II)Z"⟩, 26), (⟨"TupleMethodsModel", "methodsOf", "(I)I"⟩, 26), (⟨"TupleMethodsModel", "answerOf", "(III)I"⟩, 26), (⟨"TupleMethodsModel", "applicableTo", "(II)I"⟩, 26), (⟨"TupleMethodsModel", "firstOf", "(IIII)I"⟩, 26), (⟨"TupleMethodsModel", "whatOf", "(II)I"⟩, 26), (⟨"TupleMethodsModel", "isAhead", "(IIII)Z"⟩, 26)]
theorem lw_r3 : ∀ q ∈ lw_privs_3, lw_okq q := List.forall_mem_cons.mpr ⟨lw_p32, List.forall_mem_cons.mpr ⟨lw_p33, List.forall_mem_cons.mpr ⟨lw_p34, List.forall_mem_cons.mpr ⟨lw_p35, List.forall_mem_cons.mpr ⟨lw_p36, List.forall_mem_cons.mpr ⟨lw_p37, List.forall_mem_cons.mpr ⟨lw_p38, List.forall_mem_cons.mpr ⟨lw_p39, List.forall_mem_cons.mpr ⟨lw_p40, List.forall_mem_cons.mpr ⟨lw_p41, List.forall_mem_cons.mpr ⟨lw_p42, List.forall_mem_cons.mpr ⟨lw_p43, List.forall_mem_cons.mpr ⟨lw_p44, List.forall_mem_cons.mpr ⟨lw_p45, List.forall_mem_cons.mpr ⟨lw_p46, List.forall_mem_cons.mpr ⟨lw_p47, fun _ h => absurd h List.not_mem_nil⟩⟩⟩⟩⟩⟩⟩⟩⟩⟩⟩⟩⟩⟩⟩⟩
theorem lw_p48 : lw_okq (⟨"TupleMethodsModel", "laysChain", "(II)V"⟩, 26) := ⟨⟨by decide +kernel, by decide +kernel⟩, List.mem_of_getElem? (i := 525) (by decide +kernel), List.mem_of_getElem? (i := 754) (by decide +kernel), List.mem_of_getElem? (i := 755) (by decide +kernel)⟩
theorem lw_p49 : lw_okq (⟨"TupleMethodsModel", "laysAnswers", "(II)V"⟩, 26) := ⟨⟨by decide +kernel, by decide +kernel⟩, List.mem_of_getElem? (i := 525) (by decide +kernel), List.mem_of_getElem? (i := 774) (by decide +kernel), List.mem_of_getElem? (i := 775) (by decide +kernel)⟩
theorem lw_p50 : lw_okq (⟨"TupleMethodsModel", "callsOf", "(I)I"⟩, 26) := ⟨⟨by decide +kernel, by decide +kernel⟩, List.mem_of_getElem? (i := 525) (by decide +kernel), List.mem_of_getElem? (i := 778) (by decide +kernel), List.mem_of_getElem? (i := 779) (by decide +kernel)⟩
theorem lw_p51 : lw_okq (⟨"TupleMethodsModel", "allCalls", "(I)I"⟩, 26) := ⟨⟨by decide +kernel, by decide +kernel⟩, List.mem_of_getElem? (i := 525) (by decide +kernel), List.mem_of_getElem? (i := 782) (by decide +kernel), List.mem_of_getElem? (i := 783) (by decide +kernel)⟩
theorem lw_p52 : lw_okq (⟨"TupleMethodsModel", "howMany", "(II)I"⟩, 26) := ⟨⟨by decide +kernel, by decide +kernel⟩, List.mem_of_getElem? (i := 525) (by decide +kernel), List.mem_of_getElem? (i := 786) (by decide +kernel), List.mem_of_getElem? (i := 787) (by decide +kernel)⟩
theorem lw_p53 : lw_okq (⟨"TupleMethodsModel", "topOf", "(III)I"⟩, 26) := ⟨⟨by decide +kernel, by decide +kernel⟩, List.mem_of_getElem? (i := 525) (by decide +kernel), List.mem_of_getElem? (i := 790) (by decide +kernel), List.mem_of_getElem? (i := 791) (by decide +kernel)⟩
theorem lw_p54 : lw_okq (⟨"TupleMethodsModel", "isTop", "(II)Z"⟩, 26) := ⟨⟨by decide +kernel, by decide +kernel⟩, List.mem_of_getElem? (i := 525) (by decide +kernel), List.mem_of_getElem? (i := 794) (by decide +kernel), List.mem_of_getElem? (i := 795) (by decide +kernel)⟩
theorem lw_p55 : lw_okq (⟨"TupleMethodsModel", "sizeOf", "(I)I"⟩, 26) := ⟨⟨by decide +kernel, by decide +kernel⟩, List.mem_of_getElem? (i := 525) (by decide +kernel), List.mem_of_getElem? (i := 798) (by decide +kernel), List.mem_of_getElem? (i := 799) (by decide +kernel)⟩
theorem lw_p56 : lw_okq (⟨"TupleMethodsModel", "poleOf", "(III)I"⟩, 26) := ⟨⟨by decide +kernel, by decide +kernel⟩, List.mem_of_getElem? (i := 525) (by decide +kernel), List.mem_of_getElem? (i := 802) (by decide +kernel), List.mem_of_getElem? (i := 803) (by decide +kernel)⟩
theorem lw_p57 : lw_okq (⟨"TupleMethodsModel", "areAlike", "(IIII)Z"⟩, 26) := ⟨⟨by decide +kernel, by decide +kernel⟩, List.mem_of_getElem? (i := 525) (by decide +kernel), List.mem_of_getElem? (i := 806) (by decide +kernel), List.mem_of_getElem? (i := 807) (by decide +kernel)⟩
theorem lw_p58 : lw_okq (⟨"TupleMethodsModel", "idleOf", "(I)I"⟩, 26) := ⟨⟨by decide +kernel, by decide +kernel⟩, List.mem_of_getElem? (i := 525) (by decide +kernel), List.mem_of_getElem? (i := 810) (by decide +kernel), List.mem_of_getElem? (i := 811) (by decide +kernel)⟩
theorem lw_p59 : lw_okq (⟨"TupleMethodsModel", "applicableMany", "(II)I"⟩, 26) := ⟨⟨by decide +kernel, by decide +kernel⟩, List.mem_of_getElem? (i := 525) (by decide +kernel), List.mem_of_getElem? (i := 818) (by decide +kernel), List.mem_of_getElem? (i := 819) (by decide +kernel)⟩
theorem lw_p60 : lw_okq (⟨"TupleMethodsModel", "fightIn", "(IIII)Z"⟩, 26) := ⟨⟨by decide +kernel, by decide +kernel⟩, List.mem_of_getElem? (i := 525) (by decide +kernel), List.mem_of_getElem? (i := 834) (by decide +kernel), List.mem_of_getElem? (i := 835) (by decide +kernel)⟩
def lw_privs_4 : List (MethodName × Nat) := [(⟨"TupleMethodsModel", "laysChain", "(II)V"⟩, 26), (⟨"TupleMethodsModel", "laysAnswers", "(II)V"⟩, 26), (⟨"TupleMethodsModel", "callsOf", "(I)I"⟩, 26), (⟨"TupleMethodsModel", "allCalls", "(I)I"⟩, 26), (⟨"TupleMethodsModel", "howMany", "(II)I"⟩, 26), (⟨"TupleMethodsModel", "topOf", "(III)I"⟩, 26), (⟨"TupleMethodsModel", "isTop", "(II)Z"⟩, 26), (⟨"TupleMethodsModel", "sizeOf", "(I)I"⟩, 26), (⟨"TupleMethodsModel", "poleOf", "(III)I"⟩, 26), (⟨"TupleMethodsModel", "areAlike", "(IIII)Z"⟩, 26), (⟨"TupleMethodsModel", "idleOf", "(I)I"⟩, 26), (⟨"TupleMethodsModel", "applicableMany", "(II)I"⟩, 26), (⟨"TupleMethodsModel", "fightIn", "(IIII)Z"⟩, 26)]
theorem lw_r4 : ∀ q ∈ lw_privs_4, lw_okq q := List.forall_mem_cons.mpr ⟨lw_p48, List.forall_mem_cons.mpr ⟨lw_p49, List.forall_mem_cons.mpr ⟨lw_p50, List.forall_mem_cons.mpr ⟨lw_p51, List.forall_mem_cons.mpr ⟨lw_p52, List.forall_mem_cons.mpr ⟨lw_p53, List.forall_mem_cons.mpr ⟨lw_p54, List.forall_mem_cons.mpr ⟨lw_p55, List.forall_mem_cons.mpr ⟨lw_p56, List.forall_mem_cons.mpr ⟨lw_p57, List.forall_mem_cons.mpr ⟨lw_p58, List.forall_mem_cons.mpr ⟨lw_p59, List.forall_mem_cons.mpr ⟨lw_p60, fun _ h => absurd h List.not_mem_nil⟩⟩⟩⟩⟩⟩⟩⟩⟩⟩⟩⟩⟩
def lw_privs : List (MethodName × Nat) := lw_privs_1 ++ (lw_privs_2 ++ (lw_privs_3 ++ (lw_privs_4)))
def lw_tbl : List Cond := k2_sels lw_privs ++ tables_1
theorem lw_privs_ok : ∀ q ∈ lw_privs, lw_okq q := by
  show ∀ q ∈ lw_privs_1 ++ (lw_privs_2 ++ (lw_privs_3 ++ (lw_privs_4))), lw_okq q
  exact List.forall_mem_append.mpr ⟨lw_r1, List.forall_mem_append.mpr ⟨lw_r2, List.forall_mem_append.mpr ⟨lw_r3, lw_r4⟩⟩⟩
end
section
/-! ===== BEGIN words of one list among another's, by their places ===== -/
theorem goodIn_r {big : List Cond} (ws : List Cond) (ps : List Nat) (hp : ws = ps.filterMap (fun i => big[i]?)) (h : ws.all goodWord = true) : GoodIn big ws := by
  intro w hw
  have h1 := List.all_eq_true.mp h w hw
  rw [hp] at hw
  obtain ⟨i, -, hi⟩ := List.mem_filterMap.mp hw
  have hm : w ∈ big := by first | exact List.mem_of_getElem? hi | exact List.getElem?_mem hi
  exact ⟨hm, good_of_word h1⟩
theorem goodIn_app {big a b : List Cond} (ha : GoodIn big a) (hb : GoodIn big b) : GoodIn big (a ++ b) := fun w h => (List.mem_append.mp h).elim (ha w) (hb w)
theorem goodIn_ca {big a b : List Cond} {c : Cond} (ha : GoodIn big (c :: a)) (hb : GoodIn big b) : GoodIn big (c :: (a ++ b)) := fun w h => (List.mem_cons.mp h).elim (fun e => ha w (List.mem_cons.mpr (Or.inl e))) (fun h => (List.mem_append.mp h).elim (fun h => ha w (List.mem_cons.mpr (Or.inr h))) (hb w))
theorem goodIn_sub {big ws : List Cond} (hm : ∀ w ∈ ws, w ∈ big) (h : ws.all goodWord = true) : GoodIn big ws := fun w hw => ⟨hm w hw, good_of_word (List.all_eq_true.mp h w hw)⟩
/-! ===== END ===== -/

/-! ===== BEGIN exceptions that leave a method, and their catching by the caller (launches without stack traces) ===== -/
section VXA
/-! The laws vx_back, vx_callV, vx_callS, vx_callSW, vx_throw0, vx_throwS follow proofs of the library, with one case more: JvmDerived/Free/Laws.lean (Back.of_free), Shelf42/LK1.lean (callV, callS), Shelf/KitTraced.lean (throwNew0V, throwNewS). -/
/-- where a method has thrown q: the class by its name, the cell, what was written, the world -/
def vx_T (XC : String → State → State → Prop) (st : State) (q : Addr) (t : State) (mc ms : Nat) (free : Addr → Prop) : Prop :=
  ∃ (E : String) (ce : Cell) (L : List Loc), XC E st t ∧ t.heap[q]? = some ce ∧ ce.vm = .none ∧ st.vm.findClass E = some ce.cls ∧ st.WarmedH t.vm ∧ st.sameButNew ({ t with vm := st.vm } : State) L mc ms ∧ ∀ z ∈ L, free z.base
def vx_Q (Qc : Array Value → State → Outcome → State → Prop) (XC : String → State → State → Prop) (mc ms : Nat) (free : Addr → Prop) : Array Value → State → Outcome → State → Prop := fun a st o t =>
  (Qc a st o t ∧ ∃ L, FrameEnd st o t L mc ms ∧ ∀ q ∈ L, free q.base) ∨ ∃ q, o = .threw q ∧ vx_T XC st q t mc ms free
/-- a callee that returns or throws -/
def vx_Met (l : Launch) (y : MethodName) (ws : List Cond) (rm : Room) (Pc : Array Value → State → Prop) (Qc : Array Value → State → Outcome → State → Prop) (XC : String → State → State → Prop) (mc ms : Nat) (free : Addr → Prop) : Prop :=
  MetFree l y (headSpec ws rm) Pc (fun _ _ _ _ _ => True) (vx_Q Qc XC mc ms free)
def vx_Post (XC : String → State → State → Prop) (mc ms : Nat) (free : Addr → Prop) : Pt → Array Value → Addr → Pt → Prop := fun A a q B =>
  ∃ (g : JFrame) (mk : MethodId) (t : State) (L : List Loc) (E : String) (ce : Cell), B.U.heap = t.heap ∧ B.U.vm = t.vm ∧ XC E (A.U.calling g mk a) t ∧ t.heap[q]? = some ce ∧ ce.vm = .none ∧ A.U.vm.findClass E = some ce.cls ∧ B.locs = A.locs ++ L ∧ (∀ z ∈ L, free z.base) ∧ B.cells = A.cells + mc ∧ B.slots = A.slots + ms
def vx_Back (l : Launch) (R : Room) (p : Program) (e : Env) (below : List Frame) (s : State) (sargs : Array Value) (y : MethodName) (len W9 : Nat)
    (Pre : Pt → Array Value → Prop) (Post : Pt → Array Value → Option Value → Pt → Prop) (PostX : Pt → Array Value → Addr → Pt → Prop) : Prop :=
  ∀ (m : MethodId) (meth : Method) (c : Code) (A : Pt) (g : JFrame) (ig : Instr) (mk : MethodId) (a : Array Value),
    Stand p l e R s m sargs below meth c A.U A.locs A.cells A.slots → g.method = m → g.locals.size = c.maxLocals → decode c.code g.pc = .ok (ig, len) →
    2 * g.monitorRoom + (g.stack.map fun v => v.category).sum ≤ W9 → A.U.methodNamed? y = some mk → Pre A a →
    (∃ (v : Option Value) (B : Pt), Stand p l e R s m sargs below meth c B.U B.locs B.cells B.slots ∧ Post A a v B ∧
      Steps p.tables e below (doInvoke e (A.U.setTop g) [] mk a).1 (B.U.setTop { g with pc := g.pc + len, stack := v.toList ++ g.stack })) ∨
    (∃ (q : Addr) (B : Pt), Stand p l e R s m sargs below meth c B.U B.locs B.cells B.slots ∧ PostX A a q B ∧
      Steps p.tables e below (doInvoke e (A.U.setTop g) [] mk a).1 ((B.U.setTop g).pushFrame (.throwing q)))
section Payer
variable {l : Launch} {R : Room} {p : Program} {e : Env} {below : List Frame} {s : State} {sargs : Array Value} {y : MethodName} {len W9 : Nat}
theorem vx_back {ws : List Cond} {rm : Room} {Pc : Array Value → State → Prop} {Qc : Array Value → State → Outcome → State → Prop} {XC : String → State → State → Prop} {mc ms : Nat} {free : Addr → Prop} {bytes : ByteArray} {maxL : Nat} {ret : Option FieldType}
    (hM : vx_Met l y ws rm Pc Qc XC mc ms free) (hblind : FrameBlind Pc) (hrc : rm.cells = mc) (hrs : rm.slots = ms)
    (hframes : rm.frames + 1 ≤ R.frames) (hlocals : W9 + (maxL + 11) + rm.locals ≤ R.locals)
    (hws : ∀ w ∈ ws, ∀ a' U, s.WarmedH U.vm → w.before a' U = true) (hcode : Cond.code y bytes maxL ret ∈ ws) (hinit : ∀ a' U, s.WarmedH U.vm → (Cond.initialized y.cls).before a' U = true) :
    vx_Back l R p e below s sargs y len W9 (PreOf R mc ms Pc) (PostOf Qc mc ms free) (vx_Post XC mc ms free) := by
  intro m meth c A g ig mk a X hg hsize hdg hW hn hp
  have h1 : (headSpec ws rm).pre.before a A.U = true := atoms_intro fun w hw => hws w hw _ _ X.warmed
  have h2 : (Cond.code y bytes maxL ret).before a A.U = true := hws _ hcode _ _ X.warmed
  have h3 : (Cond.initialized y.cls).before a A.U = true := hinit _ _ X.warmed
  have h4 : A.cells + (headSpec ws rm).room.cells ≤ R.cells := by rw [show (headSpec ws rm).room.cells = mc from hrc]; exact hp.1
  have h5 : A.slots + (headSpec ws rm).room.slots ≤ R.slots := by rw [show (headSpec ws rm).room.slots = ms from hrs]; exact hp.2.1
  have hPc : Pc a (A.U.calling g mk a) := hblind _ _ _ _ hp.2.2
  obtain ⟨U, Ls, c0, s0⟩ := A
  dsimp only [Pt.U, Pt.locs, Pt.cells, Pt.slots] at h1 h2 h3 h4 h5 X hn hPc ⊢
  obtain ⟨methY, cY, hmY, hcY, -, hlY, -, -, -, -⟩ := Cond.code_spec hn h2
  obtain ⟨kY, hkY, -⟩ := className_of_methodNamed hn
  have hinitY : kY.init = .initialized := Cond.initialized_spec (findClass_of_methodNamed hn) hkY h3
  have h : At U g.method c below := by rw [hg]; exact X.here
  have hlocals9 : W9 + (maxL + 11) + (headSpec ws rm).room.locals ≤ R.locals := hlocals
  have happ : (headSpec ws rm).appliesLoose y e.platform (U.calling g mk a) = true :=
    Spec.appliesLoose_calling (g := g) h hdg hn hkY hinitY
      (X.room_calling (g := g) (R' := (headSpec ws rm).room) hsize hmY hcY hframes (by rw [hlY]; omega) h4 h5) h1
  obtain ⟨mid, hmid⟩ := h.above
  have hfr : (U.setTop g).frames = (.java g :: mid) ++ below := by rw [State.frames_setTop' g h.top, hmid]; rfl
  obtain ⟨o, s₂, hsteps, -, hend, hq⟩ := Steps.callFree hM p X.admits X.cas X.clock (acts := []) hfr happ hPc trivial
  have hq' : vx_Q Qc XC mc ms free a (U.calling g mk a) o s₂ := hq
  rw [State.frames_setTop' g h.top] at hend
  obtain ⟨g₀, hg0⟩ := Option.isSome_iff_exists.mp h.top
  obtain ⟨r, hr⟩ := State.topJava?_eq_some.mp hg0
  have hr' : (({ U with heap := s₂.heap, slotsUsed := s₂.slotsUsed } : State).setVm s₂.vm).frames = .java g₀ :: r := hr
  rcases hq' with ⟨hqc, L, hfe, hL⟩ | ⟨q, rfl, E, ce, L, hx, hce, hcv, hcl, hW₂, hsm, hL⟩
  · obtain ⟨⟨v, rfl⟩, hW₂, e2, q2, q3, q4, q5, q6⟩ := id hfe
    have e3 : s₂ = ({ (U.calling g mk a).setFrames s₂.frames with heap := s₂.heap, slotsUsed := s₂.slotsUsed } : State).setVm s₂.vm := by
      have : s₂ = ({ s₂ with vm := (U.calling g mk a).vm } : State).setVm s₂.vm := rfl
      rw [e2] at this
      exact this
    obtain ⟨c₂, i₂, len₂, hc₂, hd₂, hf₂⟩ := hend
    have hW' : U.WarmedH s₂.vm := hW₂
    have hcc : c₂ = c := by
      have h1 : s₂.code? g.method = U.code? g.method := by
        rw [State.code?_eq, State.code?_eq, hW'.alike.method?]
      exact Option.some.inj (hc₂.symm.trans (h1.trans h.code))
    subst hcc
    have hlen : len₂ = len := by rw [hdg] at hd₂; cases hd₂; rfl
    subst hlen
    have hs₂ : s₂ = (({ U with heap := s₂.heap, slotsUsed := s₂.slotsUsed } : State).setVm s₂.vm).setTop { g with pc := g.pc + len₂, stack := v.toList ++ g.stack } := by
      refine e3.trans ?_
      rw [hf₂, State.calling_eq h.top, State.setFrames_setFrames, State.setTop_of_frames _ hr', hr]
      rfl
    have hsame : U.sameButNew ({ U with heap := s₂.heap, slotsUsed := s₂.slotsUsed } : State) L mc ms := by
      refine ⟨?_, q2, q3, q4, q5, q6⟩
      obtain ⟨t, ht, -⟩ := State.frames_cons hr
      show ({ U with heap := s₂.heap, slotsUsed := s₂.slotsUsed } : State) = { U.setFrames U.frames with heap := s₂.heap, slotsUsed := s₂.slotsUsed }
      rw [State.setFrames_self ht]
    subst hg
    refine Or.inl ⟨v, ⟨(({ U with heap := s₂.heap, slotsUsed := s₂.slotsUsed } : State).setVm s₂.vm), Ls ++ L, c0 + mc, s0 + ms⟩,
      ⟨X.admits, X.cas, X.clock, X.frames, X.room, X.hears, X.method, X.code, (X.here.setHeapUsed s₂.heap s₂.slotsUsed).setVm hW'.alike, X.tail, State.WarmedH.trans X.warmed hW', X.limits, X.bytes, X.same.trans (hsame.setVm s.vm)⟩,
      ⟨g, mk, s₂, L, rfl, rfl, hqc, rfl, hL, rfl, rfl⟩, ?_⟩
    show Steps p.tables e below _ ((({ U with heap := s₂.heap, slotsUsed := s₂.slotsUsed } : State).setVm s₂.vm).setTop { g with pc := g.pc + len₂, stack := v.toList ++ g.stack })
    rw [← hs₂]
    exact hsteps
  · obtain ⟨e2, q2, q3, q4, q5, q6⟩ := id hsm
    have e3 : s₂ = ({ (U.calling g mk a).setFrames s₂.frames with heap := s₂.heap, slotsUsed := s₂.slotsUsed } : State).setVm s₂.vm := by
      have : s₂ = ({ s₂ with vm := (U.calling g mk a).vm } : State).setVm s₂.vm := rfl
      rw [e2] at this
      exact this
    have hf₂ : s₂.frames = .throwing q :: .java g :: U.frames.tail := hend
    have hW' : U.WarmedH s₂.vm := hW₂
    have hs₂ : s₂ = ((({ U with heap := s₂.heap, slotsUsed := s₂.slotsUsed } : State).setVm s₂.vm).setTop g).pushFrame (.throwing q) := by
      refine e3.trans ?_
      rw [hf₂, State.calling_eq h.top, State.setFrames_setFrames, State.pushFrame, State.frames_setTop _ hr', State.setTop_of_frames _ hr', State.setFrames_setFrames, hr]
      rfl
    have hsame : U.sameButNew ({ U with heap := s₂.heap, slotsUsed := s₂.slotsUsed } : State) L mc ms := by
      refine ⟨?_, q2, q3, q4, q5, q6⟩
      obtain ⟨t, ht, -⟩ := State.frames_cons hr
      show ({ U with heap := s₂.heap, slotsUsed := s₂.slotsUsed } : State) = { U.setFrames U.frames with heap := s₂.heap, slotsUsed := s₂.slotsUsed }
      rw [State.setFrames_self ht]
    subst hg
    refine Or.inr ⟨q, ⟨(({ U with heap := s₂.heap, slotsUsed := s₂.slotsUsed } : State).setVm s₂.vm), Ls ++ L, c0 + mc, s0 + ms⟩,
      ⟨X.admits, X.cas, X.clock, X.frames, X.room, X.hears, X.method, X.code, (X.here.setHeapUsed s₂.heap s₂.slotsUsed).setVm hW'.alike, X.tail, State.WarmedH.trans X.warmed hW', X.limits, X.bytes, X.same.trans (hsame.setVm s.vm)⟩,
      ⟨g, mk, s₂, L, E, ce, rfl, rfl, hx, hce, hcv, hcl, rfl, hL, rfl, rfl⟩, ?_⟩
    show Steps p.tables e below _ (((({ U with heap := s₂.heap, slotsUsed := s₂.slotsUsed } : State).setVm s₂.vm).setTop g).pushFrame (.throwing q))
    rw [← hs₂]
    exact hsteps
end Payer
section Calls
variable {p : Program} {l : Launch} {e : Env} {R : Room} {s : State} {m : MethodId} {args : Array Value} {below : List Frame} {meth : Method} {c : Code} {T : State} {locs : List Loc} {cells slots : Nat}
theorem vx_callV (X : Stand p l e R s m args below meth c T locs cells slots) (hexec : p.tables.exec = Jvm.exec) {own C : String} {index : Nat} {y : MethodName} {bytes : ByteArray} {maxL : Nat} {ret : Option FieldType}
    (hown : s.vm.findClass own = some m.cls) (hlink : (Cond.methodLink own index y).before args s = true) (hinst : (Cond.instanceMethod y).before args s = true) (hsel : (Cond.selects C y y).before args s = true)
    (hcode : (Cond.code y bytes maxL ret).before args s = true) (hy : y.cls ≠ "java/lang/invoke/MethodHandle" ∧ y.cls ≠ "java/lang/invoke/VarHandle")
    {W9 : Nat} {Pre : Pt → Array Value → Prop} {Post : Pt → Array Value → Option Value → Pt → Prop} {PostX : Pt → Array Value → Addr → Pt → Prop} (hK : vx_Back l R p e below s args y 3 W9 Pre Post PostX)
    {b : Addr} {cellB : Cell} (hcell : T.heap[b]? = some cellB) (hobj : cellB.vm.isStatics = false) (hcls : s.vm.findClass C = some cellB.cls)
    {g : JFrame} (hg : g.method = m) (hsize : g.locals.size = c.maxLocals) {argsL rest : List Value} (hlen : ∀ sig, parseMethodDescriptor y.desc = some sig → argsL.length = sig.parameters.length)
    (hstack : g.stack = argsL.reverse ++ .ref b :: rest) (hW : 2 * g.monitorRoom + (rest.map fun v => v.category).sum ≤ W9) (hdg : decode c.code g.pc = .ok (.invokevirtual index, 3))
    (hpre : ∀ vm₁, s.WarmedH vm₁ → Pre ⟨T.setVm vm₁, locs, cells, slots⟩ (Value.ref b :: argsL).toArray) :
    (∃ (v : Option Value) (vm₁ : Vm) (B : Pt), s.WarmedH vm₁ ∧ Stand p l e R s m args below meth c B.U B.locs B.cells B.slots ∧ Post ⟨T.setVm vm₁, locs, cells, slots⟩ (Value.ref b :: argsL).toArray v B ∧
      ∀ target, Steps p.tables e below (B.U.setTop { g with pc := g.pc + 3, stack := v.toList ++ rest }) target → Steps p.tables e below (T.setTop g) target) ∨
    (∃ (q : Addr) (vm₁ : Vm) (B : Pt), s.WarmedH vm₁ ∧ Stand p l e R s m args below meth c B.U B.locs B.cells B.slots ∧ PostX ⟨T.setVm vm₁, locs, cells, slots⟩ (Value.ref b :: argsL).toArray q B ∧
      Steps p.tables e below (T.setTop g) ((B.U.setTop { g with stack := rest }).pushFrame (.throwing q))) := by
  obtain ⟨mk, methM, hnamed, hmethM, hstM, habM⟩ := Cond.instanceMethod_spec hinst
  obtain ⟨methM', cM, hmethM', -, -, -, -, -, -, hsigM⟩ := Cond.code_spec hnamed hcode
  cases hmethM.symm.trans hmethM'
  obtain ⟨c2, r2, m2, q1, q2, q3, q4, kP, hkP, hkPi⟩ := Cond.selects_spec hsel
  cases hcls.symm.trans q1
  cases (State.methodFound?_of_named hnamed hy).symm.trans q2
  cases hnamed.symm.trans q3
  have hselP : selectMethod e.platform s.vm cellB.cls mk = .method mk := by rw [Launch.admits_selectMethod X.admits]; exact q4
  obtain ⟨vm₁, X₁, hstep₁⟩ := X.invokevirtual hexec hown hlink hnamed hmethM hstM hkP hkPi hy (a := b) (cell := cellB) hcell
    (fun z h => by rw [h] at hobj; cases hobj) hselP hmethM habM hkP hkPi (g := g) hg (argsL := argsL) (rest := rest) (hlen _ hsigM) hstack hdg
  rcases hK m meth c ⟨T.setVm vm₁, locs, cells, slots⟩ { g with stack := rest } (.invokevirtual index) mk (Value.ref b :: argsL).toArray X₁ hg hsize hdg hW (X₁.named hnamed) (hpre vm₁ X₁.warmed) with ⟨v, B, X', hpost, hsteps⟩ | ⟨q, B, X', hpost, hsteps⟩
  · exact Or.inl ⟨v, vm₁, B, X₁.warmed, X', hpost, fun target h => hstep₁ _ fun acts => by rw [doInvoke_state]; exact hsteps.trans h⟩
  · exact Or.inr ⟨q, vm₁, B, X₁.warmed, X', hpost, hstep₁ _ fun acts => by rw [doInvoke_state]; exact hsteps⟩
theorem vx_callS (X : Stand p l e R s m args below meth c T locs cells slots) (hexec : p.tables.exec = Jvm.exec) {own : String} {index : Nat} {y : MethodName} {bytes : ByteArray} {maxL : Nat} {ret : Option FieldType}
    (hown : s.vm.findClass own = some m.cls) (hlink : (Cond.methodLink own index y).before args s = true) (hstat : (Cond.static y).before args s = true) (hinit : (Cond.initialized y.cls).before args s = true)
    (hcode : (Cond.code y bytes maxL ret).before args s = true) (hy : y.cls ≠ "java/lang/invoke/MethodHandle" ∧ y.cls ≠ "java/lang/invoke/VarHandle")
    {W9 : Nat} {Pre : Pt → Array Value → Prop} {Post : Pt → Array Value → Option Value → Pt → Prop} {PostX : Pt → Array Value → Addr → Pt → Prop} (hK : vx_Back l R p e below s args y 3 W9 Pre Post PostX)
    {g : JFrame} (hg : g.method = m) (hsize : g.locals.size = c.maxLocals) {argsL rest : List Value} (hlen : ∀ sig, parseMethodDescriptor y.desc = some sig → argsL.length = sig.parameters.length)
    (hstack : g.stack = argsL.reverse ++ rest) (hW : 2 * g.monitorRoom + (rest.map fun v => v.category).sum ≤ W9) (hdg : decode c.code g.pc = .ok (.invokestatic index, 3))
    (hpre : ∀ vm₁, s.WarmedH vm₁ → Pre ⟨T.setVm vm₁, locs, cells, slots⟩ argsL.toArray) :
    (∃ (v : Option Value) (vm₁ : Vm) (B : Pt), s.WarmedH vm₁ ∧ Stand p l e R s m args below meth c B.U B.locs B.cells B.slots ∧ Post ⟨T.setVm vm₁, locs, cells, slots⟩ argsL.toArray v B ∧
      ∀ target, Steps p.tables e below (B.U.setTop { g with pc := g.pc + 3, stack := v.toList ++ rest }) target → Steps p.tables e below (T.setTop g) target) ∨
    (∃ (q : Addr) (vm₁ : Vm) (B : Pt), s.WarmedH vm₁ ∧ Stand p l e R s m args below meth c B.U B.locs B.cells B.slots ∧ PostX ⟨T.setVm vm₁, locs, cells, slots⟩ argsL.toArray q B ∧
      Steps p.tables e below (T.setTop g) ((B.U.setTop { g with stack := rest }).pushFrame (.throwing q))) := by
  obtain ⟨mk, hnamed⟩ := Cond.code_named hcode
  obtain ⟨methM, cM, hmethM, -, -, -, -, -, -, hsigM⟩ := Cond.code_spec hnamed hcode
  have hstatic : methM.isStatic = true := Cond.static_spec hnamed hmethM hstat
  obtain ⟨kP, hkP, -⟩ := className_of_methodNamed hnamed
  have hinitP : kP.init = .initialized := Cond.initialized_spec (findClass_of_methodNamed hnamed) hkP hinit
  obtain ⟨vm₁, X₁, hstep₁⟩ := X.invokestatic hexec hown hlink hnamed hmethM hstatic hkP hinitP hy (g := g) hg (argsL := argsL) (rest := rest) (hlen _ hsigM) hstack hdg
  rcases hK m meth c ⟨T.setVm vm₁, locs, cells, slots⟩ { g with stack := rest } (.invokestatic index) mk argsL.toArray X₁ hg hsize hdg hW (X₁.named hnamed) (hpre vm₁ X₁.warmed) with ⟨v, B, X', hpost, hsteps⟩ | ⟨q, B, X', hpost, hsteps⟩
  · exact Or.inl ⟨v, vm₁, B, X₁.warmed, X', hpost, fun target h => hstep₁ _ fun acts => by rw [doInvoke_state]; exact hsteps.trans h⟩
  · exact Or.inr ⟨q, vm₁, B, X₁.warmed, X', hpost, hstep₁ _ fun acts => by rw [doInvoke_state]; exact hsteps⟩
end Calls
theorem vx_cls {s : State} {T : State} {vm₁ : Vm} {E : String} {k : ClassId} (hW : s.WarmedH vm₁) (h : (T.setVm vm₁).vm.findClass E = some k) : s.vm.findClass E = some k := by
  have h1 : vm₁.findClass E = some k := h
  rw [hW.alike.findClass] at h1
  exact h1
/-- the method's frame g, with q thrown over it -/
def vx_W (p : Program) (l : Launch) (e : Env) (R : Room) (s : State) (m : MethodId) (args : Array Value) (below : List Frame) (meth : Method) (c : Code) (H : Heap) (locs : List Loc) (cells slots : Nat) (Q : State → Prop) (g : JFrame) (q : Addr) : Prop :=
  ∀ T : State, T.heap = H → Stand p l e R s m args below meth c T locs cells slots → ∃ t, Steps p.tables e below ((T.setTop g).pushFrame (.throwing q)) t ∧ Q t
def vx_Run (p : Program) (l : Launch) (e : Env) (R : Room) (s : State) (m : MethodId) (args : Array Value) (below : List Frame) (meth : Method) (c : Code) (H : Heap) (locs : List Loc) (cells slots mc ms : Nat) (g : JFrame) (rest : List Value) (Qa : State → Outcome → State → Prop) (XC : String → State → State → Prop) (free : Addr → Prop) : Prop :=
  ∀ T : State, T.heap = H → Stand p l e R s m args below meth c T locs cells slots →
    (∃ (v : Option Value) (st₀ t T' : State) (L : List Loc), st₀.heap = H ∧ Stand p l e R s m args below meth c T' (locs ++ L) (cells + mc) (slots + ms) ∧ (∀ q ∈ L, free q.base) ∧ T'.heap = t.heap ∧ T'.vm = t.vm ∧ Qa st₀ (.returned v) t ∧
      Goes p e below T g T' { g with pc := g.pc + 3, stack := v.toList ++ rest }) ∨
    (∃ (q : Addr) (st₀ t T' : State) (L : List Loc) (E : String) (ce : Cell), st₀.heap = H ∧ Stand p l e R s m args below meth c T' (locs ++ L) (cells + mc) (slots + ms) ∧ (∀ z ∈ L, free z.base) ∧ T'.heap = t.heap ∧ T'.vm = t.vm ∧ XC E st₀ t ∧ t.heap[q]? = some ce ∧ ce.vm = .none ∧ s.vm.findClass E = some ce.cls ∧
      Steps p.tables e below (T.setTop g) ((T'.setTop { g with stack := rest }).pushFrame (.throwing q)))
def vx_X {S : Type} (px : S → Prop) (B : String → S → State → Prop) (A : Nat → Prop) : String → State → State → Prop := fun E st t => ∃ u : S, px u ∧ B E u t ∧ va_F A st t
section Runs
variable {p : Program} {l : Launch} {e : Env} {R : Room} {s : State} {m : MethodId} {args : Array Value} {below : List Frame} {meth : Method} {c : Code} {H : Heap} {locs : List Loc} {cells slots : Nat}
variable {y : MethodName} {bytes cc : ByteArray} {maxL nL mc ms n index : Nat} {ret : Option FieldType} {ws : List Cond} {rm : Room} {Pc : Array Value → State → Prop} {Qc : Array Value → State → Outcome → State → Prop} {XC : String → State → State → Prop} {free : Addr → Prop} {Ts : List Cond} {own C : String} {b : Addr} {As rest : List Value} {g : JFrame}
theorem vx_callBack (cb : CallB R s args own index y bytes maxL ret ws rm mc ms n) (hM : vx_Met l y ws rm Pc Qc XC mc ms free) (hbl : FrameBlind Pc) : vx_Back l R p e below s args y 3 8 (PreOf R mc ms Pc) (PostOf Qc mc ms free) (vx_Post XC mc ms free) := by
  obtain ⟨hrc, hrs, hfr, hlo, hws, hcw, -, hini, -⟩ := cb
  exact vx_back (bytes := bytes) (maxL := maxL) (ret := ret) hM hbl hrc hrs hfr hlo hws hcw (fun a' U hW => word_at hW (Or.inl (by first | rfl | simp [Cond.onTables, Cond.keeps, Cond.steady])) hini)
theorem vx_runV (S : CallFix p m c cc nL s args Ts own) (hM : vx_Met l y ws rm Pc Qc XC mc ms free) (cw : CallW R s args own C index y bytes maxL ret ws rm mc ms n) (hp : PreV s H C b Pc As)
    (hg : g.method = m) (hn : As.length = n) (hsize : g.locals.size = nL) (hstack : g.stack = As.reverse ++ .ref b :: rest) (hW : 2 * g.monitorRoom + (rest.map fun v => v.category).sum ≤ 8) (hdg : decode cc g.pc = .ok (.invokevirtual index, 3)) (hf : cells + mc ≤ R.cells ∧ slots + ms ≤ R.slots) :
    vx_Run p l e R s m args below meth c H locs cells slots mc ms g rest (Qc (Value.ref b :: As).toArray) XC free := by
  have hK : vx_Back l R p e below s args y 3 8 (PreOf R mc ms Pc) (PostOf Qc mc ms free) (vx_Post XC mc ms free) := vx_callBack cw.1 hM hp.1
  obtain ⟨⟨-, -, -, -, -, -, hcode, -, hy, hlen, hl⟩, hin, hse⟩ := cw
  obtain ⟨hx, hb, hml, ho, -⟩ := S
  obtain ⟨-, ⟨cellB, hcB, hoB, hclB⟩, hPc⟩ := hp
  intro T hT X
  rcases vx_callV X hx (C := C) (bytes := bytes) (maxL := maxL) (ret := ret) ho hl hin hse hcode hy hK (by rw [hT]; exact hcB) hoB hclB hg (hsize.trans hml.symm) (argsL := As) (rest := rest) (fun sig h => hn.trans (hlen sig h)) hstack hW (by rw [hb]; exact hdg)
    (fun vm₁ hW₁ => ⟨hf.1, hf.2, hPc (T.setVm vm₁) hT hW₁⟩) with ⟨v, vm₁, ⟨U', l2, c2, s2⟩, hW₁, X', ⟨g', mk, t, L, e1, e2, hq, h1, hL, h2, h3⟩, st⟩ | ⟨q, vm₁, ⟨U', l2, c2, s2⟩, hW₁, X', ⟨g', mk, t, L, E, ce, e1, e2, hq, hce, hcv, hcl, h1, hL, h2, h3⟩, st⟩
  · dsimp only [Pt.U, Pt.locs, Pt.cells, Pt.slots] at X' e1 e2 h1 h2 h3 st
    subst h1; subst h2; subst h3
    exact Or.inl ⟨v, (T.setVm vm₁).calling g' mk (Value.ref b :: As).toArray, t, U', L, hT, X', hL, e1, e2, hq, st⟩
  · dsimp only [Pt.U, Pt.locs, Pt.cells, Pt.slots] at X' e1 e2 h1 h2 h3 st hcl
    subst h1; subst h2; subst h3
    exact Or.inr ⟨q, (T.setVm vm₁).calling g' mk (Value.ref b :: As).toArray, t, U', L, E, ce, hT, X', hL, e1, e2, hq, hce, hcv, vx_cls hW₁ hcl, st⟩
theorem vx_runS (S : CallFix p m c cc nL s args Ts own) (hM : vx_Met l y ws rm Pc Qc XC mc ms free) (cw : CallB R s args own index y bytes maxL ret ws rm mc ms n ∧ (Cond.static y).before args s = true) (hp : PreS s H Pc As)
    (hg : g.method = m) (hn : As.length = n) (hsize : g.locals.size = nL) (hstack : g.stack = As.reverse ++ rest) (hW : 2 * g.monitorRoom + (rest.map fun v => v.category).sum ≤ 8) (hdg : decode cc g.pc = .ok (.invokestatic index, 3)) (hf : cells + mc ≤ R.cells ∧ slots + ms ≤ R.slots) :
    vx_Run p l e R s m args below meth c H locs cells slots mc ms g rest (Qc As.toArray) XC free := by
  have hK : vx_Back l R p e below s args y 3 8 (PreOf R mc ms Pc) (PostOf Qc mc ms free) (vx_Post XC mc ms free) := vx_callBack cw.1 hM hp.1
  obtain ⟨⟨-, -, -, -, -, -, hcode, hini, hy, hlen, hl⟩, hstt⟩ := cw
  obtain ⟨hx, hb, hml, ho, -⟩ := S
  intro T hT X
  rcases vx_callS X hx (bytes := bytes) (maxL := maxL) (ret := ret) ho hl hstt hini hcode hy hK hg (hsize.trans hml.symm) (argsL := As) (rest := rest) (fun sig h => hn.trans (hlen sig h)) hstack hW (by rw [hb]; exact hdg)
    (fun vm₁ hW₁ => ⟨hf.1, hf.2, hp.2 (T.setVm vm₁) hT hW₁⟩) with ⟨v, vm₁, ⟨U', l2, c2, s2⟩, hW₁, X', ⟨g', mk, t, L, e1, e2, hq, h1, hL, h2, h3⟩, st⟩ | ⟨q, vm₁, ⟨U', l2, c2, s2⟩, hW₁, X', ⟨g', mk, t, L, E, ce, e1, e2, hq, hce, hcv, hcl, h1, hL, h2, h3⟩, st⟩
  · dsimp only [Pt.U, Pt.locs, Pt.cells, Pt.slots] at X' e1 e2 h1 h2 h3 st
    subst h1; subst h2; subst h3
    exact Or.inl ⟨v, (T.setVm vm₁).calling g' mk As.toArray, t, U', L, hT, X', hL, e1, e2, hq, st⟩
  · dsimp only [Pt.U, Pt.locs, Pt.cells, Pt.slots] at X' e1 e2 h1 h2 h3 st hcl
    subst h1; subst h2; subst h3
    exact Or.inr ⟨q, (T.setVm vm₁).calling g' mk As.toArray, t, U', L, E, ce, hT, X', hL, e1, e2, hq, hce, hcv, vx_cls hW₁ hcl, st⟩
end Runs
section Rows
variable {p : Program} {l : Launch} {e : Env} {R : Room} {s : State} {m : MethodId} {args : Array Value} {below : List Frame} {meth : Method} {c : Code} {H : Heap} {locs : List Loc} {cells slots : Nat} {Q : State → Prop}
variable {mc ms : Nat} {free : Addr → Prop} {A0 A1 : Nat → Prop} {H0 : Heap} {a : Array Value} {pc : Nat} {ls : Array Slot} {st0 rest : List Value}
theorem vx_keep {st₀ t T' : State} {L : List Loc} (h0 : st₀.heap = H) (e1 : T'.heap = t.heap) (hS : va_S A0 H0 H locs) (hA : ∀ q, q < H.size → A1 q → A0 q) (hf : ∀ q, free q → A0 q) (hL : ∀ q ∈ L, free q.base) (hF : va_F A1 st₀ t) :
    H.size ≤ T'.heap.size ∧ (∀ q : Nat, q < H.size → ¬ A1 q → T'.heap[q]? = H[q]?) ∧ va_S A0 H0 T'.heap (locs ++ L) := by
  obtain ⟨hz, hk⟩ := hF
  rw [h0] at hz hk
  exact ⟨by rw [e1]; exact hz, fun q h1 h2 => by rw [e1]; exact hk q h1 h2,
    ⟨Nat.le_trans hS.1 (by rw [e1]; exact hz), fun q h1 h2 => by rw [e1, hk q (Nat.lt_of_lt_of_le h1 hS.1) (fun z => h2 (hA q (Nat.lt_of_lt_of_le h1 hS.1) z))]; exact hS.2.1 q h1 h2, fun q hq => by
      rcases List.mem_append.mp hq with h | h
      · exact hS.2.2 q h
      · exact hf _ (hL q h)⟩⟩
theorem vx_calli {S SX : Type} {post : Int32 → S → Prop} {px : SX → Prop} {B : S → State → Prop} {BX : String → SX → State → Prop} {AX : Nat → Prop} (hr : vx_Run p l e R s m args below meth c H locs cells slots mc ms (F0 m pc ls st0) rest (va_Qi post B A1 a) (vx_X px BX AX) free) (hS : va_S A0 H0 H locs) (hA : ∀ q, q < H.size → A1 q → A0 q) (hf : ∀ q, free q → A0 q) (hAX : ∀ q, q < H.size → AX q → A0 q)
    (kx : ∀ (E : String) (ce : Cell) (q9 : Addr) (u : SX) (t : State) (H1 : Heap) (locs1 : List Loc), t.heap = H1 → s.vm.Alike t.vm → px u → BX E u t → H.size ≤ H1.size → (∀ q : Nat, q < H.size → ¬ AX q → H1[q]? = H[q]?) → va_S A0 H0 H1 locs1 → H1[q9]? = some ce → ce.vm = .none → s.vm.findClass E = some ce.cls → vx_W p l e R s m args below meth c H1 locs1 (cells + mc) (slots + ms) Q (F0 m pc ls rest) q9)
    (kk : ∀ (r : Int32) (u : S) (t : State) (H1 : Heap) (locs1 : List Loc), t.heap = H1 → s.vm.Alike t.vm → post r u → B u t → H.size ≤ H1.size → (∀ q : Nat, q < H.size → ¬ A1 q → H1[q]? = H[q]?) → va_S A0 H0 H1 locs1 → W p l e R s m args below meth c H1 locs1 (cells + mc) (slots + ms) Q (F0 m (pc + 3) ls (.int r :: rest))) : W p l e R s m args below meth c H locs cells slots Q (F0 m pc ls st0) := by
  intro T hT X
  rcases hr T hT X with ⟨v, st₀, t, T', L, h0, X', hL, e1, e2, ⟨⟨r, u, hv, hp, hb⟩, hF⟩, st⟩ | ⟨q, st₀, t, T', L, E, ce, h0, X', hL, e1, e2, ⟨u, hp, hb, hF⟩, hce, hcv, hcl, st⟩
  · cases hv
    obtain ⟨k1, k2, k3⟩ := vx_keep h0 e1 hS hA hf hL hF
    obtain ⟨t2, a1, b1⟩ := kk r u t T'.heap (locs ++ L) e1.symm (by rw [← e2]; exact X'.warmed.alike) hp hb k1 k2 k3 T' rfl X'
    exact ⟨t2, st t2 a1, b1⟩
  · obtain ⟨k1, k2, k3⟩ := vx_keep h0 e1 hS hAX hf hL hF
    obtain ⟨t2, a1, b1⟩ := kx E ce q u t T'.heap (locs ++ L) e1.symm (by rw [← e2]; exact X'.warmed.alike) hp hb k1 k2 k3 (by rw [e1]; exact hce) hcv hcl T' rfl X'
    exact ⟨t2, st.trans a1, b1⟩
theorem vx_calll {S SX : Type} {post : Int64 → S → Prop} {px : SX → Prop} {B : S → State → Prop} {BX : String → SX → State → Prop} {AX : Nat → Prop} (hr : vx_Run p l e R s m args below meth c H locs cells slots mc ms (F0 m pc ls st0) rest (va_Ql post B A1 a) (vx_X px BX AX) free) (hS : va_S A0 H0 H locs) (hA : ∀ q, q < H.size → A1 q → A0 q) (hf : ∀ q, free q → A0 q) (hAX : ∀ q, q < H.size → AX q → A0 q)
    (kx : ∀ (E : String) (ce : Cell) (q9 : Addr) (u : SX) (t : State) (H1 : Heap) (locs1 : List Loc), t.heap = H1 → s.vm.Alike t.vm → px u → BX E u t → H.size ≤ H1.size → (∀ q : Nat, q < H.size → ¬ AX q → H1[q]? = H[q]?) → va_S A0 H0 H1 locs1 → H1[q9]? = some ce → ce.vm = .none → s.vm.findClass E = some ce.cls → vx_W p l e R s m args below meth c H1 locs1 (cells + mc) (slots + ms) Q (F0 m pc ls rest) q9)
    (kk : ∀ (r : Int64) (u : S) (t : State) (H1 : Heap) (locs1 : List Loc), t.heap = H1 → s.vm.Alike t.vm → post r u → B u t → H.size ≤ H1.size → (∀ q : Nat, q < H.size → ¬ A1 q → H1[q]? = H[q]?) → va_S A0 H0 H1 locs1 → W p l e R s m args below meth c H1 locs1 (cells + mc) (slots + ms) Q (F0 m (pc + 3) ls (.long r :: rest))) : W p l e R s m args below meth c H locs cells slots Q (F0 m pc ls st0) := by
  intro T hT X
  rcases hr T hT X with ⟨v, st₀, t, T', L, h0, X', hL, e1, e2, ⟨⟨r, u, hv, hp, hb⟩, hF⟩, st⟩ | ⟨q, st₀, t, T', L, E, ce, h0, X', hL, e1, e2, ⟨u, hp, hb, hF⟩, hce, hcv, hcl, st⟩
  · cases hv
    obtain ⟨k1, k2, k3⟩ := vx_keep h0 e1 hS hA hf hL hF
    obtain ⟨t2, a1, b1⟩ := kk r u t T'.heap (locs ++ L) e1.symm (by rw [← e2]; exact X'.warmed.alike) hp hb k1 k2 k3 T' rfl X'
    exact ⟨t2, st t2 a1, b1⟩
  · obtain ⟨k1, k2, k3⟩ := vx_keep h0 e1 hS hAX hf hL hF
    obtain ⟨t2, a1, b1⟩ := kx E ce q u t T'.heap (locs ++ L) e1.symm (by rw [← e2]; exact X'.warmed.alike) hp hb k1 k2 k3 (by rw [e1]; exact hce) hcv hcl T' rfl X'
    exact ⟨t2, st.trans a1, b1⟩
theorem vx_callf {S SX : Type} {post : UInt32 → S → Prop} {px : SX → Prop} {B : S → State → Prop} {BX : String → SX → State → Prop} {AX : Nat → Prop} (hr : vx_Run p l e R s m args below meth c H locs cells slots mc ms (F0 m pc ls st0) rest (va_Qf post B A1 a) (vx_X px BX AX) free) (hS : va_S A0 H0 H locs) (hA : ∀ q, q < H.size → A1 q → A0 q) (hf : ∀ q, free q → A0 q) (hAX : ∀ q, q < H.size → AX q → A0 q)
    (kx : ∀ (E : String) (ce : Cell) (q9 : Addr) (u : SX) (t : State) (H1 : Heap) (locs1 : List Loc), t.heap = H1 → s.vm.Alike t.vm → px u → BX E u t → H.size ≤ H1.size → (∀ q : Nat, q < H.size → ¬ AX q → H1[q]? = H[q]?) → va_S A0 H0 H1 locs1 → H1[q9]? = some ce → ce.vm = .none → s.vm.findClass E = some ce.cls → vx_W p l e R s m args below meth c H1 locs1 (cells + mc) (slots + ms) Q (F0 m pc ls rest) q9)
    (kk : ∀ (r : UInt32) (u : S) (t : State) (H1 : Heap) (locs1 : List Loc), t.heap = H1 → s.vm.Alike t.vm → post r u → B u t → H.size ≤ H1.size → (∀ q : Nat, q < H.size → ¬ A1 q → H1[q]? = H[q]?) → va_S A0 H0 H1 locs1 → W p l e R s m args below meth c H1 locs1 (cells + mc) (slots + ms) Q (F0 m (pc + 3) ls (.float r :: rest))) : W p l e R s m args below meth c H locs cells slots Q (F0 m pc ls st0) := by
  intro T hT X
  rcases hr T hT X with ⟨v, st₀, t, T', L, h0, X', hL, e1, e2, ⟨⟨r, u, hv, hp, hb⟩, hF⟩, st⟩ | ⟨q, st₀, t, T', L, E, ce, h0, X', hL, e1, e2, ⟨u, hp, hb, hF⟩, hce, hcv, hcl, st⟩
  · cases hv
    obtain ⟨k1, k2, k3⟩ := vx_keep h0 e1 hS hA hf hL hF
    obtain ⟨t2, a1, b1⟩ := kk r u t T'.heap (locs ++ L) e1.symm (by rw [← e2]; exact X'.warmed.alike) hp hb k1 k2 k3 T' rfl X'
    exact ⟨t2, st t2 a1, b1⟩
  · obtain ⟨k1, k2, k3⟩ := vx_keep h0 e1 hS hAX hf hL hF
    obtain ⟨t2, a1, b1⟩ := kx E ce q u t T'.heap (locs ++ L) e1.symm (by rw [← e2]; exact X'.warmed.alike) hp hb k1 k2 k3 (by rw [e1]; exact hce) hcv hcl T' rfl X'
    exact ⟨t2, st.trans a1, b1⟩
theorem vx_calld {S SX : Type} {post : UInt64 → S → Prop} {px : SX → Prop} {B : S → State → Prop} {BX : String → SX → State → Prop} {AX : Nat → Prop} (hr : vx_Run p l e R s m args below meth c H locs cells slots mc ms (F0 m pc ls st0) rest (va_Qd post B A1 a) (vx_X px BX AX) free) (hS : va_S A0 H0 H locs) (hA : ∀ q, q < H.size → A1 q → A0 q) (hf : ∀ q, free q → A0 q) (hAX : ∀ q, q < H.size → AX q → A0 q)
    (kx : ∀ (E : String) (ce : Cell) (q9 : Addr) (u : SX) (t : State) (H1 : Heap) (locs1 : List Loc), t.heap = H1 → s.vm.Alike t.vm → px u → BX E u t → H.size ≤ H1.size → (∀ q : Nat, q < H.size → ¬ AX q → H1[q]? = H[q]?) → va_S A0 H0 H1 locs1 → H1[q9]? = some ce → ce.vm = .none → s.vm.findClass E = some ce.cls → vx_W p l e R s m args below meth c H1 locs1 (cells + mc) (slots + ms) Q (F0 m pc ls rest) q9)
    (kk : ∀ (r : UInt64) (u : S) (t : State) (H1 : Heap) (locs1 : List Loc), t.heap = H1 → s.vm.Alike t.vm → post r u → B u t → H.size ≤ H1.size → (∀ q : Nat, q < H.size → ¬ A1 q → H1[q]? = H[q]?) → va_S A0 H0 H1 locs1 → W p l e R s m args below meth c H1 locs1 (cells + mc) (slots + ms) Q (F0 m (pc + 3) ls (.double r :: rest))) : W p l e R s m args below meth c H locs cells slots Q (F0 m pc ls st0) := by
  intro T hT X
  rcases hr T hT X with ⟨v, st₀, t, T', L, h0, X', hL, e1, e2, ⟨⟨r, u, hv, hp, hb⟩, hF⟩, st⟩ | ⟨q, st₀, t, T', L, E, ce, h0, X', hL, e1, e2, ⟨u, hp, hb, hF⟩, hce, hcv, hcl, st⟩
  · cases hv
    obtain ⟨k1, k2, k3⟩ := vx_keep h0 e1 hS hA hf hL hF
    obtain ⟨t2, a1, b1⟩ := kk r u t T'.heap (locs ++ L) e1.symm (by rw [← e2]; exact X'.warmed.alike) hp hb k1 k2 k3 T' rfl X'
    exact ⟨t2, st t2 a1, b1⟩
  · obtain ⟨k1, k2, k3⟩ := vx_keep h0 e1 hS hAX hf hL hF
    obtain ⟨t2, a1, b1⟩ := kx E ce q u t T'.heap (locs ++ L) e1.symm (by rw [← e2]; exact X'.warmed.alike) hp hb k1 k2 k3 (by rw [e1]; exact hce) hcv hcl T' rfl X'
    exact ⟨t2, st.trans a1, b1⟩
theorem vx_callv {S SX : Type} {post : S → Prop} {px : SX → Prop} {B : S → State → Prop} {BX : String → SX → State → Prop} {AX : Nat → Prop} (hr : vx_Run p l e R s m args below meth c H locs cells slots mc ms (F0 m pc ls st0) rest (va_Qv post B A1 a) (vx_X px BX AX) free) (hS : va_S A0 H0 H locs) (hA : ∀ q, q < H.size → A1 q → A0 q) (hf : ∀ q, free q → A0 q) (hAX : ∀ q, q < H.size → AX q → A0 q)
    (kx : ∀ (E : String) (ce : Cell) (q9 : Addr) (u : SX) (t : State) (H1 : Heap) (locs1 : List Loc), t.heap = H1 → s.vm.Alike t.vm → px u → BX E u t → H.size ≤ H1.size → (∀ q : Nat, q < H.size → ¬ AX q → H1[q]? = H[q]?) → va_S A0 H0 H1 locs1 → H1[q9]? = some ce → ce.vm = .none → s.vm.findClass E = some ce.cls → vx_W p l e R s m args below meth c H1 locs1 (cells + mc) (slots + ms) Q (F0 m pc ls rest) q9)
    (kk : ∀ (u : S) (t : State) (H1 : Heap) (locs1 : List Loc), t.heap = H1 → s.vm.Alike t.vm → post u → B u t → H.size ≤ H1.size → (∀ q : Nat, q < H.size → ¬ A1 q → H1[q]? = H[q]?) → va_S A0 H0 H1 locs1 → W p l e R s m args below meth c H1 locs1 (cells + mc) (slots + ms) Q (F0 m (pc + 3) ls (rest))) : W p l e R s m args below meth c H locs cells slots Q (F0 m pc ls st0) := by
  intro T hT X
  rcases hr T hT X with ⟨v, st₀, t, T', L, h0, X', hL, e1, e2, ⟨⟨u, hv, hp, hb⟩, hF⟩, st⟩ | ⟨q, st₀, t, T', L, E, ce, h0, X', hL, e1, e2, ⟨u, hp, hb, hF⟩, hce, hcv, hcl, st⟩
  · cases hv
    obtain ⟨k1, k2, k3⟩ := vx_keep h0 e1 hS hA hf hL hF
    obtain ⟨t2, a1, b1⟩ := kk u t T'.heap (locs ++ L) e1.symm (by rw [← e2]; exact X'.warmed.alike) hp hb k1 k2 k3 T' rfl X'
    exact ⟨t2, st t2 a1, b1⟩
  · obtain ⟨k1, k2, k3⟩ := vx_keep h0 e1 hS hAX hf hL hF
    obtain ⟨t2, a1, b1⟩ := kx E ce q u t T'.heap (locs ++ L) e1.symm (by rw [← e2]; exact X'.warmed.alike) hp hb k1 k2 k3 (by rw [e1]; exact hce) hcv hcl T' rfl X'
    exact ⟨t2, st.trans a1, b1⟩
/-- caught by the row x of this method's table; the rows ahead don't take it -/
theorem vx_catch {own name : String} {E : String} {ce : Cell} {q : Addr} (hown : s.vm.findClass own = some m.cls) (pre : List ExceptionTableEntry) (x : ExceptionTableEntry) (suf : List ExceptionTableEntry) (hsplit : c.exceptionTable.toList = pre ++ x :: suf)
    (hpass : ∀ z ∈ pre, covers z pc = false ∨ (z.catchType ≠ 0 ∧ ∃ nm : String, (Cond.classLink own z.catchType nm).before args s = true ∧ va_Nc E nm s)) (hx : covers x pc = true) (h0 : x.catchType ≠ 0)
    (hlink : (Cond.classLink own x.catchType name).before args s = true) (hcast : (Cond.castable E name).before args s = true) (hcell : H[q]? = some ce) (hv : ce.vm = .none) (hcl : s.vm.findClass E = some ce.cls)
    (kk : W p l e R s m args below meth c H locs cells slots Q (F0 m x.handlerPc ls [.ref q])) : vx_W p l e R s m args below meth c H locs cells slots Q (F0 m pc ls rest) q := by
  intro T hT X
  have hpl : e.platform.magicAccessors = ({} : Platform).magicAccessors := by rw [X.admits.platform]
  obtain ⟨c3, c4, hc3, hc4, hasg⟩ := Cond.castable_spec hcast
  cases Option.some.inj (hc3.symm.trans hcl)
  obtain ⟨c5, hc5, hcl5⟩ := Cond.classLink_spec hown hlink e.platform hpl
  cases Option.some.inj (hc4.symm.trans hc5)
  obtain ⟨vm', X', st⟩ := X.thenCaughtThrough q (g := F0 m pc ls rest) rfl (Steps.refl _) (by rw [hT]; exact hcell) (by rw [hv]; rfl) (by obtain ⟨k9, h9, -⟩ := Vm.findClass_spec hcl; exact ⟨k9, h9⟩) pre x suf hsplit
    (fun z hz => by
      rcases hpass z hz with h | ⟨hz0, nm, hl1, hn1⟩
      · exact Or.inl h
      · obtain ⟨c6, hc6, hcl6⟩ := Cond.classLink_spec hown hl1 e.platform hpl
        obtain ⟨a8, b8, h1, h2, h3⟩ := hn1
        cases Option.some.inj (h1.symm.trans hcl)
        cases Option.some.inj (h2.symm.trans hc6)
        exact Or.inr ⟨hz0, _, hcl6, h3⟩) hx (Or.inr ⟨h0, c4, hcl5, hasg⟩)
  obtain ⟨t, a1, b1⟩ := kk (T.setVm vm') hT X'
  exact ⟨t, st.trans a1, b1⟩
end Rows
section Ends
variable {p : Program} {l : Launch} {e : Env} {R : Room} {s : State} {m : MethodId} {args : Array Value} {below : List Frame} {meth : Method} {c : Code} {H : Heap} {locs : List Loc} {cells slots : Nat} {Q : State → Prop}
variable {mc ms : Nat} {free : Addr → Prop} {A0 A1 : Nat → Prop} {H0 : Heap} {a : Array Value} {ls : Array Slot} {st0 rest : List Value}
variable {Qc : Array Value → State → Outcome → State → Prop} {XC : String → State → State → Prop}
/-- what a body that may throw owes at its end -/
def vx_MQ (below : List Frame) (Qc : Array Value → State → Outcome → State → Prop) (XC : String → State → State → Prop) (a : Array Value) (s : State) (mc ms : Nat) (free : Addr → Prop) : State → Prop := fun t =>
  ∃ o, t.status = .running ∧ Ended t below o ∧ vx_Q Qc XC mc ms free a s o t
theorem vx_ret {g : JFrame} {mc ms : Nat} (k : W p l e R s m args below meth c H locs cells slots (MQ below Qc args s mc ms free) g) : W p l e R s m args below meth c H locs cells slots (vx_MQ below Qc XC args s mc ms free) g := by
  intro T hT X
  obtain ⟨t, a1, o, b1, b2, b3, b4⟩ := k T hT X
  exact ⟨t, a1, o, b1, b2, Or.inl ⟨b3, b4⟩⟩
/-- not caught here: it goes on to the caller -/
theorem vx_widen {g : JFrame} {q : Addr} {k n : Nat} (h1 : cells ≤ k) (h2 : slots ≤ n) (kk : vx_W p l e R s m args below meth c H locs k n Q g q) : vx_W p l e R s m args below meth c H locs cells slots Q g q := fun T hT X => kk T hT (stand_widen X h1 h2)
theorem vx_out {pc : Nat} {E : String} {ce : Cell} {q : Addr} {mc ms : Nat} (hout : ∀ x ∈ c.exceptionTable.toList, covers x pc = false) (hlocks : meth.locks = false) (hcell : H[q]? = some ce) (hv : ce.vm = .none) (hcl : s.vm.findClass E = some ce.cls)
    (hx : ∀ t : State, t.heap = H → s.vm.Alike t.vm → XC E s t) (hf : ∀ z ∈ locs, free z.base) (hc : cells ≤ mc) (hs : slots ≤ ms) :
    vx_W p l e R s m args below meth c H locs cells slots (vx_MQ below Qc XC args s mc ms free) (F0 m pc ls rest) q := by
  intro T hT X
  obtain ⟨st1, hrun, hend, hW, hsm⟩ := X.leaveThrown q (g := F0 m pc ls rest) rfl rfl rfl hout hlocks
  have hcell9 : (T.setFrames (.throwing q :: below)).heap[q]? = some ce := by
    show T.heap[q]? = some ce
    rw [hT]; exact hcell
  exact ⟨_, st1, .threw q, hrun, hend, Or.inr ⟨q, rfl, E, ce, locs, hx _ hT hW.alike, hcell9, hv, hcl, hW, hsm.mono hc hs, hf⟩⟩
theorem vx_frame {U : State} {k n : Nat} (h : s.sameButNew ({ U with vm := s.vm } : State) locs k n) : s.heap.size ≤ U.heap.size ∧ ∀ q : Nat, q < s.heap.size → (∀ z ∈ locs, z.base ≠ q) → U.heap[q]? = s.heap[q]? := by
  obtain ⟨-, h2, -, -, -, h6⟩ := h
  refine ⟨h2, fun q hq hz => ?_⟩
  obtain ⟨c9, e1, e2, e3, e4⟩ := h6 q _ (Array.getElem?_eq_getElem hq)
  have hs : c9.slots = (s.heap[q]).slots := Array.ext_getElem? fun i => e4 i fun hm => hz _ hm rfl
  have h9 : c9 = s.heap[q] := by
    rw [hs] at e2
    exact e2
  have e5 : U.heap[q]? = some c9 := e1
  rw [e5, h9, Array.getElem?_eq_getElem hq]
/-- the words of a throw but the four that speak of the heap -/
def vx_no (w : Cond) : Bool := decide (w ≠ .isRef (.static Bundle.tN "UNASSIGNED_STACK" Bundle.steD)) && decide (w ≠ .isRef (.static Bundle.tN "SUPPRESSED_SENTINEL" Bundle.listD)) && decide (w ≠ .laysStatic Bundle.tN "UNASSIGNED_STACK" Bundle.steD) && decide (w ≠ .laysStatic Bundle.tN "SUPPRESSED_SENTINEL" Bundle.listD)
def vx_at0 (own : String) (ic : Nat) (X : String) (names : List String) : List Cond := (Bundle.ownAtoms0 own ic X names).filter vx_no
def vx_atS (own : String) (ic : Nat) (X : String) (names : List String) : List Cond := (Bundle.ownAtoms own ic X names).filter vx_no
/-- a word that the tables alone decide, or a good one -/
def vx_ot (w : Cond) : Bool := w.onTables || goodWord w
theorem vx_ot_at {args a' : Array Value} {s U : State} {w : Cond} (hW : s.WarmedH U.vm) (hvm : s.vm = U.vm) (hg : vx_ot w = true) (h : w.before args s = true) : w.before a' U = true := by
  simp only [vx_ot, Bool.or_eq_true] at hg
  rcases hg with hg | hg
  · exact va_tabs hg hvm h
  · exact word_at hW (good_of_word hg) h
/-- a list's words: the good ones out of the method's own list, the others by premises of their own -/
theorem vx_hat {args : Array Value} {s : State} {L B : List Cond} (h1 : ∀ w ∈ L.filter goodWord, w.before args s = true) (h2 : ∀ w ∈ L.filter (fun w => !goodWord w), w ∈ B) (h3 : ∀ w ∈ B, w.before args s = true) : ∀ w ∈ L, w.before args s = true := by
  intro w hw
  by_cases g : goodWord w = true
  · exact h1 w (List.mem_filter.mpr ⟨hw, g⟩)
  · refine h3 w (h2 w (List.mem_filter.mpr ⟨hw, ?_⟩))
    show (!goodWord w) = true
    cases hgw : goodWord w
    · rfl
    · exact absurd hgw g
theorem vx_c {args : Array Value} {s : State} {w : Cond} {B : List Cond} (h : w.before args s = true) (t : ∀ w ∈ B, w.before args s = true) : ∀ w' ∈ w :: B, w'.before args s = true := fun w' h' => (List.mem_cons.mp h').elim (fun e => by rw [e]; exact h) (t w')
theorem vx_n {args : Array Value} {s : State} : ∀ w ∈ ([] : List Cond), w.before args s = true := fun _ h => nomatch h
theorem vx_own {args : Array Value} {s : State} {L : List Cond} (h1 : ∀ w ∈ L.filter vx_no, w.before args s = true)
    (hU : (Cond.isRef (.static Bundle.tN "UNASSIGNED_STACK" Bundle.steD)).before args s = true) (hN : (Cond.isRef (.static Bundle.tN "SUPPRESSED_SENTINEL" Bundle.listD)).before args s = true)
    (lU : (Cond.laysStatic Bundle.tN "UNASSIGNED_STACK" Bundle.steD).before args s = true) (lN : (Cond.laysStatic Bundle.tN "SUPPRESSED_SENTINEL" Bundle.listD).before args s = true) : ∀ w ∈ L, w.before args s = true := by
  intro w hw
  by_cases e1 : w = .isRef (.static Bundle.tN "UNASSIGNED_STACK" Bundle.steD)
  · rw [e1]; exact hU
  · by_cases e2 : w = .isRef (.static Bundle.tN "SUPPRESSED_SENTINEL" Bundle.listD)
    · rw [e2]; exact hN
    · by_cases e3 : w = .laysStatic Bundle.tN "UNASSIGNED_STACK" Bundle.steD
      · rw [e3]; exact lU
      · by_cases e4 : w = .laysStatic Bundle.tN "SUPPRESSED_SENTINEL" Bundle.listD
        · rw [e4]; exact lN
        · exact h1 w (List.mem_filter.mpr ⟨hw, by unfold vx_no; rw [decide_eq_true e1, decide_eq_true e2, decide_eq_true e3, decide_eq_true e4]; rfl⟩)
/-- where a static field lies, its class's statics cell in H -/
def vx_L (C n d : String) (A : Nat → Prop) (U : State) (H : Heap) : Prop := ∃ (c : ClassId) (k : Class) (i : Nat) (f : Field) (a : Nat) (cell : Cell), U.vm.findClass C = some c ∧ U.fieldFound? C n d = some (c, k, i, f) ∧ f.isStatic = true ∧ k.statics = some a ∧ H[a]? = some cell ∧ cell.vm.isStatics = true ∧ cell.cls = c ∧ f.slot < cell.slots.size ∧ k.staticTypes[f.slot]? = some f.type ∧ ¬ A a
theorem vx_L.moved {C n d : String} {A : Nat → Prop} {u U : State} {H : Heap} (hvm : u.vm.Alike U.vm) (h : vx_L C n d A u H) : vx_L C n d A U H := by
  obtain ⟨c, k, i, f, a, cell, h1, h2, h3, h4, h5, h6, h7, h8, h9, h10⟩ := h
  obtain ⟨k', hi', he⟩ := State.fieldFound?_setVm hvm h2
  exact ⟨c, k', i, f, a, cell, by rw [hvm.findClass]; exact h1, hi', h3, by rw [he]; exact h4, h5, h6, h7, h8, by rw [he]; exact h9, h10⟩
theorem vx_L.kept {C n d : String} {A : Nat → Prop} {U : State} {H H1 : Heap} (h : vx_L C n d A U H) (hq : ∀ a : Nat, a < H.size → ¬ A a → H1[a]? = H[a]?) : vx_L C n d A U H1 := by
  obtain ⟨c, k, i, f, a, cell, h1, h2, h3, h4, h5, h6, h7, h8, h9, h10⟩ := h
  exact ⟨c, k, i, f, a, cell, h1, h2, h3, h4, by rw [hq a (Array.getElem?_eq_some_iff.mp h5).1 h10]; exact h5, h6, h7, h8, h9, h10⟩
theorem vx_L.narrow {C n d : String} {A B : Nat → Prop} {U : State} {H : Heap} (h : vx_L C n d A U H) (hAB : ∀ q, B q → A q) : vx_L C n d B U H := by
  obtain ⟨c, k, i, f, a, cell, h1, h2, h3, h4, h5, h6, h7, h8, h9, h10⟩ := h
  exact ⟨c, k, i, f, a, cell, h1, h2, h3, h4, h5, h6, h7, h8, h9, fun z => h10 (hAB _ z)⟩
theorem vx_L.word {C n d : String} {A : Nat → Prop} {s : State} {args : Array Value} (h : vx_L C n d A s s.heap) : (Cond.laysStatic C n d).before args s = true := by
  obtain ⟨c, k, i, f, a, cell, h1, h2, h3, h4, h5, h6, h7, h8, h9, -⟩ := h
  show (Cond.laysStatic C n d).holds args s none s [] = true
  exact Cond.laysStatic_of h1 h2 h3 h4 h5 h6 h7 h8 h9
/-- .. and what it holds: null or some reference -/
def vx_Zq (C n d : String) (A : Nat → Prop) (U : State) (H : Heap) : Prop := va_Zq C n d A U H ∧ vx_L C n d A U H
theorem vx_Zq.moved {C n d : String} {A : Nat → Prop} {u U : State} {H : Heap} (hvm : u.vm.Alike U.vm) (h : vx_Zq C n d A u H) : vx_Zq C n d A U H := ⟨va_Zq.moved hvm h.1, vx_L.moved hvm h.2⟩
theorem vx_Zq.kept {C n d : String} {A : Nat → Prop} {U : State} {H H1 : Heap} (h : vx_Zq C n d A U H) (hq : ∀ a : Nat, a < H.size → ¬ A a → H1[a]? = H[a]?) : vx_Zq C n d A U H1 := ⟨va_Zq.kept h.1 hq, vx_L.kept h.2 hq⟩
theorem vx_Zq.narrow {C n d : String} {A B : Nat → Prop} {U : State} {H : Heap} (h : vx_Zq C n d A U H) (hAB : ∀ q, B q → A q) : vx_Zq C n d B U H := ⟨va_Zq.narrow h.1 hAB, vx_L.narrow h.2 hAB⟩
theorem vx_Zqof {args : Array Value} {s : State} {C n d : String} {A : Nat → Prop} (hl : (Cond.laysStatic C n d).before args s = true) (hini : (Cond.initialized C).before args s = true) (h : (Cond.isRef (.static C n d)).before args s = true) (hA : ∀ a : Nat, a < s.heap.size → ¬ A a) : vx_Zq C n d A s s.heap := by
  refine ⟨va_Zqof hl hini h hA, ?_⟩
  obtain ⟨c, k, i, f, a, cell, h1, h2, h3, h4, h5, h6, h7, h8, h9⟩ := Cond.laysStatic_spec hl
  exact ⟨c, k, i, f, a, cell, h1, h2, h3, h4, h5, h6, h7, h8, h9, hA a (Array.getElem?_eq_some_iff.mp h5).1⟩
theorem vx_isRef {C n d : String} {v : Value} {A : Nat → Prop} {s : State} {args : Array Value} (h : va_Z C n d v A s s.heap) (hv : v.isRef = true) : (Cond.isRef (.static C n d)).before args s = true := by
  obtain ⟨cf, kf, fi, f, a, cell, h1, h2, h3, h4, h5, h6, h7, -⟩ := h
  have he : (Term.static C n d).eval args s none [] s = some v := by
    simp [Term.eval, State.fieldNamed?, h1, h2, h4, h5, h6, h7]
  simp only [Cond.before, Cond.holds, Cond.value, he]
  cases v <;> simp_all [Value.isRef]
theorem vx_isRefq {C n d : String} {A : Nat → Prop} {s : State} {args : Array Value} (h : va_Zq C n d A s s.heap) : (Cond.isRef (.static C n d)).before args s = true := by
  rcases h with h | ⟨t, h⟩
  · exact vx_isRef h rfl
  · exact vx_isRef h rfl
/-- the same frame, seen from here: as if the method were called anew in this heap -/
theorem vx_rebase {T : State} (X : Stand p l e R s m args below meth c T locs cells slots) {R' : Room} (hf : R'.frames ≤ R.frames) (hl : R'.locals ≤ R.locals) (hc : cells + R'.cells ≤ R.cells) (hs : slots + R'.slots ≤ R.slots) :
    Stand p l e R' ((T.setVm s.vm).setFrames (.invoking m args :: below)) m args below meth c T [] 0 0 := by
  have htop : (T.setVm s.vm).topJava?.isSome := X.here.top
  have hF : ((T.setVm s.vm).setFrames (.invoking m args :: below)).frames = .invoking m args :: below := State.frames_setFrames _ (State.cur_lt_of_top htop)
  obtain ⟨g₀, hg0⟩ := Option.isSome_iff_exists.mp htop
  obtain ⟨r, hr⟩ := State.topJava?_eq_some.mp hg0
  have hl9 : e.platform.stackLimits (T.setVm s.vm).me = e.platform.stackLimits s.me := X.limits
  have hb9 : (T.setVm s.vm).me.stackBytes = s.me.stackBytes := X.bytes
  refine ⟨X.admits, X.cas, X.clock, hF, ?_, X.hears, X.method, X.code, X.here, X.tail, X.warmed, ?_, ?_, ?_⟩
  · have h := X.room
    have hU : ((T.setVm s.vm).setFrames (.invoking m args :: below)).localsInUse = s.localsInUse := by
      rw [State.localsInUse_invoking hF (meth := meth) (c := c) X.method X.code, State.localsInUse_invoking X.frames X.method X.code]
    simp only [State.hasRoom, Bool.and_eq_true, decide_eq_true_eq] at h ⊢
    obtain ⟨⟨⟨⟨h1, h2, h3, h4, h5, h6⟩, h7⟩, h8⟩, h9⟩ := h
    rw [X.frames, List.length_cons] at h2 h3
    have q1 := X.heapSize
    have q2 := X.used
    simp only [hF, hU, List.length_cons, State.stackLimits_setFrames, State.stackBytes_setFrames, hl9, hb9]
    refine ⟨⟨⟨⟨by omega, by omega, by omega, by omega, by omega, h6⟩, ?_⟩, ?_⟩, X.book⟩
    · show T.heap.size + R'.cells ≤ e.platform.maxCells
      omega
    · show T.slotsUsed + R'.slots ≤ e.platform.maxSlots
      omega
  · rw [State.stackLimits_setFrames]; rfl
  · rw [State.stackBytes_setFrames]; rfl
  · refine ⟨?_, Nat.le_refl _, Nat.le_refl _, ?_, ?_, fun a c9 h9 => ⟨c9, h9, rfl, rfl, fun _ _ => rfl⟩⟩
    · obtain ⟨t, ht, -⟩ := State.frames_cons hr
      show T.setVm s.vm = { ((T.setVm s.vm).setFrames (.invoking m args :: below)).setFrames (T.setVm s.vm).frames with heap := T.heap, slotsUsed := T.slotsUsed }
      rw [State.setFrames_setFrames, State.setFrames_self ht]
      rfl
    · show T.slotsUsed = T.slotsUsed + ((T.heap.toList.drop T.heap.size).map (·.slots.size)).sum
      rw [List.drop_eq_nil_of_le (Nat.le_of_eq Array.length_toList)]
      rfl
    · show ((T.heap.toList.drop T.heap.size).map (·.slots.size)).sum ≤ 0
      rw [List.drop_eq_nil_of_le (Nat.le_of_eq Array.length_toList)]
      exact Nat.le_refl _
/-- 'throw new E()': new; dup; invokespecial; athrow -/
theorem vx_throw0 {cc : ByteArray} {pc : Nat} (hexec : p.tables.exec = Jvm.exec) (hb : c.code = cc) (hl : l.stackTraces = false) {own cls : String} {names : List String} {ik ic mc ms : Nat} {A : Nat → Prop}
    (hown : s.vm.findClass own = some m.cls) (hcls : Bundle.fit cls = true) (hnames : ∀ n ∈ names, Bundle.fit n = true)
    (hk : (Cond.classLink own ik cls).before args s = true) (hini : (Cond.initialized cls).before args s = true) (hat : ∀ w ∈ vx_at0 own ic cls names, w.before args s = true)
    (hgood : ∀ w ∈ Cond.classLink own ik cls :: Cond.initialized cls :: vx_at0 own ic cls names, vx_ot w = true)
    (hU : vx_Zq Bundle.tN "UNASSIGNED_STACK" Bundle.steD A s s.heap) (hN : vx_Zq Bundle.tN "SUPPRESSED_SENTINEL" Bundle.listD A s s.heap) (hS : va_S A s.heap H locs) (hsize : ls.size = c.maxLocals)
    (d0 : decode cc pc = .ok (.new ik, 3)) (d3 : decode cc (pc + 3) = .ok (.dup, 1)) (d4 : decode cc (pc + 4) = .ok (.invokespecial ic, 3)) (d7 : decode cc (pc + 7) = .ok (.athrow, 1))
    (hout : ∀ x ∈ c.exceptionTable.toList, covers x (pc + 7) = false)
    (hRframes : names.length + 3 < R.frames) (hRlocals : (rest.map fun v => v.category).sum + (13 * (names.length + 1) + 42) ≤ R.locals) (hRcells : cells + 1 ≤ R.cells) (hRslots : slots + 6 ≤ R.slots) (hlocks : meth.locks = false)
    (hx : ∀ t : State, s.vm.Alike t.vm → H.size ≤ t.heap.size → (∀ q : Nat, q < H.size → t.heap[q]? = H[q]?) → XC cls s t)
    (hf : ∀ z ∈ locs, free z.base) (hc : cells + 1 ≤ mc) (hs : slots + 6 ≤ ms) :
    W p l e R s m args below meth c H locs cells slots (vx_MQ below Qc XC args s mc ms free) (F0 m pc ls rest) := by
  intro T hT X
  have htr : e.platform.stackTraces = false := (show e.platform.stackTraces = l.stackTraces by rw [X.admits.platform]).trans hl
  have Y := vx_rebase X (R' := { frames := R.frames, locals := R.locals, cells := 1, slots := 6 }) (Nat.le_refl _) (Nat.le_refl _) hRcells hRslots
  obtain ⟨s', hA⟩ : ∃ z, z = (T.setVm s.vm).setFrames (.invoking m args :: below) := ⟨_, rfl⟩
  rw [← hA] at Y
  have hvm : s'.vm = s.vm := by rw [hA]; rfl
  have hhp : s'.heap = H := by rw [hA]; exact hT
  have hW0 : s.WarmedH s'.vm := by rw [hvm]; exact State.WarmedH.refl s
  have hat' : ∀ w ∈ vx_at0 own ic cls names, w.before args s' = true := fun w hw => vx_ot_at hW0 hvm.symm (hgood w (List.mem_cons_of_mem _ (List.mem_cons_of_mem _ hw))) (hat w hw)
  have hk' : (Cond.classLink own ik cls).before args s' = true := vx_ot_at hW0 hvm.symm (hgood _ List.mem_cons_self) hk
  have hini' : (Cond.initialized cls).before args s' = true := vx_ot_at hW0 hvm.symm (hgood _ (List.mem_cons_of_mem _ List.mem_cons_self)) hini
  have hU' : vx_Zq Bundle.tN "UNASSIGNED_STACK" Bundle.steD A s' s'.heap := by rw [hhp]; exact vx_Zq.moved hW0.alike (hU.kept hS.2.1)
  have hN' : vx_Zq Bundle.tN "SUPPRESSED_SENTINEL" Bundle.listD A s' s'.heap := by rw [hhp]; exact vx_Zq.moved hW0.alike (hN.kept hS.2.1)
  have h : ∀ w ∈ Bundle.ownAtoms0 own ic cls names, w.before args s' = true := vx_own hat' (vx_isRefq hU'.1) (vx_isRefq hN'.1) hU'.2.word hN'.2.word
  have hown' : s'.vm.findClass own = some m.cls := by rw [hvm]; exact hown
  have hins : (Cond.instantiable cls 6).before args s' = true := h _ (by simp [Bundle.ownAtoms0])
  obtain ⟨vm₁, cX, kX, hfX, hkX, -, -, X₁, st1⟩ := Y.newCold hexec (own := own) (C := cls) (index := ik) (n := 6) hown' hk' hins hini'
    (g := F0 m pc ls rest) rfl (by rw [hb]; exact d0) (Nat.le_refl _) (Nat.le_refl _)
  generalize hT1 : (T.setVm vm₁).pushCell { cls := cX, slots := kX.instanceTypes.map defaultValue, vm := .none } = T1 at X₁ st1
  have hcat : (Value.ref T.heap.size).category = 1 := rfl
  have hcellA : T1.heap[T.heap.size]? = some (freshCell cX kX) := by rw [← hT1]; exact State.heap_pushCell_size _ _
  have d3' : decode c.code (pc + 3) = .ok (.dup, 1) := by rw [hb]; exact d3
  obtain ⟨U, hsteps, hrun, hend, hW, hsame, ce, hce, hO⟩ := X₁.ctorThrow0 hexec htr (own := own) (cls := cls) (names := names) (ic := ic) hown' hcls hnames h (fun x hx => nomatch hx) hfX hkX hcellA (by rw [hhp, hT]; exact Nat.le_refl _)
    (g := { method := m, pc := pc + 4, locals := ls, stack := .ref T.heap.size :: .ref T.heap.size :: rest, locked := none }) rfl hsize rfl rfl (rest := rest) rfl
    (by rw [hb]; exact d4) (by rw [hb]; exact d7) hout hRframes (by simp only [List.map_cons, List.sum_cons, hcat]; omega) hlocks
  obtain ⟨f1, f2⟩ := vx_frame hsame
  rw [hhp] at f1 f2
  have hWs : s.WarmedH U.vm := State.WarmedH.trans hW0 hW
  have hcl : s.vm.findClass cls = some ce.cls := by
    have h9 := hO.cls
    rw [hvm] at h9
    exact h9
  have hall : s.sameButNew ({ U with vm := s.vm } : State) locs mc ms := by
    subst hA
    obtain ⟨e1, e2⟩ := hsame
    rw [State.setFrames_setFrames] at e1
    have h2 : (T.setVm s.vm).sameButNew ({ U with vm := s.vm } : State) [] (0 + 1) (0 + 6) := ⟨e1, e2⟩
    have h3 := X.same.trans h2
    rw [List.append_nil] at h3
    exact h3.mono hc hs
  refine ⟨U, ?_, .threw T.heap.size, hrun, hend, Or.inr ⟨T.heap.size, rfl, cls, ce, locs, hx U hWs.alike f1 (fun q hq => f2 q hq (fun z hz => nomatch hz)), hce, hO.vm, hcl, hWs, hall, hf⟩⟩
  refine st1 _ ?_
  show Steps p.tables e below (T1.setTop { method := m, pc := pc + 3, locals := ls, stack := .ref T.heap.size :: rest, locked := none }) _
  jvm_step X₁.here [X₁.here.top, hexec, d3', Value.category]
  exact hsteps
/-- 'throw new E("text")': new; dup; ldc; invokespecial; athrow -/
theorem vx_throwS {cc : ByteArray} {pc : Nat} (hexec : p.tables.exec = Jvm.exec) (hb : c.code = cc) (hl : l.stackTraces = false) {own cls text : String} {names : List String} {ik is ic mc ms sa : Nat} {A : Nat → Prop}
    (hown : s.vm.findClass own = some m.cls) (hcls : Bundle.fit cls = true) (hnames : ∀ n ∈ names, Bundle.fit n = true)
    (hk : (Cond.classLink own ik cls).before args s = true) (hini : (Cond.initialized cls).before args s = true) (hstr : vk_R own is text sa s) (hat : ∀ w ∈ vx_atS own ic cls names, w.before args s = true)
    (hgood : ∀ w ∈ Cond.classLink own ik cls :: Cond.initialized cls :: vx_atS own ic cls names, vx_ot w = true)
    (hU : vx_Zq Bundle.tN "UNASSIGNED_STACK" Bundle.steD A s s.heap) (hN : vx_Zq Bundle.tN "SUPPRESSED_SENTINEL" Bundle.listD A s s.heap) (hS : va_S A s.heap H locs) (hsize : ls.size = c.maxLocals)
    (d0 : decode cc pc = .ok (.new ik, 3)) (d3 : decode cc (pc + 3) = .ok (.dup, 1)) (d4 : decode cc (pc + 4) = .ok (.ldc is, 2)) (d6 : decode cc (pc + 6) = .ok (.invokespecial ic, 3)) (d9 : decode cc (pc + 9) = .ok (.athrow, 1))
    (hout : ∀ x ∈ c.exceptionTable.toList, covers x (pc + 9) = false)
    (hRframes : names.length + 3 < R.frames) (hRlocals : (rest.map fun v => v.category).sum + (13 * (names.length + 1) + 43) ≤ R.locals) (hRcells : cells + 1 ≤ R.cells) (hRslots : slots + 6 ≤ R.slots) (hlocks : meth.locks = false)
    (hx : ∀ t : State, s.vm.Alike t.vm → H.size ≤ t.heap.size → (∀ q : Nat, q < H.size → t.heap[q]? = H[q]?) → XC cls s t)
    (hf : ∀ z ∈ locs, free z.base) (hc : cells + 1 ≤ mc) (hs : slots + 6 ≤ ms) :
    W p l e R s m args below meth c H locs cells slots (vx_MQ below Qc XC args s mc ms free) (F0 m pc ls rest) := by
  intro T hT X
  have htr : e.platform.stackTraces = false := (show e.platform.stackTraces = l.stackTraces by rw [X.admits.platform]).trans hl
  have Y := vx_rebase X (R' := { frames := R.frames, locals := R.locals, cells := 1, slots := 6 }) (Nat.le_refl _) (Nat.le_refl _) hRcells hRslots
  obtain ⟨s', hA⟩ : ∃ z, z = (T.setVm s.vm).setFrames (.invoking m args :: below) := ⟨_, rfl⟩
  rw [← hA] at Y
  have hvm : s'.vm = s.vm := by rw [hA]; rfl
  have hhp : s'.heap = H := by rw [hA]; exact hT
  have hW0 : s.WarmedH s'.vm := by rw [hvm]; exact State.WarmedH.refl s
  have hat' : ∀ w ∈ vx_atS own ic cls names, w.before args s' = true := fun w hw => vx_ot_at hW0 hvm.symm (hgood w (List.mem_cons_of_mem _ (List.mem_cons_of_mem _ hw))) (hat w hw)
  have hk' : (Cond.classLink own ik cls).before args s' = true := vx_ot_at hW0 hvm.symm (hgood _ List.mem_cons_self) hk
  have hini' : (Cond.initialized cls).before args s' = true := vx_ot_at hW0 hvm.symm (hgood _ (List.mem_cons_of_mem _ List.mem_cons_self)) hini
  have hU' : vx_Zq Bundle.tN "UNASSIGNED_STACK" Bundle.steD A s' s'.heap := by rw [hhp]; exact vx_Zq.moved hW0.alike (hU.kept hS.2.1)
  have hN' : vx_Zq Bundle.tN "SUPPRESSED_SENTINEL" Bundle.listD A s' s'.heap := by rw [hhp]; exact vx_Zq.moved hW0.alike (hN.kept hS.2.1)
  have h : ∀ w ∈ Bundle.ownAtoms own ic cls names, w.before args s' = true := vx_own hat' (vx_isRefq hU'.1) (vx_isRefq hN'.1) hU'.2.word hN'.2.word
  have hown' : s'.vm.findClass own = some m.cls := by rw [hvm]; exact hown
  have hins : (Cond.instantiable cls 6).before args s' = true := h _ (by simp [Bundle.ownAtoms])
  obtain ⟨vm₁, cX, kX, hfX, hkX, -, -, X₁, st1⟩ := Y.newCold hexec (own := own) (C := cls) (index := ik) (n := 6) hown' hk' hins hini'
    (g := F0 m pc ls rest) rfl (by rw [hb]; exact d0) (Nat.le_refl _) (Nat.le_refl _)
  generalize hT1 : (T.setVm vm₁).pushCell { cls := cX, slots := kX.instanceTypes.map defaultValue, vm := .none } = T1 at X₁ st1
  have hcat : (Value.ref T.heap.size).category = 1 := rfl
  have hcellA : T1.heap[T.heap.size]? = some (freshCell cX kX) := by rw [← hT1]; exact State.heap_pushCell_size _ _
  have d3' : decode c.code (pc + 3) = .ok (.dup, 1) := by rw [hb]; exact d3
  have d4' : decode c.code (pc + 4) = .ok (.ldc is, 2) := by rw [hb]; exact d4
  have hstr' : vk_R own is text sa s' := vk_R.warm hW0 hstr
  obtain ⟨U, hsteps, hrun, hend, hW, hsame, ce, hce, hO⟩ := X₁.ctorThrowS hexec htr (own := own) (cls := cls) (names := names) (ic := ic) hown' hcls hnames h (fun x hx => nomatch hx) hfX hkX hcellA (by rw [hhp, hT]; exact Nat.le_refl _) (msg := .ref sa) rfl
    (g := { method := m, pc := pc + 6, locals := ls, stack := .ref sa :: .ref T.heap.size :: .ref T.heap.size :: rest, locked := none }) rfl hsize rfl rfl (rest := rest) rfl
    (by rw [hb]; exact d6) (by rw [hb]; exact d9) hout hRframes (by simp only [List.map_cons, List.sum_cons, hcat]; omega) hlocks
  obtain ⟨f1, f2⟩ := vx_frame hsame
  rw [hhp] at f1 f2
  have hWs : s.WarmedH U.vm := State.WarmedH.trans hW0 hW
  have hcl : s.vm.findClass cls = some ce.cls := by
    have h9 := hO.cls
    rw [hvm] at h9
    exact h9
  have hall : s.sameButNew ({ U with vm := s.vm } : State) locs mc ms := by
    subst hA
    obtain ⟨e1, e2⟩ := hsame
    rw [State.setFrames_setFrames] at e1
    have h2 : (T.setVm s.vm).sameButNew ({ U with vm := s.vm } : State) [] (0 + 1) (0 + 6) := ⟨e1, e2⟩
    have h3 := X.same.trans h2
    rw [List.append_nil] at h3
    exact h3.mono hc hs
  refine ⟨U, ?_, .threw T.heap.size, hrun, hend, Or.inr ⟨T.heap.size, rfl, cls, ce, locs, hx U hWs.alike f1 (fun q hq => f2 q hq (fun z hz => nomatch hz)), hce, hO.vm, hcl, hWs, hall, hf⟩⟩
  refine st1 _ ?_
  show Steps p.tables e below (T1.setTop { method := m, pc := pc + 3, locals := ls, stack := .ref T.heap.size :: rest, locked := none }) _
  jvm_step X₁.here [X₁.here.top, hexec, d3', Value.category]
  exact X₁.ldcString hexec (own := own) (text := text) (index := is) (a := sa) hown' hstr'.1 hstr'.2
    (g := { method := m, pc := pc + 4, locals := ls, stack := .ref T.heap.size :: .ref T.heap.size :: rest, locked := none }) rfl d4' _ hsteps
/-- 'throw new E("text")', the text by a wide index -/
theorem vx_throwSW {cc : ByteArray} {pc : Nat} (hexec : p.tables.exec = Jvm.exec) (hb : c.code = cc) (hl : l.stackTraces = false) {own cls text : String} {names : List String} {ik is ic mc ms sa : Nat} {A : Nat → Prop}
    (hown : s.vm.findClass own = some m.cls) (hcls : Bundle.fit cls = true) (hnames : ∀ n ∈ names, Bundle.fit n = true)
    (hk : (Cond.classLink own ik cls).before args s = true) (hini : (Cond.initialized cls).before args s = true) (hstr : vk_R own is text sa s) (hat : ∀ w ∈ vx_atS own ic cls names, w.before args s = true)
    (hgood : ∀ w ∈ Cond.classLink own ik cls :: Cond.initialized cls :: vx_atS own ic cls names, vx_ot w = true)
    (hU : vx_Zq Bundle.tN "UNASSIGNED_STACK" Bundle.steD A s s.heap) (hN : vx_Zq Bundle.tN "SUPPRESSED_SENTINEL" Bundle.listD A s s.heap) (hS : va_S A s.heap H locs) (hsize : ls.size = c.maxLocals)
    (d0 : decode cc pc = .ok (.new ik, 3)) (d3 : decode cc (pc + 3) = .ok (.dup, 1)) (d4 : decode cc (pc + 4) = .ok (.ldc_w is, 3)) (d7 : decode cc (pc + 7) = .ok (.invokespecial ic, 3)) (d10 : decode cc (pc + 10) = .ok (.athrow, 1))
    (hout : ∀ x ∈ c.exceptionTable.toList, covers x (pc + 10) = false)
    (hRframes : names.length + 3 < R.frames) (hRlocals : (rest.map fun v => v.category).sum + (13 * (names.length + 1) + 43) ≤ R.locals) (hRcells : cells + 1 ≤ R.cells) (hRslots : slots + 6 ≤ R.slots) (hlocks : meth.locks = false)
    (hx : ∀ t : State, s.vm.Alike t.vm → H.size ≤ t.heap.size → (∀ q : Nat, q < H.size → t.heap[q]? = H[q]?) → XC cls s t)
    (hf : ∀ z ∈ locs, free z.base) (hc : cells + 1 ≤ mc) (hs : slots + 6 ≤ ms) :
    W p l e R s m args below meth c H locs cells slots (vx_MQ below Qc XC args s mc ms free) (F0 m pc ls rest) := by
  intro T hT X
  have htr : e.platform.stackTraces = false := (show e.platform.stackTraces = l.stackTraces by rw [X.admits.platform]).trans hl
  have Y := vx_rebase X (R' := { frames := R.frames, locals := R.locals, cells := 1, slots := 6 }) (Nat.le_refl _) (Nat.le_refl _) hRcells hRslots
  obtain ⟨s', hA⟩ : ∃ z, z = (T.setVm s.vm).setFrames (.invoking m args :: below) := ⟨_, rfl⟩
  rw [← hA] at Y
  have hvm : s'.vm = s.vm := by rw [hA]; rfl
  have hhp : s'.heap = H := by rw [hA]; exact hT
  have hW0 : s.WarmedH s'.vm := by rw [hvm]; exact State.WarmedH.refl s
  have hat' : ∀ w ∈ vx_atS own ic cls names, w.before args s' = true := fun w hw => vx_ot_at hW0 hvm.symm (hgood w (List.mem_cons_of_mem _ (List.mem_cons_of_mem _ hw))) (hat w hw)
  have hk' : (Cond.classLink own ik cls).before args s' = true := vx_ot_at hW0 hvm.symm (hgood _ List.mem_cons_self) hk
  have hini' : (Cond.initialized cls).before args s' = true := vx_ot_at hW0 hvm.symm (hgood _ (List.mem_cons_of_mem _ List.mem_cons_self)) hini
  have hU' : vx_Zq Bundle.tN "UNASSIGNED_STACK" Bundle.steD A s' s'.heap := by rw [hhp]; exact vx_Zq.moved hW0.alike (hU.kept hS.2.1)
  have hN' : vx_Zq Bundle.tN "SUPPRESSED_SENTINEL" Bundle.listD A s' s'.heap := by rw [hhp]; exact vx_Zq.moved hW0.alike (hN.kept hS.2.1)
  have h : ∀ w ∈ Bundle.ownAtoms own ic cls names, w.before args s' = true := vx_own hat' (vx_isRefq hU'.1) (vx_isRefq hN'.1) hU'.2.word hN'.2.word
  have hown' : s'.vm.findClass own = some m.cls := by rw [hvm]; exact hown
  have hins : (Cond.instantiable cls 6).before args s' = true := h _ (by simp [Bundle.ownAtoms])
  obtain ⟨vm₁, cX, kX, hfX, hkX, -, -, X₁, st1⟩ := Y.newCold hexec (own := own) (C := cls) (index := ik) (n := 6) hown' hk' hins hini'
    (g := F0 m pc ls rest) rfl (by rw [hb]; exact d0) (Nat.le_refl _) (Nat.le_refl _)
  generalize hT1 : (T.setVm vm₁).pushCell { cls := cX, slots := kX.instanceTypes.map defaultValue, vm := .none } = T1 at X₁ st1
  have hcat : (Value.ref T.heap.size).category = 1 := rfl
  have hcellA : T1.heap[T.heap.size]? = some (freshCell cX kX) := by rw [← hT1]; exact State.heap_pushCell_size _ _
  have d3' : decode c.code (pc + 3) = .ok (.dup, 1) := by rw [hb]; exact d3
  have d4' : decode c.code (pc + 4) = .ok (.ldc_w is, 3) := by rw [hb]; exact d4
  have hstr' : vk_R own is text sa s' := vk_R.warm hW0 hstr
  obtain ⟨U, hsteps, hrun, hend, hW, hsame, ce, hce, hO⟩ := X₁.ctorThrowS hexec htr (own := own) (cls := cls) (names := names) (ic := ic) hown' hcls hnames h (fun x hx => nomatch hx) hfX hkX hcellA (by rw [hhp, hT]; exact Nat.le_refl _) (msg := .ref sa) rfl
    (g := { method := m, pc := pc + 7, locals := ls, stack := .ref sa :: .ref T.heap.size :: .ref T.heap.size :: rest, locked := none }) rfl hsize rfl rfl (rest := rest) rfl
    (by rw [hb]; exact d7) (by rw [hb]; exact d10) hout hRframes (by simp only [List.map_cons, List.sum_cons, hcat]; omega) hlocks
  obtain ⟨f1, f2⟩ := vx_frame hsame
  rw [hhp] at f1 f2
  have hWs : s.WarmedH U.vm := State.WarmedH.trans hW0 hW
  have hcl : s.vm.findClass cls = some ce.cls := by
    have h9 := hO.cls
    rw [hvm] at h9
    exact h9
  have hall : s.sameButNew ({ U with vm := s.vm } : State) locs mc ms := by
    subst hA
    obtain ⟨e1, e2⟩ := hsame
    rw [State.setFrames_setFrames] at e1
    have h2 : (T.setVm s.vm).sameButNew ({ U with vm := s.vm } : State) [] (0 + 1) (0 + 6) := ⟨e1, e2⟩
    have h3 := X.same.trans h2
    rw [List.append_nil] at h3
    exact h3.mono hc hs
  refine ⟨U, ?_, .threw T.heap.size, hrun, hend, Or.inr ⟨T.heap.size, rfl, cls, ce, locs, hx U hWs.alike f1 (fun q hq => f2 q hq (fun z hz => nomatch hz)), hce, hO.vm, hcl, hWs, hall, hf⟩⟩
  refine st1 _ ?_
  show Steps p.tables e below (T1.setTop { method := m, pc := pc + 3, locals := ls, stack := .ref T.heap.size :: rest, locked := none }) _
  jvm_step X₁.here [X₁.here.top, hexec, d3', Value.category]
  exact X₁.ldcStringW hexec (own := own) (text := text) (index := is) (a := sa) hown' hstr'.1 hstr'.2
    (g := { method := m, pc := pc + 4, locals := ls, stack := .ref T.heap.size :: .ref T.heap.size :: rest, locked := none }) rfl d4' _ hsteps
end Ends
section Bodies
variable {l : Launch}
theorem vx_ofW {y : MethodName} {ws ws' : List Cond} {rm : Room} {Pc : Array Value → State → Prop} {Qc : Array Value → State → Outcome → State → Prop} {XC : String → State → State → Prop} {mc ms : Nat} {free : Addr → Prop} {cc : ByteArray} {maxL : Nat} {ret : Option FieldType}
    (hy : plainName y.cls = true) (hw : ws = Cond.code y cc maxL ret :: ws')
    (body : ∀ p e s m args below meth c s₁, BodyLoose p l y (headSpec ws rm) cc maxL ret e s m args below meth c s₁ → c.maxLocals = maxL → (∀ x ∈ c.exceptionTable.toList, False) → Pc args s →
      W p l e (headSpec ws rm).room s m args below meth c s.heap [] 0 0 (vx_MQ below Qc XC args s mc ms free) (entryFrame m args maxL)) : vx_Met l y ws rm Pc Qc XC mc ms free := by
  refine MetFree.of_bodyS (code := cc) (maxLocals := maxL) (ret := ret) hy ?_ ?_
  · intro args s m h hn
    obtain ⟨meth, c, h1, h2, h3, h4, h5, h6, -, -⟩ := Cond.code_spec hn (atoms_spec (ws := ws) h _ (by rw [hw]; exact List.mem_cons_self))
    exact ⟨meth, c, h1, h2, h3, h4, h5, h6⟩
  · intro p e s m args below meth c s₁ B hml hP _
    have hh0 : s₁.heap = s.heap := by rw [B.state]; rfl
    have ht : ∀ x ∈ c.exceptionTable.toList, False := by
      obtain ⟨meth9, c9, h1, h2, -, -, -, -, h7, -⟩ := Cond.code_spec B.named (atoms_spec (ws := ws) B.pre _ (by rw [hw]; exact List.mem_cons_self))
      cases Option.some.inj (h1.symm.trans B.method)
      cases Option.some.inj (h2.symm.trans (Stand.of_body B).code)
      intro x hx
      rw [Array.isEmpty_iff.mp h7] at hx
      cases hx
    obtain ⟨t, a1, o, b1, b2, b3⟩ := body p e s m args below meth c s₁ B hml ht hP s₁ hh0 (Stand.of_body B)
    exact ⟨t, o, a1, b1, b2, b3⟩
/-- the table of a body with handlers -/
theorem vx_table {p : Program} {x y : MethodName} {S : Spec} {cc bytes : ByteArray} {maxL maxL' : Nat} {ret ret' : Option FieldType} {e : Env} {s s₁ : State} {m : MethodId} {args : Array Value} {below : List Frame} {meth : Method} {c : Code} {hh : List (Nat × Nat × Nat × Nat)}
    (B : BodyLoose p l y S cc maxL ret e s m args below meth c s₁) (h : (Cond.codeWith y bytes maxL' ret' hh).before args s = true) : c.exceptionTable.toList = tableOf hh := by
  obtain ⟨m9, meth9, c9, hn9, h1, h2, -, -, h6, -⟩ := Cond.codeWith_spec h
  cases Option.some.inj (hn9.symm.trans B.named)
  cases Option.some.inj (h1.symm.trans B.method)
  cases Option.some.inj (h2.symm.trans (Stand.of_body B).code)
  rw [← h6, table_eq]
end Bodies
end VXA
/-! ===== END ===== -/
/-! ===== BEGIN a static call of a method with an exception table ===== -/
section VXS
variable {p : Program} {l : Launch} {e : Env} {R : Room} {s : State} {m : MethodId} {args : Array Value} {below : List Frame} {meth : Method} {c : Code} {T : State} {H : Heap} {locs : List Loc} {cells slots : Nat}
abbrev vx_CSW (R : Room) (s : State) (args : Array Value) (own : String) (index : Nat) (y : MethodName) (bytes : ByteArray) (maxL : Nat) (ret : Option FieldType) (hh : List (Nat × Nat × Nat × Nat)) (ws : List Cond) (rm : Room) (mc ms n : Nat) : Prop :=
  (rm.cells = mc ∧ rm.slots = ms ∧ rm.frames + 1 ≤ R.frames ∧ 8 + (maxL + 11) + rm.locals ≤ R.locals ∧ (∀ w ∈ ws, ∀ (a' : Array Value) (U : State), s.WarmedH U.vm → w.before a' U = true) ∧ Cond.codeWith y bytes maxL ret hh ∈ ws) ∧
  (Cond.codeWith y bytes maxL ret hh).before args s = true ∧ (Cond.initialized y.cls).before args s = true ∧ (y.cls ≠ "java/lang/invoke/MethodHandle" ∧ y.cls ≠ "java/lang/invoke/VarHandle") ∧
  (∀ sig, parseMethodDescriptor y.desc = some sig → n = sig.parameters.length) ∧ (Cond.methodLink own index y).before args s = true ∧ (Cond.static y).before args s = true
theorem vx_cwSW {own : String} {index maxL mc ms : Nat} {y : MethodName} {bytes : ByteArray} {ret : Option FieldType} {hh : List (Nat × Nat × Nat × Nat)} {Ts ws ws' : List Cond} {rm : Room} (n : Nat) (ht : ∀ w ∈ Ts, w.before args s = true) (hT : GoodIn Ts (va_wsS own index y ws)) (hw : ws = Cond.codeWith y bytes maxL ret hh :: ws') (hrc : rm.cells = mc) (hrs : rm.slots = ms)
    (hd : y.cls ≠ "java/lang/invoke/MethodHandle" ∧ y.cls ≠ "java/lang/invoke/VarHandle" ∧ (parseMethodDescriptor y.desc).map (fun d => d.parameters.length) = some n) (hR : rm.frames + 1 ≤ R.frames ∧ 8 + (maxL + 11) + rm.locals ≤ R.locals) :
    vx_CSW R s args own index y bytes maxL ret hh ws rm mc ms n := by
  have ok : ∀ w ∈ va_wsS own index y ws, w.before args s = true := fun w h => ht w (hT w h).1
  have hG : GoodIn Ts ws := fun w h => hT w (by unfold va_wsS; exact List.mem_append_right _ h)
  have hc : Cond.codeWith y bytes maxL ret hh ∈ ws := by rw [hw]; exact List.mem_cons_self
  refine ⟨⟨hrc, hrs, hR.1, hR.2, pay_in ht hG, hc⟩, ht _ (hG _ hc).1, ok _ (by simp [va_wsS]), ⟨hd.1, hd.2.1⟩, fun sig h => ?_, ok _ (by simp [va_wsS]), ok _ (by simp [va_wsS])⟩
  have h2 := hd.2.2
  rw [h] at h2
  exact (Option.some.inj h2).symm
theorem vx_callSW (X : Stand p l e R s m args below meth c T locs cells slots) (hexec : p.tables.exec = Jvm.exec) {own : String} {index : Nat} {y : MethodName} {bytes : ByteArray} {maxL : Nat} {ret : Option FieldType} {hh : List (Nat × Nat × Nat × Nat)}
    (hown : s.vm.findClass own = some m.cls) (hlink : (Cond.methodLink own index y).before args s = true) (hstat : (Cond.static y).before args s = true) (hinit : (Cond.initialized y.cls).before args s = true)
    (hcode : (Cond.codeWith y bytes maxL ret hh).before args s = true) (hy : y.cls ≠ "java/lang/invoke/MethodHandle" ∧ y.cls ≠ "java/lang/invoke/VarHandle")
    {W9 : Nat} {Pre : Pt → Array Value → Prop} {Post : Pt → Array Value → Option Value → Pt → Prop} (hK : Back l R p e below s args y 3 W9 Pre Post)
    {g : JFrame} (hg : g.method = m) (hsize : g.locals.size = c.maxLocals) {argsL rest : List Value} (hlen : ∀ sig, parseMethodDescriptor y.desc = some sig → argsL.length = sig.parameters.length)
    (hstack : g.stack = argsL.reverse ++ rest) (hW : 2 * g.monitorRoom + (rest.map fun v => v.category).sum ≤ W9) (hdg : decode c.code g.pc = .ok (.invokestatic index, 3))
    (hpre : ∀ vm₁, s.WarmedH vm₁ → Pre ⟨T.setVm vm₁, locs, cells, slots⟩ argsL.toArray) :
    ∃ (v : Option Value) (vm₁ : Vm) (B : Pt), s.WarmedH vm₁ ∧ Stand p l e R s m args below meth c B.U B.locs B.cells B.slots ∧ Post ⟨T.setVm vm₁, locs, cells, slots⟩ argsL.toArray v B ∧
      ∀ target, Steps p.tables e below (B.U.setTop { g with pc := g.pc + 3, stack := v.toList ++ rest }) target → Steps p.tables e below (T.setTop g) target := by
  obtain ⟨mk, methM, cM, hnamed, hmethM, -, -, -, -, -, -, hsigM⟩ := Cond.codeWith_spec hcode
  have hstatic : methM.isStatic = true := Cond.static_spec hnamed hmethM hstat
  obtain ⟨kP, hkP, -⟩ := className_of_methodNamed hnamed
  have hinitP : kP.init = .initialized := Cond.initialized_spec (findClass_of_methodNamed hnamed) hkP hinit
  obtain ⟨vm₁, X₁, hstep₁⟩ := X.invokestatic hexec hown hlink hnamed hmethM hstatic hkP hinitP hy (g := g) hg (argsL := argsL) (rest := rest) (hlen _ hsigM) hstack hdg
  obtain ⟨v, B, X', hpost, hsteps⟩ := hK m meth c ⟨T.setVm vm₁, locs, cells, slots⟩ { g with stack := rest } (.invokestatic index) mk argsL.toArray X₁ hg hsize hdg hW (X₁.named hnamed) (hpre vm₁ X₁.warmed)
  exact ⟨v, vm₁, B, X₁.warmed, X', hpost, fun target h => hstep₁ _ fun acts => by rw [doInvoke_state]; exact hsteps.trans h⟩
theorem vx_runSW {y : MethodName} {bytes cc : ByteArray} {maxL nL mc ms n index : Nat} {ret : Option FieldType} {hh : List (Nat × Nat × Nat × Nat)} {ws : List Cond} {rm : Room} {Pc : Array Value → State → Prop} {Qc : Array Value → State → Outcome → State → Prop} {free : Addr → Prop} {Ts : List Cond} {own : String} {As rest : List Value} {g : JFrame}
    (S : CallFix p m c cc nL s args Ts own) (hM : Met l y ws rm Pc Qc mc ms free) (cw : vx_CSW R s args own index y bytes maxL ret hh ws rm mc ms n) (hp : PreS s H Pc As)
    (hg : g.method = m) (hn : As.length = n) (hsize : g.locals.size = nL) (hstack : g.stack = As.reverse ++ rest) (hW : 2 * g.monitorRoom + (rest.map fun v => v.category).sum ≤ 8) (hdg : decode cc g.pc = .ok (.invokestatic index, 3)) (hf : cells + mc ≤ R.cells ∧ slots + ms ≤ R.slots) :
    va_Run p l e R s m args below meth c H locs cells slots mc ms g rest (Qc As.toArray) (free) := by
  obtain ⟨⟨hrc, hrs, hfr, hlo, hws, hcw⟩, hcode, hini, hy, hlen, hl, hstt⟩ := cw
  have hK : Back l R p e below s args y 3 8 (PreOf R mc ms Pc) (PostOf Qc mc ms free) := va_backW (hh := hh) (bytes := bytes) (maxL := maxL) (ret := ret) hM hp.1 hrc hrs hfr hlo hws hcw (fun a' U hW => word_at hW (Or.inl (by first | rfl | simp [Cond.onTables, Cond.keeps, Cond.steady])) hini)
  obtain ⟨hx, hb, hml, ho, -⟩ := S
  intro T hT X
  obtain ⟨v, vm₁, ⟨U', l2, c2, s2⟩, hW₁, X', ⟨g', mk, t, L, e1, e2, hq, h1, hL, h2, h3⟩, st⟩ := vx_callSW X hx (hh := hh) (bytes := bytes) (maxL := maxL) (ret := ret) ho hl hstt hini hcode hy hK hg (hsize.trans hml.symm) (argsL := As) (rest := rest) (fun sig h => hn.trans (hlen sig h)) hstack hW (by rw [hb]; exact hdg)
    (fun vm₁ hW₁ => ⟨hf.1, hf.2, hp.2 (T.setVm vm₁) hT hW₁⟩)
  dsimp only [Pt.U, Pt.locs, Pt.cells, Pt.slots] at X' e1 e2 h1 h2 h3 st
  subst h1; subst h2; subst h3
  exact ⟨v, (T.setVm vm₁).calling g' mk As.toArray, t, U', L, hT, X', hL, e1, e2, hq, st⟩
/-- not caught here, past rows that name other classes: it goes on to the caller -/
theorem vx_outP {p : Program} {l : Launch} {e : Env} {R : Room} {s : State} {m : MethodId} {args : Array Value} {below : List Frame} {meth : Method} {c : Code} {H : Heap} {locs : List Loc} {cells slots : Nat} {free : Addr → Prop} {ls : Array Slot} {rest : List Value} {Qc : Array Value → State → Outcome → State → Prop} {XC : String → State → State → Prop}
    {pc : Nat} {own E : String} {ce : Cell} {q : Addr} {mc ms : Nat} (hown : s.vm.findClass own = some m.cls) (hlocks : meth.locks = false)
    (hpass : ∀ z ∈ c.exceptionTable.toList, covers z pc = false ∨ (z.catchType ≠ 0 ∧ ∃ nm : String, (Cond.classLink own z.catchType nm).before args s = true ∧ va_Nc E nm s)) (hcell : H[q]? = some ce) (hv : ce.vm = .none) (hcl : s.vm.findClass E = some ce.cls)
    (hx : ∀ t : State, t.heap = H → s.vm.Alike t.vm → XC E s t) (hf : ∀ z ∈ locs, free z.base) (hc : cells ≤ mc) (hs : slots ≤ ms) :
    vx_W p l e R s m args below meth c H locs cells slots (vx_MQ below Qc XC args s mc ms free) (F0 m pc ls rest) q := by
  intro T hT X
  have hpl : e.platform.magicAccessors = ({} : Platform).magicAccessors := by rw [X.admits.platform]
  obtain ⟨vm', hW', X', st⟩ := X.outThrough hlocks q (g := F0 m pc ls rest) rfl rfl rfl (cell := ce) (by rw [hT]; exact hcell) (by rw [hv]; rfl)
    (by obtain ⟨k9, h9, -⟩ := Vm.findClass_spec hcl; exact ⟨k9, h9⟩) (fun z hz => by
      rcases hpass z hz with h | ⟨hz0, nm, hl1, hn1⟩
      · exact Or.inl h
      · obtain ⟨c6, hc6, hcl6⟩ := Cond.classLink_spec hown hl1 e.platform hpl
        obtain ⟨a8, b8, h1, h2, h3⟩ := hn1
        cases Option.some.inj (h1.symm.trans hcl)
        cases Option.some.inj (h2.symm.trans hc6)
        exact Or.inr ⟨hz0, _, hcl6, h3⟩)
  obtain ⟨g₀, hfr⟩ := X'.frames_eq
  have hcell9 : ((T.setVm vm').setFrames (.throwing q :: below)).heap[q]? = some ce := by
    show T.heap[q]? = some ce
    rw [hT]; exact hcell
  have hend : Ended ((T.setVm vm').setFrames (.throwing q :: below)) below (.threw q) := State.frames_setFrames _ (State.cur_lt_of_frames hfr)
  refine ⟨(T.setVm vm').setFrames (.throwing q :: below), ?_, .threw q, X'.here.running, hend, Or.inr ⟨q, rfl, E, ce, locs, hx _ hT (X'.ends _).1.alike, hcell9, hv, hcl, (X'.ends _).1, (X'.ends _).2.mono hc hs, hf⟩⟩
  rw [X.pushThrowing_eq]
  exact st
/-- a thing of a world lies in the heap -/
theorem vx_lt {D : va_G} {cl : List vw_C} {ws : va_W} {H1 : Heap} (h : va_P D cl ws H1) {k : Nat} {q : Nat × va_E} (hk : ws[k]? = some q) : q.1 < H1.size := (h k q hk).lt
end VXS
/-! ===== END ===== -/
/-! ===== BEGIN methods with a table of their own: called by a name, returning or throwing ===== -/
section VXH
/-! vx_backW, vx_callVX, vx_callSX, vx_callVW, vx_runVW, vx_runVX, vx_runSX, vx_ofWH follow the same proofs as their sisters above (Free/Laws.lean, Shelf42/LK1.lean); vx_outP calls Shelf42/NT130.lean (outThrough). -/
section
variable {l : Launch} {R : Room} {p : Program} {e : Env} {below : List Frame} {s : State} {sargs : Array Value} {y : MethodName} {len W9 : Nat}
theorem vx_backW {ws : List Cond} {rm : Room} {Pc : Array Value → State → Prop} {Qc : Array Value → State → Outcome → State → Prop} {XC : String → State → State → Prop} {mc ms : Nat} {free : Addr → Prop} {bytes : ByteArray} {maxL : Nat} {ret : Option FieldType} {hh : List (Nat × Nat × Nat × Nat)}
    (hM : vx_Met l y ws rm Pc Qc XC mc ms free) (hblind : FrameBlind Pc) (hrc : rm.cells = mc) (hrs : rm.slots = ms)
    (hframes : rm.frames + 1 ≤ R.frames) (hlocals : W9 + (maxL + 11) + rm.locals ≤ R.locals)
    (hws : ∀ w ∈ ws, ∀ a' U, s.WarmedH U.vm → w.before a' U = true) (hcode : Cond.codeWith y bytes maxL ret hh ∈ ws) (hinit : ∀ a' U, s.WarmedH U.vm → (Cond.initialized y.cls).before a' U = true) :
    vx_Back l R p e below s sargs y len W9 (PreOf R mc ms Pc) (PostOf Qc mc ms free) (vx_Post XC mc ms free) := by
  intro m meth c A g ig mk a X hg hsize hdg hW hn hp
  have h1 : (headSpec ws rm).pre.before a A.U = true := atoms_intro fun w hw => hws w hw _ _ X.warmed
  have h2 : (Cond.codeWith y bytes maxL ret hh).before a A.U = true := hws _ hcode _ _ X.warmed
  have h3 : (Cond.initialized y.cls).before a A.U = true := hinit _ _ X.warmed
  have h4 : A.cells + (headSpec ws rm).room.cells ≤ R.cells := by rw [show (headSpec ws rm).room.cells = mc from hrc]; exact hp.1
  have h5 : A.slots + (headSpec ws rm).room.slots ≤ R.slots := by rw [show (headSpec ws rm).room.slots = ms from hrs]; exact hp.2.1
  have hPc : Pc a (A.U.calling g mk a) := hblind _ _ _ _ hp.2.2
  obtain ⟨U, Ls, c0, s0⟩ := A
  dsimp only [Pt.U, Pt.locs, Pt.cells, Pt.slots] at h1 h2 h3 h4 h5 X hn hPc ⊢
  obtain ⟨m9, methY, cY, hn9, hmY, hcY, -, hlY, -⟩ := Cond.codeWith_spec h2
  cases Option.some.inj (hn9.symm.trans hn)
  obtain ⟨kY, hkY, -⟩ := className_of_methodNamed hn
  have hinitY : kY.init = .initialized := Cond.initialized_spec (findClass_of_methodNamed hn) hkY h3
  have h : At U g.method c below := by rw [hg]; exact X.here
  have hlocals9 : W9 + (maxL + 11) + (headSpec ws rm).room.locals ≤ R.locals := hlocals
  have happ : (headSpec ws rm).appliesLoose y e.platform (U.calling g mk a) = true :=
    Spec.appliesLoose_calling (g := g) h hdg hn hkY hinitY
      (X.room_calling (g := g) (R' := (headSpec ws rm).room) hsize hmY hcY hframes (by rw [hlY]; omega) h4 h5) h1
  obtain ⟨mid, hmid⟩ := h.above
  have hfr : (U.setTop g).frames = (.java g :: mid) ++ below := by rw [State.frames_setTop' g h.top, hmid]; rfl
  obtain ⟨o, s₂, hsteps, -, hend, hq⟩ := Steps.callFree hM p X.admits X.cas X.clock (acts := []) hfr happ hPc trivial
  have hq' : vx_Q Qc XC mc ms free a (U.calling g mk a) o s₂ := hq
  rw [State.frames_setTop' g h.top] at hend
  obtain ⟨g₀, hg0⟩ := Option.isSome_iff_exists.mp h.top
  obtain ⟨r, hr⟩ := State.topJava?_eq_some.mp hg0
  have hr' : (({ U with heap := s₂.heap, slotsUsed := s₂.slotsUsed } : State).setVm s₂.vm).frames = .java g₀ :: r := hr
  rcases hq' with ⟨hqc, L, hfe, hL⟩ | ⟨q, rfl, E, ce, L, hx, hce, hcv, hcl, hW₂, hsm, hL⟩
  · obtain ⟨⟨v, rfl⟩, hW₂, e2, q2, q3, q4, q5, q6⟩ := id hfe
    have e3 : s₂ = ({ (U.calling g mk a).setFrames s₂.frames with heap := s₂.heap, slotsUsed := s₂.slotsUsed } : State).setVm s₂.vm := by
      have : s₂ = ({ s₂ with vm := (U.calling g mk a).vm } : State).setVm s₂.vm := rfl
      rw [e2] at this
      exact this
    obtain ⟨c₂, i₂, len₂, hc₂, hd₂, hf₂⟩ := hend
    have hW' : U.WarmedH s₂.vm := hW₂
    have hcc : c₂ = c := by
      have h1 : s₂.code? g.method = U.code? g.method := by
        rw [State.code?_eq, State.code?_eq, hW'.alike.method?]
      exact Option.some.inj (hc₂.symm.trans (h1.trans h.code))
    subst hcc
    have hlen : len₂ = len := by rw [hdg] at hd₂; cases hd₂; rfl
    subst hlen
    have hs₂ : s₂ = (({ U with heap := s₂.heap, slotsUsed := s₂.slotsUsed } : State).setVm s₂.vm).setTop { g with pc := g.pc + len₂, stack := v.toList ++ g.stack } := by
      refine e3.trans ?_
      rw [hf₂, State.calling_eq h.top, State.setFrames_setFrames, State.setTop_of_frames _ hr', hr]
      rfl
    have hsame : U.sameButNew ({ U with heap := s₂.heap, slotsUsed := s₂.slotsUsed } : State) L mc ms := by
      refine ⟨?_, q2, q3, q4, q5, q6⟩
      obtain ⟨t, ht, -⟩ := State.frames_cons hr
      show ({ U with heap := s₂.heap, slotsUsed := s₂.slotsUsed } : State) = { U.setFrames U.frames with heap := s₂.heap, slotsUsed := s₂.slotsUsed }
      rw [State.setFrames_self ht]
    subst hg
    refine Or.inl ⟨v, ⟨(({ U with heap := s₂.heap, slotsUsed := s₂.slotsUsed } : State).setVm s₂.vm), Ls ++ L, c0 + mc, s0 + ms⟩,
      ⟨X.admits, X.cas, X.clock, X.frames, X.room, X.hears, X.method, X.code, (X.here.setHeapUsed s₂.heap s₂.slotsUsed).setVm hW'.alike, X.tail, State.WarmedH.trans X.warmed hW', X.limits, X.bytes, X.same.trans (hsame.setVm s.vm)⟩,
      ⟨g, mk, s₂, L, rfl, rfl, hqc, rfl, hL, rfl, rfl⟩, ?_⟩
    show Steps p.tables e below _ ((({ U with heap := s₂.heap, slotsUsed := s₂.slotsUsed } : State).setVm s₂.vm).setTop { g with pc := g.pc + len₂, stack := v.toList ++ g.stack })
    rw [← hs₂]
    exact hsteps
  · obtain ⟨e2, q2, q3, q4, q5, q6⟩ := id hsm
    have e3 : s₂ = ({ (U.calling g mk a).setFrames s₂.frames with heap := s₂.heap, slotsUsed := s₂.slotsUsed } : State).setVm s₂.vm := by
      have : s₂ = ({ s₂ with vm := (U.calling g mk a).vm } : State).setVm s₂.vm := rfl
      rw [e2] at this
      exact this
    have hf₂ : s₂.frames = .throwing q :: .java g :: U.frames.tail := hend
    have hW' : U.WarmedH s₂.vm := hW₂
    have hs₂ : s₂ = ((({ U with heap := s₂.heap, slotsUsed := s₂.slotsUsed } : State).setVm s₂.vm).setTop g).pushFrame (.throwing q) := by
      refine e3.trans ?_
      rw [hf₂, State.calling_eq h.top, State.setFrames_setFrames, State.pushFrame, State.frames_setTop _ hr', State.setTop_of_frames _ hr', State.setFrames_setFrames, hr]
      rfl
    have hsame : U.sameButNew ({ U with heap := s₂.heap, slotsUsed := s₂.slotsUsed } : State) L mc ms := by
      refine ⟨?_, q2, q3, q4, q5, q6⟩
      obtain ⟨t, ht, -⟩ := State.frames_cons hr
      show ({ U with heap := s₂.heap, slotsUsed := s₂.slotsUsed } : State) = { U.setFrames U.frames with heap := s₂.heap, slotsUsed := s₂.slotsUsed }
      rw [State.setFrames_self ht]
    subst hg
    refine Or.inr ⟨q, ⟨(({ U with heap := s₂.heap, slotsUsed := s₂.slotsUsed } : State).setVm s₂.vm), Ls ++ L, c0 + mc, s0 + ms⟩,
      ⟨X.admits, X.cas, X.clock, X.frames, X.room, X.hears, X.method, X.code, (X.here.setHeapUsed s₂.heap s₂.slotsUsed).setVm hW'.alike, X.tail, State.WarmedH.trans X.warmed hW', X.limits, X.bytes, X.same.trans (hsame.setVm s.vm)⟩,
      ⟨g, mk, s₂, L, E, ce, rfl, rfl, hx, hce, hcv, hcl, rfl, hL, rfl, rfl⟩, ?_⟩
    show Steps p.tables e below _ (((({ U with heap := s₂.heap, slotsUsed := s₂.slotsUsed } : State).setVm s₂.vm).setTop g).pushFrame (.throwing q))
    rw [← hs₂]
    exact hsteps
end
variable {p : Program} {l : Launch} {e : Env} {R : Room} {s : State} {m : MethodId} {args : Array Value} {below : List Frame} {meth : Method} {c : Code} {T : State} {H : Heap} {locs : List Loc} {cells slots : Nat}
theorem vx_callVX (X : Stand p l e R s m args below meth c T locs cells slots) (hexec : p.tables.exec = Jvm.exec) {own C : String} {index : Nat} {y : MethodName} {bytes : ByteArray} {maxL : Nat} {ret : Option FieldType} {hh : List (Nat × Nat × Nat × Nat)}
    (hown : s.vm.findClass own = some m.cls) (hlink : (Cond.methodLink own index y).before args s = true) (hinst : (Cond.instanceMethod y).before args s = true) (hsel : (Cond.selects C y y).before args s = true)
    (hcode : (Cond.codeWith y bytes maxL ret hh).before args s = true) (hy : y.cls ≠ "java/lang/invoke/MethodHandle" ∧ y.cls ≠ "java/lang/invoke/VarHandle")
    {W9 : Nat} {Pre : Pt → Array Value → Prop} {Post : Pt → Array Value → Option Value → Pt → Prop} {PostX : Pt → Array Value → Addr → Pt → Prop} (hK : vx_Back l R p e below s args y 3 W9 Pre Post PostX)
    {b : Addr} {cellB : Cell} (hcell : T.heap[b]? = some cellB) (hobj : cellB.vm.isStatics = false) (hcls : s.vm.findClass C = some cellB.cls)
    {g : JFrame} (hg : g.method = m) (hsize : g.locals.size = c.maxLocals) {argsL rest : List Value} (hlen : ∀ sig, parseMethodDescriptor y.desc = some sig → argsL.length = sig.parameters.length)
    (hstack : g.stack = argsL.reverse ++ .ref b :: rest) (hW : 2 * g.monitorRoom + (rest.map fun v => v.category).sum ≤ W9) (hdg : decode c.code g.pc = .ok (.invokevirtual index, 3))
    (hpre : ∀ vm₁, s.WarmedH vm₁ → Pre ⟨T.setVm vm₁, locs, cells, slots⟩ (Value.ref b :: argsL).toArray) :
    (∃ (v : Option Value) (vm₁ : Vm) (B : Pt), s.WarmedH vm₁ ∧ Stand p l e R s m args below meth c B.U B.locs B.cells B.slots ∧ Post ⟨T.setVm vm₁, locs, cells, slots⟩ (Value.ref b :: argsL).toArray v B ∧
      ∀ target, Steps p.tables e below (B.U.setTop { g with pc := g.pc + 3, stack := v.toList ++ rest }) target → Steps p.tables e below (T.setTop g) target) ∨
    (∃ (q : Addr) (vm₁ : Vm) (B : Pt), s.WarmedH vm₁ ∧ Stand p l e R s m args below meth c B.U B.locs B.cells B.slots ∧ PostX ⟨T.setVm vm₁, locs, cells, slots⟩ (Value.ref b :: argsL).toArray q B ∧
      Steps p.tables e below (T.setTop g) ((B.U.setTop { g with stack := rest }).pushFrame (.throwing q))) := by
  obtain ⟨mk, methM, hnamed, hmethM, hstM, habM⟩ := Cond.instanceMethod_spec hinst
  obtain ⟨m8, methM', cM, hn8, hmethM', -, -, -, -, -, -, hsigM⟩ := Cond.codeWith_spec hcode
  cases Option.some.inj (hn8.symm.trans hnamed)
  cases hmethM.symm.trans hmethM'
  obtain ⟨c2, r2, m2, q1, q2, q3, q4, kP, hkP, hkPi⟩ := Cond.selects_spec hsel
  cases hcls.symm.trans q1
  cases (State.methodFound?_of_named hnamed hy).symm.trans q2
  cases hnamed.symm.trans q3
  have hselP : selectMethod e.platform s.vm cellB.cls mk = .method mk := by rw [Launch.admits_selectMethod X.admits]; exact q4
  obtain ⟨vm₁, X₁, hstep₁⟩ := X.invokevirtual hexec hown hlink hnamed hmethM hstM hkP hkPi hy (a := b) (cell := cellB) hcell
    (fun z h => by rw [h] at hobj; cases hobj) hselP hmethM habM hkP hkPi (g := g) hg (argsL := argsL) (rest := rest) (hlen _ hsigM) hstack hdg
  rcases hK m meth c ⟨T.setVm vm₁, locs, cells, slots⟩ { g with stack := rest } (.invokevirtual index) mk (Value.ref b :: argsL).toArray X₁ hg hsize hdg hW (X₁.named hnamed) (hpre vm₁ X₁.warmed) with ⟨v, B, X', hpost, hsteps⟩ | ⟨q, B, X', hpost, hsteps⟩
  · exact Or.inl ⟨v, vm₁, B, X₁.warmed, X', hpost, fun target h => hstep₁ _ fun acts => by rw [doInvoke_state]; exact hsteps.trans h⟩
  · exact Or.inr ⟨q, vm₁, B, X₁.warmed, X', hpost, hstep₁ _ fun acts => by rw [doInvoke_state]; exact hsteps⟩
theorem vx_callSX (X : Stand p l e R s m args below meth c T locs cells slots) (hexec : p.tables.exec = Jvm.exec) {own : String} {index : Nat} {y : MethodName} {bytes : ByteArray} {maxL : Nat} {ret : Option FieldType} {hh : List (Nat × Nat × Nat × Nat)}
    (hown : s.vm.findClass own = some m.cls) (hlink : (Cond.methodLink own index y).before args s = true) (hstat : (Cond.static y).before args s = true) (hinit : (Cond.initialized y.cls).before args s = true)
    (hcode : (Cond.codeWith y bytes maxL ret hh).before args s = true) (hy : y.cls ≠ "java/lang/invoke/MethodHandle" ∧ y.cls ≠ "java/lang/invoke/VarHandle")
    {W9 : Nat} {Pre : Pt → Array Value → Prop} {Post : Pt → Array Value → Option Value → Pt → Prop} {PostX : Pt → Array Value → Addr → Pt → Prop} (hK : vx_Back l R p e below s args y 3 W9 Pre Post PostX)
    {g : JFrame} (hg : g.method = m) (hsize : g.locals.size = c.maxLocals) {argsL rest : List Value} (hlen : ∀ sig, parseMethodDescriptor y.desc = some sig → argsL.length = sig.parameters.length)
    (hstack : g.stack = argsL.reverse ++ rest) (hW : 2 * g.monitorRoom + (rest.map fun v => v.category).sum ≤ W9) (hdg : decode c.code g.pc = .ok (.invokestatic index, 3))
    (hpre : ∀ vm₁, s.WarmedH vm₁ → Pre ⟨T.setVm vm₁, locs, cells, slots⟩ argsL.toArray) :
    (∃ (v : Option Value) (vm₁ : Vm) (B : Pt), s.WarmedH vm₁ ∧ Stand p l e R s m args below meth c B.U B.locs B.cells B.slots ∧ Post ⟨T.setVm vm₁, locs, cells, slots⟩ argsL.toArray v B ∧
      ∀ target, Steps p.tables e below (B.U.setTop { g with pc := g.pc + 3, stack := v.toList ++ rest }) target → Steps p.tables e below (T.setTop g) target) ∨
    (∃ (q : Addr) (vm₁ : Vm) (B : Pt), s.WarmedH vm₁ ∧ Stand p l e R s m args below meth c B.U B.locs B.cells B.slots ∧ PostX ⟨T.setVm vm₁, locs, cells, slots⟩ argsL.toArray q B ∧
      Steps p.tables e below (T.setTop g) ((B.U.setTop { g with stack := rest }).pushFrame (.throwing q))) := by
  obtain ⟨mk, methM, cM, hnamed, hmethM, -, -, -, -, -, -, hsigM⟩ := Cond.codeWith_spec hcode
  have hstatic : methM.isStatic = true := Cond.static_spec hnamed hmethM hstat
  obtain ⟨kP, hkP, -⟩ := className_of_methodNamed hnamed
  have hinitP : kP.init = .initialized := Cond.initialized_spec (findClass_of_methodNamed hnamed) hkP hinit
  obtain ⟨vm₁, X₁, hstep₁⟩ := X.invokestatic hexec hown hlink hnamed hmethM hstatic hkP hinitP hy (g := g) hg (argsL := argsL) (rest := rest) (hlen _ hsigM) hstack hdg
  rcases hK m meth c ⟨T.setVm vm₁, locs, cells, slots⟩ { g with stack := rest } (.invokestatic index) mk argsL.toArray X₁ hg hsize hdg hW (X₁.named hnamed) (hpre vm₁ X₁.warmed) with ⟨v, B, X', hpost, hsteps⟩ | ⟨q, B, X', hpost, hsteps⟩
  · exact Or.inl ⟨v, vm₁, B, X₁.warmed, X', hpost, fun target h => hstep₁ _ fun acts => by rw [doInvoke_state]; exact hsteps.trans h⟩
  · exact Or.inr ⟨q, vm₁, B, X₁.warmed, X', hpost, hstep₁ _ fun acts => by rw [doInvoke_state]; exact hsteps⟩
theorem vx_callVW (X : Stand p l e R s m args below meth c T locs cells slots) (hexec : p.tables.exec = Jvm.exec) {own C : String} {index : Nat} {y : MethodName} {bytes : ByteArray} {maxL : Nat} {ret : Option FieldType} {hh : List (Nat × Nat × Nat × Nat)}
    (hown : s.vm.findClass own = some m.cls) (hlink : (Cond.methodLink own index y).before args s = true) (hinst : (Cond.instanceMethod y).before args s = true) (hsel : (Cond.selects C y y).before args s = true)
    (hcode : (Cond.codeWith y bytes maxL ret hh).before args s = true) (hy : y.cls ≠ "java/lang/invoke/MethodHandle" ∧ y.cls ≠ "java/lang/invoke/VarHandle")
    {W9 : Nat} {Pre : Pt → Array Value → Prop} {Post : Pt → Array Value → Option Value → Pt → Prop} (hK : Back l R p e below s args y 3 W9 Pre Post)
    {b : Addr} {cellB : Cell} (hcell : T.heap[b]? = some cellB) (hobj : cellB.vm.isStatics = false) (hcls : s.vm.findClass C = some cellB.cls)
    {g : JFrame} (hg : g.method = m) (hsize : g.locals.size = c.maxLocals) {argsL rest : List Value} (hlen : ∀ sig, parseMethodDescriptor y.desc = some sig → argsL.length = sig.parameters.length)
    (hstack : g.stack = argsL.reverse ++ .ref b :: rest) (hW : 2 * g.monitorRoom + (rest.map fun v => v.category).sum ≤ W9) (hdg : decode c.code g.pc = .ok (.invokevirtual index, 3))
    (hpre : ∀ vm₁, s.WarmedH vm₁ → Pre ⟨T.setVm vm₁, locs, cells, slots⟩ (Value.ref b :: argsL).toArray) :
    ∃ (v : Option Value) (vm₁ : Vm) (B : Pt), s.WarmedH vm₁ ∧ Stand p l e R s m args below meth c B.U B.locs B.cells B.slots ∧ Post ⟨T.setVm vm₁, locs, cells, slots⟩ (Value.ref b :: argsL).toArray v B ∧
      ∀ target, Steps p.tables e below (B.U.setTop { g with pc := g.pc + 3, stack := v.toList ++ rest }) target → Steps p.tables e below (T.setTop g) target := by
  obtain ⟨mk, methM, hnamed, hmethM, hstM, habM⟩ := Cond.instanceMethod_spec hinst
  obtain ⟨m8, methM', cM, hn8, hmethM', -, -, -, -, -, -, hsigM⟩ := Cond.codeWith_spec hcode
  cases Option.some.inj (hn8.symm.trans hnamed)
  cases hmethM.symm.trans hmethM'
  obtain ⟨c2, r2, m2, q1, q2, q3, q4, kP, hkP, hkPi⟩ := Cond.selects_spec hsel
  cases hcls.symm.trans q1
  cases (State.methodFound?_of_named hnamed hy).symm.trans q2
  cases hnamed.symm.trans q3
  have hselP : selectMethod e.platform s.vm cellB.cls mk = .method mk := by rw [Launch.admits_selectMethod X.admits]; exact q4
  obtain ⟨vm₁, X₁, hstep₁⟩ := X.invokevirtual hexec hown hlink hnamed hmethM hstM hkP hkPi hy (a := b) (cell := cellB) hcell
    (fun z h => by rw [h] at hobj; cases hobj) hselP hmethM habM hkP hkPi (g := g) hg (argsL := argsL) (rest := rest) (hlen _ hsigM) hstack hdg
  obtain ⟨v, B, X', hpost, hsteps⟩ := hK m meth c ⟨T.setVm vm₁, locs, cells, slots⟩ { g with stack := rest } (.invokevirtual index) mk (Value.ref b :: argsL).toArray X₁ hg hsize hdg hW (X₁.named hnamed) (hpre vm₁ X₁.warmed)
  exact ⟨v, vm₁, B, X₁.warmed, X', hpost, fun target h => hstep₁ _ fun acts => by rw [doInvoke_state]; exact hsteps.trans h⟩
abbrev vx_CVW (R : Room) (s : State) (args : Array Value) (own C : String) (index : Nat) (y : MethodName) (bytes : ByteArray) (maxL : Nat) (ret : Option FieldType) (hh : List (Nat × Nat × Nat × Nat)) (ws : List Cond) (rm : Room) (mc ms n : Nat) : Prop :=
  (rm.cells = mc ∧ rm.slots = ms ∧ rm.frames + 1 ≤ R.frames ∧ 8 + (maxL + 11) + rm.locals ≤ R.locals ∧ (∀ w ∈ ws, ∀ (a' : Array Value) (U : State), s.WarmedH U.vm → w.before a' U = true) ∧ Cond.codeWith y bytes maxL ret hh ∈ ws) ∧
  (Cond.codeWith y bytes maxL ret hh).before args s = true ∧ (Cond.initialized y.cls).before args s = true ∧ (y.cls ≠ "java/lang/invoke/MethodHandle" ∧ y.cls ≠ "java/lang/invoke/VarHandle") ∧
  (∀ sig, parseMethodDescriptor y.desc = some sig → n = sig.parameters.length) ∧ (Cond.methodLink own index y).before args s = true ∧ (Cond.instanceMethod y).before args s = true ∧ (Cond.selects C y y).before args s = true
theorem vx_cwVW {own C : String} {index maxL mc ms : Nat} {y : MethodName} {bytes : ByteArray} {ret : Option FieldType} {hh : List (Nat × Nat × Nat × Nat)} {Ts ws ws' : List Cond} {rm : Room} (n : Nat) (ht : ∀ w ∈ Ts, w.before args s = true) (hT : GoodIn Ts (wsV own index C y ws)) (hw : ws = Cond.codeWith y bytes maxL ret hh :: ws') (hrc : rm.cells = mc) (hrs : rm.slots = ms)
    (hd : y.cls = C ∧ y.cls ≠ "java/lang/invoke/MethodHandle" ∧ y.cls ≠ "java/lang/invoke/VarHandle" ∧ (parseMethodDescriptor y.desc).map (fun d => d.parameters.length) = some n) (hR : rm.frames + 1 ≤ R.frames ∧ 8 + (maxL + 11) + rm.locals ≤ R.locals) :
    vx_CVW R s args own C index y bytes maxL ret hh ws rm mc ms n := by
  obtain ⟨hC, hd⟩ := hd
  subst hC
  have ok : ∀ w ∈ wsV own index y.cls y ws, w.before args s = true := fun w h => ht w (hT w h).1
  have hG : GoodIn Ts ws := fun w h => hT w (by unfold wsV; exact List.mem_append_right _ h)
  have hc : Cond.codeWith y bytes maxL ret hh ∈ ws := by rw [hw]; exact List.mem_cons_self
  refine ⟨⟨hrc, hrs, hR.1, hR.2, pay_in ht hG, hc⟩, ht _ (hG _ hc).1, ok _ (by simp [wsV]), ⟨hd.1, hd.2.1⟩, fun sig h => ?_, ok _ (by simp [wsV]), ok _ (by simp [wsV]), ok _ (by simp [wsV])⟩
  have h2 := hd.2.2
  rw [h] at h2
  exact (Option.some.inj h2).symm
theorem vx_runVW {y : MethodName} {bytes cc : ByteArray} {maxL nL mc ms n index : Nat} {ret : Option FieldType} {hh : List (Nat × Nat × Nat × Nat)} {ws : List Cond} {rm : Room} {Pc : Array Value → State → Prop} {Qc : Array Value → State → Outcome → State → Prop} {free : Addr → Prop} {Ts : List Cond} {own C : String} {b : Addr} {As rest : List Value} {g : JFrame}
    (S : CallFix p m c cc nL s args Ts own) (hM : Met l y ws rm Pc Qc mc ms free) (cw : vx_CVW R s args own C index y bytes maxL ret hh ws rm mc ms n) (hp : PreV s H C b Pc As)
    (hg : g.method = m) (hn : As.length = n) (hsize : g.locals.size = nL) (hstack : g.stack = As.reverse ++ .ref b :: rest) (hW : 2 * g.monitorRoom + (rest.map fun v => v.category).sum ≤ 8) (hdg : decode cc g.pc = .ok (.invokevirtual index, 3)) (hf : cells + mc ≤ R.cells ∧ slots + ms ≤ R.slots) :
    va_Run p l e R s m args below meth c H locs cells slots mc ms g rest (Qc (Value.ref b :: As).toArray) free := by
  obtain ⟨⟨hrc, hrs, hfr, hlo, hws, hcw⟩, hcode, hini, hy, hlen, hl, hin, hse⟩ := cw
  have hK : Back l R p e below s args y 3 8 (PreOf R mc ms Pc) (PostOf Qc mc ms free) := va_backW (hh := hh) (bytes := bytes) (maxL := maxL) (ret := ret) hM hp.1 hrc hrs hfr hlo hws hcw (fun a' U hW => word_at hW (Or.inl (by first | rfl | simp [Cond.onTables, Cond.keeps, Cond.steady])) hini)
  obtain ⟨hx, hb, hml, ho, -⟩ := S
  obtain ⟨-, ⟨cellB, hcB, hoB, hclB⟩, hPc⟩ := hp
  intro T hT X
  obtain ⟨v, vm₁, ⟨U', l2, c2, s2⟩, hW₁, X', ⟨g', mk, t, L, e1, e2, hq, h1, hL, h2, h3⟩, st⟩ := vx_callVW X hx (C := C) (hh := hh) (bytes := bytes) (maxL := maxL) (ret := ret) ho hl hin hse hcode hy hK (by rw [hT]; exact hcB) hoB hclB hg (hsize.trans hml.symm) (argsL := As) (rest := rest) (fun sig h => hn.trans (hlen sig h)) hstack hW (by rw [hb]; exact hdg)
    (fun vm₁ hW₁ => ⟨hf.1, hf.2, hPc (T.setVm vm₁) hT hW₁⟩)
  dsimp only [Pt.U, Pt.locs, Pt.cells, Pt.slots] at X' e1 e2 h1 h2 h3 st
  subst h1; subst h2; subst h3
  exact ⟨v, (T.setVm vm₁).calling g' mk (Value.ref b :: As).toArray, t, U', L, hT, X', hL, e1, e2, hq, st⟩
section
variable {y : MethodName} {bytes cc : ByteArray} {maxL nL mc ms n index : Nat} {ret : Option FieldType} {ws : List Cond} {rm : Room} {Pc : Array Value → State → Prop} {Qc : Array Value → State → Outcome → State → Prop} {XC : String → State → State → Prop} {free : Addr → Prop} {Ts : List Cond} {own C : String} {b : Addr} {As rest : List Value} {g : JFrame}
theorem vx_runVX {hh : List (Nat × Nat × Nat × Nat)} (S : CallFix p m c cc nL s args Ts own) (hM : vx_Met l y ws rm Pc Qc XC mc ms free) (cw : vx_CVW R s args own C index y bytes maxL ret hh ws rm mc ms n) (hp : PreV s H C b Pc As)
    (hg : g.method = m) (hn : As.length = n) (hsize : g.locals.size = nL) (hstack : g.stack = As.reverse ++ .ref b :: rest) (hW : 2 * g.monitorRoom + (rest.map fun v => v.category).sum ≤ 8) (hdg : decode cc g.pc = .ok (.invokevirtual index, 3)) (hf : cells + mc ≤ R.cells ∧ slots + ms ≤ R.slots) :
    vx_Run p l e R s m args below meth c H locs cells slots mc ms g rest (Qc (Value.ref b :: As).toArray) XC free := by
  obtain ⟨⟨hrc, hrs, hfr, hlo, hws, hcw⟩, hcode, hini, hy, hlen, hl, hin, hse⟩ := cw
  have hK : vx_Back l R p e below s args y 3 8 (PreOf R mc ms Pc) (PostOf Qc mc ms free) (vx_Post XC mc ms free) := vx_backW (hh := hh) (bytes := bytes) (maxL := maxL) (ret := ret) hM hp.1 hrc hrs hfr hlo hws hcw (fun a' U hW => word_at hW (Or.inl (by first | rfl | simp [Cond.onTables, Cond.keeps, Cond.steady])) hini)
  obtain ⟨hx, hb, hml, ho, -⟩ := S
  obtain ⟨-, ⟨cellB, hcB, hoB, hclB⟩, hPc⟩ := hp
  intro T hT X
  rcases vx_callVX X hx (C := C) (hh := hh) (bytes := bytes) (maxL := maxL) (ret := ret) ho hl hin hse hcode hy hK (by rw [hT]; exact hcB) hoB hclB hg (hsize.trans hml.symm) (argsL := As) (rest := rest) (fun sig h => hn.trans (hlen sig h)) hstack hW (by rw [hb]; exact hdg)
    (fun vm₁ hW₁ => ⟨hf.1, hf.2, hPc (T.setVm vm₁) hT hW₁⟩) with ⟨v, vm₁, ⟨U', l2, c2, s2⟩, hW₁, X', ⟨g', mk, t, L, e1, e2, hq, h1, hL, h2, h3⟩, st⟩ | ⟨q, vm₁, ⟨U', l2, c2, s2⟩, hW₁, X', ⟨g', mk, t, L, E, ce, e1, e2, hq, hce, hcv, hcl, h1, hL, h2, h3⟩, st⟩
  · dsimp only [Pt.U, Pt.locs, Pt.cells, Pt.slots] at X' e1 e2 h1 h2 h3 st
    subst h1; subst h2; subst h3
    exact Or.inl ⟨v, (T.setVm vm₁).calling g' mk (Value.ref b :: As).toArray, t, U', L, hT, X', hL, e1, e2, hq, st⟩
  · dsimp only [Pt.U, Pt.locs, Pt.cells, Pt.slots] at X' e1 e2 h1 h2 h3 st hcl
    subst h1; subst h2; subst h3
    exact Or.inr ⟨q, (T.setVm vm₁).calling g' mk (Value.ref b :: As).toArray, t, U', L, E, ce, hT, X', hL, e1, e2, hq, hce, hcv, vx_cls hW₁ hcl, st⟩
theorem vx_runSX {hh : List (Nat × Nat × Nat × Nat)} (S : CallFix p m c cc nL s args Ts own) (hM : vx_Met l y ws rm Pc Qc XC mc ms free) (cw : vx_CSW R s args own index y bytes maxL ret hh ws rm mc ms n) (hp : PreS s H Pc As)
    (hg : g.method = m) (hn : As.length = n) (hsize : g.locals.size = nL) (hstack : g.stack = As.reverse ++ rest) (hW : 2 * g.monitorRoom + (rest.map fun v => v.category).sum ≤ 8) (hdg : decode cc g.pc = .ok (.invokestatic index, 3)) (hf : cells + mc ≤ R.cells ∧ slots + ms ≤ R.slots) :
    vx_Run p l e R s m args below meth c H locs cells slots mc ms g rest (Qc As.toArray) XC free := by
  obtain ⟨⟨hrc, hrs, hfr, hlo, hws, hcw⟩, hcode, hini, hy, hlen, hl, hstt⟩ := cw
  have hK : vx_Back l R p e below s args y 3 8 (PreOf R mc ms Pc) (PostOf Qc mc ms free) (vx_Post XC mc ms free) := vx_backW (hh := hh) (bytes := bytes) (maxL := maxL) (ret := ret) hM hp.1 hrc hrs hfr hlo hws hcw (fun a' U hW => word_at hW (Or.inl (by first | rfl | simp [Cond.onTables, Cond.keeps, Cond.steady])) hini)
  obtain ⟨hx, hb, hml, ho, -⟩ := S
  intro T hT X
  rcases vx_callSX X hx (hh := hh) (bytes := bytes) (maxL := maxL) (ret := ret) ho hl hstt hini hcode hy hK hg (hsize.trans hml.symm) (argsL := As) (rest := rest) (fun sig h => hn.trans (hlen sig h)) hstack hW (by rw [hb]; exact hdg)
    (fun vm₁ hW₁ => ⟨hf.1, hf.2, hp.2 (T.setVm vm₁) hT hW₁⟩) with ⟨v, vm₁, ⟨U', l2, c2, s2⟩, hW₁, X', ⟨g', mk, t, L, e1, e2, hq, h1, hL, h2, h3⟩, st⟩ | ⟨q, vm₁, ⟨U', l2, c2, s2⟩, hW₁, X', ⟨g', mk, t, L, E, ce, e1, e2, hq, hce, hcv, hcl, h1, hL, h2, h3⟩, st⟩
  · dsimp only [Pt.U, Pt.locs, Pt.cells, Pt.slots] at X' e1 e2 h1 h2 h3 st
    subst h1; subst h2; subst h3
    exact Or.inl ⟨v, (T.setVm vm₁).calling g' mk As.toArray, t, U', L, hT, X', hL, e1, e2, hq, st⟩
  · dsimp only [Pt.U, Pt.locs, Pt.cells, Pt.slots] at X' e1 e2 h1 h2 h3 st hcl
    subst h1; subst h2; subst h3
    exact Or.inr ⟨q, (T.setVm vm₁).calling g' mk As.toArray, t, U', L, E, ce, hT, X', hL, e1, e2, hq, hce, hcv, vx_cls hW₁ hcl, st⟩
end
end VXH
theorem vx_ofWH {l : Launch} {y : MethodName} {ws ws' : List Cond} {rm : Room} {Pc : Array Value → State → Prop} {Qc : Array Value → State → Outcome → State → Prop} {XC : String → State → State → Prop} {mc ms : Nat} {free : Addr → Prop} {cc : ByteArray} {maxL : Nat} {ret : Option FieldType} {hh : List (Nat × Nat × Nat × Nat)}
    (hy : plainName y.cls = true) (hw : ws = Cond.codeWith y cc maxL ret hh :: ws')
    (body : ∀ p e s m args below meth c s₁, BodyLoose p l y (headSpec ws rm) cc maxL ret e s m args below meth c s₁ → c.maxLocals = maxL → Pc args s →
      W p l e (headSpec ws rm).room s m args below meth c s.heap [] 0 0 (vx_MQ below Qc XC args s mc ms free) (entryFrame m args maxL)) : vx_Met l y ws rm Pc Qc XC mc ms free := by
  refine MetFree.of_bodyS (code := cc) (maxLocals := maxL) (ret := ret) hy ?_ ?_
  · intro args s m h hn
    obtain ⟨m9, meth, c, hn9, h1, h2, h3, h4, -, h5, h6, -⟩ := Cond.codeWith_spec (atoms_spec (ws := ws) h _ (by rw [hw]; exact List.mem_cons_self))
    cases hn.symm.trans hn9
    exact ⟨meth, c, h1, h2, h3, h4, h5, h6⟩
  · intro p e s m args below meth c s₁ B hml hP _
    have hh0 : s₁.heap = s.heap := by rw [B.state]; rfl
    obtain ⟨t, a1, o, b1, b2, b3⟩ := body p e s m args below meth c s₁ B hml hP s₁ hh0 (Stand.of_body B)
    exact ⟨t, o, a1, b1, b2, b3⟩
/-! ===== END ===== -/
end
section
def RX0 : String := "TupleMethods$Classes"
def TX0 : u_T := fun k => match k with
  | 0 => ("TupleMethods$Classes", "size", "I", false)
  | 1 => ("TupleMethods$Classes", "parents", "[I", true)
  | 2 => ("TupleMethods$Classes", "parentCounts", "[I", true)
  | 3 => ("TupleMethods$Classes", "all", "[I", true)
  | 4 => ("TupleMethods$Classes", "lists", "[I", true)
  | 5 => ("TupleMethods$Classes", "lengths", "[I", true)
  | 6 => ("TupleMethods$Classes", "ranks", "[I", true)
  | 7 => ("TupleMethods$Classes", "rows", "[I", true)
  | 8 => ("TupleMethods$Classes", "begins", "[I", true)
  | _ => ("TupleMethods$Classes", "ends", "[I", true)
def tyX0 : Nat → FieldType := fun k => match k with
  | 0 => .int
  | 1 => .array .int
  | 2 => .array .int
  | 3 => .array .int
  | 4 => .array .int
  | 5 => .array .int
  | 6 => .array .int
  | 7 => .array .int
  | 8 => .array .int
  | _ => .array .int
theorem nmX0 : ∀ a, a < 10 → ∀ b, b < 10 → a ≠ b → (TX0 a).2.1 ≠ (TX0 b).2.1 := by decide +kernel
theorem tyX0_ok : ∀ k, k < 10 → parseFieldDescriptor (TX0 k).2.2.1 = some (tyX0 k) := by decide +kernel
abbrev cX0_init : ByteArray := prog_2_method_1_code
def yX0_init : MethodName := ⟨RX0, "<init>", "()V"⟩
abbrev cX0_has : ByteArray := prog_2_method_2_code
def yX0_has : MethodName := ⟨RX0, "has", "(I)Z"⟩
abbrev cX0_isOne : ByteArray := prog_2_method_3_code
def yX0_isOne : MethodName := ⟨RX0, "isOne", "(II)Z"⟩
abbrev cX0_thatAreBoth : ByteArray := prog_2_method_4_code
def yX0_thatAreBoth : MethodName := ⟨RX0, "thatAreBoth", "(II)I"⟩
abbrev cX0_callAfter : ByteArray := prog_2_method_5_code
def yX0_callAfter : MethodName := ⟨RX0, "callAfter", "(I)I"⟩
abbrev cX0_canBeParents : ByteArray := prog_2_method_6_code
def yX0_canBeParents : MethodName := ⟨RX0, "canBeParents", "(III)Z"⟩
abbrev cX0_add : ByteArray := prog_2_method_7_code
def yX0_add : MethodName := ⟨RX0, "add", "(III)I"⟩
abbrev cX0_layRows : ByteArray := prog_2_method_8_code
def yX0_layRows : MethodName := ⟨RX0, "layRows", "(II)V"⟩
abbrev cX0_mergeRows : ByteArray := prog_2_method_9_code
def yX0_mergeRows : MethodName := ⟨RX0, "mergeRows", "(II)Z"⟩
abbrev cX0_nextOfRows : ByteArray := prog_2_method_10_code
def yX0_nextOfRows : MethodName := ⟨RX0, "nextOfRows", "(I)I"⟩
abbrev cX0_standsBehindBegin : ByteArray := prog_2_method_11_code
def yX0_standsBehindBegin : MethodName := ⟨RX0, "standsBehindBegin", "(II)Z"⟩
abbrev cX0_takeOut : ByteArray := prog_2_method_12_code
def yX0_takeOut : MethodName := ⟨RX0, "takeOut", "(II)V"⟩
def RX1 : String := "TupleMethods$Function"
def TX1 : u_T := fun k => match k with
  | 0 => ("TupleMethods$Function", "places", "I", false)
  | 1 => ("TupleMethods$Function", "used", "I", false)
  | 2 => ("TupleMethods$Function", "targets", "[I", true)
  | 3 => ("TupleMethods$Function", "kinds", "[I", true)
  | 4 => ("TupleMethods$Function", "values", "[I", true)
  | 5 => ("TupleMethods$Function", "above", "[I", true)
  | 6 => ("TupleMethods$Function", "fitting", "[I", true)
  | 7 => ("TupleMethods$Function", "keptCalls", "[I", true)
  | _ => ("TupleMethods$Function", "keptCount", "I", false)
def tyX1 : Nat → FieldType := fun k => match k with
  | 0 => .int
  | 1 => .int
  | 2 => .array .int
  | 3 => .array .int
  | 4 => .array .int
  | 5 => .array .int
  | 6 => .array .int
  | 7 => .array .int
  | _ => .int
theorem nmX1 : ∀ a, a < 9 → ∀ b, b < 9 → a ≠ b → (TX1 a).2.1 ≠ (TX1 b).2.1 := by decide +kernel
theorem tyX1_ok : ∀ k, k < 9 → parseFieldDescriptor (TX1 k).2.2.1 = some (tyX1 k) := by decide +kernel
abbrev cX1_init : ByteArray := prog_3_method_1_code
def yX1_init : MethodName := ⟨RX1, "<init>", "()V"⟩
abbrev cX1_thatApply : ByteArray := prog_3_method_2_code
def yX1_thatApply : MethodName := ⟨RX1, "thatApply", "(I)I"⟩
abbrev cX1_leastOf : ByteArray := prog_3_method_3_code
def yX1_leastOf : MethodName := ⟨RX1, "leastOf", "(I)I"⟩
abbrev cX1_atMostAllOf : ByteArray := prog_3_method_4_code
def yX1_atMostAllOf : MethodName := ⟨RX1, "atMostAllOf", "(I)I"⟩
abbrev cX1_hasMethodFor : ByteArray := prog_3_method_5_code
def yX1_hasMethodFor : MethodName := ⟨RX1, "hasMethodFor", "(I)Z"⟩
abbrev cX1_leastFree : ByteArray := prog_3_method_6_code
def yX1_leastFree : MethodName := ⟨RX1, "leastFree", "()I"⟩
abbrev cX1_put : ByteArray := prog_3_method_7_code
def yX1_put : MethodName := ⟨RX1, "put", "(IILTupleMethods$Classes;)V"⟩
abbrev cX1_remove : ByteArray := prog_3_method_8_code
def yX1_remove : MethodName := ⟨RX1, "remove", "(I)V"⟩
abbrev cX1_orderMethods : ByteArray := prog_3_method_9_code
def yX1_orderMethods : MethodName := ⟨RX1, "orderMethods", "()V"⟩
abbrev cX1_fitClass : ByteArray := prog_3_method_10_code
def yX1_fitClass : MethodName := ⟨RX1, "fitClass", "(ILTupleMethods$Classes;)V"⟩
abbrev cX1_copyMethods : ByteArray := prog_3_method_11_code
def yX1_copyMethods : MethodName := ⟨RX1, "copyMethods", "(LTupleMethods$Function;)V"⟩
abbrev cX1_workOut : ByteArray := prog_3_method_12_code
def yX1_workOut : MethodName := ⟨RX1, "workOut", "(II)I"⟩
abbrev cX1_ask : ByteArray := prog_3_method_13_code
def yX1_ask : MethodName := ⟨RX1, "ask", "(I)Z"⟩
abbrev cX1_removeKept : ByteArray := prog_3_method_14_code
def yX1_removeKept : MethodName := ⟨RX1, "removeKept", "(I)V"⟩
abbrev cX1_addKept : ByteArray := prog_3_method_15_code
def yX1_addKept : MethodName := ⟨RX1, "addKept", "(I)V"⟩
abbrev cX1_forget : ByteArray := prog_3_method_16_code
def yX1_forget : MethodName := ⟨RX1, "forget", "(I)V"⟩
def RX2 : String := "TupleMethods"
def TX2 : u_T := fun k => match k with
  | 0 => ("TupleMethods", "classes", "LTupleMethods$Classes;", true)
  | 1 => ("TupleMethods", "functions", "[LTupleMethods$Function;", true)
  | 2 => ("TupleMethods", "trial", "LTupleMethods$Function;", true)
  | 3 => ("TupleMethods", "functionCount", "I", false)
  | 4 => ("TupleMethods", "ruleNow", "I", false)
  | 5 => ("TupleMethods", "hits", "I", false)
  | 6 => ("TupleMethods", "misses", "I", false)
  | 7 => ("TupleMethods", "links", "[I", true)
  | 8 => ("TupleMethods", "linkCount", "I", false)
  | 9 => ("TupleMethods", "answers", "[I", true)
  | 10 => ("TupleMethods", "answersOf", "I", false)
  | _ => ("TupleMethods", "covered", "[Z", true)
def tyX2 : Nat → FieldType := fun k => match k with
  | 0 => .object "TupleMethods$Classes"
  | 1 => .array (.object "TupleMethods$Function")
  | 2 => .object "TupleMethods$Function"
  | 3 => .int
  | 4 => .int
  | 5 => .int
  | 6 => .int
  | 7 => .array .int
  | 8 => .int
  | 9 => .array .int
  | 10 => .int
  | _ => .array .boolean
theorem nmX2 : ∀ a, a < 12 → ∀ b, b < 12 → a ≠ b → (TX2 a).2.1 ≠ (TX2 b).2.1 := by decide +kernel
theorem tyX2_ok : ∀ k, k < 12 → parseFieldDescriptor (TX2 k).2.2.1 = some (tyX2 k) := by decide +kernel
abbrev cX2_init : ByteArray := prog_1_method_1_code
def yX2_init : MethodName := ⟨RX2, "<init>", "()V"⟩
abbrev cX2_kind : ByteArray := prog_1_method_2_code
def yX2_kind : MethodName := ⟨RX2, "kind", "(III)I"⟩
abbrev cX2_is : ByteArray := prog_1_method_3_code
def yX2_is : MethodName := ⟨RX2, "is", "(II)Z"⟩
abbrev cX2_list : ByteArray := prog_1_method_4_code
def yX2_list : MethodName := ⟨RX2, "list", "(II)I"⟩
abbrev cX2_meet : ByteArray := prog_1_method_5_code
def yX2_meet : MethodName := ⟨RX2, "meet", "(III)I"⟩
abbrev cX2_function : ByteArray := prog_1_method_6_code
def yX2_function : MethodName := ⟨RX2, "function", "(I)I"⟩
abbrev cX2_method : ByteArray := prog_1_method_7_code
def yX2_method : MethodName := ⟨RX2, "method", "(IIII)I"⟩
abbrev cX2_drop : ByteArray := prog_1_method_8_code
def yX2_drop : MethodName := ⟨RX2, "drop", "(II)I"⟩
abbrev cX2_rule : ByteArray := prog_1_method_9_code
def yX2_rule : MethodName := ⟨RX2, "rule", "()I"⟩
abbrev cX2_count : ByteArray := prog_1_method_10_code
def yX2_count : MethodName := ⟨RX2, "count", "(I)I"⟩
abbrev cX2_of : ByteArray := prog_1_method_11_code
def yX2_of : MethodName := ⟨RX2, "of", "(II)I"⟩
abbrev cX2_at : ByteArray := prog_1_method_12_code
def yX2_at : MethodName := ⟨RX2, "at", "(III)I"⟩
abbrev cX2_call : ByteArray := prog_1_method_13_code
def yX2_call : MethodName := ⟨RX2, "call", "(II)I"⟩
abbrev cX2_answer : ByteArray := prog_1_method_14_code
def yX2_answer : MethodName := ⟨RX2, "answer", "(II)I"⟩
abbrev cX2_applicable : ByteArray := prog_1_method_15_code
def yX2_applicable : MethodName := ⟨RX2, "applicable", "(II)I"⟩
abbrev cX2_chain : ByteArray := prog_1_method_16_code
def yX2_chain : MethodName := ⟨RX2, "chain", "(III)I"⟩
abbrev cX2_broken : ByteArray := prog_1_method_17_code
def yX2_broken : MethodName := ⟨RX2, "broken", "(II)I"⟩
abbrev cX2_work : ByteArray := prog_1_method_18_code
def yX2_work : MethodName := ⟨RX2, "work", "(II)I"⟩
abbrev cX2_kept : ByteArray := prog_1_method_19_code
def yX2_kept : MethodName := ⟨RX2, "kept", "(II)I"⟩
abbrev cX2_clash : ByteArray := prog_1_method_20_code
def yX2_clash : MethodName := ⟨RX2, "clash", "(II)I"⟩
abbrev cX2_gap : ByteArray := prog_1_method_21_code
def yX2_gap : MethodName := ⟨RX2, "gap", "(II)I"⟩
abbrev cX2_fight : ByteArray := prog_1_method_22_code
def yX2_fight : MethodName := ⟨RX2, "fight", "(III)I"⟩
abbrev cX2_pole : ByteArray := prog_1_method_23_code
def yX2_pole : MethodName := ⟨RX2, "pole", "(III)I"⟩
abbrev cX2_change : ByteArray := prog_1_method_24_code
def yX2_change : MethodName := ⟨RX2, "change", "(II)I"⟩
abbrev cX2_settle : ByteArray := prog_1_method_25_code
def yX2_settle : MethodName := ⟨RX2, "settle", "(I)I"⟩
abbrev cX2_hasFunction : ByteArray := prog_1_method_26_code
def yX2_hasFunction : MethodName := ⟨RX2, "hasFunction", "(I)Z"⟩
abbrev cX2_hasMethod : ByteArray := prog_1_method_27_code
def yX2_hasMethod : MethodName := ⟨RX2, "hasMethod", "(II)Z"⟩
abbrev cX2_hasCall : ByteArray := prog_1_method_28_code
def yX2_hasCall : MethodName := ⟨RX2, "hasCall", "(II)Z"⟩
abbrev cX2_classAt : ByteArray := prog_1_method_29_code
def yX2_classAt : MethodName := ⟨RX2, "classAt", "(II)I"⟩
abbrev cX2_methodsOfAll : ByteArray := prog_1_method_30_code
def yX2_methodsOfAll : MethodName := ⟨RX2, "methodsOfAll", "()I"⟩
abbrev cX2_keptOfAll : ByteArray := prog_1_method_31_code
def yX2_keptOfAll : MethodName := ⟨RX2, "keptOfAll", "()I"⟩
abbrev cX2_firstOf : ByteArray := prog_1_method_32_code
def yX2_firstOf : MethodName := ⟨RX2, "firstOf", "(LTupleMethods$Function;II)I"⟩
abbrev cX2_foremostOf : ByteArray := prog_1_method_33_code
def yX2_foremostOf : MethodName := ⟨RX2, "foremostOf", "(LTupleMethods$Function;II)I"⟩
abbrev cX2_comesAhead : ByteArray := prog_1_method_34_code
def yX2_comesAhead : MethodName := ⟨RX2, "comesAhead", "(III)Z"⟩
abbrev cX2_layChain : ByteArray := prog_1_method_35_code
def yX2_layChain : MethodName := ⟨RX2, "layChain", "(LTupleMethods$Function;I)I"⟩
abbrev cX2_callCount : ByteArray := prog_1_method_36_code
def yX2_callCount : MethodName := ⟨RX2, "callCount", "(LTupleMethods$Function;)I"⟩
abbrev cX2_fillAnswers : ByteArray := prog_1_method_37_code
def yX2_fillAnswers : MethodName := ⟨RX2, "fillAnswers", "(I)V"⟩
abbrev cX2_callsAnswered : ByteArray := prog_1_method_38_code
def yX2_callsAnswered : MethodName := ⟨RX2, "callsAnswered", "(II)I"⟩
abbrev cX2_callsTaken : ByteArray := prog_1_method_39_code
def yX2_callsTaken : MethodName := ⟨RX2, "callsTaken", "(LTupleMethods$Function;I)I"⟩
abbrev cX2_ambiguousCalls : ByteArray := prog_1_method_40_code
def yX2_ambiguousCalls : MethodName := ⟨RX2, "ambiguousCalls", "(LTupleMethods$Function;)I"⟩
abbrev cX2_idleMethods : ByteArray := prog_1_method_41_code
def yX2_idleMethods : MethodName := ⟨RX2, "idleMethods", "(I)I"⟩
abbrev cX2_greatestMarked : ByteArray := prog_1_method_42_code
def yX2_greatestMarked : MethodName := ⟨RX2, "greatestMarked", "(LTupleMethods$Function;ZI)I"⟩
abbrev cX2_isBelowCovered : ByteArray := prog_1_method_43_code
def yX2_isBelowCovered : MethodName := ⟨RX2, "isBelowCovered", "(I)Z"⟩
abbrev cX2_tableSize : ByteArray := prog_1_method_44_code
def yX2_tableSize : MethodName := ⟨RX2, "tableSize", "(I)I"⟩
abbrev cX2_leastAlike : ByteArray := prog_1_method_45_code
def yX2_leastAlike : MethodName := ⟨RX2, "leastAlike", "(LTupleMethods$Function;II)I"⟩
abbrev cX2_areAlike : ByteArray := prog_1_method_46_code
def yX2_areAlike : MethodName := ⟨RX2, "areAlike", "(LTupleMethods$Function;III)Z"⟩
def RX3 : String := "TupleMethodsModel"
def TX3 : u_T := fun k => match k with
  | 0 => ("TupleMethodsModel", "raised", "I", false)
  | 1 => ("TupleMethodsModel", "classes", "I", false)
  | 2 => ("TupleMethodsModel", "is", "[I", true)
  | 3 => ("TupleMethodsModel", "list", "[I", true)
  | 4 => ("TupleMethodsModel", "listMany", "[I", true)
  | 5 => ("TupleMethodsModel", "placeIn", "[I", true)
  | 6 => ("TupleMethodsModel", "functions", "I", false)
  | 7 => ("TupleMethodsModel", "places", "[I", true)
  | 8 => ("TupleMethodsModel", "forWhat", "[I", true)
  | 9 => ("TupleMethodsModel", "kind", "[I", true)
  | 10 => ("TupleMethodsModel", "value", "[I", true)
  | 11 => ("TupleMethodsModel", "rule", "I", false)
  | 12 => ("TupleMethodsModel", "kept", "[I", true)
  | 13 => ("TupleMethodsModel", "keptMany", "[I", true)
  | 14 => ("TupleMethodsModel", "hits", "I", false)
  | 15 => ("TupleMethodsModel", "misses", "I", false)
  | 16 => ("TupleMethodsModel", "rows", "[I", true)
  | 17 => ("TupleMethodsModel", "rowFrom", "[I", true)
  | 18 => ("TupleMethodsModel", "rowTo", "[I", true)
  | 19 => ("TupleMethodsModel", "moreFor", "I", false)
  | 20 => ("TupleMethodsModel", "moreNumber", "I", false)
  | 21 => ("TupleMethodsModel", "chain", "[I", true)
  | 22 => ("TupleMethodsModel", "chainMany", "I", false)
  | 23 => ("TupleMethodsModel", "left", "I", false)
  | 24 => ("TupleMethodsModel", "answers", "[I", true)
  | _ => ("TupleMethodsModel", "wasFor", "[I", true)
def tyX3 : Nat → FieldType := fun k => match k with
  | 0 => .int
  | 1 => .int
  | 2 => .array .int
  | 3 => .array .int
  | 4 => .array .int
  | 5 => .array .int
  | 6 => .int
  | 7 => .array .int
  | 8 => .array .int
  | 9 => .array .int
  | 10 => .array .int
  | 11 => .int
  | 12 => .array .int
  | 13 => .array .int
  | 14 => .int
  | 15 => .int
  | 16 => .array .int
  | 17 => .array .int
  | 18 => .array .int
  | 19 => .int
  | 20 => .int
  | 21 => .array .int
  | 22 => .int
  | 23 => .int
  | 24 => .array .int
  | _ => .array .int
theorem nmX3 : ∀ a, a < 26 → ∀ b, b < 26 → a ≠ b → (TX3 a).2.1 ≠ (TX3 b).2.1 := by decide +kernel
theorem tyX3_ok : ∀ k, k < 26 → parseFieldDescriptor (TX3 k).2.2.1 = some (tyX3 k) := by decide +kernel
abbrev cX3_init : ByteArray := prog_5_method_1_code
def yX3_init : MethodName := ⟨RX3, "<init>", "()V"⟩
abbrev cX3_thrown : ByteArray := prog_5_method_2_code
def yX3_thrown : MethodName := ⟨RX3, "thrown", "()I"⟩
abbrev cX3_in : ByteArray := prog_5_method_3_code
def yX3_in : MethodName := ⟨RX3, "in", "(III)Z"⟩
abbrev cX3_isOn : ByteArray := prog_5_method_4_code
def yX3_isOn : MethodName := ⟨RX3, "isOn", "(II)Z"⟩
abbrev cX3_bits : ByteArray := prog_5_method_5_code
def yX3_bits : MethodName := ⟨RX3, "bits", "(I)I"⟩
abbrev cX3_isClass : ByteArray := prog_5_method_6_code
def yX3_isClass : MethodName := ⟨RX3, "isClass", "(I)Z"⟩
abbrev cX3_isFunction : ByteArray := prog_5_method_7_code
def yX3_isFunction : MethodName := ⟨RX3, "isFunction", "(I)Z"⟩
abbrev cX3_laysRow : ByteArray := prog_5_method_8_code
def yX3_laysRow : MethodName := ⟨RX3, "laysRow", "(II)V"⟩
abbrev cX3_standsBehind : ByteArray := prog_5_method_9_code
def yX3_standsBehind : MethodName := ⟨RX3, "standsBehind", "(I)Z"⟩
abbrev cX3_comesNext : ByteArray := prog_5_method_10_code
def yX3_comesNext : MethodName := ⟨RX3, "comesNext", "()I"⟩
abbrev cX3_isLeft : ByteArray := prog_5_method_11_code
def yX3_isLeft : MethodName := ⟨RX3, "isLeft", "()Z"⟩
abbrev cX3_merges : ByteArray := prog_5_method_12_code
def yX3_merges : MethodName := ⟨RX3, "merges", "(I)Z"⟩
abbrev cX3_kind : ByteArray := prog_5_method_13_code
def yX3_kind : MethodName := ⟨RX3, "kind", "(III)I"⟩
abbrev cX3_is : ByteArray := prog_5_method_14_code
def yX3_is : MethodName := ⟨RX3, "is", "(II)Z"⟩
abbrev cX3_list : ByteArray := prog_5_method_15_code
def yX3_list : MethodName := ⟨RX3, "list", "(II)I"⟩
abbrev cX3_isMeet : ByteArray := prog_5_method_16_code
def yX3_isMeet : MethodName := ⟨RX3, "isMeet", "(III)Z"⟩
abbrev cX3_meet : ByteArray := prog_5_method_17_code
def yX3_meet : MethodName := ⟨RX3, "meet", "(III)I"⟩
abbrev cX3_function : ByteArray := prog_5_method_18_code
def yX3_function : MethodName := ⟨RX3, "function", "(I)I"⟩
abbrev cX3_digit : ByteArray := prog_5_method_19_code
def yX3_digit : MethodName := ⟨RX3, "digit", "(II)I"⟩
abbrev cX3_isCall : ByteArray := prog_5_method_20_code
def yX3_isCall : MethodName := ⟨RX3, "isCall", "(II)Z"⟩
abbrev cX3_areOf : ByteArray := prog_5_method_21_code
def yX3_areOf : MethodName := ⟨RX3, "areOf", "(III)Z"⟩
abbrev cX3_methodFor : ByteArray := prog_5_method_22_code
def yX3_methodFor : MethodName := ⟨RX3, "methodFor", "(II)I"⟩
abbrev cX3_isMethod : ByteArray := prog_5_method_23_code
def yX3_isMethod : MethodName := ⟨RX3, "isMethod", "(II)Z"⟩
abbrev cX3_methodsOf : ByteArray := prog_5_method_24_code
def yX3_methodsOf : MethodName := ⟨RX3, "methodsOf", "(I)I"⟩
abbrev cX3_drops : ByteArray := prog_5_method_25_code
def yX3_drops : MethodName := ⟨RX3, "drops", "(II)V"⟩
abbrev cX3_method : ByteArray := prog_5_method_26_code
def yX3_method : MethodName := ⟨RX3, "method", "(IIII)I"⟩
abbrev cX3_drop : ByteArray := prog_5_method_27_code
def yX3_drop : MethodName := ⟨RX3, "drop", "(II)I"⟩
abbrev cX3_rule : ByteArray := prog_5_method_28_code
def yX3_rule : MethodName := ⟨RX3, "rule", "()I"⟩
abbrev cX3_count : ByteArray := prog_5_method_29_code
def yX3_count : MethodName := ⟨RX3, "count", "(I)I"⟩
abbrev cX3_whatOf : ByteArray := prog_5_method_30_code
def yX3_whatOf : MethodName := ⟨RX3, "whatOf", "(II)I"⟩
abbrev cX3_applicableTo : ByteArray := prog_5_method_31_code
def yX3_applicableTo : MethodName := ⟨RX3, "applicableTo", "(II)I"⟩
abbrev cX3_isAhead : ByteArray := prog_5_method_32_code
def yX3_isAhead : MethodName := ⟨RX3, "isAhead", "(IIII)Z"⟩
abbrev cX3_firstOf : ByteArray := prog_5_method_33_code
def yX3_firstOf : MethodName := ⟨RX3, "firstOf", "(IIII)I"⟩
abbrev cX3_answerOf : ByteArray := prog_5_method_34_code
def yX3_answerOf : MethodName := ⟨RX3, "answerOf", "(III)I"⟩
abbrev cX3_answer : ByteArray := prog_5_method_35_code
def yX3_answer : MethodName := ⟨RX3, "answer", "(II)I"⟩
abbrev cX3_call : ByteArray := prog_5_method_36_code
def yX3_call : MethodName := ⟨RX3, "call", "(II)I"⟩
abbrev cX3_applicable : ByteArray := prog_5_method_37_code
def yX3_applicable : MethodName := ⟨RX3, "applicable", "(II)I"⟩
abbrev cX3_laysChain : ByteArray := prog_5_method_38_code
def yX3_laysChain : MethodName := ⟨RX3, "laysChain", "(II)V"⟩
abbrev cX3_chain : ByteArray := prog_5_method_39_code
def yX3_chain : MethodName := ⟨RX3, "chain", "(III)I"⟩
abbrev cX3_broken : ByteArray := prog_5_method_40_code
def yX3_broken : MethodName := ⟨RX3, "broken", "(II)I"⟩
abbrev cX3_work : ByteArray := prog_5_method_41_code
def yX3_work : MethodName := ⟨RX3, "work", "(II)I"⟩
abbrev cX3_kept : ByteArray := prog_5_method_42_code
def yX3_kept : MethodName := ⟨RX3, "kept", "(II)I"⟩
abbrev cX3_callsOf : ByteArray := prog_5_method_43_code
def yX3_callsOf : MethodName := ⟨RX3, "callsOf", "(I)I"⟩
abbrev cX3_laysAnswers : ByteArray := prog_5_method_44_code
def yX3_laysAnswers : MethodName := ⟨RX3, "laysAnswers", "(II)V"⟩
abbrev cX3_howMany : ByteArray := prog_5_method_45_code
def yX3_howMany : MethodName := ⟨RX3, "howMany", "(II)I"⟩
abbrev cX3_isTop : ByteArray := prog_5_method_46_code
def yX3_isTop : MethodName := ⟨RX3, "isTop", "(II)Z"⟩
abbrev cX3_topOf : ByteArray := prog_5_method_47_code
def yX3_topOf : MethodName := ⟨RX3, "topOf", "(III)I"⟩
abbrev cX3_areAlike : ByteArray := prog_5_method_48_code
def yX3_areAlike : MethodName := ⟨RX3, "areAlike", "(IIII)Z"⟩
abbrev cX3_poleOf : ByteArray := prog_5_method_49_code
def yX3_poleOf : MethodName := ⟨RX3, "poleOf", "(III)I"⟩
abbrev cX3_sizeOf : ByteArray := prog_5_method_50_code
def yX3_sizeOf : MethodName := ⟨RX3, "sizeOf", "(I)I"⟩
abbrev cX3_idleOf : ByteArray := prog_5_method_51_code
def yX3_idleOf : MethodName := ⟨RX3, "idleOf", "(I)I"⟩
abbrev cX3_allCalls : ByteArray := prog_5_method_52_code
def yX3_allCalls : MethodName := ⟨RX3, "allCalls", "(I)I"⟩
abbrev cX3_of : ByteArray := prog_5_method_53_code
def yX3_of : MethodName := ⟨RX3, "of", "(II)I"⟩
abbrev cX3_applicableMany : ByteArray := prog_5_method_54_code
def yX3_applicableMany : MethodName := ⟨RX3, "applicableMany", "(II)I"⟩
abbrev cX3_at : ByteArray := prog_5_method_55_code
def yX3_at : MethodName := ⟨RX3, "at", "(III)I"⟩
abbrev cX3_clash : ByteArray := prog_5_method_56_code
def yX3_clash : MethodName := ⟨RX3, "clash", "(II)I"⟩
abbrev cX3_gap : ByteArray := prog_5_method_57_code
def yX3_gap : MethodName := ⟨RX3, "gap", "(II)I"⟩
abbrev cX3_fightIn : ByteArray := prog_5_method_58_code
def yX3_fightIn : MethodName := ⟨RX3, "fightIn", "(IIII)Z"⟩
abbrev cX3_fight : ByteArray := prog_5_method_59_code
def yX3_fight : MethodName := ⟨RX3, "fight", "(III)I"⟩
abbrev cX3_pole : ByteArray := prog_5_method_60_code
def yX3_pole : MethodName := ⟨RX3, "pole", "(III)I"⟩
abbrev cX3_change : ByteArray := prog_5_method_61_code
def yX3_change : MethodName := ⟨RX3, "change", "(II)I"⟩
abbrev cX3_settle : ByteArray := prog_5_method_62_code
def yX3_settle : MethodName := ⟨RX3, "settle", "(I)I"⟩
def RJx145de : String := "java/io/Serializable"
def RJ6 : String := "java/lang/Integer"
abbrev cJ6_bitCount_0f7a4 : ByteArray := prog_8_method_49_code
def yJ6_bitCount_0f7a4 : MethodName := ⟨RJ6, "bitCount", "(I)I"⟩
def RJ9 : String := "java/lang/Math"
abbrev cJ9_max_7cf53 : ByteArray := prog_9_method_65_code
def yJ9_max_7cf53 : MethodName := ⟨RJ9, "max", "(II)I"⟩
def RJ0 : String := "java/lang/String"
def RJ10 : String := "java/lang/System"
def RL : String := "TupleMethodsLaw"
abbrev cL_at : ByteArray := method_3_code
def yL_at : MethodName := ⟨RL, "at", "(LTupleMethods;III[J)I"⟩
abbrev cL_work : ByteArray := method_4_code
def yL_work : MethodName := ⟨RL, "work", "(LTupleMethods;II[J)I"⟩
abbrev cL_law : ByteArray := code
def yL_law : MethodName := ⟨RL, "law", "([I)Z"⟩
abbrev vwCl : List vw_C := [(RX0, TX0, 10), (RX1, TX1, 9), (RX2, TX2, 12), (RX3, TX3, 26)]
end
section
theorem dX0_init_0 : decode cX0_init 0 = .ok (.aload_n 0, 1) := by decide +kernel
theorem dX0_init_1 : decode cX0_init 1 = .ok (.invokespecial 3, 3) := by decide +kernel
theorem dX0_init_4 : decode cX0_init 4 = .ok (.aload_n 0, 1) := by decide +kernel
theorem dX0_init_5 : decode cX0_init 5 = .ok (.iconst 1, 1) := by decide +kernel
theorem dX0_init_6 : decode cX0_init 6 = .ok (.putfield 9, 3) := by decide +kernel
theorem dX0_init_9 : decode cX0_init 9 = .ok (.aload_n 0, 1) := by decide +kernel
theorem dX0_init_10 : decode cX0_init 10 = .ok (.bipush 48, 2) := by decide +kernel
theorem dX0_init_12 : decode cX0_init 12 = .ok (.newarray .int, 2) := by decide +kernel
theorem dX0_init_14 : decode cX0_init 14 = .ok (.putfield 15, 3) := by decide +kernel
theorem dX0_init_17 : decode cX0_init 17 = .ok (.aload_n 0, 1) := by decide +kernel
theorem dX0_init_18 : decode cX0_init 18 = .ok (.bipush 16, 2) := by decide +kernel
theorem dX0_init_20 : decode cX0_init 20 = .ok (.newarray .int, 2) := by decide +kernel
theorem dX0_init_22 : decode cX0_init 22 = .ok (.putfield 19, 3) := by decide +kernel
theorem dX0_init_25 : decode cX0_init 25 = .ok (.aload_n 0, 1) := by decide +kernel
theorem dX0_init_26 : decode cX0_init 26 = .ok (.bipush 16, 2) := by decide +kernel
theorem dX0_init_28 : decode cX0_init 28 = .ok (.newarray .int, 2) := by decide +kernel
theorem dX0_init_30 : decode cX0_init 30 = .ok (.putfield 22, 3) := by decide +kernel
theorem dX0_init_33 : decode cX0_init 33 = .ok (.aload_n 0, 1) := by decide +kernel
theorem dX0_init_34 : decode cX0_init 34 = .ok (.sipush 256, 3) := by decide +kernel
theorem dX0_init_37 : decode cX0_init 37 = .ok (.newarray .int, 2) := by decide +kernel
theorem dX0_init_39 : decode cX0_init 39 = .ok (.putfield 25, 3) := by decide +kernel
theorem dX0_init_42 : decode cX0_init 42 = .ok (.aload_n 0, 1) := by decide +kernel
theorem dX0_init_43 : decode cX0_init 43 = .ok (.bipush 16, 2) := by decide +kernel
theorem dX0_init_45 : decode cX0_init 45 = .ok (.newarray .int, 2) := by decide +kernel
theorem dX0_init_47 : decode cX0_init 47 = .ok (.putfield 28, 3) := by decide +kernel
theorem dX0_init_50 : decode cX0_init 50 = .ok (.aload_n 0, 1) := by decide +kernel
theorem dX0_init_51 : decode cX0_init 51 = .ok (.sipush 256, 3) := by decide +kernel
theorem dX0_init_54 : decode cX0_init 54 = .ok (.newarray .int, 2) := by decide +kernel
theorem dX0_init_56 : decode cX0_init 56 = .ok (.putfield 31, 3) := by decide +kernel
theorem dX0_init_59 : decode cX0_init 59 = .ok (.aload_n 0, 1) := by decide +kernel
theorem dX0_init_60 : decode cX0_init 60 = .ok (.bipush 64, 2) := by decide +kernel
theorem dX0_init_62 : decode cX0_init 62 = .ok (.newarray .int, 2) := by decide +kernel
theorem dX0_init_64 : decode cX0_init 64 = .ok (.putfield 34, 3) := by decide +kernel
theorem dX0_init_67 : decode cX0_init 67 = .ok (.aload_n 0, 1) := by decide +kernel
theorem dX0_init_68 : decode cX0_init 68 = .ok (.iconst 4, 1) := by decide +kernel
theorem dX0_init_69 : decode cX0_init 69 = .ok (.newarray .int, 2) := by decide +kernel
theorem dX0_init_71 : decode cX0_init 71 = .ok (.putfield 37, 3) := by decide +kernel
theorem dX0_init_74 : decode cX0_init 74 = .ok (.aload_n 0, 1) := by decide +kernel
theorem dX0_init_75 : decode cX0_init 75 = .ok (.iconst 4, 1) := by decide +kernel
theorem dX0_init_76 : decode cX0_init 76 = .ok (.newarray .int, 2) := by decide +kernel
theorem dX0_init_78 : decode cX0_init 78 = .ok (.putfield 40, 3) := by decide +kernel
theorem dX0_init_81 : decode cX0_init 81 = .ok (.aload_n 0, 1) := by decide +kernel
theorem dX0_init_82 : decode cX0_init 82 = .ok (.getfield 22, 3) := by decide +kernel
theorem dX0_init_85 : decode cX0_init 85 = .ok (.iconst 0, 1) := by decide +kernel
theorem dX0_init_86 : decode cX0_init 86 = .ok (.iconst 1, 1) := by decide +kernel
theorem dX0_init_87 : decode cX0_init 87 = .ok (.iastore, 1) := by decide +kernel
theorem dX0_init_88 : decode cX0_init 88 = .ok (.aload_n 0, 1) := by decide +kernel
theorem dX0_init_89 : decode cX0_init 89 = .ok (.getfield 28, 3) := by decide +kernel
theorem dX0_init_92 : decode cX0_init 92 = .ok (.iconst 0, 1) := by decide +kernel
theorem dX0_init_93 : decode cX0_init 93 = .ok (.iconst 1, 1) := by decide +kernel
theorem dX0_init_94 : decode cX0_init 94 = .ok (.iastore, 1) := by decide +kernel
theorem dX0_init_95 : decode cX0_init 95 = .ok (.return_, 1) := by decide +kernel
theorem dX0_has_0 : decode cX0_has 0 = .ok (.iload_n 1, 1) := by decide +kernel
theorem dX0_has_1 : decode cX0_has 1 = .ok (.ifCond .lt 15, 3) := by decide +kernel
theorem dX0_has_4 : decode cX0_has 4 = .ok (.iload_n 1, 1) := by decide +kernel
theorem dX0_has_5 : decode cX0_has 5 = .ok (.aload_n 0, 1) := by decide +kernel
theorem dX0_has_6 : decode cX0_has 6 = .ok (.getfield 9, 3) := by decide +kernel
theorem dX0_has_9 : decode cX0_has 9 = .ok (.if_icmp .ge 7, 3) := by decide +kernel
theorem dX0_has_12 : decode cX0_has 12 = .ok (.iconst 1, 1) := by decide +kernel
theorem dX0_has_13 : decode cX0_has 13 = .ok (.goto 4, 3) := by decide +kernel
theorem dX0_has_16 : decode cX0_has 16 = .ok (.iconst 0, 1) := by decide +kernel
theorem dX0_has_17 : decode cX0_has 17 = .ok (.ireturn, 1) := by decide +kernel
theorem dX0_isOne_0 : decode cX0_isOne 0 = .ok (.aload_n 0, 1) := by decide +kernel
theorem dX0_isOne_1 : decode cX0_isOne 1 = .ok (.getfield 22, 3) := by decide +kernel
theorem dX0_isOne_4 : decode cX0_isOne 4 = .ok (.iload_n 1, 1) := by decide +kernel
theorem dX0_isOne_5 : decode cX0_isOne 5 = .ok (.iaload, 1) := by decide +kernel
theorem dX0_isOne_6 : decode cX0_isOne 6 = .ok (.iload_n 2, 1) := by decide +kernel
theorem dX0_isOne_7 : decode cX0_isOne 7 = .ok (.ishr, 1) := by decide +kernel
theorem dX0_isOne_8 : decode cX0_isOne 8 = .ok (.iconst 1, 1) := by decide +kernel
theorem dX0_isOne_9 : decode cX0_isOne 9 = .ok (.iand, 1) := by decide +kernel
theorem dX0_isOne_10 : decode cX0_isOne 10 = .ok (.ifCond .eq 7, 3) := by decide +kernel
theorem dX0_isOne_13 : decode cX0_isOne 13 = .ok (.iconst 1, 1) := by decide +kernel
theorem dX0_isOne_14 : decode cX0_isOne 14 = .ok (.goto 4, 3) := by decide +kernel
theorem dX0_isOne_17 : decode cX0_isOne 17 = .ok (.iconst 0, 1) := by decide +kernel
theorem dX0_isOne_18 : decode cX0_isOne 18 = .ok (.ireturn, 1) := by decide +kernel
theorem dX0_thatAreBoth_0 : decode cX0_thatAreBoth 0 = .ok (.iconst 0, 1) := by decide +kernel
theorem dX0_thatAreBoth_1 : decode cX0_thatAreBoth 1 = .ok (.istore_n 3, 1) := by decide +kernel
theorem dX0_thatAreBoth_2 : decode cX0_thatAreBoth 2 = .ok (.iconst 0, 1) := by decide +kernel
theorem dX0_thatAreBoth_3 : decode cX0_thatAreBoth 3 = .ok (.istore 4, 2) := by decide +kernel
theorem dX0_thatAreBoth_5 : decode cX0_thatAreBoth 5 = .ok (.iload 4, 2) := by decide +kernel
theorem dX0_thatAreBoth_7 : decode cX0_thatAreBoth 7 = .ok (.aload_n 0, 1) := by decide +kernel
theorem dX0_thatAreBoth_8 : decode cX0_thatAreBoth 8 = .ok (.getfield 9, 3) := by decide +kernel
theorem dX0_thatAreBoth_11 : decode cX0_thatAreBoth 11 = .ok (.if_icmp .ge 36, 3) := by decide +kernel
theorem dX0_thatAreBoth_14 : decode cX0_thatAreBoth 14 = .ok (.aload_n 0, 1) := by decide +kernel
theorem dX0_thatAreBoth_15 : decode cX0_thatAreBoth 15 = .ok (.iload 4, 2) := by decide +kernel
theorem dX0_thatAreBoth_17 : decode cX0_thatAreBoth 17 = .ok (.iload_n 1, 1) := by decide +kernel
theorem dX0_thatAreBoth_18 : decode cX0_thatAreBoth 18 = .ok (.invokevirtual 43, 3) := by decide +kernel
theorem dX0_thatAreBoth_21 : decode cX0_thatAreBoth 21 = .ok (.ifCond .eq 20, 3) := by decide +kernel
theorem dX0_thatAreBoth_24 : decode cX0_thatAreBoth 24 = .ok (.aload_n 0, 1) := by decide +kernel
theorem dX0_thatAreBoth_25 : decode cX0_thatAreBoth 25 = .ok (.iload 4, 2) := by decide +kernel
theorem dX0_thatAreBoth_27 : decode cX0_thatAreBoth 27 = .ok (.iload_n 2, 1) := by decide +kernel
theorem dX0_thatAreBoth_28 : decode cX0_thatAreBoth 28 = .ok (.invokevirtual 43, 3) := by decide +kernel
theorem dX0_thatAreBoth_31 : decode cX0_thatAreBoth 31 = .ok (.ifCond .eq 10, 3) := by decide +kernel
theorem dX0_thatAreBoth_34 : decode cX0_thatAreBoth 34 = .ok (.iload_n 3, 1) := by decide +kernel
theorem dX0_thatAreBoth_35 : decode cX0_thatAreBoth 35 = .ok (.iconst 1, 1) := by decide +kernel
theorem dX0_thatAreBoth_36 : decode cX0_thatAreBoth 36 = .ok (.iload 4, 2) := by decide +kernel
theorem dX0_thatAreBoth_38 : decode cX0_thatAreBoth 38 = .ok (.ishl, 1) := by decide +kernel
theorem dX0_thatAreBoth_39 : decode cX0_thatAreBoth 39 = .ok (.ior, 1) := by decide +kernel
theorem dX0_thatAreBoth_40 : decode cX0_thatAreBoth 40 = .ok (.istore_n 3, 1) := by decide +kernel
theorem dX0_thatAreBoth_41 : decode cX0_thatAreBoth 41 = .ok (.iinc 4 1, 3) := by decide +kernel
theorem dX0_thatAreBoth_44 : decode cX0_thatAreBoth 44 = .ok (.goto (-39), 3) := by decide +kernel
theorem dX0_thatAreBoth_47 : decode cX0_thatAreBoth 47 = .ok (.iload_n 3, 1) := by decide +kernel
theorem dX0_thatAreBoth_48 : decode cX0_thatAreBoth 48 = .ok (.ireturn, 1) := by decide +kernel
theorem dX0_callAfter_0 : decode cX0_callAfter 0 = .ok (.iload_n 1, 1) := by decide +kernel
theorem dX0_callAfter_1 : decode cX0_callAfter 1 = .ok (.iconst 0, 1) := by decide +kernel
theorem dX0_callAfter_2 : decode cX0_callAfter 2 = .ok (.invokestatic 47, 3) := by decide +kernel
theorem dX0_callAfter_5 : decode cX0_callAfter 5 = .ok (.iconst 1, 1) := by decide +kernel
theorem dX0_callAfter_6 : decode cX0_callAfter 6 = .ok (.iadd, 1) := by decide +kernel
theorem dX0_callAfter_7 : decode cX0_callAfter 7 = .ok (.aload_n 0, 1) := by decide +kernel
theorem dX0_callAfter_8 : decode cX0_callAfter 8 = .ok (.getfield 9, 3) := by decide +kernel
theorem dX0_callAfter_11 : decode cX0_callAfter 11 = .ok (.if_icmp .ge 7, 3) := by decide +kernel
theorem dX0_callAfter_14 : decode cX0_callAfter 14 = .ok (.iload_n 1, 1) := by decide +kernel
theorem dX0_callAfter_15 : decode cX0_callAfter 15 = .ok (.iconst 1, 1) := by decide +kernel
theorem dX0_callAfter_16 : decode cX0_callAfter 16 = .ok (.iadd, 1) := by decide +kernel
theorem dX0_callAfter_17 : decode cX0_callAfter 17 = .ok (.ireturn, 1) := by decide +kernel
theorem dX0_callAfter_18 : decode cX0_callAfter 18 = .ok (.iload_n 1, 1) := by decide +kernel
theorem dX0_callAfter_19 : decode cX0_callAfter 19 = .ok (.iconst 1, 1) := by decide +kernel
theorem dX0_callAfter_20 : decode cX0_callAfter 20 = .ok (.invokestatic 47, 3) := by decide +kernel
theorem dX0_callAfter_23 : decode cX0_callAfter 23 = .ok (.iconst 1, 1) := by decide +kernel
theorem dX0_callAfter_24 : decode cX0_callAfter 24 = .ok (.iadd, 1) := by decide +kernel
theorem dX0_callAfter_25 : decode cX0_callAfter 25 = .ok (.aload_n 0, 1) := by decide +kernel
theorem dX0_callAfter_26 : decode cX0_callAfter 26 = .ok (.getfield 9, 3) := by decide +kernel
theorem dX0_callAfter_29 : decode cX0_callAfter 29 = .ok (.if_icmp .ge 10, 3) := by decide +kernel
theorem dX0_callAfter_32 : decode cX0_callAfter 32 = .ok (.iload_n 1, 1) := by decide +kernel
theorem dX0_callAfter_33 : decode cX0_callAfter 33 = .ok (.bipush 15, 2) := by decide +kernel
theorem dX0_callAfter_35 : decode cX0_callAfter 35 = .ok (.ior, 1) := by decide +kernel
theorem dX0_callAfter_36 : decode cX0_callAfter 36 = .ok (.iconst 1, 1) := by decide +kernel
theorem dX0_callAfter_37 : decode cX0_callAfter 37 = .ok (.iadd, 1) := by decide +kernel
theorem dX0_callAfter_38 : decode cX0_callAfter 38 = .ok (.ireturn, 1) := by decide +kernel
theorem dX0_callAfter_39 : decode cX0_callAfter 39 = .ok (.iload_n 1, 1) := by decide +kernel
theorem dX0_callAfter_40 : decode cX0_callAfter 40 = .ok (.sipush 255, 3) := by decide +kernel
theorem dX0_callAfter_43 : decode cX0_callAfter 43 = .ok (.ior, 1) := by decide +kernel
theorem dX0_callAfter_44 : decode cX0_callAfter 44 = .ok (.iconst 1, 1) := by decide +kernel
theorem dX0_callAfter_45 : decode cX0_callAfter 45 = .ok (.iadd, 1) := by decide +kernel
theorem dX0_callAfter_46 : decode cX0_callAfter 46 = .ok (.ireturn, 1) := by decide +kernel
theorem dX0_canBeParents_0 : decode cX0_canBeParents 0 = .ok (.aload_n 0, 1) := by decide +kernel
theorem dX0_canBeParents_1 : decode cX0_canBeParents 1 = .ok (.iload_n 1, 1) := by decide +kernel
theorem dX0_canBeParents_2 : decode cX0_canBeParents 2 = .ok (.invokevirtual 51, 3) := by decide +kernel
theorem dX0_canBeParents_5 : decode cX0_canBeParents 5 = .ok (.ifCond .ne 5, 3) := by decide +kernel
theorem dX0_canBeParents_8 : decode cX0_canBeParents 8 = .ok (.iconst 0, 1) := by decide +kernel
theorem dX0_canBeParents_9 : decode cX0_canBeParents 9 = .ok (.ireturn, 1) := by decide +kernel
theorem dX0_canBeParents_10 : decode cX0_canBeParents 10 = .ok (.iload_n 2, 1) := by decide +kernel
theorem dX0_canBeParents_11 : decode cX0_canBeParents 11 = .ok (.iconst (-1), 1) := by decide +kernel
theorem dX0_canBeParents_12 : decode cX0_canBeParents 12 = .ok (.if_icmp .ne 14, 3) := by decide +kernel
theorem dX0_canBeParents_15 : decode cX0_canBeParents 15 = .ok (.iload_n 3, 1) := by decide +kernel
theorem dX0_canBeParents_16 : decode cX0_canBeParents 16 = .ok (.iconst (-1), 1) := by decide +kernel
theorem dX0_canBeParents_17 : decode cX0_canBeParents 17 = .ok (.if_icmp .ne 7, 3) := by decide +kernel
theorem dX0_canBeParents_20 : decode cX0_canBeParents 20 = .ok (.iconst 1, 1) := by decide +kernel
theorem dX0_canBeParents_21 : decode cX0_canBeParents 21 = .ok (.goto 4, 3) := by decide +kernel
theorem dX0_canBeParents_24 : decode cX0_canBeParents 24 = .ok (.iconst 0, 1) := by decide +kernel
theorem dX0_canBeParents_25 : decode cX0_canBeParents 25 = .ok (.ireturn, 1) := by decide +kernel
theorem dX0_canBeParents_26 : decode cX0_canBeParents 26 = .ok (.aload_n 0, 1) := by decide +kernel
theorem dX0_canBeParents_27 : decode cX0_canBeParents 27 = .ok (.iload_n 2, 1) := by decide +kernel
theorem dX0_canBeParents_28 : decode cX0_canBeParents 28 = .ok (.invokevirtual 51, 3) := by decide +kernel
theorem dX0_canBeParents_31 : decode cX0_canBeParents 31 = .ok (.ifCond .eq 8, 3) := by decide +kernel
theorem dX0_canBeParents_34 : decode cX0_canBeParents 34 = .ok (.iload_n 2, 1) := by decide +kernel
theorem dX0_canBeParents_35 : decode cX0_canBeParents 35 = .ok (.iload_n 1, 1) := by decide +kernel
theorem dX0_canBeParents_36 : decode cX0_canBeParents 36 = .ok (.if_icmp .ne 5, 3) := by decide +kernel
theorem dX0_canBeParents_39 : decode cX0_canBeParents 39 = .ok (.iconst 0, 1) := by decide +kernel
theorem dX0_canBeParents_40 : decode cX0_canBeParents 40 = .ok (.ireturn, 1) := by decide +kernel
theorem dX0_canBeParents_41 : decode cX0_canBeParents 41 = .ok (.iload_n 3, 1) := by decide +kernel
theorem dX0_canBeParents_42 : decode cX0_canBeParents 42 = .ok (.iconst (-1), 1) := by decide +kernel
theorem dX0_canBeParents_43 : decode cX0_canBeParents 43 = .ok (.if_icmp .eq 21, 3) := by decide +kernel
theorem dX0_canBeParents_46 : decode cX0_canBeParents 46 = .ok (.aload_n 0, 1) := by decide +kernel
theorem dX0_canBeParents_47 : decode cX0_canBeParents 47 = .ok (.iload_n 3, 1) := by decide +kernel
theorem dX0_canBeParents_48 : decode cX0_canBeParents 48 = .ok (.invokevirtual 51, 3) := by decide +kernel
theorem dX0_canBeParents_51 : decode cX0_canBeParents 51 = .ok (.ifCond .eq 17, 3) := by decide +kernel
theorem dX0_canBeParents_54 : decode cX0_canBeParents 54 = .ok (.iload_n 3, 1) := by decide +kernel
theorem dX0_canBeParents_55 : decode cX0_canBeParents 55 = .ok (.iload_n 1, 1) := by decide +kernel
theorem dX0_canBeParents_56 : decode cX0_canBeParents 56 = .ok (.if_icmp .eq 12, 3) := by decide +kernel
theorem dX0_canBeParents_59 : decode cX0_canBeParents 59 = .ok (.iload_n 3, 1) := by decide +kernel
theorem dX0_canBeParents_60 : decode cX0_canBeParents 60 = .ok (.iload_n 2, 1) := by decide +kernel
theorem dX0_canBeParents_61 : decode cX0_canBeParents 61 = .ok (.if_icmp .eq 7, 3) := by decide +kernel
theorem dX0_canBeParents_64 : decode cX0_canBeParents 64 = .ok (.iconst 1, 1) := by decide +kernel
theorem dX0_canBeParents_65 : decode cX0_canBeParents 65 = .ok (.goto 4, 3) := by decide +kernel
theorem dX0_canBeParents_68 : decode cX0_canBeParents 68 = .ok (.iconst 0, 1) := by decide +kernel
theorem dX0_canBeParents_69 : decode cX0_canBeParents 69 = .ok (.ireturn, 1) := by decide +kernel
theorem dX0_add_0 : decode cX0_add 0 = .ok (.aload_n 0, 1) := by decide +kernel
theorem dX0_add_1 : decode cX0_add 1 = .ok (.getfield 9, 3) := by decide +kernel
theorem dX0_add_4 : decode cX0_add 4 = .ok (.istore 4, 2) := by decide +kernel
theorem dX0_add_6 : decode cX0_add 6 = .ok (.aload_n 0, 1) := by decide +kernel
theorem dX0_add_7 : decode cX0_add 7 = .ok (.getfield 15, 3) := by decide +kernel
theorem dX0_add_10 : decode cX0_add 10 = .ok (.iconst 3, 1) := by decide +kernel
theorem dX0_add_11 : decode cX0_add 11 = .ok (.iload 4, 2) := by decide +kernel
theorem dX0_add_13 : decode cX0_add 13 = .ok (.imul, 1) := by decide +kernel
theorem dX0_add_14 : decode cX0_add 14 = .ok (.iload_n 1, 1) := by decide +kernel
theorem dX0_add_15 : decode cX0_add 15 = .ok (.iastore, 1) := by decide +kernel
theorem dX0_add_16 : decode cX0_add 16 = .ok (.aload_n 0, 1) := by decide +kernel
theorem dX0_add_17 : decode cX0_add 17 = .ok (.getfield 15, 3) := by decide +kernel
theorem dX0_add_20 : decode cX0_add 20 = .ok (.iconst 3, 1) := by decide +kernel
theorem dX0_add_21 : decode cX0_add 21 = .ok (.iload 4, 2) := by decide +kernel
theorem dX0_add_23 : decode cX0_add 23 = .ok (.imul, 1) := by decide +kernel
theorem dX0_add_24 : decode cX0_add 24 = .ok (.iconst 1, 1) := by decide +kernel
theorem dX0_add_25 : decode cX0_add 25 = .ok (.iadd, 1) := by decide +kernel
theorem dX0_add_26 : decode cX0_add 26 = .ok (.iload_n 2, 1) := by decide +kernel
theorem dX0_add_27 : decode cX0_add 27 = .ok (.iastore, 1) := by decide +kernel
theorem dX0_add_28 : decode cX0_add 28 = .ok (.aload_n 0, 1) := by decide +kernel
theorem dX0_add_29 : decode cX0_add 29 = .ok (.getfield 15, 3) := by decide +kernel
theorem dX0_add_32 : decode cX0_add 32 = .ok (.iconst 3, 1) := by decide +kernel
theorem dX0_add_33 : decode cX0_add 33 = .ok (.iload 4, 2) := by decide +kernel
theorem dX0_add_35 : decode cX0_add 35 = .ok (.imul, 1) := by decide +kernel
theorem dX0_add_36 : decode cX0_add 36 = .ok (.iconst 2, 1) := by decide +kernel
theorem dX0_add_37 : decode cX0_add 37 = .ok (.iadd, 1) := by decide +kernel
theorem dX0_add_38 : decode cX0_add 38 = .ok (.iload_n 3, 1) := by decide +kernel
theorem dX0_add_39 : decode cX0_add 39 = .ok (.iastore, 1) := by decide +kernel
theorem dX0_add_40 : decode cX0_add 40 = .ok (.iload_n 2, 1) := by decide +kernel
theorem dX0_add_41 : decode cX0_add 41 = .ok (.iconst (-1), 1) := by decide +kernel
theorem dX0_add_42 : decode cX0_add 42 = .ok (.if_icmp .ne 7, 3) := by decide +kernel
theorem dX0_add_45 : decode cX0_add 45 = .ok (.iconst 1, 1) := by decide +kernel
theorem dX0_add_46 : decode cX0_add 46 = .ok (.goto 13, 3) := by decide +kernel
theorem dX0_add_49 : decode cX0_add 49 = .ok (.iload_n 3, 1) := by decide +kernel
theorem dX0_add_50 : decode cX0_add 50 = .ok (.iconst (-1), 1) := by decide +kernel
theorem dX0_add_51 : decode cX0_add 51 = .ok (.if_icmp .ne 7, 3) := by decide +kernel
theorem dX0_add_54 : decode cX0_add 54 = .ok (.iconst 2, 1) := by decide +kernel
theorem dX0_add_55 : decode cX0_add 55 = .ok (.goto 4, 3) := by decide +kernel
theorem dX0_add_58 : decode cX0_add 58 = .ok (.iconst 3, 1) := by decide +kernel
theorem dX0_add_59 : decode cX0_add 59 = .ok (.istore 5, 2) := by decide +kernel
theorem dX0_add_61 : decode cX0_add 61 = .ok (.aload_n 0, 1) := by decide +kernel
theorem dX0_add_62 : decode cX0_add 62 = .ok (.getfield 19, 3) := by decide +kernel
theorem dX0_add_65 : decode cX0_add 65 = .ok (.iload 4, 2) := by decide +kernel
theorem dX0_add_67 : decode cX0_add 67 = .ok (.iload 5, 2) := by decide +kernel
theorem dX0_add_69 : decode cX0_add 69 = .ok (.iastore, 1) := by decide +kernel
theorem dX0_add_70 : decode cX0_add 70 = .ok (.aload_n 0, 1) := by decide +kernel
theorem dX0_add_71 : decode cX0_add 71 = .ok (.iload 4, 2) := by decide +kernel
theorem dX0_add_73 : decode cX0_add 73 = .ok (.iload 5, 2) := by decide +kernel
theorem dX0_add_75 : decode cX0_add 75 = .ok (.invokevirtual 55, 3) := by decide +kernel
theorem dX0_add_78 : decode cX0_add 78 = .ok (.aload_n 0, 1) := by decide +kernel
theorem dX0_add_79 : decode cX0_add 79 = .ok (.iload 4, 2) := by decide +kernel
theorem dX0_add_81 : decode cX0_add 81 = .ok (.iload 5, 2) := by decide +kernel
theorem dX0_add_83 : decode cX0_add 83 = .ok (.iconst 1, 1) := by decide +kernel
theorem dX0_add_84 : decode cX0_add 84 = .ok (.iadd, 1) := by decide +kernel
theorem dX0_add_85 : decode cX0_add 85 = .ok (.invokevirtual 59, 3) := by decide +kernel
theorem dX0_add_88 : decode cX0_add 88 = .ok (.ifCond .ne 6, 3) := by decide +kernel
theorem dX0_add_91 : decode cX0_add 91 = .ok (.bipush (-2), 2) := by decide +kernel
theorem dX0_add_93 : decode cX0_add 93 = .ok (.ireturn, 1) := by decide +kernel
theorem dX0_add_94 : decode cX0_add 94 = .ok (.iconst 0, 1) := by decide +kernel
theorem dX0_add_95 : decode cX0_add 95 = .ok (.istore 6, 2) := by decide +kernel
theorem dX0_add_97 : decode cX0_add 97 = .ok (.iload 6, 2) := by decide +kernel
theorem dX0_add_99 : decode cX0_add 99 = .ok (.aload_n 0, 1) := by decide +kernel
theorem dX0_add_100 : decode cX0_add 100 = .ok (.getfield 28, 3) := by decide +kernel
theorem dX0_add_103 : decode cX0_add 103 = .ok (.iload 4, 2) := by decide +kernel
theorem dX0_add_105 : decode cX0_add 105 = .ok (.iaload, 1) := by decide +kernel
theorem dX0_add_106 : decode cX0_add 106 = .ok (.if_icmp .ge 53, 3) := by decide +kernel
theorem dX0_add_109 : decode cX0_add 109 = .ok (.aload_n 0, 1) := by decide +kernel
theorem dX0_add_110 : decode cX0_add 110 = .ok (.getfield 25, 3) := by decide +kernel
theorem dX0_add_113 : decode cX0_add 113 = .ok (.bipush 16, 2) := by decide +kernel
theorem dX0_add_115 : decode cX0_add 115 = .ok (.iload 4, 2) := by decide +kernel
theorem dX0_add_117 : decode cX0_add 117 = .ok (.imul, 1) := by decide +kernel
theorem dX0_add_118 : decode cX0_add 118 = .ok (.iload 6, 2) := by decide +kernel
theorem dX0_add_120 : decode cX0_add 120 = .ok (.iadd, 1) := by decide +kernel
theorem dX0_add_121 : decode cX0_add 121 = .ok (.iaload, 1) := by decide +kernel
theorem dX0_add_122 : decode cX0_add 122 = .ok (.istore 7, 2) := by decide +kernel
theorem dX0_add_124 : decode cX0_add 124 = .ok (.aload_n 0, 1) := by decide +kernel
theorem dX0_add_125 : decode cX0_add 125 = .ok (.getfield 22, 3) := by decide +kernel
theorem dX0_add_128 : decode cX0_add 128 = .ok (.iload 4, 2) := by decide +kernel
theorem dX0_add_130 : decode cX0_add 130 = .ok (.dup2, 1) := by decide +kernel
theorem dX0_add_131 : decode cX0_add 131 = .ok (.iaload, 1) := by decide +kernel
theorem dX0_add_132 : decode cX0_add 132 = .ok (.iconst 1, 1) := by decide +kernel
theorem dX0_add_133 : decode cX0_add 133 = .ok (.iload 7, 2) := by decide +kernel
theorem dX0_add_135 : decode cX0_add 135 = .ok (.ishl, 1) := by decide +kernel
theorem dX0_add_136 : decode cX0_add 136 = .ok (.ior, 1) := by decide +kernel
theorem dX0_add_137 : decode cX0_add 137 = .ok (.iastore, 1) := by decide +kernel
theorem dX0_add_138 : decode cX0_add 138 = .ok (.aload_n 0, 1) := by decide +kernel
theorem dX0_add_139 : decode cX0_add 139 = .ok (.getfield 31, 3) := by decide +kernel
theorem dX0_add_142 : decode cX0_add 142 = .ok (.bipush 16, 2) := by decide +kernel
theorem dX0_add_144 : decode cX0_add 144 = .ok (.iload 4, 2) := by decide +kernel
theorem dX0_add_146 : decode cX0_add 146 = .ok (.imul, 1) := by decide +kernel
theorem dX0_add_147 : decode cX0_add 147 = .ok (.iload 7, 2) := by decide +kernel
theorem dX0_add_149 : decode cX0_add 149 = .ok (.iadd, 1) := by decide +kernel
theorem dX0_add_150 : decode cX0_add 150 = .ok (.iload 6, 2) := by decide +kernel
theorem dX0_add_152 : decode cX0_add 152 = .ok (.iastore, 1) := by decide +kernel
theorem dX0_add_153 : decode cX0_add 153 = .ok (.iinc 6 1, 3) := by decide +kernel
theorem dX0_add_156 : decode cX0_add 156 = .ok (.goto (-59), 3) := by decide +kernel
theorem dX0_add_159 : decode cX0_add 159 = .ok (.aload_n 0, 1) := by decide +kernel
theorem dX0_add_160 : decode cX0_add 160 = .ok (.dup, 1) := by decide +kernel
theorem dX0_add_161 : decode cX0_add 161 = .ok (.getfield 9, 3) := by decide +kernel
theorem dX0_add_164 : decode cX0_add 164 = .ok (.iconst 1, 1) := by decide +kernel
theorem dX0_add_165 : decode cX0_add 165 = .ok (.iadd, 1) := by decide +kernel
theorem dX0_add_166 : decode cX0_add 166 = .ok (.putfield 9, 3) := by decide +kernel
theorem dX0_add_169 : decode cX0_add 169 = .ok (.iload 4, 2) := by decide +kernel
theorem dX0_add_171 : decode cX0_add 171 = .ok (.ireturn, 1) := by decide +kernel
theorem dX0_layRows_0 : decode cX0_layRows 0 = .ok (.iconst 0, 1) := by decide +kernel
theorem dX0_layRows_1 : decode cX0_layRows 1 = .ok (.istore_n 3, 1) := by decide +kernel
theorem dX0_layRows_2 : decode cX0_layRows 2 = .ok (.iload_n 3, 1) := by decide +kernel
theorem dX0_layRows_3 : decode cX0_layRows 3 = .ok (.iload_n 2, 1) := by decide +kernel
theorem dX0_layRows_4 : decode cX0_layRows 4 = .ok (.if_icmp .ge 81, 3) := by decide +kernel
theorem dX0_layRows_7 : decode cX0_layRows 7 = .ok (.aload_n 0, 1) := by decide +kernel
theorem dX0_layRows_8 : decode cX0_layRows 8 = .ok (.getfield 15, 3) := by decide +kernel
theorem dX0_layRows_11 : decode cX0_layRows 11 = .ok (.iconst 3, 1) := by decide +kernel
theorem dX0_layRows_12 : decode cX0_layRows 12 = .ok (.iload_n 1, 1) := by decide +kernel
theorem dX0_layRows_13 : decode cX0_layRows 13 = .ok (.imul, 1) := by decide +kernel
theorem dX0_layRows_14 : decode cX0_layRows 14 = .ok (.iload_n 3, 1) := by decide +kernel
theorem dX0_layRows_15 : decode cX0_layRows 15 = .ok (.iadd, 1) := by decide +kernel
theorem dX0_layRows_16 : decode cX0_layRows 16 = .ok (.iaload, 1) := by decide +kernel
theorem dX0_layRows_17 : decode cX0_layRows 17 = .ok (.istore 4, 2) := by decide +kernel
theorem dX0_layRows_19 : decode cX0_layRows 19 = .ok (.aload_n 0, 1) := by decide +kernel
theorem dX0_layRows_20 : decode cX0_layRows 20 = .ok (.getfield 25, 3) := by decide +kernel
theorem dX0_layRows_23 : decode cX0_layRows 23 = .ok (.bipush 16, 2) := by decide +kernel
theorem dX0_layRows_25 : decode cX0_layRows 25 = .ok (.iload 4, 2) := by decide +kernel
theorem dX0_layRows_27 : decode cX0_layRows 27 = .ok (.imul, 1) := by decide +kernel
theorem dX0_layRows_28 : decode cX0_layRows 28 = .ok (.aload_n 0, 1) := by decide +kernel
theorem dX0_layRows_29 : decode cX0_layRows 29 = .ok (.getfield 34, 3) := by decide +kernel
theorem dX0_layRows_32 : decode cX0_layRows 32 = .ok (.bipush 16, 2) := by decide +kernel
theorem dX0_layRows_34 : decode cX0_layRows 34 = .ok (.iload_n 3, 1) := by decide +kernel
theorem dX0_layRows_35 : decode cX0_layRows 35 = .ok (.imul, 1) := by decide +kernel
theorem dX0_layRows_36 : decode cX0_layRows 36 = .ok (.aload_n 0, 1) := by decide +kernel
theorem dX0_layRows_37 : decode cX0_layRows 37 = .ok (.getfield 28, 3) := by decide +kernel
theorem dX0_layRows_40 : decode cX0_layRows 40 = .ok (.iload 4, 2) := by decide +kernel
theorem dX0_layRows_42 : decode cX0_layRows 42 = .ok (.iaload, 1) := by decide +kernel
theorem dX0_layRows_43 : decode cX0_layRows 43 = .ok (.invokestatic 62, 3) := by decide +kernel
theorem dX0_layRows_46 : decode cX0_layRows 46 = .ok (.aload_n 0, 1) := by decide +kernel
theorem dX0_layRows_47 : decode cX0_layRows 47 = .ok (.getfield 37, 3) := by decide +kernel
theorem dX0_layRows_50 : decode cX0_layRows 50 = .ok (.iload_n 3, 1) := by decide +kernel
theorem dX0_layRows_51 : decode cX0_layRows 51 = .ok (.iconst 0, 1) := by decide +kernel
theorem dX0_layRows_52 : decode cX0_layRows 52 = .ok (.iastore, 1) := by decide +kernel
theorem dX0_layRows_53 : decode cX0_layRows 53 = .ok (.aload_n 0, 1) := by decide +kernel
theorem dX0_layRows_54 : decode cX0_layRows 54 = .ok (.getfield 40, 3) := by decide +kernel
theorem dX0_layRows_57 : decode cX0_layRows 57 = .ok (.iload_n 3, 1) := by decide +kernel
theorem dX0_layRows_58 : decode cX0_layRows 58 = .ok (.aload_n 0, 1) := by decide +kernel
theorem dX0_layRows_59 : decode cX0_layRows 59 = .ok (.getfield 28, 3) := by decide +kernel
theorem dX0_layRows_62 : decode cX0_layRows 62 = .ok (.iload 4, 2) := by decide +kernel
theorem dX0_layRows_64 : decode cX0_layRows 64 = .ok (.iaload, 1) := by decide +kernel
theorem dX0_layRows_65 : decode cX0_layRows 65 = .ok (.iastore, 1) := by decide +kernel
theorem dX0_layRows_66 : decode cX0_layRows 66 = .ok (.aload_n 0, 1) := by decide +kernel
theorem dX0_layRows_67 : decode cX0_layRows 67 = .ok (.getfield 34, 3) := by decide +kernel
theorem dX0_layRows_70 : decode cX0_layRows 70 = .ok (.bipush 16, 2) := by decide +kernel
theorem dX0_layRows_72 : decode cX0_layRows 72 = .ok (.iload_n 2, 1) := by decide +kernel
theorem dX0_layRows_73 : decode cX0_layRows 73 = .ok (.imul, 1) := by decide +kernel
theorem dX0_layRows_74 : decode cX0_layRows 74 = .ok (.iload_n 3, 1) := by decide +kernel
theorem dX0_layRows_75 : decode cX0_layRows 75 = .ok (.iadd, 1) := by decide +kernel
theorem dX0_layRows_76 : decode cX0_layRows 76 = .ok (.iload 4, 2) := by decide +kernel
theorem dX0_layRows_78 : decode cX0_layRows 78 = .ok (.iastore, 1) := by decide +kernel
theorem dX0_layRows_79 : decode cX0_layRows 79 = .ok (.iinc 3 1, 3) := by decide +kernel
theorem dX0_layRows_82 : decode cX0_layRows 82 = .ok (.goto (-80), 3) := by decide +kernel
theorem dX0_layRows_85 : decode cX0_layRows 85 = .ok (.aload_n 0, 1) := by decide +kernel
theorem dX0_layRows_86 : decode cX0_layRows 86 = .ok (.getfield 37, 3) := by decide +kernel
theorem dX0_layRows_89 : decode cX0_layRows 89 = .ok (.iload_n 2, 1) := by decide +kernel
theorem dX0_layRows_90 : decode cX0_layRows 90 = .ok (.iconst 0, 1) := by decide +kernel
theorem dX0_layRows_91 : decode cX0_layRows 91 = .ok (.iastore, 1) := by decide +kernel
theorem dX0_layRows_92 : decode cX0_layRows 92 = .ok (.aload_n 0, 1) := by decide +kernel
theorem dX0_layRows_93 : decode cX0_layRows 93 = .ok (.getfield 40, 3) := by decide +kernel
theorem dX0_layRows_96 : decode cX0_layRows 96 = .ok (.iload_n 2, 1) := by decide +kernel
theorem dX0_layRows_97 : decode cX0_layRows 97 = .ok (.iload_n 2, 1) := by decide +kernel
theorem dX0_layRows_98 : decode cX0_layRows 98 = .ok (.iastore, 1) := by decide +kernel
theorem dX0_layRows_99 : decode cX0_layRows 99 = .ok (.return_, 1) := by decide +kernel
theorem dX0_mergeRows_0 : decode cX0_mergeRows 0 = .ok (.iconst 1, 1) := by decide +kernel
theorem dX0_mergeRows_1 : decode cX0_mergeRows 1 = .ok (.istore_n 3, 1) := by decide +kernel
theorem dX0_mergeRows_2 : decode cX0_mergeRows 2 = .ok (.aload_n 0, 1) := by decide +kernel
theorem dX0_mergeRows_3 : decode cX0_mergeRows 3 = .ok (.getfield 25, 3) := by decide +kernel
theorem dX0_mergeRows_6 : decode cX0_mergeRows 6 = .ok (.bipush 16, 2) := by decide +kernel
theorem dX0_mergeRows_8 : decode cX0_mergeRows 8 = .ok (.iload_n 1, 1) := by decide +kernel
theorem dX0_mergeRows_9 : decode cX0_mergeRows 9 = .ok (.imul, 1) := by decide +kernel
theorem dX0_mergeRows_10 : decode cX0_mergeRows 10 = .ok (.iload_n 1, 1) := by decide +kernel
theorem dX0_mergeRows_11 : decode cX0_mergeRows 11 = .ok (.iastore, 1) := by decide +kernel
theorem dX0_mergeRows_12 : decode cX0_mergeRows 12 = .ok (.iload_n 3, 1) := by decide +kernel
theorem dX0_mergeRows_13 : decode cX0_mergeRows 13 = .ok (.bipush 16, 2) := by decide +kernel
theorem dX0_mergeRows_15 : decode cX0_mergeRows 15 = .ok (.if_icmp .ge 45, 3) := by decide +kernel
theorem dX0_mergeRows_18 : decode cX0_mergeRows 18 = .ok (.aload_n 0, 1) := by decide +kernel
theorem dX0_mergeRows_19 : decode cX0_mergeRows 19 = .ok (.iload_n 2, 1) := by decide +kernel
theorem dX0_mergeRows_20 : decode cX0_mergeRows 20 = .ok (.invokevirtual 68, 3) := by decide +kernel
theorem dX0_mergeRows_23 : decode cX0_mergeRows 23 = .ok (.istore 4, 2) := by decide +kernel
theorem dX0_mergeRows_25 : decode cX0_mergeRows 25 = .ok (.iload 4, 2) := by decide +kernel
theorem dX0_mergeRows_27 : decode cX0_mergeRows 27 = .ok (.iconst (-1), 1) := by decide +kernel
theorem dX0_mergeRows_28 : decode cX0_mergeRows 28 = .ok (.if_icmp .ne 6, 3) := by decide +kernel
theorem dX0_mergeRows_31 : decode cX0_mergeRows 31 = .ok (.goto 29, 3) := by decide +kernel
theorem dX0_mergeRows_34 : decode cX0_mergeRows 34 = .ok (.aload_n 0, 1) := by decide +kernel
theorem dX0_mergeRows_35 : decode cX0_mergeRows 35 = .ok (.iload 4, 2) := by decide +kernel
theorem dX0_mergeRows_37 : decode cX0_mergeRows 37 = .ok (.iload_n 2, 1) := by decide +kernel
theorem dX0_mergeRows_38 : decode cX0_mergeRows 38 = .ok (.invokevirtual 72, 3) := by decide +kernel
theorem dX0_mergeRows_41 : decode cX0_mergeRows 41 = .ok (.aload_n 0, 1) := by decide +kernel
theorem dX0_mergeRows_42 : decode cX0_mergeRows 42 = .ok (.getfield 25, 3) := by decide +kernel
theorem dX0_mergeRows_45 : decode cX0_mergeRows 45 = .ok (.bipush 16, 2) := by decide +kernel
theorem dX0_mergeRows_47 : decode cX0_mergeRows 47 = .ok (.iload_n 1, 1) := by decide +kernel
theorem dX0_mergeRows_48 : decode cX0_mergeRows 48 = .ok (.imul, 1) := by decide +kernel
theorem dX0_mergeRows_49 : decode cX0_mergeRows 49 = .ok (.iload_n 3, 1) := by decide +kernel
theorem dX0_mergeRows_50 : decode cX0_mergeRows 50 = .ok (.iadd, 1) := by decide +kernel
theorem dX0_mergeRows_51 : decode cX0_mergeRows 51 = .ok (.iload 4, 2) := by decide +kernel
theorem dX0_mergeRows_53 : decode cX0_mergeRows 53 = .ok (.iastore, 1) := by decide +kernel
theorem dX0_mergeRows_54 : decode cX0_mergeRows 54 = .ok (.iinc 3 1, 3) := by decide +kernel
theorem dX0_mergeRows_57 : decode cX0_mergeRows 57 = .ok (.goto (-45), 3) := by decide +kernel
theorem dX0_mergeRows_60 : decode cX0_mergeRows 60 = .ok (.aload_n 0, 1) := by decide +kernel
theorem dX0_mergeRows_61 : decode cX0_mergeRows 61 = .ok (.getfield 28, 3) := by decide +kernel
theorem dX0_mergeRows_64 : decode cX0_mergeRows 64 = .ok (.iload_n 1, 1) := by decide +kernel
theorem dX0_mergeRows_65 : decode cX0_mergeRows 65 = .ok (.iload_n 3, 1) := by decide +kernel
theorem dX0_mergeRows_66 : decode cX0_mergeRows 66 = .ok (.iastore, 1) := by decide +kernel
theorem dX0_mergeRows_67 : decode cX0_mergeRows 67 = .ok (.iconst 0, 1) := by decide +kernel
theorem dX0_mergeRows_68 : decode cX0_mergeRows 68 = .ok (.istore 4, 2) := by decide +kernel
theorem dX0_mergeRows_70 : decode cX0_mergeRows 70 = .ok (.iload 4, 2) := by decide +kernel
theorem dX0_mergeRows_72 : decode cX0_mergeRows 72 = .ok (.iload_n 2, 1) := by decide +kernel
theorem dX0_mergeRows_73 : decode cX0_mergeRows 73 = .ok (.if_icmp .ge 28, 3) := by decide +kernel
theorem dX0_mergeRows_76 : decode cX0_mergeRows 76 = .ok (.aload_n 0, 1) := by decide +kernel
theorem dX0_mergeRows_77 : decode cX0_mergeRows 77 = .ok (.getfield 37, 3) := by decide +kernel
theorem dX0_mergeRows_80 : decode cX0_mergeRows 80 = .ok (.iload 4, 2) := by decide +kernel
theorem dX0_mergeRows_82 : decode cX0_mergeRows 82 = .ok (.iaload, 1) := by decide +kernel
theorem dX0_mergeRows_83 : decode cX0_mergeRows 83 = .ok (.aload_n 0, 1) := by decide +kernel
theorem dX0_mergeRows_84 : decode cX0_mergeRows 84 = .ok (.getfield 40, 3) := by decide +kernel
theorem dX0_mergeRows_87 : decode cX0_mergeRows 87 = .ok (.iload 4, 2) := by decide +kernel
theorem dX0_mergeRows_89 : decode cX0_mergeRows 89 = .ok (.iaload, 1) := by decide +kernel
theorem dX0_mergeRows_90 : decode cX0_mergeRows 90 = .ok (.if_icmp .ge 5, 3) := by decide +kernel
theorem dX0_mergeRows_93 : decode cX0_mergeRows 93 = .ok (.iconst 0, 1) := by decide +kernel
theorem dX0_mergeRows_94 : decode cX0_mergeRows 94 = .ok (.ireturn, 1) := by decide +kernel
theorem dX0_mergeRows_95 : decode cX0_mergeRows 95 = .ok (.iinc 4 1, 3) := by decide +kernel
theorem dX0_mergeRows_98 : decode cX0_mergeRows 98 = .ok (.goto (-28), 3) := by decide +kernel
theorem dX0_mergeRows_101 : decode cX0_mergeRows 101 = .ok (.iconst 1, 1) := by decide +kernel
theorem dX0_mergeRows_102 : decode cX0_mergeRows 102 = .ok (.ireturn, 1) := by decide +kernel
theorem dX0_nextOfRows_0 : decode cX0_nextOfRows 0 = .ok (.iconst 0, 1) := by decide +kernel
theorem dX0_nextOfRows_1 : decode cX0_nextOfRows 1 = .ok (.istore_n 2, 1) := by decide +kernel
theorem dX0_nextOfRows_2 : decode cX0_nextOfRows 2 = .ok (.iload_n 2, 1) := by decide +kernel
theorem dX0_nextOfRows_3 : decode cX0_nextOfRows 3 = .ok (.iload_n 1, 1) := by decide +kernel
theorem dX0_nextOfRows_4 : decode cX0_nextOfRows 4 = .ok (.if_icmp .ge 52, 3) := by decide +kernel
theorem dX0_nextOfRows_7 : decode cX0_nextOfRows 7 = .ok (.aload_n 0, 1) := by decide +kernel
theorem dX0_nextOfRows_8 : decode cX0_nextOfRows 8 = .ok (.getfield 37, 3) := by decide +kernel
theorem dX0_nextOfRows_11 : decode cX0_nextOfRows 11 = .ok (.iload_n 2, 1) := by decide +kernel
theorem dX0_nextOfRows_12 : decode cX0_nextOfRows 12 = .ok (.iaload, 1) := by decide +kernel
theorem dX0_nextOfRows_13 : decode cX0_nextOfRows 13 = .ok (.aload_n 0, 1) := by decide +kernel
theorem dX0_nextOfRows_14 : decode cX0_nextOfRows 14 = .ok (.getfield 40, 3) := by decide +kernel
theorem dX0_nextOfRows_17 : decode cX0_nextOfRows 17 = .ok (.iload_n 2, 1) := by decide +kernel
theorem dX0_nextOfRows_18 : decode cX0_nextOfRows 18 = .ok (.iaload, 1) := by decide +kernel
theorem dX0_nextOfRows_19 : decode cX0_nextOfRows 19 = .ok (.if_icmp .ge 31, 3) := by decide +kernel
theorem dX0_nextOfRows_22 : decode cX0_nextOfRows 22 = .ok (.aload_n 0, 1) := by decide +kernel
theorem dX0_nextOfRows_23 : decode cX0_nextOfRows 23 = .ok (.getfield 34, 3) := by decide +kernel
theorem dX0_nextOfRows_26 : decode cX0_nextOfRows 26 = .ok (.bipush 16, 2) := by decide +kernel
theorem dX0_nextOfRows_28 : decode cX0_nextOfRows 28 = .ok (.iload_n 2, 1) := by decide +kernel
theorem dX0_nextOfRows_29 : decode cX0_nextOfRows 29 = .ok (.imul, 1) := by decide +kernel
theorem dX0_nextOfRows_30 : decode cX0_nextOfRows 30 = .ok (.aload_n 0, 1) := by decide +kernel
theorem dX0_nextOfRows_31 : decode cX0_nextOfRows 31 = .ok (.getfield 37, 3) := by decide +kernel
theorem dX0_nextOfRows_34 : decode cX0_nextOfRows 34 = .ok (.iload_n 2, 1) := by decide +kernel
theorem dX0_nextOfRows_35 : decode cX0_nextOfRows 35 = .ok (.iaload, 1) := by decide +kernel
theorem dX0_nextOfRows_36 : decode cX0_nextOfRows 36 = .ok (.iadd, 1) := by decide +kernel
theorem dX0_nextOfRows_37 : decode cX0_nextOfRows 37 = .ok (.iaload, 1) := by decide +kernel
theorem dX0_nextOfRows_38 : decode cX0_nextOfRows 38 = .ok (.istore_n 3, 1) := by decide +kernel
theorem dX0_nextOfRows_39 : decode cX0_nextOfRows 39 = .ok (.aload_n 0, 1) := by decide +kernel
theorem dX0_nextOfRows_40 : decode cX0_nextOfRows 40 = .ok (.iload_n 3, 1) := by decide +kernel
theorem dX0_nextOfRows_41 : decode cX0_nextOfRows 41 = .ok (.iload_n 1, 1) := by decide +kernel
theorem dX0_nextOfRows_42 : decode cX0_nextOfRows 42 = .ok (.invokevirtual 75, 3) := by decide +kernel
theorem dX0_nextOfRows_45 : decode cX0_nextOfRows 45 = .ok (.ifCond .ne 5, 3) := by decide +kernel
theorem dX0_nextOfRows_48 : decode cX0_nextOfRows 48 = .ok (.iload_n 3, 1) := by decide +kernel
theorem dX0_nextOfRows_49 : decode cX0_nextOfRows 49 = .ok (.ireturn, 1) := by decide +kernel
theorem dX0_nextOfRows_50 : decode cX0_nextOfRows 50 = .ok (.iinc 2 1, 3) := by decide +kernel
theorem dX0_nextOfRows_53 : decode cX0_nextOfRows 53 = .ok (.goto (-51), 3) := by decide +kernel
theorem dX0_nextOfRows_56 : decode cX0_nextOfRows 56 = .ok (.iconst (-1), 1) := by decide +kernel
theorem dX0_nextOfRows_57 : decode cX0_nextOfRows 57 = .ok (.ireturn, 1) := by decide +kernel
theorem dX0_standsBehindBegin_0 : decode cX0_standsBehindBegin 0 = .ok (.iconst 0, 1) := by decide +kernel
theorem dX0_standsBehindBegin_1 : decode cX0_standsBehindBegin 1 = .ok (.istore_n 3, 1) := by decide +kernel
theorem dX0_standsBehindBegin_2 : decode cX0_standsBehindBegin 2 = .ok (.iload_n 3, 1) := by decide +kernel
theorem dX0_standsBehindBegin_3 : decode cX0_standsBehindBegin 3 = .ok (.iload_n 2, 1) := by decide +kernel
theorem dX0_standsBehindBegin_4 : decode cX0_standsBehindBegin 4 = .ok (.if_icmp .ge 54, 3) := by decide +kernel
theorem dX0_standsBehindBegin_7 : decode cX0_standsBehindBegin 7 = .ok (.aload_n 0, 1) := by decide +kernel
theorem dX0_standsBehindBegin_8 : decode cX0_standsBehindBegin 8 = .ok (.getfield 37, 3) := by decide +kernel
theorem dX0_standsBehindBegin_11 : decode cX0_standsBehindBegin 11 = .ok (.iload_n 3, 1) := by decide +kernel
theorem dX0_standsBehindBegin_12 : decode cX0_standsBehindBegin 12 = .ok (.iaload, 1) := by decide +kernel
theorem dX0_standsBehindBegin_13 : decode cX0_standsBehindBegin 13 = .ok (.iconst 1, 1) := by decide +kernel
theorem dX0_standsBehindBegin_14 : decode cX0_standsBehindBegin 14 = .ok (.iadd, 1) := by decide +kernel
theorem dX0_standsBehindBegin_15 : decode cX0_standsBehindBegin 15 = .ok (.istore 4, 2) := by decide +kernel
theorem dX0_standsBehindBegin_17 : decode cX0_standsBehindBegin 17 = .ok (.iload 4, 2) := by decide +kernel
theorem dX0_standsBehindBegin_19 : decode cX0_standsBehindBegin 19 = .ok (.aload_n 0, 1) := by decide +kernel
theorem dX0_standsBehindBegin_20 : decode cX0_standsBehindBegin 20 = .ok (.getfield 40, 3) := by decide +kernel
theorem dX0_standsBehindBegin_23 : decode cX0_standsBehindBegin 23 = .ok (.iload_n 3, 1) := by decide +kernel
theorem dX0_standsBehindBegin_24 : decode cX0_standsBehindBegin 24 = .ok (.iaload, 1) := by decide +kernel
theorem dX0_standsBehindBegin_25 : decode cX0_standsBehindBegin 25 = .ok (.if_icmp .ge 27, 3) := by decide +kernel
theorem dX0_standsBehindBegin_28 : decode cX0_standsBehindBegin 28 = .ok (.aload_n 0, 1) := by decide +kernel
theorem dX0_standsBehindBegin_29 : decode cX0_standsBehindBegin 29 = .ok (.getfield 34, 3) := by decide +kernel
theorem dX0_standsBehindBegin_32 : decode cX0_standsBehindBegin 32 = .ok (.bipush 16, 2) := by decide +kernel
theorem dX0_standsBehindBegin_34 : decode cX0_standsBehindBegin 34 = .ok (.iload_n 3, 1) := by decide +kernel
theorem dX0_standsBehindBegin_35 : decode cX0_standsBehindBegin 35 = .ok (.imul, 1) := by decide +kernel
theorem dX0_standsBehindBegin_36 : decode cX0_standsBehindBegin 36 = .ok (.iload 4, 2) := by decide +kernel
theorem dX0_standsBehindBegin_38 : decode cX0_standsBehindBegin 38 = .ok (.iadd, 1) := by decide +kernel
theorem dX0_standsBehindBegin_39 : decode cX0_standsBehindBegin 39 = .ok (.iaload, 1) := by decide +kernel
theorem dX0_standsBehindBegin_40 : decode cX0_standsBehindBegin 40 = .ok (.iload_n 1, 1) := by decide +kernel
theorem dX0_standsBehindBegin_41 : decode cX0_standsBehindBegin 41 = .ok (.if_icmp .ne 5, 3) := by decide +kernel
theorem dX0_standsBehindBegin_44 : decode cX0_standsBehindBegin 44 = .ok (.iconst 1, 1) := by decide +kernel
theorem dX0_standsBehindBegin_45 : decode cX0_standsBehindBegin 45 = .ok (.ireturn, 1) := by decide +kernel
theorem dX0_standsBehindBegin_46 : decode cX0_standsBehindBegin 46 = .ok (.iinc 4 1, 3) := by decide +kernel
theorem dX0_standsBehindBegin_49 : decode cX0_standsBehindBegin 49 = .ok (.goto (-32), 3) := by decide +kernel
theorem dX0_standsBehindBegin_52 : decode cX0_standsBehindBegin 52 = .ok (.iinc 3 1, 3) := by decide +kernel
theorem dX0_standsBehindBegin_55 : decode cX0_standsBehindBegin 55 = .ok (.goto (-53), 3) := by decide +kernel
theorem dX0_standsBehindBegin_58 : decode cX0_standsBehindBegin 58 = .ok (.iconst 0, 1) := by decide +kernel
theorem dX0_standsBehindBegin_59 : decode cX0_standsBehindBegin 59 = .ok (.ireturn, 1) := by decide +kernel
theorem dX0_takeOut_0 : decode cX0_takeOut 0 = .ok (.iconst 0, 1) := by decide +kernel
theorem dX0_takeOut_1 : decode cX0_takeOut 1 = .ok (.istore_n 3, 1) := by decide +kernel
theorem dX0_takeOut_2 : decode cX0_takeOut 2 = .ok (.iload_n 3, 1) := by decide +kernel
theorem dX0_takeOut_3 : decode cX0_takeOut 3 = .ok (.iload_n 2, 1) := by decide +kernel
theorem dX0_takeOut_4 : decode cX0_takeOut 4 = .ok (.if_icmp .ge 54, 3) := by decide +kernel
theorem dX0_takeOut_7 : decode cX0_takeOut 7 = .ok (.aload_n 0, 1) := by decide +kernel
theorem dX0_takeOut_8 : decode cX0_takeOut 8 = .ok (.getfield 37, 3) := by decide +kernel
theorem dX0_takeOut_11 : decode cX0_takeOut 11 = .ok (.iload_n 3, 1) := by decide +kernel
theorem dX0_takeOut_12 : decode cX0_takeOut 12 = .ok (.iaload, 1) := by decide +kernel
theorem dX0_takeOut_13 : decode cX0_takeOut 13 = .ok (.aload_n 0, 1) := by decide +kernel
theorem dX0_takeOut_14 : decode cX0_takeOut 14 = .ok (.getfield 40, 3) := by decide +kernel
theorem dX0_takeOut_17 : decode cX0_takeOut 17 = .ok (.iload_n 3, 1) := by decide +kernel
theorem dX0_takeOut_18 : decode cX0_takeOut 18 = .ok (.iaload, 1) := by decide +kernel
theorem dX0_takeOut_19 : decode cX0_takeOut 19 = .ok (.if_icmp .ge 33, 3) := by decide +kernel
theorem dX0_takeOut_22 : decode cX0_takeOut 22 = .ok (.aload_n 0, 1) := by decide +kernel
theorem dX0_takeOut_23 : decode cX0_takeOut 23 = .ok (.getfield 34, 3) := by decide +kernel
theorem dX0_takeOut_26 : decode cX0_takeOut 26 = .ok (.bipush 16, 2) := by decide +kernel
theorem dX0_takeOut_28 : decode cX0_takeOut 28 = .ok (.iload_n 3, 1) := by decide +kernel
theorem dX0_takeOut_29 : decode cX0_takeOut 29 = .ok (.imul, 1) := by decide +kernel
theorem dX0_takeOut_30 : decode cX0_takeOut 30 = .ok (.aload_n 0, 1) := by decide +kernel
theorem dX0_takeOut_31 : decode cX0_takeOut 31 = .ok (.getfield 37, 3) := by decide +kernel
theorem dX0_takeOut_34 : decode cX0_takeOut 34 = .ok (.iload_n 3, 1) := by decide +kernel
theorem dX0_takeOut_35 : decode cX0_takeOut 35 = .ok (.iaload, 1) := by decide +kernel
theorem dX0_takeOut_36 : decode cX0_takeOut 36 = .ok (.iadd, 1) := by decide +kernel
theorem dX0_takeOut_37 : decode cX0_takeOut 37 = .ok (.iaload, 1) := by decide +kernel
theorem dX0_takeOut_38 : decode cX0_takeOut 38 = .ok (.iload_n 1, 1) := by decide +kernel
theorem dX0_takeOut_39 : decode cX0_takeOut 39 = .ok (.if_icmp .ne 13, 3) := by decide +kernel
theorem dX0_takeOut_42 : decode cX0_takeOut 42 = .ok (.aload_n 0, 1) := by decide +kernel
theorem dX0_takeOut_43 : decode cX0_takeOut 43 = .ok (.getfield 37, 3) := by decide +kernel
theorem dX0_takeOut_46 : decode cX0_takeOut 46 = .ok (.iload_n 3, 1) := by decide +kernel
theorem dX0_takeOut_47 : decode cX0_takeOut 47 = .ok (.dup2, 1) := by decide +kernel
theorem dX0_takeOut_48 : decode cX0_takeOut 48 = .ok (.iaload, 1) := by decide +kernel
theorem dX0_takeOut_49 : decode cX0_takeOut 49 = .ok (.iconst 1, 1) := by decide +kernel
theorem dX0_takeOut_50 : decode cX0_takeOut 50 = .ok (.iadd, 1) := by decide +kernel
theorem dX0_takeOut_51 : decode cX0_takeOut 51 = .ok (.iastore, 1) := by decide +kernel
theorem dX0_takeOut_52 : decode cX0_takeOut 52 = .ok (.iinc 3 1, 3) := by decide +kernel
theorem dX0_takeOut_55 : decode cX0_takeOut 55 = .ok (.goto (-53), 3) := by decide +kernel
theorem dX0_takeOut_58 : decode cX0_takeOut 58 = .ok (.return_, 1) := by decide +kernel
theorem dX1_init_0 : decode cX1_init 0 = .ok (.aload_n 0, 1) := by decide +kernel
theorem dX1_init_1 : decode cX1_init 1 = .ok (.invokespecial 3, 3) := by decide +kernel
theorem dX1_init_4 : decode cX1_init 4 = .ok (.aload_n 0, 1) := by decide +kernel
theorem dX1_init_5 : decode cX1_init 5 = .ok (.iconst 0, 1) := by decide +kernel
theorem dX1_init_6 : decode cX1_init 6 = .ok (.putfield 9, 3) := by decide +kernel
theorem dX1_init_9 : decode cX1_init 9 = .ok (.aload_n 0, 1) := by decide +kernel
theorem dX1_init_10 : decode cX1_init 10 = .ok (.iconst 0, 1) := by decide +kernel
theorem dX1_init_11 : decode cX1_init 11 = .ok (.putfield 15, 3) := by decide +kernel
theorem dX1_init_14 : decode cX1_init 14 = .ok (.aload_n 0, 1) := by decide +kernel
theorem dX1_init_15 : decode cX1_init 15 = .ok (.bipush 13, 2) := by decide +kernel
theorem dX1_init_17 : decode cX1_init 17 = .ok (.newarray .int, 2) := by decide +kernel
theorem dX1_init_19 : decode cX1_init 19 = .ok (.putfield 18, 3) := by decide +kernel
theorem dX1_init_22 : decode cX1_init 22 = .ok (.aload_n 0, 1) := by decide +kernel
theorem dX1_init_23 : decode cX1_init 23 = .ok (.bipush 12, 2) := by decide +kernel
theorem dX1_init_25 : decode cX1_init 25 = .ok (.newarray .int, 2) := by decide +kernel
theorem dX1_init_27 : decode cX1_init 27 = .ok (.putfield 22, 3) := by decide +kernel
theorem dX1_init_30 : decode cX1_init 30 = .ok (.aload_n 0, 1) := by decide +kernel
theorem dX1_init_31 : decode cX1_init 31 = .ok (.bipush 12, 2) := by decide +kernel
theorem dX1_init_33 : decode cX1_init 33 = .ok (.newarray .int, 2) := by decide +kernel
theorem dX1_init_35 : decode cX1_init 35 = .ok (.putfield 25, 3) := by decide +kernel
theorem dX1_init_38 : decode cX1_init 38 = .ok (.aload_n 0, 1) := by decide +kernel
theorem dX1_init_39 : decode cX1_init 39 = .ok (.bipush 13, 2) := by decide +kernel
theorem dX1_init_41 : decode cX1_init 41 = .ok (.newarray .int, 2) := by decide +kernel
theorem dX1_init_43 : decode cX1_init 43 = .ok (.putfield 28, 3) := by decide +kernel
theorem dX1_init_46 : decode cX1_init 46 = .ok (.aload_n 0, 1) := by decide +kernel
theorem dX1_init_47 : decode cX1_init 47 = .ok (.bipush 48, 2) := by decide +kernel
theorem dX1_init_49 : decode cX1_init 49 = .ok (.newarray .int, 2) := by decide +kernel
theorem dX1_init_51 : decode cX1_init 51 = .ok (.putfield 31, 3) := by decide +kernel
theorem dX1_init_54 : decode cX1_init 54 = .ok (.aload_n 0, 1) := by decide +kernel
theorem dX1_init_55 : decode cX1_init 55 = .ok (.bipush 6, 2) := by decide +kernel
theorem dX1_init_57 : decode cX1_init 57 = .ok (.newarray .int, 2) := by decide +kernel
theorem dX1_init_59 : decode cX1_init 59 = .ok (.putfield 34, 3) := by decide +kernel
theorem dX1_init_62 : decode cX1_init 62 = .ok (.aload_n 0, 1) := by decide +kernel
theorem dX1_init_63 : decode cX1_init 63 = .ok (.iconst 0, 1) := by decide +kernel
theorem dX1_init_64 : decode cX1_init 64 = .ok (.putfield 37, 3) := by decide +kernel
theorem dX1_init_67 : decode cX1_init 67 = .ok (.return_, 1) := by decide +kernel
theorem dX1_thatApply_0 : decode cX1_thatApply 0 = .ok (.aload_n 0, 1) := by decide +kernel
theorem dX1_thatApply_1 : decode cX1_thatApply 1 = .ok (.getfield 31, 3) := by decide +kernel
theorem dX1_thatApply_4 : decode cX1_thatApply 4 = .ok (.iload_n 1, 1) := by decide +kernel
theorem dX1_thatApply_5 : decode cX1_thatApply 5 = .ok (.iconst 0, 1) := by decide +kernel
theorem dX1_thatApply_6 : decode cX1_thatApply 6 = .ok (.invokestatic 40, 3) := by decide +kernel
theorem dX1_thatApply_9 : decode cX1_thatApply 9 = .ok (.iaload, 1) := by decide +kernel
theorem dX1_thatApply_10 : decode cX1_thatApply 10 = .ok (.aload_n 0, 1) := by decide +kernel
theorem dX1_thatApply_11 : decode cX1_thatApply 11 = .ok (.getfield 31, 3) := by decide +kernel
theorem dX1_thatApply_14 : decode cX1_thatApply 14 = .ok (.bipush 16, 2) := by decide +kernel
theorem dX1_thatApply_16 : decode cX1_thatApply 16 = .ok (.iload_n 1, 1) := by decide +kernel
theorem dX1_thatApply_17 : decode cX1_thatApply 17 = .ok (.iconst 1, 1) := by decide +kernel
theorem dX1_thatApply_18 : decode cX1_thatApply 18 = .ok (.invokestatic 40, 3) := by decide +kernel
theorem dX1_thatApply_21 : decode cX1_thatApply 21 = .ok (.iadd, 1) := by decide +kernel
theorem dX1_thatApply_22 : decode cX1_thatApply 22 = .ok (.iaload, 1) := by decide +kernel
theorem dX1_thatApply_23 : decode cX1_thatApply 23 = .ok (.iand, 1) := by decide +kernel
theorem dX1_thatApply_24 : decode cX1_thatApply 24 = .ok (.aload_n 0, 1) := by decide +kernel
theorem dX1_thatApply_25 : decode cX1_thatApply 25 = .ok (.getfield 31, 3) := by decide +kernel
theorem dX1_thatApply_28 : decode cX1_thatApply 28 = .ok (.bipush 32, 2) := by decide +kernel
theorem dX1_thatApply_30 : decode cX1_thatApply 30 = .ok (.iload_n 1, 1) := by decide +kernel
theorem dX1_thatApply_31 : decode cX1_thatApply 31 = .ok (.iconst 2, 1) := by decide +kernel
theorem dX1_thatApply_32 : decode cX1_thatApply 32 = .ok (.invokestatic 40, 3) := by decide +kernel
theorem dX1_thatApply_35 : decode cX1_thatApply 35 = .ok (.iadd, 1) := by decide +kernel
theorem dX1_thatApply_36 : decode cX1_thatApply 36 = .ok (.iaload, 1) := by decide +kernel
theorem dX1_thatApply_37 : decode cX1_thatApply 37 = .ok (.iand, 1) := by decide +kernel
theorem dX1_thatApply_38 : decode cX1_thatApply 38 = .ok (.ireturn, 1) := by decide +kernel
theorem dX1_leastOf_0 : decode cX1_leastOf 0 = .ok (.iload_n 1, 1) := by decide +kernel
theorem dX1_leastOf_1 : decode cX1_leastOf 1 = .ok (.ifCond .ne 5, 3) := by decide +kernel
theorem dX1_leastOf_4 : decode cX1_leastOf 4 = .ok (.iconst (-1), 1) := by decide +kernel
theorem dX1_leastOf_5 : decode cX1_leastOf 5 = .ok (.ireturn, 1) := by decide +kernel
theorem dX1_leastOf_6 : decode cX1_leastOf 6 = .ok (.iconst 0, 1) := by decide +kernel
theorem dX1_leastOf_7 : decode cX1_leastOf 7 = .ok (.istore_n 2, 1) := by decide +kernel
theorem dX1_leastOf_8 : decode cX1_leastOf 8 = .ok (.iload_n 2, 1) := by decide +kernel
theorem dX1_leastOf_9 : decode cX1_leastOf 9 = .ok (.bipush 12, 2) := by decide +kernel
theorem dX1_leastOf_11 : decode cX1_leastOf 11 = .ok (.if_icmp .gt 32, 3) := by decide +kernel
theorem dX1_leastOf_14 : decode cX1_leastOf 14 = .ok (.iload_n 1, 1) := by decide +kernel
theorem dX1_leastOf_15 : decode cX1_leastOf 15 = .ok (.iload_n 2, 1) := by decide +kernel
theorem dX1_leastOf_16 : decode cX1_leastOf 16 = .ok (.ishr, 1) := by decide +kernel
theorem dX1_leastOf_17 : decode cX1_leastOf 17 = .ok (.iconst 1, 1) := by decide +kernel
theorem dX1_leastOf_18 : decode cX1_leastOf 18 = .ok (.iand, 1) := by decide +kernel
theorem dX1_leastOf_19 : decode cX1_leastOf 19 = .ok (.ifCond .eq 18, 3) := by decide +kernel
theorem dX1_leastOf_22 : decode cX1_leastOf 22 = .ok (.iload_n 1, 1) := by decide +kernel
theorem dX1_leastOf_23 : decode cX1_leastOf 23 = .ok (.aload_n 0, 1) := by decide +kernel
theorem dX1_leastOf_24 : decode cX1_leastOf 24 = .ok (.getfield 28, 3) := by decide +kernel
theorem dX1_leastOf_27 : decode cX1_leastOf 27 = .ok (.iload_n 2, 1) := by decide +kernel
theorem dX1_leastOf_28 : decode cX1_leastOf 28 = .ok (.iaload, 1) := by decide +kernel
theorem dX1_leastOf_29 : decode cX1_leastOf 29 = .ok (.iconst (-1), 1) := by decide +kernel
theorem dX1_leastOf_30 : decode cX1_leastOf 30 = .ok (.ixor, 1) := by decide +kernel
theorem dX1_leastOf_31 : decode cX1_leastOf 31 = .ok (.iand, 1) := by decide +kernel
theorem dX1_leastOf_32 : decode cX1_leastOf 32 = .ok (.ifCond .ne 5, 3) := by decide +kernel
theorem dX1_leastOf_35 : decode cX1_leastOf 35 = .ok (.iload_n 2, 1) := by decide +kernel
theorem dX1_leastOf_36 : decode cX1_leastOf 36 = .ok (.ireturn, 1) := by decide +kernel
theorem dX1_leastOf_37 : decode cX1_leastOf 37 = .ok (.iinc 2 1, 3) := by decide +kernel
theorem dX1_leastOf_40 : decode cX1_leastOf 40 = .ok (.goto (-32), 3) := by decide +kernel
theorem dX1_leastOf_43 : decode cX1_leastOf 43 = .ok (.bipush (-2), 2) := by decide +kernel
theorem dX1_leastOf_45 : decode cX1_leastOf 45 = .ok (.ireturn, 1) := by decide +kernel
theorem dX1_atMostAllOf_0 : decode cX1_atMostAllOf 0 = .ok (.iconst 0, 1) := by decide +kernel
theorem dX1_atMostAllOf_1 : decode cX1_atMostAllOf 1 = .ok (.istore_n 2, 1) := by decide +kernel
theorem dX1_atMostAllOf_2 : decode cX1_atMostAllOf 2 = .ok (.iconst 0, 1) := by decide +kernel
theorem dX1_atMostAllOf_3 : decode cX1_atMostAllOf 3 = .ok (.istore_n 3, 1) := by decide +kernel
theorem dX1_atMostAllOf_4 : decode cX1_atMostAllOf 4 = .ok (.iload_n 3, 1) := by decide +kernel
theorem dX1_atMostAllOf_5 : decode cX1_atMostAllOf 5 = .ok (.bipush 12, 2) := by decide +kernel
theorem dX1_atMostAllOf_7 : decode cX1_atMostAllOf 7 = .ok (.if_icmp .ge 39, 3) := by decide +kernel
theorem dX1_atMostAllOf_10 : decode cX1_atMostAllOf 10 = .ok (.aload_n 0, 1) := by decide +kernel
theorem dX1_atMostAllOf_11 : decode cX1_atMostAllOf 11 = .ok (.getfield 15, 3) := by decide +kernel
theorem dX1_atMostAllOf_14 : decode cX1_atMostAllOf 14 = .ok (.iload_n 3, 1) := by decide +kernel
theorem dX1_atMostAllOf_15 : decode cX1_atMostAllOf 15 = .ok (.ishr, 1) := by decide +kernel
theorem dX1_atMostAllOf_16 : decode cX1_atMostAllOf 16 = .ok (.iconst 1, 1) := by decide +kernel
theorem dX1_atMostAllOf_17 : decode cX1_atMostAllOf 17 = .ok (.iand, 1) := by decide +kernel
theorem dX1_atMostAllOf_18 : decode cX1_atMostAllOf 18 = .ok (.ifCond .eq 22, 3) := by decide +kernel
theorem dX1_atMostAllOf_21 : decode cX1_atMostAllOf 21 = .ok (.iload_n 1, 1) := by decide +kernel
theorem dX1_atMostAllOf_22 : decode cX1_atMostAllOf 22 = .ok (.aload_n 0, 1) := by decide +kernel
theorem dX1_atMostAllOf_23 : decode cX1_atMostAllOf 23 = .ok (.getfield 28, 3) := by decide +kernel
theorem dX1_atMostAllOf_26 : decode cX1_atMostAllOf 26 = .ok (.iload_n 3, 1) := by decide +kernel
theorem dX1_atMostAllOf_27 : decode cX1_atMostAllOf 27 = .ok (.iaload, 1) := by decide +kernel
theorem dX1_atMostAllOf_28 : decode cX1_atMostAllOf 28 = .ok (.iconst (-1), 1) := by decide +kernel
theorem dX1_atMostAllOf_29 : decode cX1_atMostAllOf 29 = .ok (.ixor, 1) := by decide +kernel
theorem dX1_atMostAllOf_30 : decode cX1_atMostAllOf 30 = .ok (.iand, 1) := by decide +kernel
theorem dX1_atMostAllOf_31 : decode cX1_atMostAllOf 31 = .ok (.ifCond .ne 9, 3) := by decide +kernel
theorem dX1_atMostAllOf_34 : decode cX1_atMostAllOf 34 = .ok (.iload_n 2, 1) := by decide +kernel
theorem dX1_atMostAllOf_35 : decode cX1_atMostAllOf 35 = .ok (.iconst 1, 1) := by decide +kernel
theorem dX1_atMostAllOf_36 : decode cX1_atMostAllOf 36 = .ok (.iload_n 3, 1) := by decide +kernel
theorem dX1_atMostAllOf_37 : decode cX1_atMostAllOf 37 = .ok (.ishl, 1) := by decide +kernel
theorem dX1_atMostAllOf_38 : decode cX1_atMostAllOf 38 = .ok (.ior, 1) := by decide +kernel
theorem dX1_atMostAllOf_39 : decode cX1_atMostAllOf 39 = .ok (.istore_n 2, 1) := by decide +kernel
theorem dX1_atMostAllOf_40 : decode cX1_atMostAllOf 40 = .ok (.iinc 3 1, 3) := by decide +kernel
theorem dX1_atMostAllOf_43 : decode cX1_atMostAllOf 43 = .ok (.goto (-39), 3) := by decide +kernel
theorem dX1_atMostAllOf_46 : decode cX1_atMostAllOf 46 = .ok (.iload_n 2, 1) := by decide +kernel
theorem dX1_atMostAllOf_47 : decode cX1_atMostAllOf 47 = .ok (.ireturn, 1) := by decide +kernel
theorem dX1_hasMethodFor_0 : decode cX1_hasMethodFor 0 = .ok (.iconst 0, 1) := by decide +kernel
theorem dX1_hasMethodFor_1 : decode cX1_hasMethodFor 1 = .ok (.istore_n 2, 1) := by decide +kernel
theorem dX1_hasMethodFor_2 : decode cX1_hasMethodFor 2 = .ok (.iload_n 2, 1) := by decide +kernel
theorem dX1_hasMethodFor_3 : decode cX1_hasMethodFor 3 = .ok (.bipush 12, 2) := by decide +kernel
theorem dX1_hasMethodFor_5 : decode cX1_hasMethodFor 5 = .ok (.if_icmp .ge 32, 3) := by decide +kernel
theorem dX1_hasMethodFor_8 : decode cX1_hasMethodFor 8 = .ok (.aload_n 0, 1) := by decide +kernel
theorem dX1_hasMethodFor_9 : decode cX1_hasMethodFor 9 = .ok (.getfield 15, 3) := by decide +kernel
theorem dX1_hasMethodFor_12 : decode cX1_hasMethodFor 12 = .ok (.iload_n 2, 1) := by decide +kernel
theorem dX1_hasMethodFor_13 : decode cX1_hasMethodFor 13 = .ok (.ishr, 1) := by decide +kernel
theorem dX1_hasMethodFor_14 : decode cX1_hasMethodFor 14 = .ok (.iconst 1, 1) := by decide +kernel
theorem dX1_hasMethodFor_15 : decode cX1_hasMethodFor 15 = .ok (.iand, 1) := by decide +kernel
theorem dX1_hasMethodFor_16 : decode cX1_hasMethodFor 16 = .ok (.ifCond .eq 15, 3) := by decide +kernel
theorem dX1_hasMethodFor_19 : decode cX1_hasMethodFor 19 = .ok (.aload_n 0, 1) := by decide +kernel
theorem dX1_hasMethodFor_20 : decode cX1_hasMethodFor 20 = .ok (.getfield 18, 3) := by decide +kernel
theorem dX1_hasMethodFor_23 : decode cX1_hasMethodFor 23 = .ok (.iload_n 2, 1) := by decide +kernel
theorem dX1_hasMethodFor_24 : decode cX1_hasMethodFor 24 = .ok (.iaload, 1) := by decide +kernel
theorem dX1_hasMethodFor_25 : decode cX1_hasMethodFor 25 = .ok (.iload_n 1, 1) := by decide +kernel
theorem dX1_hasMethodFor_26 : decode cX1_hasMethodFor 26 = .ok (.if_icmp .ne 5, 3) := by decide +kernel
theorem dX1_hasMethodFor_29 : decode cX1_hasMethodFor 29 = .ok (.iconst 1, 1) := by decide +kernel
theorem dX1_hasMethodFor_30 : decode cX1_hasMethodFor 30 = .ok (.ireturn, 1) := by decide +kernel
theorem dX1_hasMethodFor_31 : decode cX1_hasMethodFor 31 = .ok (.iinc 2 1, 3) := by decide +kernel
theorem dX1_hasMethodFor_34 : decode cX1_hasMethodFor 34 = .ok (.goto (-32), 3) := by decide +kernel
theorem dX1_hasMethodFor_37 : decode cX1_hasMethodFor 37 = .ok (.iconst 0, 1) := by decide +kernel
theorem dX1_hasMethodFor_38 : decode cX1_hasMethodFor 38 = .ok (.ireturn, 1) := by decide +kernel
theorem dX1_leastFree_0 : decode cX1_leastFree 0 = .ok (.iconst 0, 1) := by decide +kernel
theorem dX1_leastFree_1 : decode cX1_leastFree 1 = .ok (.istore_n 1, 1) := by decide +kernel
theorem dX1_leastFree_2 : decode cX1_leastFree 2 = .ok (.iload_n 1, 1) := by decide +kernel
theorem dX1_leastFree_3 : decode cX1_leastFree 3 = .ok (.bipush 12, 2) := by decide +kernel
theorem dX1_leastFree_5 : decode cX1_leastFree 5 = .ok (.if_icmp .ge 22, 3) := by decide +kernel
theorem dX1_leastFree_8 : decode cX1_leastFree 8 = .ok (.aload_n 0, 1) := by decide +kernel
theorem dX1_leastFree_9 : decode cX1_leastFree 9 = .ok (.getfield 15, 3) := by decide +kernel
theorem dX1_leastFree_12 : decode cX1_leastFree 12 = .ok (.iload_n 1, 1) := by decide +kernel
theorem dX1_leastFree_13 : decode cX1_leastFree 13 = .ok (.ishr, 1) := by decide +kernel
theorem dX1_leastFree_14 : decode cX1_leastFree 14 = .ok (.iconst 1, 1) := by decide +kernel
theorem dX1_leastFree_15 : decode cX1_leastFree 15 = .ok (.iand, 1) := by decide +kernel
theorem dX1_leastFree_16 : decode cX1_leastFree 16 = .ok (.ifCond .ne 5, 3) := by decide +kernel
theorem dX1_leastFree_19 : decode cX1_leastFree 19 = .ok (.iload_n 1, 1) := by decide +kernel
theorem dX1_leastFree_20 : decode cX1_leastFree 20 = .ok (.ireturn, 1) := by decide +kernel
theorem dX1_leastFree_21 : decode cX1_leastFree 21 = .ok (.iinc 1 1, 3) := by decide +kernel
theorem dX1_leastFree_24 : decode cX1_leastFree 24 = .ok (.goto (-22), 3) := by decide +kernel
theorem dX1_leastFree_27 : decode cX1_leastFree 27 = .ok (.iconst (-1), 1) := by decide +kernel
theorem dX1_leastFree_28 : decode cX1_leastFree 28 = .ok (.ireturn, 1) := by decide +kernel
theorem dX1_put_0 : decode cX1_put 0 = .ok (.aload_n 0, 1) := by decide +kernel
theorem dX1_put_1 : decode cX1_put 1 = .ok (.dup, 1) := by decide +kernel
theorem dX1_put_2 : decode cX1_put 2 = .ok (.getfield 15, 3) := by decide +kernel
theorem dX1_put_5 : decode cX1_put 5 = .ok (.iconst 1, 1) := by decide +kernel
theorem dX1_put_6 : decode cX1_put 6 = .ok (.iload_n 1, 1) := by decide +kernel
theorem dX1_put_7 : decode cX1_put 7 = .ok (.ishl, 1) := by decide +kernel
theorem dX1_put_8 : decode cX1_put 8 = .ok (.ior, 1) := by decide +kernel
theorem dX1_put_9 : decode cX1_put 9 = .ok (.putfield 15, 3) := by decide +kernel
theorem dX1_put_12 : decode cX1_put 12 = .ok (.aload_n 0, 1) := by decide +kernel
theorem dX1_put_13 : decode cX1_put 13 = .ok (.getfield 18, 3) := by decide +kernel
theorem dX1_put_16 : decode cX1_put 16 = .ok (.iload_n 1, 1) := by decide +kernel
theorem dX1_put_17 : decode cX1_put 17 = .ok (.iload_n 2, 1) := by decide +kernel
theorem dX1_put_18 : decode cX1_put 18 = .ok (.iastore, 1) := by decide +kernel
theorem dX1_put_19 : decode cX1_put 19 = .ok (.iconst 0, 1) := by decide +kernel
theorem dX1_put_20 : decode cX1_put 20 = .ok (.istore 4, 2) := by decide +kernel
theorem dX1_put_22 : decode cX1_put 22 = .ok (.iload 4, 2) := by decide +kernel
theorem dX1_put_24 : decode cX1_put 24 = .ok (.iconst 3, 1) := by decide +kernel
theorem dX1_put_25 : decode cX1_put 25 = .ok (.if_icmp .ge 61, 3) := by decide +kernel
theorem dX1_put_28 : decode cX1_put 28 = .ok (.iconst 0, 1) := by decide +kernel
theorem dX1_put_29 : decode cX1_put 29 = .ok (.istore 5, 2) := by decide +kernel
theorem dX1_put_31 : decode cX1_put 31 = .ok (.iload 5, 2) := by decide +kernel
theorem dX1_put_33 : decode cX1_put 33 = .ok (.aload_n 3, 1) := by decide +kernel
theorem dX1_put_34 : decode cX1_put 34 = .ok (.getfield 44, 3) := by decide +kernel
theorem dX1_put_37 : decode cX1_put 37 = .ok (.if_icmp .ge 43, 3) := by decide +kernel
theorem dX1_put_40 : decode cX1_put 40 = .ok (.aload_n 3, 1) := by decide +kernel
theorem dX1_put_41 : decode cX1_put 41 = .ok (.iload 5, 2) := by decide +kernel
theorem dX1_put_43 : decode cX1_put 43 = .ok (.iload_n 2, 1) := by decide +kernel
theorem dX1_put_44 : decode cX1_put 44 = .ok (.iload 4, 2) := by decide +kernel
theorem dX1_put_46 : decode cX1_put 46 = .ok (.invokestatic 40, 3) := by decide +kernel
theorem dX1_put_49 : decode cX1_put 49 = .ok (.invokevirtual 49, 3) := by decide +kernel
theorem dX1_put_52 : decode cX1_put 52 = .ok (.ifCond .eq 22, 3) := by decide +kernel
theorem dX1_put_55 : decode cX1_put 55 = .ok (.aload_n 0, 1) := by decide +kernel
theorem dX1_put_56 : decode cX1_put 56 = .ok (.getfield 31, 3) := by decide +kernel
theorem dX1_put_59 : decode cX1_put 59 = .ok (.bipush 16, 2) := by decide +kernel
theorem dX1_put_61 : decode cX1_put 61 = .ok (.iload 4, 2) := by decide +kernel
theorem dX1_put_63 : decode cX1_put 63 = .ok (.imul, 1) := by decide +kernel
theorem dX1_put_64 : decode cX1_put 64 = .ok (.iload 5, 2) := by decide +kernel
theorem dX1_put_66 : decode cX1_put 66 = .ok (.iadd, 1) := by decide +kernel
theorem dX1_put_67 : decode cX1_put 67 = .ok (.dup2, 1) := by decide +kernel
theorem dX1_put_68 : decode cX1_put 68 = .ok (.iaload, 1) := by decide +kernel
theorem dX1_put_69 : decode cX1_put 69 = .ok (.iconst 1, 1) := by decide +kernel
theorem dX1_put_70 : decode cX1_put 70 = .ok (.iload_n 1, 1) := by decide +kernel
theorem dX1_put_71 : decode cX1_put 71 = .ok (.ishl, 1) := by decide +kernel
theorem dX1_put_72 : decode cX1_put 72 = .ok (.ior, 1) := by decide +kernel
theorem dX1_put_73 : decode cX1_put 73 = .ok (.iastore, 1) := by decide +kernel
theorem dX1_put_74 : decode cX1_put 74 = .ok (.iinc 5 1, 3) := by decide +kernel
theorem dX1_put_77 : decode cX1_put 77 = .ok (.goto (-46), 3) := by decide +kernel
theorem dX1_put_80 : decode cX1_put 80 = .ok (.iinc 4 1, 3) := by decide +kernel
theorem dX1_put_83 : decode cX1_put 83 = .ok (.goto (-61), 3) := by decide +kernel
theorem dX1_put_86 : decode cX1_put 86 = .ok (.aload_n 0, 1) := by decide +kernel
theorem dX1_put_87 : decode cX1_put 87 = .ok (.invokevirtual 53, 3) := by decide +kernel
theorem dX1_put_90 : decode cX1_put 90 = .ok (.return_, 1) := by decide +kernel
theorem dX1_remove_0 : decode cX1_remove 0 = .ok (.aload_n 0, 1) := by decide +kernel
theorem dX1_remove_1 : decode cX1_remove 1 = .ok (.dup, 1) := by decide +kernel
theorem dX1_remove_2 : decode cX1_remove 2 = .ok (.getfield 15, 3) := by decide +kernel
theorem dX1_remove_5 : decode cX1_remove 5 = .ok (.iconst 1, 1) := by decide +kernel
theorem dX1_remove_6 : decode cX1_remove 6 = .ok (.iload_n 1, 1) := by decide +kernel
theorem dX1_remove_7 : decode cX1_remove 7 = .ok (.ishl, 1) := by decide +kernel
theorem dX1_remove_8 : decode cX1_remove 8 = .ok (.iconst (-1), 1) := by decide +kernel
theorem dX1_remove_9 : decode cX1_remove 9 = .ok (.ixor, 1) := by decide +kernel
theorem dX1_remove_10 : decode cX1_remove 10 = .ok (.iand, 1) := by decide +kernel
theorem dX1_remove_11 : decode cX1_remove 11 = .ok (.putfield 15, 3) := by decide +kernel
theorem dX1_remove_14 : decode cX1_remove 14 = .ok (.iconst 0, 1) := by decide +kernel
theorem dX1_remove_15 : decode cX1_remove 15 = .ok (.istore_n 2, 1) := by decide +kernel
theorem dX1_remove_16 : decode cX1_remove 16 = .ok (.iload_n 2, 1) := by decide +kernel
theorem dX1_remove_17 : decode cX1_remove 17 = .ok (.aload_n 0, 1) := by decide +kernel
theorem dX1_remove_18 : decode cX1_remove 18 = .ok (.getfield 31, 3) := by decide +kernel
theorem dX1_remove_21 : decode cX1_remove 21 = .ok (.arraylength, 1) := by decide +kernel
theorem dX1_remove_22 : decode cX1_remove 22 = .ok (.if_icmp .ge 23, 3) := by decide +kernel
theorem dX1_remove_25 : decode cX1_remove 25 = .ok (.aload_n 0, 1) := by decide +kernel
theorem dX1_remove_26 : decode cX1_remove 26 = .ok (.getfield 31, 3) := by decide +kernel
theorem dX1_remove_29 : decode cX1_remove 29 = .ok (.iload_n 2, 1) := by decide +kernel
theorem dX1_remove_30 : decode cX1_remove 30 = .ok (.dup2, 1) := by decide +kernel
theorem dX1_remove_31 : decode cX1_remove 31 = .ok (.iaload, 1) := by decide +kernel
theorem dX1_remove_32 : decode cX1_remove 32 = .ok (.iconst 1, 1) := by decide +kernel
theorem dX1_remove_33 : decode cX1_remove 33 = .ok (.iload_n 1, 1) := by decide +kernel
theorem dX1_remove_34 : decode cX1_remove 34 = .ok (.ishl, 1) := by decide +kernel
theorem dX1_remove_35 : decode cX1_remove 35 = .ok (.iconst (-1), 1) := by decide +kernel
theorem dX1_remove_36 : decode cX1_remove 36 = .ok (.ixor, 1) := by decide +kernel
theorem dX1_remove_37 : decode cX1_remove 37 = .ok (.iand, 1) := by decide +kernel
theorem dX1_remove_38 : decode cX1_remove 38 = .ok (.iastore, 1) := by decide +kernel
theorem dX1_remove_39 : decode cX1_remove 39 = .ok (.iinc 2 1, 3) := by decide +kernel
theorem dX1_remove_42 : decode cX1_remove 42 = .ok (.goto (-26), 3) := by decide +kernel
theorem dX1_remove_45 : decode cX1_remove 45 = .ok (.aload_n 0, 1) := by decide +kernel
theorem dX1_remove_46 : decode cX1_remove 46 = .ok (.invokevirtual 53, 3) := by decide +kernel
theorem dX1_remove_49 : decode cX1_remove 49 = .ok (.return_, 1) := by decide +kernel
theorem dX1_orderMethods_0 : decode cX1_orderMethods 0 = .ok (.iconst 0, 1) := by decide +kernel
theorem dX1_orderMethods_1 : decode cX1_orderMethods 1 = .ok (.istore_n 1, 1) := by decide +kernel
theorem dX1_orderMethods_2 : decode cX1_orderMethods 2 = .ok (.iload_n 1, 1) := by decide +kernel
theorem dX1_orderMethods_3 : decode cX1_orderMethods 3 = .ok (.bipush 12, 2) := by decide +kernel
theorem dX1_orderMethods_5 : decode cX1_orderMethods 5 = .ok (.if_icmp .gt 40, 3) := by decide +kernel
theorem dX1_orderMethods_8 : decode cX1_orderMethods 8 = .ok (.aload_n 0, 1) := by decide +kernel
theorem dX1_orderMethods_9 : decode cX1_orderMethods 9 = .ok (.getfield 28, 3) := by decide +kernel
theorem dX1_orderMethods_12 : decode cX1_orderMethods 12 = .ok (.iload_n 1, 1) := by decide +kernel
theorem dX1_orderMethods_13 : decode cX1_orderMethods 13 = .ok (.aload_n 0, 1) := by decide +kernel
theorem dX1_orderMethods_14 : decode cX1_orderMethods 14 = .ok (.getfield 15, 3) := by decide +kernel
theorem dX1_orderMethods_17 : decode cX1_orderMethods 17 = .ok (.iload_n 1, 1) := by decide +kernel
theorem dX1_orderMethods_18 : decode cX1_orderMethods 18 = .ok (.ishr, 1) := by decide +kernel
theorem dX1_orderMethods_19 : decode cX1_orderMethods 19 = .ok (.iconst 1, 1) := by decide +kernel
theorem dX1_orderMethods_20 : decode cX1_orderMethods 20 = .ok (.iand, 1) := by decide +kernel
theorem dX1_orderMethods_21 : decode cX1_orderMethods 21 = .ok (.ifCond .eq 16, 3) := by decide +kernel
theorem dX1_orderMethods_24 : decode cX1_orderMethods 24 = .ok (.aload_n 0, 1) := by decide +kernel
theorem dX1_orderMethods_25 : decode cX1_orderMethods 25 = .ok (.aload_n 0, 1) := by decide +kernel
theorem dX1_orderMethods_26 : decode cX1_orderMethods 26 = .ok (.getfield 18, 3) := by decide +kernel
theorem dX1_orderMethods_29 : decode cX1_orderMethods 29 = .ok (.iload_n 1, 1) := by decide +kernel
theorem dX1_orderMethods_30 : decode cX1_orderMethods 30 = .ok (.iaload, 1) := by decide +kernel
theorem dX1_orderMethods_31 : decode cX1_orderMethods 31 = .ok (.invokevirtual 56, 3) := by decide +kernel
theorem dX1_orderMethods_34 : decode cX1_orderMethods 34 = .ok (.goto 4, 3) := by decide +kernel
theorem dX1_orderMethods_37 : decode cX1_orderMethods 37 = .ok (.iconst 0, 1) := by decide +kernel
theorem dX1_orderMethods_38 : decode cX1_orderMethods 38 = .ok (.iastore, 1) := by decide +kernel
theorem dX1_orderMethods_39 : decode cX1_orderMethods 39 = .ok (.iinc 1 1, 3) := by decide +kernel
theorem dX1_orderMethods_42 : decode cX1_orderMethods 42 = .ok (.goto (-40), 3) := by decide +kernel
theorem dX1_orderMethods_45 : decode cX1_orderMethods 45 = .ok (.return_, 1) := by decide +kernel
theorem dX1_fitClass_0 : decode cX1_fitClass 0 = .ok (.iconst 0, 1) := by decide +kernel
theorem dX1_fitClass_1 : decode cX1_fitClass 1 = .ok (.istore_n 3, 1) := by decide +kernel
theorem dX1_fitClass_2 : decode cX1_fitClass 2 = .ok (.iload_n 3, 1) := by decide +kernel
theorem dX1_fitClass_3 : decode cX1_fitClass 3 = .ok (.iconst 3, 1) := by decide +kernel
theorem dX1_fitClass_4 : decode cX1_fitClass 4 = .ok (.if_icmp .ge 81, 3) := by decide +kernel
theorem dX1_fitClass_7 : decode cX1_fitClass 7 = .ok (.iconst 0, 1) := by decide +kernel
theorem dX1_fitClass_8 : decode cX1_fitClass 8 = .ok (.istore 4, 2) := by decide +kernel
theorem dX1_fitClass_10 : decode cX1_fitClass 10 = .ok (.iconst 0, 1) := by decide +kernel
theorem dX1_fitClass_11 : decode cX1_fitClass 11 = .ok (.istore 5, 2) := by decide +kernel
theorem dX1_fitClass_13 : decode cX1_fitClass 13 = .ok (.iload 5, 2) := by decide +kernel
theorem dX1_fitClass_15 : decode cX1_fitClass 15 = .ok (.bipush 12, 2) := by decide +kernel
theorem dX1_fitClass_17 : decode cX1_fitClass 17 = .ok (.if_icmp .ge 49, 3) := by decide +kernel
theorem dX1_fitClass_20 : decode cX1_fitClass 20 = .ok (.aload_n 0, 1) := by decide +kernel
theorem dX1_fitClass_21 : decode cX1_fitClass 21 = .ok (.getfield 15, 3) := by decide +kernel
theorem dX1_fitClass_24 : decode cX1_fitClass 24 = .ok (.iload 5, 2) := by decide +kernel
theorem dX1_fitClass_26 : decode cX1_fitClass 26 = .ok (.ishr, 1) := by decide +kernel
theorem dX1_fitClass_27 : decode cX1_fitClass 27 = .ok (.iconst 1, 1) := by decide +kernel
theorem dX1_fitClass_28 : decode cX1_fitClass 28 = .ok (.iand, 1) := by decide +kernel
theorem dX1_fitClass_29 : decode cX1_fitClass 29 = .ok (.ifCond .eq 31, 3) := by decide +kernel
theorem dX1_fitClass_32 : decode cX1_fitClass 32 = .ok (.aload_n 2, 1) := by decide +kernel
theorem dX1_fitClass_33 : decode cX1_fitClass 33 = .ok (.iload_n 1, 1) := by decide +kernel
theorem dX1_fitClass_34 : decode cX1_fitClass 34 = .ok (.aload_n 0, 1) := by decide +kernel
theorem dX1_fitClass_35 : decode cX1_fitClass 35 = .ok (.getfield 18, 3) := by decide +kernel
theorem dX1_fitClass_38 : decode cX1_fitClass 38 = .ok (.iload 5, 2) := by decide +kernel
theorem dX1_fitClass_40 : decode cX1_fitClass 40 = .ok (.iaload, 1) := by decide +kernel
theorem dX1_fitClass_41 : decode cX1_fitClass 41 = .ok (.iload_n 3, 1) := by decide +kernel
theorem dX1_fitClass_42 : decode cX1_fitClass 42 = .ok (.invokestatic 40, 3) := by decide +kernel
theorem dX1_fitClass_45 : decode cX1_fitClass 45 = .ok (.invokevirtual 49, 3) := by decide +kernel
theorem dX1_fitClass_48 : decode cX1_fitClass 48 = .ok (.ifCond .eq 12, 3) := by decide +kernel
theorem dX1_fitClass_51 : decode cX1_fitClass 51 = .ok (.iload 4, 2) := by decide +kernel
theorem dX1_fitClass_53 : decode cX1_fitClass 53 = .ok (.iconst 1, 1) := by decide +kernel
theorem dX1_fitClass_54 : decode cX1_fitClass 54 = .ok (.iload 5, 2) := by decide +kernel
theorem dX1_fitClass_56 : decode cX1_fitClass 56 = .ok (.ishl, 1) := by decide +kernel
theorem dX1_fitClass_57 : decode cX1_fitClass 57 = .ok (.ior, 1) := by decide +kernel
theorem dX1_fitClass_58 : decode cX1_fitClass 58 = .ok (.istore 4, 2) := by decide +kernel
theorem dX1_fitClass_60 : decode cX1_fitClass 60 = .ok (.iinc 5 1, 3) := by decide +kernel
theorem dX1_fitClass_63 : decode cX1_fitClass 63 = .ok (.goto (-50), 3) := by decide +kernel
theorem dX1_fitClass_66 : decode cX1_fitClass 66 = .ok (.aload_n 0, 1) := by decide +kernel
theorem dX1_fitClass_67 : decode cX1_fitClass 67 = .ok (.getfield 31, 3) := by decide +kernel
theorem dX1_fitClass_70 : decode cX1_fitClass 70 = .ok (.bipush 16, 2) := by decide +kernel
theorem dX1_fitClass_72 : decode cX1_fitClass 72 = .ok (.iload_n 3, 1) := by decide +kernel
theorem dX1_fitClass_73 : decode cX1_fitClass 73 = .ok (.imul, 1) := by decide +kernel
theorem dX1_fitClass_74 : decode cX1_fitClass 74 = .ok (.iload_n 1, 1) := by decide +kernel
theorem dX1_fitClass_75 : decode cX1_fitClass 75 = .ok (.iadd, 1) := by decide +kernel
theorem dX1_fitClass_76 : decode cX1_fitClass 76 = .ok (.iload 4, 2) := by decide +kernel
theorem dX1_fitClass_78 : decode cX1_fitClass 78 = .ok (.iastore, 1) := by decide +kernel
theorem dX1_fitClass_79 : decode cX1_fitClass 79 = .ok (.iinc 3 1, 3) := by decide +kernel
theorem dX1_fitClass_82 : decode cX1_fitClass 82 = .ok (.goto (-80), 3) := by decide +kernel
theorem dX1_fitClass_85 : decode cX1_fitClass 85 = .ok (.return_, 1) := by decide +kernel
theorem dX1_copyMethods_0 : decode cX1_copyMethods 0 = .ok (.aload_n 0, 1) := by decide +kernel
theorem dX1_copyMethods_1 : decode cX1_copyMethods 1 = .ok (.aload_n 1, 1) := by decide +kernel
theorem dX1_copyMethods_2 : decode cX1_copyMethods 2 = .ok (.getfield 9, 3) := by decide +kernel
theorem dX1_copyMethods_5 : decode cX1_copyMethods 5 = .ok (.putfield 9, 3) := by decide +kernel
theorem dX1_copyMethods_8 : decode cX1_copyMethods 8 = .ok (.aload_n 0, 1) := by decide +kernel
theorem dX1_copyMethods_9 : decode cX1_copyMethods 9 = .ok (.aload_n 1, 1) := by decide +kernel
theorem dX1_copyMethods_10 : decode cX1_copyMethods 10 = .ok (.getfield 15, 3) := by decide +kernel
theorem dX1_copyMethods_13 : decode cX1_copyMethods 13 = .ok (.putfield 15, 3) := by decide +kernel
theorem dX1_copyMethods_16 : decode cX1_copyMethods 16 = .ok (.aload_n 1, 1) := by decide +kernel
theorem dX1_copyMethods_17 : decode cX1_copyMethods 17 = .ok (.getfield 18, 3) := by decide +kernel
theorem dX1_copyMethods_20 : decode cX1_copyMethods 20 = .ok (.iconst 0, 1) := by decide +kernel
theorem dX1_copyMethods_21 : decode cX1_copyMethods 21 = .ok (.aload_n 0, 1) := by decide +kernel
theorem dX1_copyMethods_22 : decode cX1_copyMethods 22 = .ok (.getfield 18, 3) := by decide +kernel
theorem dX1_copyMethods_25 : decode cX1_copyMethods 25 = .ok (.iconst 0, 1) := by decide +kernel
theorem dX1_copyMethods_26 : decode cX1_copyMethods 26 = .ok (.aload_n 0, 1) := by decide +kernel
theorem dX1_copyMethods_27 : decode cX1_copyMethods 27 = .ok (.getfield 18, 3) := by decide +kernel
theorem dX1_copyMethods_30 : decode cX1_copyMethods 30 = .ok (.arraylength, 1) := by decide +kernel
theorem dX1_copyMethods_31 : decode cX1_copyMethods 31 = .ok (.invokestatic 60, 3) := by decide +kernel
theorem dX1_copyMethods_34 : decode cX1_copyMethods 34 = .ok (.aload_n 1, 1) := by decide +kernel
theorem dX1_copyMethods_35 : decode cX1_copyMethods 35 = .ok (.getfield 28, 3) := by decide +kernel
theorem dX1_copyMethods_38 : decode cX1_copyMethods 38 = .ok (.iconst 0, 1) := by decide +kernel
theorem dX1_copyMethods_39 : decode cX1_copyMethods 39 = .ok (.aload_n 0, 1) := by decide +kernel
theorem dX1_copyMethods_40 : decode cX1_copyMethods 40 = .ok (.getfield 28, 3) := by decide +kernel
theorem dX1_copyMethods_43 : decode cX1_copyMethods 43 = .ok (.iconst 0, 1) := by decide +kernel
theorem dX1_copyMethods_44 : decode cX1_copyMethods 44 = .ok (.aload_n 0, 1) := by decide +kernel
theorem dX1_copyMethods_45 : decode cX1_copyMethods 45 = .ok (.getfield 28, 3) := by decide +kernel
theorem dX1_copyMethods_48 : decode cX1_copyMethods 48 = .ok (.arraylength, 1) := by decide +kernel
theorem dX1_copyMethods_49 : decode cX1_copyMethods 49 = .ok (.invokestatic 60, 3) := by decide +kernel
theorem dX1_copyMethods_52 : decode cX1_copyMethods 52 = .ok (.aload_n 1, 1) := by decide +kernel
theorem dX1_copyMethods_53 : decode cX1_copyMethods 53 = .ok (.getfield 31, 3) := by decide +kernel
theorem dX1_copyMethods_56 : decode cX1_copyMethods 56 = .ok (.iconst 0, 1) := by decide +kernel
theorem dX1_copyMethods_57 : decode cX1_copyMethods 57 = .ok (.aload_n 0, 1) := by decide +kernel
theorem dX1_copyMethods_58 : decode cX1_copyMethods 58 = .ok (.getfield 31, 3) := by decide +kernel
theorem dX1_copyMethods_61 : decode cX1_copyMethods 61 = .ok (.iconst 0, 1) := by decide +kernel
theorem dX1_copyMethods_62 : decode cX1_copyMethods 62 = .ok (.aload_n 0, 1) := by decide +kernel
theorem dX1_copyMethods_63 : decode cX1_copyMethods 63 = .ok (.getfield 31, 3) := by decide +kernel
theorem dX1_copyMethods_66 : decode cX1_copyMethods 66 = .ok (.arraylength, 1) := by decide +kernel
theorem dX1_copyMethods_67 : decode cX1_copyMethods 67 = .ok (.invokestatic 60, 3) := by decide +kernel
theorem dX1_copyMethods_70 : decode cX1_copyMethods 70 = .ok (.return_, 1) := by decide +kernel
theorem dX1_workOut_0 : decode cX1_workOut 0 = .ok (.aload_n 0, 1) := by decide +kernel
theorem dX1_workOut_1 : decode cX1_workOut 1 = .ok (.getfield 25, 3) := by decide +kernel
theorem dX1_workOut_4 : decode cX1_workOut 4 = .ok (.iload_n 1, 1) := by decide +kernel
theorem dX1_workOut_5 : decode cX1_workOut 5 = .ok (.iaload, 1) := by decide +kernel
theorem dX1_workOut_6 : decode cX1_workOut 6 = .ok (.istore_n 3, 1) := by decide +kernel
theorem dX1_workOut_7 : decode cX1_workOut 7 = .ok (.aload_n 0, 1) := by decide +kernel
theorem dX1_workOut_8 : decode cX1_workOut 8 = .ok (.getfield 22, 3) := by decide +kernel
theorem dX1_workOut_11 : decode cX1_workOut 11 = .ok (.iload_n 1, 1) := by decide +kernel
theorem dX1_workOut_12 : decode cX1_workOut 12 = .ok (.iaload, 1) := by decide +kernel
theorem dX1_workOut_13 : decode cX1_workOut 13 = .ok (.tableswitch 41 1 3 #[27, 31, 35], 27) := by decide +kernel
theorem dX1_workOut_40 : decode cX1_workOut 40 = .ok (.iload_n 3, 1) := by decide +kernel
theorem dX1_workOut_41 : decode cX1_workOut 41 = .ok (.iload_n 2, 1) := by decide +kernel
theorem dX1_workOut_42 : decode cX1_workOut 42 = .ok (.iadd, 1) := by decide +kernel
theorem dX1_workOut_43 : decode cX1_workOut 43 = .ok (.ireturn, 1) := by decide +kernel
theorem dX1_workOut_44 : decode cX1_workOut 44 = .ok (.iload_n 3, 1) := by decide +kernel
theorem dX1_workOut_45 : decode cX1_workOut 45 = .ok (.iload_n 2, 1) := by decide +kernel
theorem dX1_workOut_46 : decode cX1_workOut 46 = .ok (.imul, 1) := by decide +kernel
theorem dX1_workOut_47 : decode cX1_workOut 47 = .ok (.ireturn, 1) := by decide +kernel
theorem dX1_workOut_48 : decode cX1_workOut 48 = .ok (.iload_n 3, 1) := by decide +kernel
theorem dX1_workOut_49 : decode cX1_workOut 49 = .ok (.iload_n 2, 1) := by decide +kernel
theorem dX1_workOut_50 : decode cX1_workOut 50 = .ok (.invokestatic 66, 3) := by decide +kernel
theorem dX1_workOut_53 : decode cX1_workOut 53 = .ok (.ireturn, 1) := by decide +kernel
theorem dX1_workOut_54 : decode cX1_workOut 54 = .ok (.iload_n 3, 1) := by decide +kernel
theorem dX1_workOut_55 : decode cX1_workOut 55 = .ok (.ireturn, 1) := by decide +kernel
theorem dX1_ask_0 : decode cX1_ask 0 = .ok (.iconst 0, 1) := by decide +kernel
theorem dX1_ask_1 : decode cX1_ask 1 = .ok (.istore_n 2, 1) := by decide +kernel
theorem dX1_ask_2 : decode cX1_ask 2 = .ok (.iload_n 2, 1) := by decide +kernel
theorem dX1_ask_3 : decode cX1_ask 3 = .ok (.aload_n 0, 1) := by decide +kernel
theorem dX1_ask_4 : decode cX1_ask 4 = .ok (.getfield 37, 3) := by decide +kernel
theorem dX1_ask_7 : decode cX1_ask 7 = .ok (.if_icmp .ge 31, 3) := by decide +kernel
theorem dX1_ask_10 : decode cX1_ask 10 = .ok (.aload_n 0, 1) := by decide +kernel
theorem dX1_ask_11 : decode cX1_ask 11 = .ok (.getfield 34, 3) := by decide +kernel
theorem dX1_ask_14 : decode cX1_ask 14 = .ok (.iload_n 2, 1) := by decide +kernel
theorem dX1_ask_15 : decode cX1_ask 15 = .ok (.iaload, 1) := by decide +kernel
theorem dX1_ask_16 : decode cX1_ask 16 = .ok (.iload_n 1, 1) := by decide +kernel
theorem dX1_ask_17 : decode cX1_ask 17 = .ok (.if_icmp .ne 15, 3) := by decide +kernel
theorem dX1_ask_20 : decode cX1_ask 20 = .ok (.aload_n 0, 1) := by decide +kernel
theorem dX1_ask_21 : decode cX1_ask 21 = .ok (.iload_n 2, 1) := by decide +kernel
theorem dX1_ask_22 : decode cX1_ask 22 = .ok (.invokevirtual 71, 3) := by decide +kernel
theorem dX1_ask_25 : decode cX1_ask 25 = .ok (.aload_n 0, 1) := by decide +kernel
theorem dX1_ask_26 : decode cX1_ask 26 = .ok (.iload_n 1, 1) := by decide +kernel
theorem dX1_ask_27 : decode cX1_ask 27 = .ok (.invokevirtual 75, 3) := by decide +kernel
theorem dX1_ask_30 : decode cX1_ask 30 = .ok (.iconst 1, 1) := by decide +kernel
theorem dX1_ask_31 : decode cX1_ask 31 = .ok (.ireturn, 1) := by decide +kernel
theorem dX1_ask_32 : decode cX1_ask 32 = .ok (.iinc 2 1, 3) := by decide +kernel
theorem dX1_ask_35 : decode cX1_ask 35 = .ok (.goto (-33), 3) := by decide +kernel
theorem dX1_ask_38 : decode cX1_ask 38 = .ok (.aload_n 0, 1) := by decide +kernel
theorem dX1_ask_39 : decode cX1_ask 39 = .ok (.getfield 37, 3) := by decide +kernel
theorem dX1_ask_42 : decode cX1_ask 42 = .ok (.bipush 6, 2) := by decide +kernel
theorem dX1_ask_44 : decode cX1_ask 44 = .ok (.if_icmp .ne 8, 3) := by decide +kernel
theorem dX1_ask_47 : decode cX1_ask 47 = .ok (.aload_n 0, 1) := by decide +kernel
theorem dX1_ask_48 : decode cX1_ask 48 = .ok (.iconst 0, 1) := by decide +kernel
theorem dX1_ask_49 : decode cX1_ask 49 = .ok (.invokevirtual 71, 3) := by decide +kernel
theorem dX1_ask_52 : decode cX1_ask 52 = .ok (.aload_n 0, 1) := by decide +kernel
theorem dX1_ask_53 : decode cX1_ask 53 = .ok (.iload_n 1, 1) := by decide +kernel
theorem dX1_ask_54 : decode cX1_ask 54 = .ok (.invokevirtual 75, 3) := by decide +kernel
theorem dX1_ask_57 : decode cX1_ask 57 = .ok (.iconst 0, 1) := by decide +kernel
theorem dX1_ask_58 : decode cX1_ask 58 = .ok (.ireturn, 1) := by decide +kernel
theorem dX1_removeKept_0 : decode cX1_removeKept 0 = .ok (.iload_n 1, 1) := by decide +kernel
theorem dX1_removeKept_1 : decode cX1_removeKept 1 = .ok (.istore_n 2, 1) := by decide +kernel
theorem dX1_removeKept_2 : decode cX1_removeKept 2 = .ok (.iload_n 2, 1) := by decide +kernel
theorem dX1_removeKept_3 : decode cX1_removeKept 3 = .ok (.aload_n 0, 1) := by decide +kernel
theorem dX1_removeKept_4 : decode cX1_removeKept 4 = .ok (.getfield 37, 3) := by decide +kernel
theorem dX1_removeKept_7 : decode cX1_removeKept 7 = .ok (.iconst 1, 1) := by decide +kernel
theorem dX1_removeKept_8 : decode cX1_removeKept 8 = .ok (.isub, 1) := by decide +kernel
theorem dX1_removeKept_9 : decode cX1_removeKept 9 = .ok (.if_icmp .ge 23, 3) := by decide +kernel
theorem dX1_removeKept_12 : decode cX1_removeKept 12 = .ok (.aload_n 0, 1) := by decide +kernel
theorem dX1_removeKept_13 : decode cX1_removeKept 13 = .ok (.getfield 34, 3) := by decide +kernel
theorem dX1_removeKept_16 : decode cX1_removeKept 16 = .ok (.iload_n 2, 1) := by decide +kernel
theorem dX1_removeKept_17 : decode cX1_removeKept 17 = .ok (.aload_n 0, 1) := by decide +kernel
theorem dX1_removeKept_18 : decode cX1_removeKept 18 = .ok (.getfield 34, 3) := by decide +kernel
theorem dX1_removeKept_21 : decode cX1_removeKept 21 = .ok (.iload_n 2, 1) := by decide +kernel
theorem dX1_removeKept_22 : decode cX1_removeKept 22 = .ok (.iconst 1, 1) := by decide +kernel
theorem dX1_removeKept_23 : decode cX1_removeKept 23 = .ok (.iadd, 1) := by decide +kernel
theorem dX1_removeKept_24 : decode cX1_removeKept 24 = .ok (.iaload, 1) := by decide +kernel
theorem dX1_removeKept_25 : decode cX1_removeKept 25 = .ok (.iastore, 1) := by decide +kernel
theorem dX1_removeKept_26 : decode cX1_removeKept 26 = .ok (.iinc 2 1, 3) := by decide +kernel
theorem dX1_removeKept_29 : decode cX1_removeKept 29 = .ok (.goto (-27), 3) := by decide +kernel
theorem dX1_removeKept_32 : decode cX1_removeKept 32 = .ok (.aload_n 0, 1) := by decide +kernel
theorem dX1_removeKept_33 : decode cX1_removeKept 33 = .ok (.dup, 1) := by decide +kernel
theorem dX1_removeKept_34 : decode cX1_removeKept 34 = .ok (.getfield 37, 3) := by decide +kernel
theorem dX1_removeKept_37 : decode cX1_removeKept 37 = .ok (.iconst 1, 1) := by decide +kernel
theorem dX1_removeKept_38 : decode cX1_removeKept 38 = .ok (.isub, 1) := by decide +kernel
theorem dX1_removeKept_39 : decode cX1_removeKept 39 = .ok (.putfield 37, 3) := by decide +kernel
theorem dX1_removeKept_42 : decode cX1_removeKept 42 = .ok (.return_, 1) := by decide +kernel
theorem dX1_addKept_0 : decode cX1_addKept 0 = .ok (.aload_n 0, 1) := by decide +kernel
theorem dX1_addKept_1 : decode cX1_addKept 1 = .ok (.getfield 34, 3) := by decide +kernel
theorem dX1_addKept_4 : decode cX1_addKept 4 = .ok (.aload_n 0, 1) := by decide +kernel
theorem dX1_addKept_5 : decode cX1_addKept 5 = .ok (.getfield 37, 3) := by decide +kernel
theorem dX1_addKept_8 : decode cX1_addKept 8 = .ok (.iload_n 1, 1) := by decide +kernel
theorem dX1_addKept_9 : decode cX1_addKept 9 = .ok (.iastore, 1) := by decide +kernel
theorem dX1_addKept_10 : decode cX1_addKept 10 = .ok (.aload_n 0, 1) := by decide +kernel
theorem dX1_addKept_11 : decode cX1_addKept 11 = .ok (.dup, 1) := by decide +kernel
theorem dX1_addKept_12 : decode cX1_addKept 12 = .ok (.getfield 37, 3) := by decide +kernel
theorem dX1_addKept_15 : decode cX1_addKept 15 = .ok (.iconst 1, 1) := by decide +kernel
theorem dX1_addKept_16 : decode cX1_addKept 16 = .ok (.iadd, 1) := by decide +kernel
theorem dX1_addKept_17 : decode cX1_addKept 17 = .ok (.putfield 37, 3) := by decide +kernel
theorem dX1_addKept_20 : decode cX1_addKept 20 = .ok (.return_, 1) := by decide +kernel
theorem dX1_forget_0 : decode cX1_forget 0 = .ok (.iconst 0, 1) := by decide +kernel
theorem dX1_forget_1 : decode cX1_forget 1 = .ok (.istore_n 2, 1) := by decide +kernel
theorem dX1_forget_2 : decode cX1_forget 2 = .ok (.iconst 0, 1) := by decide +kernel
theorem dX1_forget_3 : decode cX1_forget 3 = .ok (.istore_n 3, 1) := by decide +kernel
theorem dX1_forget_4 : decode cX1_forget 4 = .ok (.iload_n 3, 1) := by decide +kernel
theorem dX1_forget_5 : decode cX1_forget 5 = .ok (.aload_n 0, 1) := by decide +kernel
theorem dX1_forget_6 : decode cX1_forget 6 = .ok (.getfield 37, 3) := by decide +kernel
theorem dX1_forget_9 : decode cX1_forget 9 = .ok (.if_icmp .ge 41, 3) := by decide +kernel
theorem dX1_forget_12 : decode cX1_forget 12 = .ok (.aload_n 0, 1) := by decide +kernel
theorem dX1_forget_13 : decode cX1_forget 13 = .ok (.aload_n 0, 1) := by decide +kernel
theorem dX1_forget_14 : decode cX1_forget 14 = .ok (.getfield 34, 3) := by decide +kernel
theorem dX1_forget_17 : decode cX1_forget 17 = .ok (.iload_n 3, 1) := by decide +kernel
theorem dX1_forget_18 : decode cX1_forget 18 = .ok (.iaload, 1) := by decide +kernel
theorem dX1_forget_19 : decode cX1_forget 19 = .ok (.invokevirtual 56, 3) := by decide +kernel
theorem dX1_forget_22 : decode cX1_forget 22 = .ok (.iload_n 1, 1) := by decide +kernel
theorem dX1_forget_23 : decode cX1_forget 23 = .ok (.ishr, 1) := by decide +kernel
theorem dX1_forget_24 : decode cX1_forget 24 = .ok (.iconst 1, 1) := by decide +kernel
theorem dX1_forget_25 : decode cX1_forget 25 = .ok (.iand, 1) := by decide +kernel
theorem dX1_forget_26 : decode cX1_forget 26 = .ok (.ifCond .ne 18, 3) := by decide +kernel
theorem dX1_forget_29 : decode cX1_forget 29 = .ok (.aload_n 0, 1) := by decide +kernel
theorem dX1_forget_30 : decode cX1_forget 30 = .ok (.getfield 34, 3) := by decide +kernel
theorem dX1_forget_33 : decode cX1_forget 33 = .ok (.iload_n 2, 1) := by decide +kernel
theorem dX1_forget_34 : decode cX1_forget 34 = .ok (.aload_n 0, 1) := by decide +kernel
theorem dX1_forget_35 : decode cX1_forget 35 = .ok (.getfield 34, 3) := by decide +kernel
theorem dX1_forget_38 : decode cX1_forget 38 = .ok (.iload_n 3, 1) := by decide +kernel
theorem dX1_forget_39 : decode cX1_forget 39 = .ok (.iaload, 1) := by decide +kernel
theorem dX1_forget_40 : decode cX1_forget 40 = .ok (.iastore, 1) := by decide +kernel
theorem dX1_forget_41 : decode cX1_forget 41 = .ok (.iinc 2 1, 3) := by decide +kernel
theorem dX1_forget_44 : decode cX1_forget 44 = .ok (.iinc 3 1, 3) := by decide +kernel
theorem dX1_forget_47 : decode cX1_forget 47 = .ok (.goto (-43), 3) := by decide +kernel
theorem dX1_forget_50 : decode cX1_forget 50 = .ok (.aload_n 0, 1) := by decide +kernel
theorem dX1_forget_51 : decode cX1_forget 51 = .ok (.iload_n 2, 1) := by decide +kernel
theorem dX1_forget_52 : decode cX1_forget 52 = .ok (.putfield 37, 3) := by decide +kernel
theorem dX1_forget_55 : decode cX1_forget 55 = .ok (.return_, 1) := by decide +kernel
theorem dJ6_bitCount_0f7a4_0 : decode cJ6_bitCount_0f7a4 0 = .ok (.iload_n 0, 1) := by decide +kernel
theorem dJ6_bitCount_0f7a4_1 : decode cJ6_bitCount_0f7a4 1 = .ok (.iload_n 0, 1) := by decide +kernel
theorem dJ6_bitCount_0f7a4_2 : decode cJ6_bitCount_0f7a4 2 = .ok (.iconst 1, 1) := by decide +kernel
theorem dJ6_bitCount_0f7a4_3 : decode cJ6_bitCount_0f7a4 3 = .ok (.iushr, 1) := by decide +kernel
theorem dJ6_bitCount_0f7a4_4 : decode cJ6_bitCount_0f7a4 4 = .ok (.ldc_w 265, 3) := by decide +kernel
theorem dJ6_bitCount_0f7a4_7 : decode cJ6_bitCount_0f7a4 7 = .ok (.iand, 1) := by decide +kernel
theorem dJ6_bitCount_0f7a4_8 : decode cJ6_bitCount_0f7a4 8 = .ok (.isub, 1) := by decide +kernel
theorem dJ6_bitCount_0f7a4_9 : decode cJ6_bitCount_0f7a4 9 = .ok (.istore_n 0, 1) := by decide +kernel
theorem dJ6_bitCount_0f7a4_10 : decode cJ6_bitCount_0f7a4 10 = .ok (.iload_n 0, 1) := by decide +kernel
theorem dJ6_bitCount_0f7a4_11 : decode cJ6_bitCount_0f7a4 11 = .ok (.ldc_w 266, 3) := by decide +kernel
theorem dJ6_bitCount_0f7a4_14 : decode cJ6_bitCount_0f7a4 14 = .ok (.iand, 1) := by decide +kernel
theorem dJ6_bitCount_0f7a4_15 : decode cJ6_bitCount_0f7a4 15 = .ok (.iload_n 0, 1) := by decide +kernel
theorem dJ6_bitCount_0f7a4_16 : decode cJ6_bitCount_0f7a4 16 = .ok (.iconst 2, 1) := by decide +kernel
theorem dJ6_bitCount_0f7a4_17 : decode cJ6_bitCount_0f7a4 17 = .ok (.iushr, 1) := by decide +kernel
theorem dJ6_bitCount_0f7a4_18 : decode cJ6_bitCount_0f7a4 18 = .ok (.ldc_w 266, 3) := by decide +kernel
theorem dJ6_bitCount_0f7a4_21 : decode cJ6_bitCount_0f7a4 21 = .ok (.iand, 1) := by decide +kernel
theorem dJ6_bitCount_0f7a4_22 : decode cJ6_bitCount_0f7a4 22 = .ok (.iadd, 1) := by decide +kernel
theorem dJ6_bitCount_0f7a4_23 : decode cJ6_bitCount_0f7a4 23 = .ok (.istore_n 0, 1) := by decide +kernel
theorem dJ6_bitCount_0f7a4_24 : decode cJ6_bitCount_0f7a4 24 = .ok (.iload_n 0, 1) := by decide +kernel
theorem dJ6_bitCount_0f7a4_25 : decode cJ6_bitCount_0f7a4 25 = .ok (.iload_n 0, 1) := by decide +kernel
theorem dJ6_bitCount_0f7a4_26 : decode cJ6_bitCount_0f7a4 26 = .ok (.iconst 4, 1) := by decide +kernel
theorem dJ6_bitCount_0f7a4_27 : decode cJ6_bitCount_0f7a4 27 = .ok (.iushr, 1) := by decide +kernel
theorem dJ6_bitCount_0f7a4_28 : decode cJ6_bitCount_0f7a4 28 = .ok (.iadd, 1) := by decide +kernel
theorem dJ6_bitCount_0f7a4_29 : decode cJ6_bitCount_0f7a4 29 = .ok (.ldc_w 267, 3) := by decide +kernel
theorem dJ6_bitCount_0f7a4_32 : decode cJ6_bitCount_0f7a4 32 = .ok (.iand, 1) := by decide +kernel
theorem dJ6_bitCount_0f7a4_33 : decode cJ6_bitCount_0f7a4 33 = .ok (.istore_n 0, 1) := by decide +kernel
theorem dJ6_bitCount_0f7a4_34 : decode cJ6_bitCount_0f7a4 34 = .ok (.iload_n 0, 1) := by decide +kernel
theorem dJ6_bitCount_0f7a4_35 : decode cJ6_bitCount_0f7a4 35 = .ok (.iload_n 0, 1) := by decide +kernel
theorem dJ6_bitCount_0f7a4_36 : decode cJ6_bitCount_0f7a4 36 = .ok (.bipush 8, 2) := by decide +kernel
theorem dJ6_bitCount_0f7a4_38 : decode cJ6_bitCount_0f7a4 38 = .ok (.iushr, 1) := by decide +kernel
theorem dJ6_bitCount_0f7a4_39 : decode cJ6_bitCount_0f7a4 39 = .ok (.iadd, 1) := by decide +kernel
theorem dJ6_bitCount_0f7a4_40 : decode cJ6_bitCount_0f7a4 40 = .ok (.istore_n 0, 1) := by decide +kernel
theorem dJ6_bitCount_0f7a4_41 : decode cJ6_bitCount_0f7a4 41 = .ok (.iload_n 0, 1) := by decide +kernel
theorem dJ6_bitCount_0f7a4_42 : decode cJ6_bitCount_0f7a4 42 = .ok (.iload_n 0, 1) := by decide +kernel
theorem dJ6_bitCount_0f7a4_43 : decode cJ6_bitCount_0f7a4 43 = .ok (.bipush 16, 2) := by decide +kernel
theorem dJ6_bitCount_0f7a4_45 : decode cJ6_bitCount_0f7a4 45 = .ok (.iushr, 1) := by decide +kernel
theorem dJ6_bitCount_0f7a4_46 : decode cJ6_bitCount_0f7a4 46 = .ok (.iadd, 1) := by decide +kernel
theorem dJ6_bitCount_0f7a4_47 : decode cJ6_bitCount_0f7a4 47 = .ok (.istore_n 0, 1) := by decide +kernel
theorem dJ6_bitCount_0f7a4_48 : decode cJ6_bitCount_0f7a4 48 = .ok (.iload_n 0, 1) := by decide +kernel
theorem dJ6_bitCount_0f7a4_49 : decode cJ6_bitCount_0f7a4 49 = .ok (.bipush 63, 2) := by decide +kernel
theorem dJ6_bitCount_0f7a4_51 : decode cJ6_bitCount_0f7a4 51 = .ok (.iand, 1) := by decide +kernel
theorem dJ6_bitCount_0f7a4_52 : decode cJ6_bitCount_0f7a4 52 = .ok (.ireturn, 1) := by decide +kernel
theorem dJ9_max_7cf53_0 : decode cJ9_max_7cf53 0 = .ok (.iload_n 0, 1) := by decide +kernel
theorem dJ9_max_7cf53_1 : decode cJ9_max_7cf53 1 = .ok (.iload_n 1, 1) := by decide +kernel
theorem dJ9_max_7cf53_2 : decode cJ9_max_7cf53 2 = .ok (.if_icmp .lt 7, 3) := by decide +kernel
theorem dJ9_max_7cf53_5 : decode cJ9_max_7cf53 5 = .ok (.iload_n 0, 1) := by decide +kernel
theorem dJ9_max_7cf53_6 : decode cJ9_max_7cf53 6 = .ok (.goto 4, 3) := by decide +kernel
theorem dJ9_max_7cf53_9 : decode cJ9_max_7cf53 9 = .ok (.iload_n 1, 1) := by decide +kernel
theorem dJ9_max_7cf53_10 : decode cJ9_max_7cf53 10 = .ok (.ireturn, 1) := by decide +kernel
end
section
theorem dX2_init_0 : decode cX2_init 0 = .ok (.aload_n 0, 1) := by decide +kernel
theorem dX2_init_1 : decode cX2_init 1 = .ok (.invokespecial 3, 3) := by decide +kernel
theorem dX2_init_4 : decode cX2_init 4 = .ok (.aload_n 0, 1) := by decide +kernel
theorem dX2_init_5 : decode cX2_init 5 = .ok (.new 9, 3) := by decide +kernel
theorem dX2_init_8 : decode cX2_init 8 = .ok (.dup, 1) := by decide +kernel
theorem dX2_init_9 : decode cX2_init 9 = .ok (.invokespecial 11, 3) := by decide +kernel
theorem dX2_init_12 : decode cX2_init 12 = .ok (.putfield 12, 3) := by decide +kernel
theorem dX2_init_15 : decode cX2_init 15 = .ok (.aload_n 0, 1) := by decide +kernel
theorem dX2_init_16 : decode cX2_init 16 = .ok (.iconst 4, 1) := by decide +kernel
theorem dX2_init_17 : decode cX2_init 17 = .ok (.anewarray 16, 3) := by decide +kernel
theorem dX2_init_20 : decode cX2_init 20 = .ok (.putfield 18, 3) := by decide +kernel
theorem dX2_init_23 : decode cX2_init 23 = .ok (.aload_n 0, 1) := by decide +kernel
theorem dX2_init_24 : decode cX2_init 24 = .ok (.new 16, 3) := by decide +kernel
theorem dX2_init_27 : decode cX2_init 27 = .ok (.dup, 1) := by decide +kernel
theorem dX2_init_28 : decode cX2_init 28 = .ok (.invokespecial 22, 3) := by decide +kernel
theorem dX2_init_31 : decode cX2_init 31 = .ok (.putfield 23, 3) := by decide +kernel
theorem dX2_init_34 : decode cX2_init 34 = .ok (.aload_n 0, 1) := by decide +kernel
theorem dX2_init_35 : decode cX2_init 35 = .ok (.iconst 0, 1) := by decide +kernel
theorem dX2_init_36 : decode cX2_init 36 = .ok (.putfield 27, 3) := by decide +kernel
theorem dX2_init_39 : decode cX2_init 39 = .ok (.aload_n 0, 1) := by decide +kernel
theorem dX2_init_40 : decode cX2_init 40 = .ok (.iconst 0, 1) := by decide +kernel
theorem dX2_init_41 : decode cX2_init 41 = .ok (.putfield 31, 3) := by decide +kernel
theorem dX2_init_44 : decode cX2_init 44 = .ok (.aload_n 0, 1) := by decide +kernel
theorem dX2_init_45 : decode cX2_init 45 = .ok (.iconst 0, 1) := by decide +kernel
theorem dX2_init_46 : decode cX2_init 46 = .ok (.putfield 34, 3) := by decide +kernel
theorem dX2_init_49 : decode cX2_init 49 = .ok (.aload_n 0, 1) := by decide +kernel
theorem dX2_init_50 : decode cX2_init 50 = .ok (.iconst 0, 1) := by decide +kernel
theorem dX2_init_51 : decode cX2_init 51 = .ok (.putfield 37, 3) := by decide +kernel
theorem dX2_init_54 : decode cX2_init 54 = .ok (.aload_n 0, 1) := by decide +kernel
theorem dX2_init_55 : decode cX2_init 55 = .ok (.bipush 12, 2) := by decide +kernel
theorem dX2_init_57 : decode cX2_init 57 = .ok (.newarray .int, 2) := by decide +kernel
theorem dX2_init_59 : decode cX2_init 59 = .ok (.putfield 40, 3) := by decide +kernel
theorem dX2_init_62 : decode cX2_init 62 = .ok (.aload_n 0, 1) := by decide +kernel
theorem dX2_init_63 : decode cX2_init 63 = .ok (.iconst 0, 1) := by decide +kernel
theorem dX2_init_64 : decode cX2_init 64 = .ok (.putfield 44, 3) := by decide +kernel
theorem dX2_init_67 : decode cX2_init 67 = .ok (.aload_n 0, 1) := by decide +kernel
theorem dX2_init_68 : decode cX2_init 68 = .ok (.sipush 4096, 3) := by decide +kernel
theorem dX2_init_71 : decode cX2_init 71 = .ok (.newarray .int, 2) := by decide +kernel
theorem dX2_init_73 : decode cX2_init 73 = .ok (.putfield 47, 3) := by decide +kernel
theorem dX2_init_76 : decode cX2_init 76 = .ok (.aload_n 0, 1) := by decide +kernel
theorem dX2_init_77 : decode cX2_init 77 = .ok (.iconst (-1), 1) := by decide +kernel
theorem dX2_init_78 : decode cX2_init 78 = .ok (.putfield 50, 3) := by decide +kernel
theorem dX2_init_81 : decode cX2_init 81 = .ok (.aload_n 0, 1) := by decide +kernel
theorem dX2_init_82 : decode cX2_init 82 = .ok (.sipush 4096, 3) := by decide +kernel
theorem dX2_init_85 : decode cX2_init 85 = .ok (.newarray .boolean, 2) := by decide +kernel
theorem dX2_init_87 : decode cX2_init 87 = .ok (.putfield 53, 3) := by decide +kernel
theorem dX2_init_90 : decode cX2_init 90 = .ok (.iconst 0, 1) := by decide +kernel
theorem dX2_init_91 : decode cX2_init 91 = .ok (.istore_n 1, 1) := by decide +kernel
theorem dX2_init_92 : decode cX2_init 92 = .ok (.iload_n 1, 1) := by decide +kernel
theorem dX2_init_93 : decode cX2_init 93 = .ok (.iconst 4, 1) := by decide +kernel
theorem dX2_init_94 : decode cX2_init 94 = .ok (.if_icmp .ge 22, 3) := by decide +kernel
theorem dX2_init_97 : decode cX2_init 97 = .ok (.aload_n 0, 1) := by decide +kernel
theorem dX2_init_98 : decode cX2_init 98 = .ok (.getfield 18, 3) := by decide +kernel
theorem dX2_init_101 : decode cX2_init 101 = .ok (.iload_n 1, 1) := by decide +kernel
theorem dX2_init_102 : decode cX2_init 102 = .ok (.new 16, 3) := by decide +kernel
theorem dX2_init_105 : decode cX2_init 105 = .ok (.dup, 1) := by decide +kernel
theorem dX2_init_106 : decode cX2_init 106 = .ok (.invokespecial 22, 3) := by decide +kernel
theorem dX2_init_109 : decode cX2_init 109 = .ok (.aastore, 1) := by decide +kernel
theorem dX2_init_110 : decode cX2_init 110 = .ok (.iinc 1 1, 3) := by decide +kernel
theorem dX2_init_113 : decode cX2_init 113 = .ok (.goto (-21), 3) := by decide +kernel
theorem dX2_init_116 : decode cX2_init 116 = .ok (.return_, 1) := by decide +kernel
theorem dX2_kind_0 : decode cX2_kind 0 = .ok (.aload_n 0, 1) := by decide +kernel
theorem dX2_kind_1 : decode cX2_kind 1 = .ok (.getfield 12, 3) := by decide +kernel
theorem dX2_kind_4 : decode cX2_kind 4 = .ok (.getfield 57, 3) := by decide +kernel
theorem dX2_kind_7 : decode cX2_kind 7 = .ok (.bipush 16, 2) := by decide +kernel
theorem dX2_kind_9 : decode cX2_kind 9 = .ok (.if_icmp .ge 16, 3) := by decide +kernel
theorem dX2_kind_12 : decode cX2_kind 12 = .ok (.aload_n 0, 1) := by decide +kernel
theorem dX2_kind_13 : decode cX2_kind 13 = .ok (.getfield 12, 3) := by decide +kernel
theorem dX2_kind_16 : decode cX2_kind 16 = .ok (.iload_n 1, 1) := by decide +kernel
theorem dX2_kind_17 : decode cX2_kind 17 = .ok (.iload_n 2, 1) := by decide +kernel
theorem dX2_kind_18 : decode cX2_kind 18 = .ok (.iload_n 3, 1) := by decide +kernel
theorem dX2_kind_19 : decode cX2_kind 19 = .ok (.invokevirtual 60, 3) := by decide +kernel
theorem dX2_kind_22 : decode cX2_kind 22 = .ok (.ifCond .ne 5, 3) := by decide +kernel
theorem dX2_kind_25 : decode cX2_kind 25 = .ok (.iconst (-1), 1) := by decide +kernel
theorem dX2_kind_26 : decode cX2_kind 26 = .ok (.ireturn, 1) := by decide +kernel
theorem dX2_kind_27 : decode cX2_kind 27 = .ok (.aload_n 0, 1) := by decide +kernel
theorem dX2_kind_28 : decode cX2_kind 28 = .ok (.getfield 12, 3) := by decide +kernel
theorem dX2_kind_31 : decode cX2_kind 31 = .ok (.iload_n 1, 1) := by decide +kernel
theorem dX2_kind_32 : decode cX2_kind 32 = .ok (.iload_n 2, 1) := by decide +kernel
theorem dX2_kind_33 : decode cX2_kind 33 = .ok (.iload_n 3, 1) := by decide +kernel
theorem dX2_kind_34 : decode cX2_kind 34 = .ok (.invokevirtual 64, 3) := by decide +kernel
theorem dX2_kind_37 : decode cX2_kind 37 = .ok (.istore 4, 2) := by decide +kernel
theorem dX2_kind_39 : decode cX2_kind 39 = .ok (.iload 4, 2) := by decide +kernel
theorem dX2_kind_41 : decode cX2_kind 41 = .ok (.bipush (-2), 2) := by decide +kernel
theorem dX2_kind_43 : decode cX2_kind 43 = .ok (.if_icmp .ne 6, 3) := by decide +kernel
theorem dX2_kind_46 : decode cX2_kind 46 = .ok (.bipush (-2), 2) := by decide +kernel
theorem dX2_kind_48 : decode cX2_kind 48 = .ok (.ireturn, 1) := by decide +kernel
theorem dX2_kind_49 : decode cX2_kind 49 = .ok (.iconst 0, 1) := by decide +kernel
theorem dX2_kind_50 : decode cX2_kind 50 = .ok (.istore 5, 2) := by decide +kernel
theorem dX2_kind_52 : decode cX2_kind 52 = .ok (.iload 5, 2) := by decide +kernel
theorem dX2_kind_54 : decode cX2_kind 54 = .ok (.aload_n 0, 1) := by decide +kernel
theorem dX2_kind_55 : decode cX2_kind 55 = .ok (.getfield 27, 3) := by decide +kernel
theorem dX2_kind_58 : decode cX2_kind 58 = .ok (.if_icmp .ge 25, 3) := by decide +kernel
theorem dX2_kind_61 : decode cX2_kind 61 = .ok (.aload_n 0, 1) := by decide +kernel
theorem dX2_kind_62 : decode cX2_kind 62 = .ok (.getfield 18, 3) := by decide +kernel
theorem dX2_kind_65 : decode cX2_kind 65 = .ok (.iload 5, 2) := by decide +kernel
theorem dX2_kind_67 : decode cX2_kind 67 = .ok (.aaload, 1) := by decide +kernel
theorem dX2_kind_68 : decode cX2_kind 68 = .ok (.iload 4, 2) := by decide +kernel
theorem dX2_kind_70 : decode cX2_kind 70 = .ok (.aload_n 0, 1) := by decide +kernel
theorem dX2_kind_71 : decode cX2_kind 71 = .ok (.getfield 12, 3) := by decide +kernel
theorem dX2_kind_74 : decode cX2_kind 74 = .ok (.invokevirtual 68, 3) := by decide +kernel
theorem dX2_kind_77 : decode cX2_kind 77 = .ok (.iinc 5 1, 3) := by decide +kernel
theorem dX2_kind_80 : decode cX2_kind 80 = .ok (.goto (-28), 3) := by decide +kernel
theorem dX2_kind_83 : decode cX2_kind 83 = .ok (.aload_n 0, 1) := by decide +kernel
theorem dX2_kind_84 : decode cX2_kind 84 = .ok (.iconst (-1), 1) := by decide +kernel
theorem dX2_kind_85 : decode cX2_kind 85 = .ok (.putfield 50, 3) := by decide +kernel
theorem dX2_kind_88 : decode cX2_kind 88 = .ok (.iload 4, 2) := by decide +kernel
theorem dX2_kind_90 : decode cX2_kind 90 = .ok (.ireturn, 1) := by decide +kernel
theorem dX2_is_0 : decode cX2_is 0 = .ok (.aload_n 0, 1) := by decide +kernel
theorem dX2_is_1 : decode cX2_is 1 = .ok (.getfield 12, 3) := by decide +kernel
theorem dX2_is_4 : decode cX2_is 4 = .ok (.iload_n 1, 1) := by decide +kernel
theorem dX2_is_5 : decode cX2_is 5 = .ok (.invokevirtual 72, 3) := by decide +kernel
theorem dX2_is_8 : decode cX2_is 8 = .ok (.ifCond .eq 30, 3) := by decide +kernel
theorem dX2_is_11 : decode cX2_is 11 = .ok (.aload_n 0, 1) := by decide +kernel
theorem dX2_is_12 : decode cX2_is 12 = .ok (.getfield 12, 3) := by decide +kernel
theorem dX2_is_15 : decode cX2_is 15 = .ok (.iload_n 2, 1) := by decide +kernel
theorem dX2_is_16 : decode cX2_is 16 = .ok (.invokevirtual 72, 3) := by decide +kernel
theorem dX2_is_19 : decode cX2_is 19 = .ok (.ifCond .eq 19, 3) := by decide +kernel
theorem dX2_is_22 : decode cX2_is 22 = .ok (.aload_n 0, 1) := by decide +kernel
theorem dX2_is_23 : decode cX2_is 23 = .ok (.getfield 12, 3) := by decide +kernel
theorem dX2_is_26 : decode cX2_is 26 = .ok (.iload_n 1, 1) := by decide +kernel
theorem dX2_is_27 : decode cX2_is 27 = .ok (.iload_n 2, 1) := by decide +kernel
theorem dX2_is_28 : decode cX2_is 28 = .ok (.invokevirtual 76, 3) := by decide +kernel
theorem dX2_is_31 : decode cX2_is 31 = .ok (.ifCond .eq 7, 3) := by decide +kernel
theorem dX2_is_34 : decode cX2_is 34 = .ok (.iconst 1, 1) := by decide +kernel
theorem dX2_is_35 : decode cX2_is 35 = .ok (.goto 4, 3) := by decide +kernel
theorem dX2_is_38 : decode cX2_is 38 = .ok (.iconst 0, 1) := by decide +kernel
theorem dX2_is_39 : decode cX2_is 39 = .ok (.ireturn, 1) := by decide +kernel
theorem dX2_list_0 : decode cX2_list 0 = .ok (.aload_n 0, 1) := by decide +kernel
theorem dX2_list_1 : decode cX2_list 1 = .ok (.getfield 12, 3) := by decide +kernel
theorem dX2_list_4 : decode cX2_list 4 = .ok (.iload_n 1, 1) := by decide +kernel
theorem dX2_list_5 : decode cX2_list 5 = .ok (.invokevirtual 72, 3) := by decide +kernel
theorem dX2_list_8 : decode cX2_list 8 = .ok (.ifCond .ne 5, 3) := by decide +kernel
theorem dX2_list_11 : decode cX2_list 11 = .ok (.iconst (-1), 1) := by decide +kernel
theorem dX2_list_12 : decode cX2_list 12 = .ok (.ireturn, 1) := by decide +kernel
theorem dX2_list_13 : decode cX2_list 13 = .ok (.aload_n 0, 1) := by decide +kernel
theorem dX2_list_14 : decode cX2_list 14 = .ok (.getfield 12, 3) := by decide +kernel
theorem dX2_list_17 : decode cX2_list 17 = .ok (.getfield 80, 3) := by decide +kernel
theorem dX2_list_20 : decode cX2_list 20 = .ok (.iload_n 1, 1) := by decide +kernel
theorem dX2_list_21 : decode cX2_list 21 = .ok (.iaload, 1) := by decide +kernel
theorem dX2_list_22 : decode cX2_list 22 = .ok (.istore_n 3, 1) := by decide +kernel
theorem dX2_list_23 : decode cX2_list 23 = .ok (.iload_n 2, 1) := by decide +kernel
theorem dX2_list_24 : decode cX2_list 24 = .ok (.iconst (-1), 1) := by decide +kernel
theorem dX2_list_25 : decode cX2_list 25 = .ok (.if_icmp .ne 5, 3) := by decide +kernel
theorem dX2_list_28 : decode cX2_list 28 = .ok (.iload_n 3, 1) := by decide +kernel
theorem dX2_list_29 : decode cX2_list 29 = .ok (.ireturn, 1) := by decide +kernel
theorem dX2_list_30 : decode cX2_list 30 = .ok (.iload_n 2, 1) := by decide +kernel
theorem dX2_list_31 : decode cX2_list 31 = .ok (.ifCond .lt 25, 3) := by decide +kernel
theorem dX2_list_34 : decode cX2_list 34 = .ok (.iload_n 2, 1) := by decide +kernel
theorem dX2_list_35 : decode cX2_list 35 = .ok (.iload_n 3, 1) := by decide +kernel
theorem dX2_list_36 : decode cX2_list 36 = .ok (.if_icmp .ge 20, 3) := by decide +kernel
theorem dX2_list_39 : decode cX2_list 39 = .ok (.aload_n 0, 1) := by decide +kernel
theorem dX2_list_40 : decode cX2_list 40 = .ok (.getfield 12, 3) := by decide +kernel
theorem dX2_list_43 : decode cX2_list 43 = .ok (.getfield 83, 3) := by decide +kernel
theorem dX2_list_46 : decode cX2_list 46 = .ok (.bipush 16, 2) := by decide +kernel
theorem dX2_list_48 : decode cX2_list 48 = .ok (.iload_n 1, 1) := by decide +kernel
theorem dX2_list_49 : decode cX2_list 49 = .ok (.imul, 1) := by decide +kernel
theorem dX2_list_50 : decode cX2_list 50 = .ok (.iload_n 2, 1) := by decide +kernel
theorem dX2_list_51 : decode cX2_list 51 = .ok (.iadd, 1) := by decide +kernel
theorem dX2_list_52 : decode cX2_list 52 = .ok (.iaload, 1) := by decide +kernel
theorem dX2_list_53 : decode cX2_list 53 = .ok (.goto 4, 3) := by decide +kernel
theorem dX2_list_56 : decode cX2_list 56 = .ok (.iconst (-1), 1) := by decide +kernel
theorem dX2_list_57 : decode cX2_list 57 = .ok (.ireturn, 1) := by decide +kernel
theorem dX2_meet_0 : decode cX2_meet 0 = .ok (.aload_n 0, 1) := by decide +kernel
theorem dX2_meet_1 : decode cX2_meet 1 = .ok (.getfield 12, 3) := by decide +kernel
theorem dX2_meet_4 : decode cX2_meet 4 = .ok (.iload_n 1, 1) := by decide +kernel
theorem dX2_meet_5 : decode cX2_meet 5 = .ok (.invokevirtual 72, 3) := by decide +kernel
theorem dX2_meet_8 : decode cX2_meet 8 = .ok (.ifCond .eq 14, 3) := by decide +kernel
theorem dX2_meet_11 : decode cX2_meet 11 = .ok (.aload_n 0, 1) := by decide +kernel
theorem dX2_meet_12 : decode cX2_meet 12 = .ok (.getfield 12, 3) := by decide +kernel
theorem dX2_meet_15 : decode cX2_meet 15 = .ok (.iload_n 2, 1) := by decide +kernel
theorem dX2_meet_16 : decode cX2_meet 16 = .ok (.invokevirtual 72, 3) := by decide +kernel
theorem dX2_meet_19 : decode cX2_meet 19 = .ok (.ifCond .ne 5, 3) := by decide +kernel
theorem dX2_meet_22 : decode cX2_meet 22 = .ok (.iconst (-1), 1) := by decide +kernel
theorem dX2_meet_23 : decode cX2_meet 23 = .ok (.ireturn, 1) := by decide +kernel
theorem dX2_meet_24 : decode cX2_meet 24 = .ok (.aload_n 0, 1) := by decide +kernel
theorem dX2_meet_25 : decode cX2_meet 25 = .ok (.getfield 12, 3) := by decide +kernel
theorem dX2_meet_28 : decode cX2_meet 28 = .ok (.iload_n 1, 1) := by decide +kernel
theorem dX2_meet_29 : decode cX2_meet 29 = .ok (.iload_n 2, 1) := by decide +kernel
theorem dX2_meet_30 : decode cX2_meet 30 = .ok (.invokevirtual 86, 3) := by decide +kernel
theorem dX2_meet_33 : decode cX2_meet 33 = .ok (.istore 4, 2) := by decide +kernel
theorem dX2_meet_35 : decode cX2_meet 35 = .ok (.iconst 0, 1) := by decide +kernel
theorem dX2_meet_36 : decode cX2_meet 36 = .ok (.istore 5, 2) := by decide +kernel
theorem dX2_meet_38 : decode cX2_meet 38 = .ok (.iconst 0, 1) := by decide +kernel
theorem dX2_meet_39 : decode cX2_meet 39 = .ok (.istore 6, 2) := by decide +kernel
theorem dX2_meet_41 : decode cX2_meet 41 = .ok (.iload 6, 2) := by decide +kernel
theorem dX2_meet_43 : decode cX2_meet 43 = .ok (.aload_n 0, 1) := by decide +kernel
theorem dX2_meet_44 : decode cX2_meet 44 = .ok (.getfield 12, 3) := by decide +kernel
theorem dX2_meet_47 : decode cX2_meet 47 = .ok (.getfield 57, 3) := by decide +kernel
theorem dX2_meet_50 : decode cX2_meet 50 = .ok (.if_icmp .ge 41, 3) := by decide +kernel
theorem dX2_meet_53 : decode cX2_meet 53 = .ok (.aload_n 0, 1) := by decide +kernel
theorem dX2_meet_54 : decode cX2_meet 54 = .ok (.getfield 12, 3) := by decide +kernel
theorem dX2_meet_57 : decode cX2_meet 57 = .ok (.getfield 90, 3) := by decide +kernel
theorem dX2_meet_60 : decode cX2_meet 60 = .ok (.iload 6, 2) := by decide +kernel
theorem dX2_meet_62 : decode cX2_meet 62 = .ok (.iaload, 1) := by decide +kernel
theorem dX2_meet_63 : decode cX2_meet 63 = .ok (.iload 4, 2) := by decide +kernel
theorem dX2_meet_65 : decode cX2_meet 65 = .ok (.iand, 1) := by decide +kernel
theorem dX2_meet_66 : decode cX2_meet 66 = .ok (.iconst 1, 1) := by decide +kernel
theorem dX2_meet_67 : decode cX2_meet 67 = .ok (.iload 6, 2) := by decide +kernel
theorem dX2_meet_69 : decode cX2_meet 69 = .ok (.ishl, 1) := by decide +kernel
theorem dX2_meet_70 : decode cX2_meet 70 = .ok (.if_icmp .ne 15, 3) := by decide +kernel
theorem dX2_meet_73 : decode cX2_meet 73 = .ok (.iload 5, 2) := by decide +kernel
theorem dX2_meet_75 : decode cX2_meet 75 = .ok (.iload_n 3, 1) := by decide +kernel
theorem dX2_meet_76 : decode cX2_meet 76 = .ok (.if_icmp .ne 6, 3) := by decide +kernel
theorem dX2_meet_79 : decode cX2_meet 79 = .ok (.iload 6, 2) := by decide +kernel
theorem dX2_meet_81 : decode cX2_meet 81 = .ok (.ireturn, 1) := by decide +kernel
theorem dX2_meet_82 : decode cX2_meet 82 = .ok (.iinc 5 1, 3) := by decide +kernel
theorem dX2_meet_85 : decode cX2_meet 85 = .ok (.iinc 6 1, 3) := by decide +kernel
theorem dX2_meet_88 : decode cX2_meet 88 = .ok (.goto (-47), 3) := by decide +kernel
theorem dX2_meet_91 : decode cX2_meet 91 = .ok (.iload_n 3, 1) := by decide +kernel
theorem dX2_meet_92 : decode cX2_meet 92 = .ok (.iconst (-1), 1) := by decide +kernel
theorem dX2_meet_93 : decode cX2_meet 93 = .ok (.if_icmp .ne 8, 3) := by decide +kernel
theorem dX2_meet_96 : decode cX2_meet 96 = .ok (.iload 5, 2) := by decide +kernel
theorem dX2_meet_98 : decode cX2_meet 98 = .ok (.goto 4, 3) := by decide +kernel
theorem dX2_meet_101 : decode cX2_meet 101 = .ok (.iconst (-1), 1) := by decide +kernel
theorem dX2_meet_102 : decode cX2_meet 102 = .ok (.ireturn, 1) := by decide +kernel
theorem dX2_function_0 : decode cX2_function 0 = .ok (.aload_n 0, 1) := by decide +kernel
theorem dX2_function_1 : decode cX2_function 1 = .ok (.getfield 27, 3) := by decide +kernel
theorem dX2_function_4 : decode cX2_function 4 = .ok (.iconst 4, 1) := by decide +kernel
theorem dX2_function_5 : decode cX2_function 5 = .ok (.if_icmp .ge 13, 3) := by decide +kernel
theorem dX2_function_8 : decode cX2_function 8 = .ok (.iload_n 1, 1) := by decide +kernel
theorem dX2_function_9 : decode cX2_function 9 = .ok (.iconst 1, 1) := by decide +kernel
theorem dX2_function_10 : decode cX2_function 10 = .ok (.if_icmp .lt 8, 3) := by decide +kernel
theorem dX2_function_13 : decode cX2_function 13 = .ok (.iload_n 1, 1) := by decide +kernel
theorem dX2_function_14 : decode cX2_function 14 = .ok (.iconst 3, 1) := by decide +kernel
theorem dX2_function_15 : decode cX2_function 15 = .ok (.if_icmp .le 5, 3) := by decide +kernel
theorem dX2_function_18 : decode cX2_function 18 = .ok (.iconst (-1), 1) := by decide +kernel
theorem dX2_function_19 : decode cX2_function 19 = .ok (.ireturn, 1) := by decide +kernel
theorem dX2_function_20 : decode cX2_function 20 = .ok (.aload_n 0, 1) := by decide +kernel
theorem dX2_function_21 : decode cX2_function 21 = .ok (.getfield 18, 3) := by decide +kernel
theorem dX2_function_24 : decode cX2_function 24 = .ok (.aload_n 0, 1) := by decide +kernel
theorem dX2_function_25 : decode cX2_function 25 = .ok (.getfield 27, 3) := by decide +kernel
theorem dX2_function_28 : decode cX2_function 28 = .ok (.aaload, 1) := by decide +kernel
theorem dX2_function_29 : decode cX2_function 29 = .ok (.iload_n 1, 1) := by decide +kernel
theorem dX2_function_30 : decode cX2_function 30 = .ok (.putfield 93, 3) := by decide +kernel
theorem dX2_function_33 : decode cX2_function 33 = .ok (.aload_n 0, 1) := by decide +kernel
theorem dX2_function_34 : decode cX2_function 34 = .ok (.dup, 1) := by decide +kernel
theorem dX2_function_35 : decode cX2_function 35 = .ok (.getfield 27, 3) := by decide +kernel
theorem dX2_function_38 : decode cX2_function 38 = .ok (.iconst 1, 1) := by decide +kernel
theorem dX2_function_39 : decode cX2_function 39 = .ok (.iadd, 1) := by decide +kernel
theorem dX2_function_40 : decode cX2_function 40 = .ok (.putfield 27, 3) := by decide +kernel
theorem dX2_function_43 : decode cX2_function 43 = .ok (.aload_n 0, 1) := by decide +kernel
theorem dX2_function_44 : decode cX2_function 44 = .ok (.getfield 27, 3) := by decide +kernel
theorem dX2_function_47 : decode cX2_function 47 = .ok (.iconst 1, 1) := by decide +kernel
theorem dX2_function_48 : decode cX2_function 48 = .ok (.isub, 1) := by decide +kernel
theorem dX2_function_49 : decode cX2_function 49 = .ok (.ireturn, 1) := by decide +kernel
theorem dX2_method_0 : decode cX2_method 0 = .ok (.aload_n 0, 1) := by decide +kernel
theorem dX2_method_1 : decode cX2_method 1 = .ok (.iload_n 1, 1) := by decide +kernel
theorem dX2_method_2 : decode cX2_method 2 = .ok (.iload_n 2, 1) := by decide +kernel
theorem dX2_method_3 : decode cX2_method 3 = .ok (.invokevirtual 96, 3) := by decide +kernel
theorem dX2_method_6 : decode cX2_method 6 = .ok (.ifCond .eq 28, 3) := by decide +kernel
theorem dX2_method_9 : decode cX2_method 9 = .ok (.iload_n 3, 1) := by decide +kernel
theorem dX2_method_10 : decode cX2_method 10 = .ok (.ifCond .lt 24, 3) := by decide +kernel
theorem dX2_method_13 : decode cX2_method 13 = .ok (.iload_n 3, 1) := by decide +kernel
theorem dX2_method_14 : decode cX2_method 14 = .ok (.iconst 3, 1) := by decide +kernel
theorem dX2_method_15 : decode cX2_method 15 = .ok (.if_icmp .gt 19, 3) := by decide +kernel
theorem dX2_method_18 : decode cX2_method 18 = .ok (.iload 4, 2) := by decide +kernel
theorem dX2_method_20 : decode cX2_method 20 = .ok (.sipush (-999), 3) := by decide +kernel
theorem dX2_method_23 : decode cX2_method 23 = .ok (.if_icmp .lt 11, 3) := by decide +kernel
theorem dX2_method_26 : decode cX2_method 26 = .ok (.iload 4, 2) := by decide +kernel
theorem dX2_method_28 : decode cX2_method 28 = .ok (.sipush 999, 3) := by decide +kernel
theorem dX2_method_31 : decode cX2_method 31 = .ok (.if_icmp .le 5, 3) := by decide +kernel
theorem dX2_method_34 : decode cX2_method 34 = .ok (.iconst (-1), 1) := by decide +kernel
theorem dX2_method_35 : decode cX2_method 35 = .ok (.ireturn, 1) := by decide +kernel
theorem dX2_method_36 : decode cX2_method 36 = .ok (.aload_n 0, 1) := by decide +kernel
theorem dX2_method_37 : decode cX2_method 37 = .ok (.getfield 18, 3) := by decide +kernel
theorem dX2_method_40 : decode cX2_method 40 = .ok (.iload_n 1, 1) := by decide +kernel
theorem dX2_method_41 : decode cX2_method 41 = .ok (.aaload, 1) := by decide +kernel
theorem dX2_method_42 : decode cX2_method 42 = .ok (.astore 5, 2) := by decide +kernel
theorem dX2_method_44 : decode cX2_method 44 = .ok (.aload 5, 2) := by decide +kernel
theorem dX2_method_46 : decode cX2_method 46 = .ok (.invokevirtual 99, 3) := by decide +kernel
theorem dX2_method_49 : decode cX2_method 49 = .ok (.istore 6, 2) := by decide +kernel
theorem dX2_method_51 : decode cX2_method 51 = .ok (.iload 6, 2) := by decide +kernel
theorem dX2_method_53 : decode cX2_method 53 = .ok (.iconst (-1), 1) := by decide +kernel
theorem dX2_method_54 : decode cX2_method 54 = .ok (.if_icmp .ne 5, 3) := by decide +kernel
theorem dX2_method_57 : decode cX2_method 57 = .ok (.iconst (-1), 1) := by decide +kernel
theorem dX2_method_58 : decode cX2_method 58 = .ok (.ireturn, 1) := by decide +kernel
theorem dX2_method_59 : decode cX2_method 59 = .ok (.aload 5, 2) := by decide +kernel
theorem dX2_method_61 : decode cX2_method 61 = .ok (.iload_n 2, 1) := by decide +kernel
theorem dX2_method_62 : decode cX2_method 62 = .ok (.invokevirtual 103, 3) := by decide +kernel
theorem dX2_method_65 : decode cX2_method 65 = .ok (.ifCond .eq 6, 3) := by decide +kernel
theorem dX2_method_68 : decode cX2_method 68 = .ok (.bipush (-2), 2) := by decide +kernel
theorem dX2_method_70 : decode cX2_method 70 = .ok (.ireturn, 1) := by decide +kernel
theorem dX2_method_71 : decode cX2_method 71 = .ok (.aload 5, 2) := by decide +kernel
theorem dX2_method_73 : decode cX2_method 73 = .ok (.iload 6, 2) := by decide +kernel
theorem dX2_method_75 : decode cX2_method 75 = .ok (.iload_n 2, 1) := by decide +kernel
theorem dX2_method_76 : decode cX2_method 76 = .ok (.aload_n 0, 1) := by decide +kernel
theorem dX2_method_77 : decode cX2_method 77 = .ok (.getfield 12, 3) := by decide +kernel
theorem dX2_method_80 : decode cX2_method 80 = .ok (.invokevirtual 106, 3) := by decide +kernel
theorem dX2_method_83 : decode cX2_method 83 = .ok (.aload 5, 2) := by decide +kernel
theorem dX2_method_85 : decode cX2_method 85 = .ok (.getfield 110, 3) := by decide +kernel
theorem dX2_method_88 : decode cX2_method 88 = .ok (.iload 6, 2) := by decide +kernel
theorem dX2_method_90 : decode cX2_method 90 = .ok (.iload_n 3, 1) := by decide +kernel
theorem dX2_method_91 : decode cX2_method 91 = .ok (.iastore, 1) := by decide +kernel
theorem dX2_method_92 : decode cX2_method 92 = .ok (.aload 5, 2) := by decide +kernel
theorem dX2_method_94 : decode cX2_method 94 = .ok (.getfield 113, 3) := by decide +kernel
theorem dX2_method_97 : decode cX2_method 97 = .ok (.iload 6, 2) := by decide +kernel
theorem dX2_method_99 : decode cX2_method 99 = .ok (.iload 4, 2) := by decide +kernel
theorem dX2_method_101 : decode cX2_method 101 = .ok (.iastore, 1) := by decide +kernel
theorem dX2_method_102 : decode cX2_method 102 = .ok (.aload 5, 2) := by decide +kernel
theorem dX2_method_104 : decode cX2_method 104 = .ok (.iload 6, 2) := by decide +kernel
theorem dX2_method_106 : decode cX2_method 106 = .ok (.invokevirtual 116, 3) := by decide +kernel
theorem dX2_method_109 : decode cX2_method 109 = .ok (.aload_n 0, 1) := by decide +kernel
theorem dX2_method_110 : decode cX2_method 110 = .ok (.iconst (-1), 1) := by decide +kernel
theorem dX2_method_111 : decode cX2_method 111 = .ok (.putfield 50, 3) := by decide +kernel
theorem dX2_method_114 : decode cX2_method 114 = .ok (.iload 6, 2) := by decide +kernel
theorem dX2_method_116 : decode cX2_method 116 = .ok (.ireturn, 1) := by decide +kernel
theorem dX2_drop_0 : decode cX2_drop 0 = .ok (.aload_n 0, 1) := by decide +kernel
theorem dX2_drop_1 : decode cX2_drop 1 = .ok (.iload_n 1, 1) := by decide +kernel
theorem dX2_drop_2 : decode cX2_drop 2 = .ok (.iload_n 2, 1) := by decide +kernel
theorem dX2_drop_3 : decode cX2_drop 3 = .ok (.invokevirtual 120, 3) := by decide +kernel
theorem dX2_drop_6 : decode cX2_drop 6 = .ok (.ifCond .ne 5, 3) := by decide +kernel
theorem dX2_drop_9 : decode cX2_drop 9 = .ok (.iconst (-1), 1) := by decide +kernel
theorem dX2_drop_10 : decode cX2_drop 10 = .ok (.ireturn, 1) := by decide +kernel
theorem dX2_drop_11 : decode cX2_drop 11 = .ok (.aload_n 0, 1) := by decide +kernel
theorem dX2_drop_12 : decode cX2_drop 12 = .ok (.getfield 18, 3) := by decide +kernel
theorem dX2_drop_15 : decode cX2_drop 15 = .ok (.iload_n 1, 1) := by decide +kernel
theorem dX2_drop_16 : decode cX2_drop 16 = .ok (.aaload, 1) := by decide +kernel
theorem dX2_drop_17 : decode cX2_drop 17 = .ok (.astore_n 3, 1) := by decide +kernel
theorem dX2_drop_18 : decode cX2_drop 18 = .ok (.aload_n 3, 1) := by decide +kernel
theorem dX2_drop_19 : decode cX2_drop 19 = .ok (.iload_n 2, 1) := by decide +kernel
theorem dX2_drop_20 : decode cX2_drop 20 = .ok (.invokevirtual 116, 3) := by decide +kernel
theorem dX2_drop_23 : decode cX2_drop 23 = .ok (.aload_n 3, 1) := by decide +kernel
theorem dX2_drop_24 : decode cX2_drop 24 = .ok (.iload_n 2, 1) := by decide +kernel
theorem dX2_drop_25 : decode cX2_drop 25 = .ok (.invokevirtual 123, 3) := by decide +kernel
theorem dX2_drop_28 : decode cX2_drop 28 = .ok (.aload_n 0, 1) := by decide +kernel
theorem dX2_drop_29 : decode cX2_drop 29 = .ok (.iconst (-1), 1) := by decide +kernel
theorem dX2_drop_30 : decode cX2_drop 30 = .ok (.putfield 50, 3) := by decide +kernel
theorem dX2_drop_33 : decode cX2_drop 33 = .ok (.aload_n 3, 1) := by decide +kernel
theorem dX2_drop_34 : decode cX2_drop 34 = .ok (.getfield 126, 3) := by decide +kernel
theorem dX2_drop_37 : decode cX2_drop 37 = .ok (.invokestatic 129, 3) := by decide +kernel
theorem dX2_drop_40 : decode cX2_drop 40 = .ok (.ireturn, 1) := by decide +kernel
theorem dX2_rule_0 : decode cX2_rule 0 = .ok (.aload_n 0, 1) := by decide +kernel
theorem dX2_rule_1 : decode cX2_rule 1 = .ok (.iconst 1, 1) := by decide +kernel
theorem dX2_rule_2 : decode cX2_rule 2 = .ok (.aload_n 0, 1) := by decide +kernel
theorem dX2_rule_3 : decode cX2_rule 3 = .ok (.getfield 31, 3) := by decide +kernel
theorem dX2_rule_6 : decode cX2_rule 6 = .ok (.isub, 1) := by decide +kernel
theorem dX2_rule_7 : decode cX2_rule 7 = .ok (.putfield 31, 3) := by decide +kernel
theorem dX2_rule_10 : decode cX2_rule 10 = .ok (.iconst 0, 1) := by decide +kernel
theorem dX2_rule_11 : decode cX2_rule 11 = .ok (.istore_n 1, 1) := by decide +kernel
theorem dX2_rule_12 : decode cX2_rule 12 = .ok (.iload_n 1, 1) := by decide +kernel
theorem dX2_rule_13 : decode cX2_rule 13 = .ok (.aload_n 0, 1) := by decide +kernel
theorem dX2_rule_14 : decode cX2_rule 14 = .ok (.getfield 27, 3) := by decide +kernel
theorem dX2_rule_17 : decode cX2_rule 17 = .ok (.if_icmp .ge 19, 3) := by decide +kernel
theorem dX2_rule_20 : decode cX2_rule 20 = .ok (.aload_n 0, 1) := by decide +kernel
theorem dX2_rule_21 : decode cX2_rule 21 = .ok (.getfield 18, 3) := by decide +kernel
theorem dX2_rule_24 : decode cX2_rule 24 = .ok (.iload_n 1, 1) := by decide +kernel
theorem dX2_rule_25 : decode cX2_rule 25 = .ok (.aaload, 1) := by decide +kernel
theorem dX2_rule_26 : decode cX2_rule 26 = .ok (.iconst 0, 1) := by decide +kernel
theorem dX2_rule_27 : decode cX2_rule 27 = .ok (.putfield 135, 3) := by decide +kernel
theorem dX2_rule_30 : decode cX2_rule 30 = .ok (.iinc 1 1, 3) := by decide +kernel
theorem dX2_rule_33 : decode cX2_rule 33 = .ok (.goto (-21), 3) := by decide +kernel
theorem dX2_rule_36 : decode cX2_rule 36 = .ok (.aload_n 0, 1) := by decide +kernel
theorem dX2_rule_37 : decode cX2_rule 37 = .ok (.iconst (-1), 1) := by decide +kernel
theorem dX2_rule_38 : decode cX2_rule 38 = .ok (.putfield 50, 3) := by decide +kernel
theorem dX2_rule_41 : decode cX2_rule 41 = .ok (.aload_n 0, 1) := by decide +kernel
theorem dX2_rule_42 : decode cX2_rule 42 = .ok (.getfield 31, 3) := by decide +kernel
theorem dX2_rule_45 : decode cX2_rule 45 = .ok (.ireturn, 1) := by decide +kernel
theorem dX2_count_0 : decode cX2_count 0 = .ok (.iload_n 1, 1) := by decide +kernel
theorem dX2_count_1 : decode cX2_count 1 = .ok (.tableswitch 81 0 6 #[43, 51, 56, 61, 66, 71, 76], 43) := by decide +kernel
theorem dX2_count_44 : decode cX2_count 44 = .ok (.aload_n 0, 1) := by decide +kernel
theorem dX2_count_45 : decode cX2_count 45 = .ok (.getfield 12, 3) := by decide +kernel
theorem dX2_count_48 : decode cX2_count 48 = .ok (.getfield 57, 3) := by decide +kernel
theorem dX2_count_51 : decode cX2_count 51 = .ok (.ireturn, 1) := by decide +kernel
theorem dX2_count_52 : decode cX2_count 52 = .ok (.aload_n 0, 1) := by decide +kernel
theorem dX2_count_53 : decode cX2_count 53 = .ok (.getfield 27, 3) := by decide +kernel
theorem dX2_count_56 : decode cX2_count 56 = .ok (.ireturn, 1) := by decide +kernel
theorem dX2_count_57 : decode cX2_count 57 = .ok (.aload_n 0, 1) := by decide +kernel
theorem dX2_count_58 : decode cX2_count 58 = .ok (.getfield 31, 3) := by decide +kernel
theorem dX2_count_61 : decode cX2_count 61 = .ok (.ireturn, 1) := by decide +kernel
theorem dX2_count_62 : decode cX2_count 62 = .ok (.aload_n 0, 1) := by decide +kernel
theorem dX2_count_63 : decode cX2_count 63 = .ok (.invokevirtual 138, 3) := by decide +kernel
theorem dX2_count_66 : decode cX2_count 66 = .ok (.ireturn, 1) := by decide +kernel
theorem dX2_count_67 : decode cX2_count 67 = .ok (.aload_n 0, 1) := by decide +kernel
theorem dX2_count_68 : decode cX2_count 68 = .ok (.getfield 34, 3) := by decide +kernel
theorem dX2_count_71 : decode cX2_count 71 = .ok (.ireturn, 1) := by decide +kernel
theorem dX2_count_72 : decode cX2_count 72 = .ok (.aload_n 0, 1) := by decide +kernel
theorem dX2_count_73 : decode cX2_count 73 = .ok (.getfield 37, 3) := by decide +kernel
theorem dX2_count_76 : decode cX2_count 76 = .ok (.ireturn, 1) := by decide +kernel
theorem dX2_count_77 : decode cX2_count 77 = .ok (.aload_n 0, 1) := by decide +kernel
theorem dX2_count_78 : decode cX2_count 78 = .ok (.invokevirtual 141, 3) := by decide +kernel
theorem dX2_count_81 : decode cX2_count 81 = .ok (.ireturn, 1) := by decide +kernel
theorem dX2_count_82 : decode cX2_count 82 = .ok (.iconst (-1), 1) := by decide +kernel
theorem dX2_count_83 : decode cX2_count 83 = .ok (.ireturn, 1) := by decide +kernel
theorem dX2_of_0 : decode cX2_of 0 = .ok (.aload_n 0, 1) := by decide +kernel
theorem dX2_of_1 : decode cX2_of 1 = .ok (.iload_n 1, 1) := by decide +kernel
theorem dX2_of_2 : decode cX2_of 2 = .ok (.invokevirtual 144, 3) := by decide +kernel
theorem dX2_of_5 : decode cX2_of 5 = .ok (.ifCond .ne 5, 3) := by decide +kernel
theorem dX2_of_8 : decode cX2_of 8 = .ok (.iconst (-1), 1) := by decide +kernel
theorem dX2_of_9 : decode cX2_of 9 = .ok (.ireturn, 1) := by decide +kernel
theorem dX2_of_10 : decode cX2_of 10 = .ok (.aload_n 0, 1) := by decide +kernel
theorem dX2_of_11 : decode cX2_of 11 = .ok (.getfield 18, 3) := by decide +kernel
theorem dX2_of_14 : decode cX2_of 14 = .ok (.iload_n 1, 1) := by decide +kernel
theorem dX2_of_15 : decode cX2_of 15 = .ok (.aaload, 1) := by decide +kernel
theorem dX2_of_16 : decode cX2_of 16 = .ok (.astore_n 3, 1) := by decide +kernel
theorem dX2_of_17 : decode cX2_of 17 = .ok (.iload_n 2, 1) := by decide +kernel
theorem dX2_of_18 : decode cX2_of 18 = .ok (.tableswitch 116 0 9 #[54, 59, 64, 70, 77, 83, 91, 99, 105, 111], 54) := by decide +kernel
theorem dX2_of_72 : decode cX2_of 72 = .ok (.aload_n 3, 1) := by decide +kernel
theorem dX2_of_73 : decode cX2_of 73 = .ok (.getfield 93, 3) := by decide +kernel
theorem dX2_of_76 : decode cX2_of 76 = .ok (.ireturn, 1) := by decide +kernel
theorem dX2_of_77 : decode cX2_of 77 = .ok (.aload_n 3, 1) := by decide +kernel
theorem dX2_of_78 : decode cX2_of 78 = .ok (.getfield 126, 3) := by decide +kernel
theorem dX2_of_81 : decode cX2_of 81 = .ok (.ireturn, 1) := by decide +kernel
theorem dX2_of_82 : decode cX2_of 82 = .ok (.aload_n 0, 1) := by decide +kernel
theorem dX2_of_83 : decode cX2_of 83 = .ok (.aload_n 3, 1) := by decide +kernel
theorem dX2_of_84 : decode cX2_of 84 = .ok (.invokevirtual 147, 3) := by decide +kernel
theorem dX2_of_87 : decode cX2_of 87 = .ok (.ireturn, 1) := by decide +kernel
theorem dX2_of_88 : decode cX2_of 88 = .ok (.aload_n 0, 1) := by decide +kernel
theorem dX2_of_89 : decode cX2_of 89 = .ok (.iload_n 1, 1) := by decide +kernel
theorem dX2_of_90 : decode cX2_of 90 = .ok (.iconst (-1), 1) := by decide +kernel
theorem dX2_of_91 : decode cX2_of 91 = .ok (.invokevirtual 151, 3) := by decide +kernel
theorem dX2_of_94 : decode cX2_of 94 = .ok (.ireturn, 1) := by decide +kernel
theorem dX2_of_95 : decode cX2_of 95 = .ok (.aload_n 0, 1) := by decide +kernel
theorem dX2_of_96 : decode cX2_of 96 = .ok (.aload_n 3, 1) := by decide +kernel
theorem dX2_of_97 : decode cX2_of 97 = .ok (.invokevirtual 154, 3) := by decide +kernel
theorem dX2_of_100 : decode cX2_of 100 = .ok (.ireturn, 1) := by decide +kernel
theorem dX2_of_101 : decode cX2_of 101 = .ok (.aload_n 0, 1) := by decide +kernel
theorem dX2_of_102 : decode cX2_of 102 = .ok (.aload_n 3, 1) := by decide +kernel
theorem dX2_of_103 : decode cX2_of 103 = .ok (.iconst 0, 1) := by decide +kernel
theorem dX2_of_104 : decode cX2_of 104 = .ok (.iconst (-1), 1) := by decide +kernel
theorem dX2_of_105 : decode cX2_of 105 = .ok (.invokevirtual 157, 3) := by decide +kernel
theorem dX2_of_108 : decode cX2_of 108 = .ok (.ireturn, 1) := by decide +kernel
theorem dX2_of_109 : decode cX2_of 109 = .ok (.aload_n 0, 1) := by decide +kernel
theorem dX2_of_110 : decode cX2_of 110 = .ok (.aload_n 3, 1) := by decide +kernel
theorem dX2_of_111 : decode cX2_of 111 = .ok (.iconst 1, 1) := by decide +kernel
theorem dX2_of_112 : decode cX2_of 112 = .ok (.iconst (-1), 1) := by decide +kernel
theorem dX2_of_113 : decode cX2_of 113 = .ok (.invokevirtual 157, 3) := by decide +kernel
theorem dX2_of_116 : decode cX2_of 116 = .ok (.ireturn, 1) := by decide +kernel
theorem dX2_of_117 : decode cX2_of 117 = .ok (.aload_n 0, 1) := by decide +kernel
theorem dX2_of_118 : decode cX2_of 118 = .ok (.iload_n 1, 1) := by decide +kernel
theorem dX2_of_119 : decode cX2_of 119 = .ok (.invokevirtual 161, 3) := by decide +kernel
theorem dX2_of_122 : decode cX2_of 122 = .ok (.ireturn, 1) := by decide +kernel
theorem dX2_of_123 : decode cX2_of 123 = .ok (.aload_n 0, 1) := by decide +kernel
theorem dX2_of_124 : decode cX2_of 124 = .ok (.iload_n 1, 1) := by decide +kernel
theorem dX2_of_125 : decode cX2_of 125 = .ok (.invokevirtual 164, 3) := by decide +kernel
theorem dX2_of_128 : decode cX2_of 128 = .ok (.ireturn, 1) := by decide +kernel
theorem dX2_of_129 : decode cX2_of 129 = .ok (.aload_n 3, 1) := by decide +kernel
theorem dX2_of_130 : decode cX2_of 130 = .ok (.getfield 135, 3) := by decide +kernel
theorem dX2_of_133 : decode cX2_of 133 = .ok (.ireturn, 1) := by decide +kernel
theorem dX2_of_134 : decode cX2_of 134 = .ok (.iconst (-1), 1) := by decide +kernel
theorem dX2_of_135 : decode cX2_of 135 = .ok (.ireturn, 1) := by decide +kernel
theorem dX2_at_0 : decode cX2_at 0 = .ok (.aload_n 0, 1) := by decide +kernel
theorem dX2_at_1 : decode cX2_at 1 = .ok (.iload_n 1, 1) := by decide +kernel
theorem dX2_at_2 : decode cX2_at 2 = .ok (.iload_n 2, 1) := by decide +kernel
theorem dX2_at_3 : decode cX2_at 3 = .ok (.invokevirtual 120, 3) := by decide +kernel
theorem dX2_at_6 : decode cX2_at 6 = .ok (.ifCond .ne 13, 3) := by decide +kernel
theorem dX2_at_9 : decode cX2_at 9 = .ok (.new 167, 3) := by decide +kernel
theorem dX2_at_12 : decode cX2_at 12 = .ok (.dup, 1) := by decide +kernel
theorem dX2_at_13 : decode cX2_at 13 = .ok (.ldc 169, 2) := by decide +kernel
theorem dX2_at_15 : decode cX2_at 15 = .ok (.invokespecial 171, 3) := by decide +kernel
theorem dX2_at_18 : decode cX2_at 18 = .ok (.athrow, 1) := by decide +kernel
theorem dX2_at_19 : decode cX2_at 19 = .ok (.aload_n 0, 1) := by decide +kernel
theorem dX2_at_20 : decode cX2_at 20 = .ok (.getfield 18, 3) := by decide +kernel
theorem dX2_at_23 : decode cX2_at 23 = .ok (.iload_n 1, 1) := by decide +kernel
theorem dX2_at_24 : decode cX2_at 24 = .ok (.aaload, 1) := by decide +kernel
theorem dX2_at_25 : decode cX2_at 25 = .ok (.astore 4, 2) := by decide +kernel
theorem dX2_at_27 : decode cX2_at 27 = .ok (.iload_n 3, 1) := by decide +kernel
theorem dX2_at_28 : decode cX2_at 28 = .ok (.tableswitch 75 0 4 #[36, 44, 52, 60, 67], 36) := by decide +kernel
theorem dX2_at_64 : decode cX2_at 64 = .ok (.aload 4, 2) := by decide +kernel
theorem dX2_at_66 : decode cX2_at 66 = .ok (.getfield 174, 3) := by decide +kernel
theorem dX2_at_69 : decode cX2_at 69 = .ok (.iload_n 2, 1) := by decide +kernel
theorem dX2_at_70 : decode cX2_at 70 = .ok (.iaload, 1) := by decide +kernel
theorem dX2_at_71 : decode cX2_at 71 = .ok (.ireturn, 1) := by decide +kernel
theorem dX2_at_72 : decode cX2_at 72 = .ok (.aload 4, 2) := by decide +kernel
theorem dX2_at_74 : decode cX2_at 74 = .ok (.getfield 110, 3) := by decide +kernel
theorem dX2_at_77 : decode cX2_at 77 = .ok (.iload_n 2, 1) := by decide +kernel
theorem dX2_at_78 : decode cX2_at 78 = .ok (.iaload, 1) := by decide +kernel
theorem dX2_at_79 : decode cX2_at 79 = .ok (.ireturn, 1) := by decide +kernel
theorem dX2_at_80 : decode cX2_at 80 = .ok (.aload 4, 2) := by decide +kernel
theorem dX2_at_82 : decode cX2_at 82 = .ok (.getfield 113, 3) := by decide +kernel
theorem dX2_at_85 : decode cX2_at 85 = .ok (.iload_n 2, 1) := by decide +kernel
theorem dX2_at_86 : decode cX2_at 86 = .ok (.iaload, 1) := by decide +kernel
theorem dX2_at_87 : decode cX2_at 87 = .ok (.ireturn, 1) := by decide +kernel
theorem dX2_at_88 : decode cX2_at 88 = .ok (.aload_n 0, 1) := by decide +kernel
theorem dX2_at_89 : decode cX2_at 89 = .ok (.iload_n 1, 1) := by decide +kernel
theorem dX2_at_90 : decode cX2_at 90 = .ok (.iload_n 2, 1) := by decide +kernel
theorem dX2_at_91 : decode cX2_at 91 = .ok (.invokevirtual 151, 3) := by decide +kernel
theorem dX2_at_94 : decode cX2_at 94 = .ok (.ireturn, 1) := by decide +kernel
theorem dX2_at_95 : decode cX2_at 95 = .ok (.aload_n 0, 1) := by decide +kernel
theorem dX2_at_96 : decode cX2_at 96 = .ok (.aload 4, 2) := by decide +kernel
theorem dX2_at_98 : decode cX2_at 98 = .ok (.iload_n 2, 1) := by decide +kernel
theorem dX2_at_99 : decode cX2_at 99 = .ok (.invokevirtual 177, 3) := by decide +kernel
theorem dX2_at_102 : decode cX2_at 102 = .ok (.ireturn, 1) := by decide +kernel
theorem dX2_at_103 : decode cX2_at 103 = .ok (.new 167, 3) := by decide +kernel
theorem dX2_at_106 : decode cX2_at 106 = .ok (.dup, 1) := by decide +kernel
theorem dX2_at_107 : decode cX2_at 107 = .ok (.ldc 181, 2) := by decide +kernel
theorem dX2_at_109 : decode cX2_at 109 = .ok (.invokespecial 171, 3) := by decide +kernel
theorem dX2_at_112 : decode cX2_at 112 = .ok (.athrow, 1) := by decide +kernel
theorem dX2_call_0 : decode cX2_call 0 = .ok (.aload_n 0, 1) := by decide +kernel
theorem dX2_call_1 : decode cX2_call 1 = .ok (.iload_n 1, 1) := by decide +kernel
theorem dX2_call_2 : decode cX2_call 2 = .ok (.iload_n 2, 1) := by decide +kernel
theorem dX2_call_3 : decode cX2_call 3 = .ok (.invokevirtual 96, 3) := by decide +kernel
theorem dX2_call_6 : decode cX2_call 6 = .ok (.ifCond .ne 6, 3) := by decide +kernel
theorem dX2_call_9 : decode cX2_call 9 = .ok (.bipush (-3), 2) := by decide +kernel
theorem dX2_call_11 : decode cX2_call 11 = .ok (.ireturn, 1) := by decide +kernel
theorem dX2_call_12 : decode cX2_call 12 = .ok (.aload_n 0, 1) := by decide +kernel
theorem dX2_call_13 : decode cX2_call 13 = .ok (.getfield 18, 3) := by decide +kernel
theorem dX2_call_16 : decode cX2_call 16 = .ok (.iload_n 1, 1) := by decide +kernel
theorem dX2_call_17 : decode cX2_call 17 = .ok (.aaload, 1) := by decide +kernel
theorem dX2_call_18 : decode cX2_call 18 = .ok (.astore_n 3, 1) := by decide +kernel
theorem dX2_call_19 : decode cX2_call 19 = .ok (.aload_n 3, 1) := by decide +kernel
theorem dX2_call_20 : decode cX2_call 20 = .ok (.iload_n 2, 1) := by decide +kernel
theorem dX2_call_21 : decode cX2_call 21 = .ok (.invokevirtual 183, 3) := by decide +kernel
theorem dX2_call_24 : decode cX2_call 24 = .ok (.ifCond .eq 16, 3) := by decide +kernel
theorem dX2_call_27 : decode cX2_call 27 = .ok (.aload_n 0, 1) := by decide +kernel
theorem dX2_call_28 : decode cX2_call 28 = .ok (.dup, 1) := by decide +kernel
theorem dX2_call_29 : decode cX2_call 29 = .ok (.getfield 34, 3) := by decide +kernel
theorem dX2_call_32 : decode cX2_call 32 = .ok (.iconst 1, 1) := by decide +kernel
theorem dX2_call_33 : decode cX2_call 33 = .ok (.iadd, 1) := by decide +kernel
theorem dX2_call_34 : decode cX2_call 34 = .ok (.putfield 34, 3) := by decide +kernel
theorem dX2_call_37 : decode cX2_call 37 = .ok (.goto 13, 3) := by decide +kernel
theorem dX2_call_40 : decode cX2_call 40 = .ok (.aload_n 0, 1) := by decide +kernel
theorem dX2_call_41 : decode cX2_call 41 = .ok (.dup, 1) := by decide +kernel
theorem dX2_call_42 : decode cX2_call 42 = .ok (.getfield 37, 3) := by decide +kernel
theorem dX2_call_45 : decode cX2_call 45 = .ok (.iconst 1, 1) := by decide +kernel
theorem dX2_call_46 : decode cX2_call 46 = .ok (.iadd, 1) := by decide +kernel
theorem dX2_call_47 : decode cX2_call 47 = .ok (.putfield 37, 3) := by decide +kernel
theorem dX2_call_50 : decode cX2_call 50 = .ok (.aload_n 0, 1) := by decide +kernel
theorem dX2_call_51 : decode cX2_call 51 = .ok (.aload_n 3, 1) := by decide +kernel
theorem dX2_call_52 : decode cX2_call 52 = .ok (.iload_n 2, 1) := by decide +kernel
theorem dX2_call_53 : decode cX2_call 53 = .ok (.aload_n 3, 1) := by decide +kernel
theorem dX2_call_54 : decode cX2_call 54 = .ok (.iload_n 2, 1) := by decide +kernel
theorem dX2_call_55 : decode cX2_call 55 = .ok (.invokevirtual 186, 3) := by decide +kernel
theorem dX2_call_58 : decode cX2_call 58 = .ok (.invokevirtual 189, 3) := by decide +kernel
theorem dX2_call_61 : decode cX2_call 61 = .ok (.ireturn, 1) := by decide +kernel
theorem dX2_answer_0 : decode cX2_answer 0 = .ok (.aload_n 0, 1) := by decide +kernel
theorem dX2_answer_1 : decode cX2_answer 1 = .ok (.iload_n 1, 1) := by decide +kernel
theorem dX2_answer_2 : decode cX2_answer 2 = .ok (.iload_n 2, 1) := by decide +kernel
theorem dX2_answer_3 : decode cX2_answer 3 = .ok (.invokevirtual 96, 3) := by decide +kernel
theorem dX2_answer_6 : decode cX2_answer 6 = .ok (.ifCond .ne 6, 3) := by decide +kernel
theorem dX2_answer_9 : decode cX2_answer 9 = .ok (.bipush (-3), 2) := by decide +kernel
theorem dX2_answer_11 : decode cX2_answer 11 = .ok (.ireturn, 1) := by decide +kernel
theorem dX2_answer_12 : decode cX2_answer 12 = .ok (.aload_n 0, 1) := by decide +kernel
theorem dX2_answer_13 : decode cX2_answer 13 = .ok (.getfield 18, 3) := by decide +kernel
theorem dX2_answer_16 : decode cX2_answer 16 = .ok (.iload_n 1, 1) := by decide +kernel
theorem dX2_answer_17 : decode cX2_answer 17 = .ok (.aaload, 1) := by decide +kernel
theorem dX2_answer_18 : decode cX2_answer 18 = .ok (.astore_n 3, 1) := by decide +kernel
theorem dX2_answer_19 : decode cX2_answer 19 = .ok (.aload_n 0, 1) := by decide +kernel
theorem dX2_answer_20 : decode cX2_answer 20 = .ok (.aload_n 3, 1) := by decide +kernel
theorem dX2_answer_21 : decode cX2_answer 21 = .ok (.iload_n 2, 1) := by decide +kernel
theorem dX2_answer_22 : decode cX2_answer 22 = .ok (.aload_n 3, 1) := by decide +kernel
theorem dX2_answer_23 : decode cX2_answer 23 = .ok (.iload_n 2, 1) := by decide +kernel
theorem dX2_answer_24 : decode cX2_answer 24 = .ok (.invokevirtual 186, 3) := by decide +kernel
theorem dX2_answer_27 : decode cX2_answer 27 = .ok (.invokevirtual 189, 3) := by decide +kernel
theorem dX2_answer_30 : decode cX2_answer 30 = .ok (.ireturn, 1) := by decide +kernel
theorem dX2_applicable_0 : decode cX2_applicable 0 = .ok (.aload_n 0, 1) := by decide +kernel
theorem dX2_applicable_1 : decode cX2_applicable 1 = .ok (.iload_n 1, 1) := by decide +kernel
theorem dX2_applicable_2 : decode cX2_applicable 2 = .ok (.iload_n 2, 1) := by decide +kernel
theorem dX2_applicable_3 : decode cX2_applicable 3 = .ok (.invokevirtual 96, 3) := by decide +kernel
theorem dX2_applicable_6 : decode cX2_applicable 6 = .ok (.ifCond .eq 16, 3) := by decide +kernel
theorem dX2_applicable_9 : decode cX2_applicable 9 = .ok (.aload_n 0, 1) := by decide +kernel
theorem dX2_applicable_10 : decode cX2_applicable 10 = .ok (.getfield 18, 3) := by decide +kernel
theorem dX2_applicable_13 : decode cX2_applicable 13 = .ok (.iload_n 1, 1) := by decide +kernel
theorem dX2_applicable_14 : decode cX2_applicable 14 = .ok (.aaload, 1) := by decide +kernel
theorem dX2_applicable_15 : decode cX2_applicable 15 = .ok (.iload_n 2, 1) := by decide +kernel
theorem dX2_applicable_16 : decode cX2_applicable 16 = .ok (.invokevirtual 186, 3) := by decide +kernel
theorem dX2_applicable_19 : decode cX2_applicable 19 = .ok (.goto 4, 3) := by decide +kernel
theorem dX2_applicable_22 : decode cX2_applicable 22 = .ok (.iconst (-1), 1) := by decide +kernel
theorem dX2_applicable_23 : decode cX2_applicable 23 = .ok (.ireturn, 1) := by decide +kernel
theorem dX2_chain_0 : decode cX2_chain 0 = .ok (.aload_n 0, 1) := by decide +kernel
theorem dX2_chain_1 : decode cX2_chain 1 = .ok (.iload_n 1, 1) := by decide +kernel
theorem dX2_chain_2 : decode cX2_chain 2 = .ok (.iload_n 2, 1) := by decide +kernel
theorem dX2_chain_3 : decode cX2_chain 3 = .ok (.invokevirtual 96, 3) := by decide +kernel
theorem dX2_chain_6 : decode cX2_chain 6 = .ok (.ifCond .ne 5, 3) := by decide +kernel
theorem dX2_chain_9 : decode cX2_chain 9 = .ok (.iconst (-1), 1) := by decide +kernel
theorem dX2_chain_10 : decode cX2_chain 10 = .ok (.ireturn, 1) := by decide +kernel
theorem dX2_chain_11 : decode cX2_chain 11 = .ok (.aload_n 0, 1) := by decide +kernel
theorem dX2_chain_12 : decode cX2_chain 12 = .ok (.aload_n 0, 1) := by decide +kernel
theorem dX2_chain_13 : decode cX2_chain 13 = .ok (.getfield 18, 3) := by decide +kernel
theorem dX2_chain_16 : decode cX2_chain 16 = .ok (.iload_n 1, 1) := by decide +kernel
theorem dX2_chain_17 : decode cX2_chain 17 = .ok (.aaload, 1) := by decide +kernel
theorem dX2_chain_18 : decode cX2_chain 18 = .ok (.iload_n 2, 1) := by decide +kernel
theorem dX2_chain_19 : decode cX2_chain 19 = .ok (.invokevirtual 193, 3) := by decide +kernel
theorem dX2_chain_22 : decode cX2_chain 22 = .ok (.pop, 1) := by decide +kernel
theorem dX2_chain_23 : decode cX2_chain 23 = .ok (.iload_n 3, 1) := by decide +kernel
theorem dX2_chain_24 : decode cX2_chain 24 = .ok (.iconst (-1), 1) := by decide +kernel
theorem dX2_chain_25 : decode cX2_chain 25 = .ok (.if_icmp .ne 8, 3) := by decide +kernel
theorem dX2_chain_28 : decode cX2_chain 28 = .ok (.aload_n 0, 1) := by decide +kernel
theorem dX2_chain_29 : decode cX2_chain 29 = .ok (.getfield 44, 3) := by decide +kernel
theorem dX2_chain_32 : decode cX2_chain 32 = .ok (.ireturn, 1) := by decide +kernel
theorem dX2_chain_33 : decode cX2_chain 33 = .ok (.iload_n 3, 1) := by decide +kernel
theorem dX2_chain_34 : decode cX2_chain 34 = .ok (.ifCond .lt 20, 3) := by decide +kernel
theorem dX2_chain_37 : decode cX2_chain 37 = .ok (.iload_n 3, 1) := by decide +kernel
theorem dX2_chain_38 : decode cX2_chain 38 = .ok (.aload_n 0, 1) := by decide +kernel
theorem dX2_chain_39 : decode cX2_chain 39 = .ok (.getfield 44, 3) := by decide +kernel
theorem dX2_chain_42 : decode cX2_chain 42 = .ok (.if_icmp .ge 12, 3) := by decide +kernel
theorem dX2_chain_45 : decode cX2_chain 45 = .ok (.aload_n 0, 1) := by decide +kernel
theorem dX2_chain_46 : decode cX2_chain 46 = .ok (.getfield 40, 3) := by decide +kernel
theorem dX2_chain_49 : decode cX2_chain 49 = .ok (.iload_n 3, 1) := by decide +kernel
theorem dX2_chain_50 : decode cX2_chain 50 = .ok (.iaload, 1) := by decide +kernel
theorem dX2_chain_51 : decode cX2_chain 51 = .ok (.goto 4, 3) := by decide +kernel
theorem dX2_chain_54 : decode cX2_chain 54 = .ok (.iconst (-1), 1) := by decide +kernel
theorem dX2_chain_55 : decode cX2_chain 55 = .ok (.ireturn, 1) := by decide +kernel
theorem dX2_broken_0 : decode cX2_broken 0 = .ok (.aload_n 0, 1) := by decide +kernel
theorem dX2_broken_1 : decode cX2_broken 1 = .ok (.iload_n 1, 1) := by decide +kernel
theorem dX2_broken_2 : decode cX2_broken 2 = .ok (.iload_n 2, 1) := by decide +kernel
theorem dX2_broken_3 : decode cX2_broken 3 = .ok (.invokevirtual 96, 3) := by decide +kernel
theorem dX2_broken_6 : decode cX2_broken 6 = .ok (.ifCond .eq 20, 3) := by decide +kernel
theorem dX2_broken_9 : decode cX2_broken 9 = .ok (.aload_n 0, 1) := by decide +kernel
theorem dX2_broken_10 : decode cX2_broken 10 = .ok (.aload_n 0, 1) := by decide +kernel
theorem dX2_broken_11 : decode cX2_broken 11 = .ok (.getfield 18, 3) := by decide +kernel
theorem dX2_broken_14 : decode cX2_broken 14 = .ok (.iload_n 1, 1) := by decide +kernel
theorem dX2_broken_15 : decode cX2_broken 15 = .ok (.aaload, 1) := by decide +kernel
theorem dX2_broken_16 : decode cX2_broken 16 = .ok (.iload_n 2, 1) := by decide +kernel
theorem dX2_broken_17 : decode cX2_broken 17 = .ok (.invokevirtual 193, 3) := by decide +kernel
theorem dX2_broken_20 : decode cX2_broken 20 = .ok (.invokestatic 129, 3) := by decide +kernel
theorem dX2_broken_23 : decode cX2_broken 23 = .ok (.goto 4, 3) := by decide +kernel
theorem dX2_broken_26 : decode cX2_broken 26 = .ok (.iconst (-1), 1) := by decide +kernel
theorem dX2_broken_27 : decode cX2_broken 27 = .ok (.ireturn, 1) := by decide +kernel
theorem dX2_work_0 : decode cX2_work 0 = .ok (.aload_n 0, 1) := by decide +kernel
theorem dX2_work_1 : decode cX2_work 1 = .ok (.iload_n 1, 1) := by decide +kernel
theorem dX2_work_2 : decode cX2_work 2 = .ok (.iload_n 2, 1) := by decide +kernel
theorem dX2_work_3 : decode cX2_work 3 = .ok (.invokevirtual 96, 3) := by decide +kernel
theorem dX2_work_6 : decode cX2_work 6 = .ok (.ifCond .ne 13, 3) := by decide +kernel
theorem dX2_work_9 : decode cX2_work 9 = .ok (.new 167, 3) := by decide +kernel
theorem dX2_work_12 : decode cX2_work 12 = .ok (.dup, 1) := by decide +kernel
theorem dX2_work_13 : decode cX2_work 13 = .ok (.ldc 196, 2) := by decide +kernel
theorem dX2_work_15 : decode cX2_work 15 = .ok (.invokespecial 171, 3) := by decide +kernel
theorem dX2_work_18 : decode cX2_work 18 = .ok (.athrow, 1) := by decide +kernel
theorem dX2_work_19 : decode cX2_work 19 = .ok (.aload_n 0, 1) := by decide +kernel
theorem dX2_work_20 : decode cX2_work 20 = .ok (.getfield 18, 3) := by decide +kernel
theorem dX2_work_23 : decode cX2_work 23 = .ok (.iload_n 1, 1) := by decide +kernel
theorem dX2_work_24 : decode cX2_work 24 = .ok (.aaload, 1) := by decide +kernel
theorem dX2_work_25 : decode cX2_work 25 = .ok (.astore_n 3, 1) := by decide +kernel
theorem dX2_work_26 : decode cX2_work 26 = .ok (.aload_n 0, 1) := by decide +kernel
theorem dX2_work_27 : decode cX2_work 27 = .ok (.aload_n 3, 1) := by decide +kernel
theorem dX2_work_28 : decode cX2_work 28 = .ok (.iload_n 2, 1) := by decide +kernel
theorem dX2_work_29 : decode cX2_work 29 = .ok (.invokevirtual 193, 3) := by decide +kernel
theorem dX2_work_32 : decode cX2_work 32 = .ok (.pop, 1) := by decide +kernel
theorem dX2_work_33 : decode cX2_work 33 = .ok (.aload_n 0, 1) := by decide +kernel
theorem dX2_work_34 : decode cX2_work 34 = .ok (.getfield 44, 3) := by decide +kernel
theorem dX2_work_37 : decode cX2_work 37 = .ok (.ifCond .ne 13, 3) := by decide +kernel
theorem dX2_work_40 : decode cX2_work 40 = .ok (.new 167, 3) := by decide +kernel
theorem dX2_work_43 : decode cX2_work 43 = .ok (.dup, 1) := by decide +kernel
theorem dX2_work_44 : decode cX2_work 44 = .ok (.ldc 198, 2) := by decide +kernel
theorem dX2_work_46 : decode cX2_work 46 = .ok (.invokespecial 171, 3) := by decide +kernel
theorem dX2_work_49 : decode cX2_work 49 = .ok (.athrow, 1) := by decide +kernel
theorem dX2_work_50 : decode cX2_work 50 = .ok (.iconst 0, 1) := by decide +kernel
theorem dX2_work_51 : decode cX2_work 51 = .ok (.istore 4, 2) := by decide +kernel
theorem dX2_work_53 : decode cX2_work 53 = .ok (.aload_n 0, 1) := by decide +kernel
theorem dX2_work_54 : decode cX2_work 54 = .ok (.getfield 44, 3) := by decide +kernel
theorem dX2_work_57 : decode cX2_work 57 = .ok (.iconst 1, 1) := by decide +kernel
theorem dX2_work_58 : decode cX2_work 58 = .ok (.isub, 1) := by decide +kernel
theorem dX2_work_59 : decode cX2_work 59 = .ok (.istore 5, 2) := by decide +kernel
theorem dX2_work_61 : decode cX2_work 61 = .ok (.iload 5, 2) := by decide +kernel
theorem dX2_work_63 : decode cX2_work 63 = .ok (.ifCond .lt 24, 3) := by decide +kernel
theorem dX2_work_66 : decode cX2_work 66 = .ok (.aload_n 3, 1) := by decide +kernel
theorem dX2_work_67 : decode cX2_work 67 = .ok (.aload_n 0, 1) := by decide +kernel
theorem dX2_work_68 : decode cX2_work 68 = .ok (.getfield 40, 3) := by decide +kernel
theorem dX2_work_71 : decode cX2_work 71 = .ok (.iload 5, 2) := by decide +kernel
theorem dX2_work_73 : decode cX2_work 73 = .ok (.iaload, 1) := by decide +kernel
theorem dX2_work_74 : decode cX2_work 74 = .ok (.iload 4, 2) := by decide +kernel
theorem dX2_work_76 : decode cX2_work 76 = .ok (.invokevirtual 200, 3) := by decide +kernel
theorem dX2_work_79 : decode cX2_work 79 = .ok (.istore 4, 2) := by decide +kernel
theorem dX2_work_81 : decode cX2_work 81 = .ok (.iinc 5 (-1), 3) := by decide +kernel
theorem dX2_work_84 : decode cX2_work 84 = .ok (.goto (-23), 3) := by decide +kernel
theorem dX2_work_87 : decode cX2_work 87 = .ok (.iload 4, 2) := by decide +kernel
theorem dX2_work_89 : decode cX2_work 89 = .ok (.ireturn, 1) := by decide +kernel
theorem dX2_kept_0 : decode cX2_kept 0 = .ok (.aload_n 0, 1) := by decide +kernel
theorem dX2_kept_1 : decode cX2_kept 1 = .ok (.iload_n 1, 1) := by decide +kernel
theorem dX2_kept_2 : decode cX2_kept 2 = .ok (.invokevirtual 144, 3) := by decide +kernel
theorem dX2_kept_5 : decode cX2_kept 5 = .ok (.ifCond .eq 20, 3) := by decide +kernel
theorem dX2_kept_8 : decode cX2_kept 8 = .ok (.iload_n 2, 1) := by decide +kernel
theorem dX2_kept_9 : decode cX2_kept 9 = .ok (.ifCond .lt 16, 3) := by decide +kernel
theorem dX2_kept_12 : decode cX2_kept 12 = .ok (.iload_n 2, 1) := by decide +kernel
theorem dX2_kept_13 : decode cX2_kept 13 = .ok (.aload_n 0, 1) := by decide +kernel
theorem dX2_kept_14 : decode cX2_kept 14 = .ok (.getfield 18, 3) := by decide +kernel
theorem dX2_kept_17 : decode cX2_kept 17 = .ok (.iload_n 1, 1) := by decide +kernel
theorem dX2_kept_18 : decode cX2_kept 18 = .ok (.aaload, 1) := by decide +kernel
theorem dX2_kept_19 : decode cX2_kept 19 = .ok (.getfield 135, 3) := by decide +kernel
theorem dX2_kept_22 : decode cX2_kept 22 = .ok (.if_icmp .lt 5, 3) := by decide +kernel
theorem dX2_kept_25 : decode cX2_kept 25 = .ok (.iconst (-1), 1) := by decide +kernel
theorem dX2_kept_26 : decode cX2_kept 26 = .ok (.ireturn, 1) := by decide +kernel
theorem dX2_kept_27 : decode cX2_kept 27 = .ok (.aload_n 0, 1) := by decide +kernel
theorem dX2_kept_28 : decode cX2_kept 28 = .ok (.getfield 18, 3) := by decide +kernel
theorem dX2_kept_31 : decode cX2_kept 31 = .ok (.iload_n 1, 1) := by decide +kernel
theorem dX2_kept_32 : decode cX2_kept 32 = .ok (.aaload, 1) := by decide +kernel
theorem dX2_kept_33 : decode cX2_kept 33 = .ok (.getfield 203, 3) := by decide +kernel
theorem dX2_kept_36 : decode cX2_kept 36 = .ok (.iload_n 2, 1) := by decide +kernel
theorem dX2_kept_37 : decode cX2_kept 37 = .ok (.iaload, 1) := by decide +kernel
theorem dX2_kept_38 : decode cX2_kept 38 = .ok (.ireturn, 1) := by decide +kernel
theorem dX2_clash_0 : decode cX2_clash 0 = .ok (.aload_n 0, 1) := by decide +kernel
theorem dX2_clash_1 : decode cX2_clash 1 = .ok (.iload_n 1, 1) := by decide +kernel
theorem dX2_clash_2 : decode cX2_clash 2 = .ok (.invokevirtual 144, 3) := by decide +kernel
theorem dX2_clash_5 : decode cX2_clash 5 = .ok (.ifCond .eq 22, 3) := by decide +kernel
theorem dX2_clash_8 : decode cX2_clash 8 = .ok (.iload_n 2, 1) := by decide +kernel
theorem dX2_clash_9 : decode cX2_clash 9 = .ok (.ifCond .lt 18, 3) := by decide +kernel
theorem dX2_clash_12 : decode cX2_clash 12 = .ok (.aload_n 0, 1) := by decide +kernel
theorem dX2_clash_13 : decode cX2_clash 13 = .ok (.aload_n 0, 1) := by decide +kernel
theorem dX2_clash_14 : decode cX2_clash 14 = .ok (.getfield 18, 3) := by decide +kernel
theorem dX2_clash_17 : decode cX2_clash 17 = .ok (.iload_n 1, 1) := by decide +kernel
theorem dX2_clash_18 : decode cX2_clash 18 = .ok (.aaload, 1) := by decide +kernel
theorem dX2_clash_19 : decode cX2_clash 19 = .ok (.iconst 0, 1) := by decide +kernel
theorem dX2_clash_20 : decode cX2_clash 20 = .ok (.iload_n 2, 1) := by decide +kernel
theorem dX2_clash_21 : decode cX2_clash 21 = .ok (.invokevirtual 157, 3) := by decide +kernel
theorem dX2_clash_24 : decode cX2_clash 24 = .ok (.goto 4, 3) := by decide +kernel
theorem dX2_clash_27 : decode cX2_clash 27 = .ok (.iconst (-1), 1) := by decide +kernel
theorem dX2_clash_28 : decode cX2_clash 28 = .ok (.ireturn, 1) := by decide +kernel
theorem dX2_gap_0 : decode cX2_gap 0 = .ok (.aload_n 0, 1) := by decide +kernel
theorem dX2_gap_1 : decode cX2_gap 1 = .ok (.iload_n 1, 1) := by decide +kernel
theorem dX2_gap_2 : decode cX2_gap 2 = .ok (.invokevirtual 144, 3) := by decide +kernel
theorem dX2_gap_5 : decode cX2_gap 5 = .ok (.ifCond .eq 22, 3) := by decide +kernel
theorem dX2_gap_8 : decode cX2_gap 8 = .ok (.iload_n 2, 1) := by decide +kernel
theorem dX2_gap_9 : decode cX2_gap 9 = .ok (.ifCond .lt 18, 3) := by decide +kernel
theorem dX2_gap_12 : decode cX2_gap 12 = .ok (.aload_n 0, 1) := by decide +kernel
theorem dX2_gap_13 : decode cX2_gap 13 = .ok (.aload_n 0, 1) := by decide +kernel
theorem dX2_gap_14 : decode cX2_gap 14 = .ok (.getfield 18, 3) := by decide +kernel
theorem dX2_gap_17 : decode cX2_gap 17 = .ok (.iload_n 1, 1) := by decide +kernel
theorem dX2_gap_18 : decode cX2_gap 18 = .ok (.aaload, 1) := by decide +kernel
theorem dX2_gap_19 : decode cX2_gap 19 = .ok (.iconst 1, 1) := by decide +kernel
theorem dX2_gap_20 : decode cX2_gap 20 = .ok (.iload_n 2, 1) := by decide +kernel
theorem dX2_gap_21 : decode cX2_gap 21 = .ok (.invokevirtual 157, 3) := by decide +kernel
theorem dX2_gap_24 : decode cX2_gap 24 = .ok (.goto 4, 3) := by decide +kernel
theorem dX2_gap_27 : decode cX2_gap 27 = .ok (.iconst (-1), 1) := by decide +kernel
theorem dX2_gap_28 : decode cX2_gap 28 = .ok (.ireturn, 1) := by decide +kernel
theorem dX2_fight_0 : decode cX2_fight 0 = .ok (.aload_n 0, 1) := by decide +kernel
theorem dX2_fight_1 : decode cX2_fight 1 = .ok (.iload_n 1, 1) := by decide +kernel
theorem dX2_fight_2 : decode cX2_fight 2 = .ok (.iload_n 2, 1) := by decide +kernel
theorem dX2_fight_3 : decode cX2_fight 3 = .ok (.invokevirtual 120, 3) := by decide +kernel
theorem dX2_fight_6 : decode cX2_fight 6 = .ok (.ifCond .eq 12, 3) := by decide +kernel
theorem dX2_fight_9 : decode cX2_fight 9 = .ok (.aload_n 0, 1) := by decide +kernel
theorem dX2_fight_10 : decode cX2_fight 10 = .ok (.iload_n 1, 1) := by decide +kernel
theorem dX2_fight_11 : decode cX2_fight 11 = .ok (.iload_n 3, 1) := by decide +kernel
theorem dX2_fight_12 : decode cX2_fight 12 = .ok (.invokevirtual 120, 3) := by decide +kernel
theorem dX2_fight_15 : decode cX2_fight 15 = .ok (.ifCond .ne 5, 3) := by decide +kernel
theorem dX2_fight_18 : decode cX2_fight 18 = .ok (.iconst (-1), 1) := by decide +kernel
theorem dX2_fight_19 : decode cX2_fight 19 = .ok (.ireturn, 1) := by decide +kernel
theorem dX2_fight_20 : decode cX2_fight 20 = .ok (.aload_n 0, 1) := by decide +kernel
theorem dX2_fight_21 : decode cX2_fight 21 = .ok (.getfield 18, 3) := by decide +kernel
theorem dX2_fight_24 : decode cX2_fight 24 = .ok (.iload_n 1, 1) := by decide +kernel
theorem dX2_fight_25 : decode cX2_fight 25 = .ok (.aaload, 1) := by decide +kernel
theorem dX2_fight_26 : decode cX2_fight 26 = .ok (.astore 4, 2) := by decide +kernel
theorem dX2_fight_28 : decode cX2_fight 28 = .ok (.iconst 1, 1) := by decide +kernel
theorem dX2_fight_29 : decode cX2_fight 29 = .ok (.iload_n 2, 1) := by decide +kernel
theorem dX2_fight_30 : decode cX2_fight 30 = .ok (.ishl, 1) := by decide +kernel
theorem dX2_fight_31 : decode cX2_fight 31 = .ok (.iconst 1, 1) := by decide +kernel
theorem dX2_fight_32 : decode cX2_fight 32 = .ok (.iload_n 3, 1) := by decide +kernel
theorem dX2_fight_33 : decode cX2_fight 33 = .ok (.ishl, 1) := by decide +kernel
theorem dX2_fight_34 : decode cX2_fight 34 = .ok (.ior, 1) := by decide +kernel
theorem dX2_fight_35 : decode cX2_fight 35 = .ok (.istore 5, 2) := by decide +kernel
theorem dX2_fight_37 : decode cX2_fight 37 = .ok (.aload 4, 2) := by decide +kernel
theorem dX2_fight_39 : decode cX2_fight 39 = .ok (.iload 5, 2) := by decide +kernel
theorem dX2_fight_41 : decode cX2_fight 41 = .ok (.invokevirtual 206, 3) := by decide +kernel
theorem dX2_fight_44 : decode cX2_fight 44 = .ok (.istore 6, 2) := by decide +kernel
theorem dX2_fight_46 : decode cX2_fight 46 = .ok (.iload 6, 2) := by decide +kernel
theorem dX2_fight_48 : decode cX2_fight 48 = .ok (.iload 5, 2) := by decide +kernel
theorem dX2_fight_50 : decode cX2_fight 50 = .ok (.iand, 1) := by decide +kernel
theorem dX2_fight_51 : decode cX2_fight 51 = .ok (.ifCond .eq 5, 3) := by decide +kernel
theorem dX2_fight_54 : decode cX2_fight 54 = .ok (.iconst (-1), 1) := by decide +kernel
theorem dX2_fight_55 : decode cX2_fight 55 = .ok (.ireturn, 1) := by decide +kernel
theorem dX2_fight_56 : decode cX2_fight 56 = .ok (.aload_n 0, 1) := by decide +kernel
theorem dX2_fight_57 : decode cX2_fight 57 = .ok (.aload 4, 2) := by decide +kernel
theorem dX2_fight_59 : decode cX2_fight 59 = .ok (.invokevirtual 147, 3) := by decide +kernel
theorem dX2_fight_62 : decode cX2_fight 62 = .ok (.istore 7, 2) := by decide +kernel
theorem dX2_fight_64 : decode cX2_fight 64 = .ok (.iconst 0, 1) := by decide +kernel
theorem dX2_fight_65 : decode cX2_fight 65 = .ok (.istore 8, 2) := by decide +kernel
theorem dX2_fight_67 : decode cX2_fight 67 = .ok (.iconst 0, 1) := by decide +kernel
theorem dX2_fight_68 : decode cX2_fight 68 = .ok (.istore 9, 2) := by decide +kernel
theorem dX2_fight_70 : decode cX2_fight 70 = .ok (.iload 8, 2) := by decide +kernel
theorem dX2_fight_72 : decode cX2_fight 72 = .ok (.iload 7, 2) := by decide +kernel
theorem dX2_fight_74 : decode cX2_fight 74 = .ok (.if_icmp .ge 50, 3) := by decide +kernel
theorem dX2_fight_77 : decode cX2_fight 77 = .ok (.aload 4, 2) := by decide +kernel
theorem dX2_fight_79 : decode cX2_fight 79 = .ok (.iload 9, 2) := by decide +kernel
theorem dX2_fight_81 : decode cX2_fight 81 = .ok (.invokevirtual 186, 3) := by decide +kernel
theorem dX2_fight_84 : decode cX2_fight 84 = .ok (.istore 10, 2) := by decide +kernel
theorem dX2_fight_86 : decode cX2_fight 86 = .ok (.iload 10, 2) := by decide +kernel
theorem dX2_fight_88 : decode cX2_fight 88 = .ok (.iload 5, 2) := by decide +kernel
theorem dX2_fight_90 : decode cX2_fight 90 = .ok (.iand, 1) := by decide +kernel
theorem dX2_fight_91 : decode cX2_fight 91 = .ok (.iload 5, 2) := by decide +kernel
theorem dX2_fight_93 : decode cX2_fight 93 = .ok (.if_icmp .ne 14, 3) := by decide +kernel
theorem dX2_fight_96 : decode cX2_fight 96 = .ok (.iload 10, 2) := by decide +kernel
theorem dX2_fight_98 : decode cX2_fight 98 = .ok (.iload 6, 2) := by decide +kernel
theorem dX2_fight_100 : decode cX2_fight 100 = .ok (.iand, 1) := by decide +kernel
theorem dX2_fight_101 : decode cX2_fight 101 = .ok (.ifCond .ne 6, 3) := by decide +kernel
theorem dX2_fight_104 : decode cX2_fight 104 = .ok (.iload 9, 2) := by decide +kernel
theorem dX2_fight_106 : decode cX2_fight 106 = .ok (.ireturn, 1) := by decide +kernel
theorem dX2_fight_107 : decode cX2_fight 107 = .ok (.iinc 8 1, 3) := by decide +kernel
theorem dX2_fight_110 : decode cX2_fight 110 = .ok (.aload_n 0, 1) := by decide +kernel
theorem dX2_fight_111 : decode cX2_fight 111 = .ok (.getfield 12, 3) := by decide +kernel
theorem dX2_fight_114 : decode cX2_fight 114 = .ok (.iload 9, 2) := by decide +kernel
theorem dX2_fight_116 : decode cX2_fight 116 = .ok (.invokevirtual 209, 3) := by decide +kernel
theorem dX2_fight_119 : decode cX2_fight 119 = .ok (.istore 9, 2) := by decide +kernel
theorem dX2_fight_121 : decode cX2_fight 121 = .ok (.goto (-51), 3) := by decide +kernel
theorem dX2_fight_124 : decode cX2_fight 124 = .ok (.iconst (-1), 1) := by decide +kernel
theorem dX2_fight_125 : decode cX2_fight 125 = .ok (.ireturn, 1) := by decide +kernel
theorem dX2_pole_0 : decode cX2_pole 0 = .ok (.aload_n 0, 1) := by decide +kernel
theorem dX2_pole_1 : decode cX2_pole 1 = .ok (.iload_n 1, 1) := by decide +kernel
theorem dX2_pole_2 : decode cX2_pole 2 = .ok (.invokevirtual 144, 3) := by decide +kernel
theorem dX2_pole_5 : decode cX2_pole 5 = .ok (.ifCond .eq 31, 3) := by decide +kernel
theorem dX2_pole_8 : decode cX2_pole 8 = .ok (.iload_n 2, 1) := by decide +kernel
theorem dX2_pole_9 : decode cX2_pole 9 = .ok (.ifCond .lt 27, 3) := by decide +kernel
theorem dX2_pole_12 : decode cX2_pole 12 = .ok (.iload_n 2, 1) := by decide +kernel
theorem dX2_pole_13 : decode cX2_pole 13 = .ok (.aload_n 0, 1) := by decide +kernel
theorem dX2_pole_14 : decode cX2_pole 14 = .ok (.getfield 18, 3) := by decide +kernel
theorem dX2_pole_17 : decode cX2_pole 17 = .ok (.iload_n 1, 1) := by decide +kernel
theorem dX2_pole_18 : decode cX2_pole 18 = .ok (.aaload, 1) := by decide +kernel
theorem dX2_pole_19 : decode cX2_pole 19 = .ok (.getfield 93, 3) := by decide +kernel
theorem dX2_pole_22 : decode cX2_pole 22 = .ok (.if_icmp .ge 14, 3) := by decide +kernel
theorem dX2_pole_25 : decode cX2_pole 25 = .ok (.aload_n 0, 1) := by decide +kernel
theorem dX2_pole_26 : decode cX2_pole 26 = .ok (.getfield 12, 3) := by decide +kernel
theorem dX2_pole_29 : decode cX2_pole 29 = .ok (.iload_n 3, 1) := by decide +kernel
theorem dX2_pole_30 : decode cX2_pole 30 = .ok (.invokevirtual 72, 3) := by decide +kernel
theorem dX2_pole_33 : decode cX2_pole 33 = .ok (.ifCond .ne 5, 3) := by decide +kernel
theorem dX2_pole_36 : decode cX2_pole 36 = .ok (.iconst (-1), 1) := by decide +kernel
theorem dX2_pole_37 : decode cX2_pole 37 = .ok (.ireturn, 1) := by decide +kernel
theorem dX2_pole_38 : decode cX2_pole 38 = .ok (.aload_n 0, 1) := by decide +kernel
theorem dX2_pole_39 : decode cX2_pole 39 = .ok (.iload_n 1, 1) := by decide +kernel
theorem dX2_pole_40 : decode cX2_pole 40 = .ok (.invokevirtual 212, 3) := by decide +kernel
theorem dX2_pole_43 : decode cX2_pole 43 = .ok (.aload_n 0, 1) := by decide +kernel
theorem dX2_pole_44 : decode cX2_pole 44 = .ok (.aload_n 0, 1) := by decide +kernel
theorem dX2_pole_45 : decode cX2_pole 45 = .ok (.getfield 18, 3) := by decide +kernel
theorem dX2_pole_48 : decode cX2_pole 48 = .ok (.iload_n 1, 1) := by decide +kernel
theorem dX2_pole_49 : decode cX2_pole 49 = .ok (.aaload, 1) := by decide +kernel
theorem dX2_pole_50 : decode cX2_pole 50 = .ok (.iload_n 2, 1) := by decide +kernel
theorem dX2_pole_51 : decode cX2_pole 51 = .ok (.iload_n 3, 1) := by decide +kernel
theorem dX2_pole_52 : decode cX2_pole 52 = .ok (.invokevirtual 215, 3) := by decide +kernel
theorem dX2_pole_55 : decode cX2_pole 55 = .ok (.ireturn, 1) := by decide +kernel
theorem dX2_change_0 : decode cX2_change 0 = .ok (.aload_n 0, 1) := by decide +kernel
theorem dX2_change_1 : decode cX2_change 1 = .ok (.iload_n 1, 1) := by decide +kernel
theorem dX2_change_2 : decode cX2_change 2 = .ok (.iload_n 2, 1) := by decide +kernel
theorem dX2_change_3 : decode cX2_change 3 = .ok (.invokevirtual 96, 3) := by decide +kernel
theorem dX2_change_6 : decode cX2_change 6 = .ok (.ifCond .ne 5, 3) := by decide +kernel
theorem dX2_change_9 : decode cX2_change 9 = .ok (.iconst (-1), 1) := by decide +kernel
theorem dX2_change_10 : decode cX2_change 10 = .ok (.ireturn, 1) := by decide +kernel
theorem dX2_change_11 : decode cX2_change 11 = .ok (.aload_n 0, 1) := by decide +kernel
theorem dX2_change_12 : decode cX2_change 12 = .ok (.getfield 18, 3) := by decide +kernel
theorem dX2_change_15 : decode cX2_change 15 = .ok (.iload_n 1, 1) := by decide +kernel
theorem dX2_change_16 : decode cX2_change 16 = .ok (.aaload, 1) := by decide +kernel
theorem dX2_change_17 : decode cX2_change 17 = .ok (.astore_n 3, 1) := by decide +kernel
theorem dX2_change_18 : decode cX2_change 18 = .ok (.aload_n 3, 1) := by decide +kernel
theorem dX2_change_19 : decode cX2_change 19 = .ok (.iload_n 2, 1) := by decide +kernel
theorem dX2_change_20 : decode cX2_change 20 = .ok (.invokevirtual 103, 3) := by decide +kernel
theorem dX2_change_23 : decode cX2_change 23 = .ok (.ifCond .eq 6, 3) := by decide +kernel
theorem dX2_change_26 : decode cX2_change 26 = .ok (.bipush (-2), 2) := by decide +kernel
theorem dX2_change_28 : decode cX2_change 28 = .ok (.ireturn, 1) := by decide +kernel
theorem dX2_change_29 : decode cX2_change 29 = .ok (.aload_n 0, 1) := by decide +kernel
theorem dX2_change_30 : decode cX2_change 30 = .ok (.iload_n 1, 1) := by decide +kernel
theorem dX2_change_31 : decode cX2_change 31 = .ok (.invokevirtual 212, 3) := by decide +kernel
theorem dX2_change_34 : decode cX2_change 34 = .ok (.aload_n 0, 1) := by decide +kernel
theorem dX2_change_35 : decode cX2_change 35 = .ok (.getfield 23, 3) := by decide +kernel
theorem dX2_change_38 : decode cX2_change 38 = .ok (.aload_n 3, 1) := by decide +kernel
theorem dX2_change_39 : decode cX2_change 39 = .ok (.invokevirtual 218, 3) := by decide +kernel
theorem dX2_change_42 : decode cX2_change 42 = .ok (.aload_n 0, 1) := by decide +kernel
theorem dX2_change_43 : decode cX2_change 43 = .ok (.getfield 23, 3) := by decide +kernel
theorem dX2_change_46 : decode cX2_change 46 = .ok (.bipush 12, 2) := by decide +kernel
end
section
theorem dX2_change_48 : decode cX2_change 48 = .ok (.iload_n 2, 1) := by decide +kernel
theorem dX2_change_49 : decode cX2_change 49 = .ok (.aload_n 0, 1) := by decide +kernel
theorem dX2_change_50 : decode cX2_change 50 = .ok (.getfield 12, 3) := by decide +kernel
theorem dX2_change_53 : decode cX2_change 53 = .ok (.invokevirtual 106, 3) := by decide +kernel
theorem dX2_change_56 : decode cX2_change 56 = .ok (.iconst 0, 1) := by decide +kernel
theorem dX2_change_57 : decode cX2_change 57 = .ok (.istore 4, 2) := by decide +kernel
theorem dX2_change_59 : decode cX2_change 59 = .ok (.aload_n 0, 1) := by decide +kernel
theorem dX2_change_60 : decode cX2_change 60 = .ok (.aload_n 3, 1) := by decide +kernel
theorem dX2_change_61 : decode cX2_change 61 = .ok (.invokevirtual 147, 3) := by decide +kernel
theorem dX2_change_64 : decode cX2_change 64 = .ok (.istore 5, 2) := by decide +kernel
theorem dX2_change_66 : decode cX2_change 66 = .ok (.iconst 0, 1) := by decide +kernel
theorem dX2_change_67 : decode cX2_change 67 = .ok (.istore 6, 2) := by decide +kernel
theorem dX2_change_69 : decode cX2_change 69 = .ok (.iconst 0, 1) := by decide +kernel
theorem dX2_change_70 : decode cX2_change 70 = .ok (.istore 7, 2) := by decide +kernel
theorem dX2_change_72 : decode cX2_change 72 = .ok (.iload 6, 2) := by decide +kernel
theorem dX2_change_74 : decode cX2_change 74 = .ok (.iload 5, 2) := by decide +kernel
theorem dX2_change_76 : decode cX2_change 76 = .ok (.if_icmp .ge 66, 3) := by decide +kernel
theorem dX2_change_79 : decode cX2_change 79 = .ok (.aload_n 0, 1) := by decide +kernel
theorem dX2_change_80 : decode cX2_change 80 = .ok (.getfield 23, 3) := by decide +kernel
theorem dX2_change_83 : decode cX2_change 83 = .ok (.iload 7, 2) := by decide +kernel
theorem dX2_change_85 : decode cX2_change 85 = .ok (.invokevirtual 186, 3) := by decide +kernel
theorem dX2_change_88 : decode cX2_change 88 = .ok (.istore 8, 2) := by decide +kernel
theorem dX2_change_90 : decode cX2_change 90 = .ok (.iload 8, 2) := by decide +kernel
theorem dX2_change_92 : decode cX2_change 92 = .ok (.bipush 12, 2) := by decide +kernel
theorem dX2_change_94 : decode cX2_change 94 = .ok (.ishr, 1) := by decide +kernel
theorem dX2_change_95 : decode cX2_change 95 = .ok (.iconst 1, 1) := by decide +kernel
theorem dX2_change_96 : decode cX2_change 96 = .ok (.iand, 1) := by decide +kernel
theorem dX2_change_97 : decode cX2_change 97 = .ok (.ifCond .eq 28, 3) := by decide +kernel
theorem dX2_change_100 : decode cX2_change 100 = .ok (.aload_n 0, 1) := by decide +kernel
theorem dX2_change_101 : decode cX2_change 101 = .ok (.aload_n 0, 1) := by decide +kernel
theorem dX2_change_102 : decode cX2_change 102 = .ok (.getfield 23, 3) := by decide +kernel
theorem dX2_change_105 : decode cX2_change 105 = .ok (.iload 7, 2) := by decide +kernel
theorem dX2_change_107 : decode cX2_change 107 = .ok (.iload 8, 2) := by decide +kernel
theorem dX2_change_109 : decode cX2_change 109 = .ok (.invokevirtual 189, 3) := by decide +kernel
theorem dX2_change_112 : decode cX2_change 112 = .ok (.aload_n 0, 1) := by decide +kernel
theorem dX2_change_113 : decode cX2_change 113 = .ok (.getfield 47, 3) := by decide +kernel
theorem dX2_change_116 : decode cX2_change 116 = .ok (.iload 7, 2) := by decide +kernel
theorem dX2_change_118 : decode cX2_change 118 = .ok (.iaload, 1) := by decide +kernel
theorem dX2_change_119 : decode cX2_change 119 = .ok (.if_icmp .eq 6, 3) := by decide +kernel
theorem dX2_change_122 : decode cX2_change 122 = .ok (.iinc 4 1, 3) := by decide +kernel
theorem dX2_change_125 : decode cX2_change 125 = .ok (.iinc 6 1, 3) := by decide +kernel
theorem dX2_change_128 : decode cX2_change 128 = .ok (.aload_n 0, 1) := by decide +kernel
theorem dX2_change_129 : decode cX2_change 129 = .ok (.getfield 12, 3) := by decide +kernel
theorem dX2_change_132 : decode cX2_change 132 = .ok (.iload 7, 2) := by decide +kernel
theorem dX2_change_134 : decode cX2_change 134 = .ok (.invokevirtual 209, 3) := by decide +kernel
theorem dX2_change_137 : decode cX2_change 137 = .ok (.istore 7, 2) := by decide +kernel
theorem dX2_change_139 : decode cX2_change 139 = .ok (.goto (-67), 3) := by decide +kernel
theorem dX2_change_142 : decode cX2_change 142 = .ok (.iload 4, 2) := by decide +kernel
theorem dX2_change_144 : decode cX2_change 144 = .ok (.ireturn, 1) := by decide +kernel
theorem dX2_settle_0 : decode cX2_settle 0 = .ok (.aload_n 0, 1) := by decide +kernel
theorem dX2_settle_1 : decode cX2_settle 1 = .ok (.iload_n 1, 1) := by decide +kernel
theorem dX2_settle_2 : decode cX2_settle 2 = .ok (.invokevirtual 144, 3) := by decide +kernel
theorem dX2_settle_5 : decode cX2_settle 5 = .ok (.ifCond .ne 5, 3) := by decide +kernel
theorem dX2_settle_8 : decode cX2_settle 8 = .ok (.iconst (-1), 1) := by decide +kernel
theorem dX2_settle_9 : decode cX2_settle 9 = .ok (.ireturn, 1) := by decide +kernel
theorem dX2_settle_10 : decode cX2_settle 10 = .ok (.aload_n 0, 1) := by decide +kernel
theorem dX2_settle_11 : decode cX2_settle 11 = .ok (.getfield 23, 3) := by decide +kernel
theorem dX2_settle_14 : decode cX2_settle 14 = .ok (.aload_n 0, 1) := by decide +kernel
theorem dX2_settle_15 : decode cX2_settle 15 = .ok (.getfield 18, 3) := by decide +kernel
theorem dX2_settle_18 : decode cX2_settle 18 = .ok (.iload_n 1, 1) := by decide +kernel
theorem dX2_settle_19 : decode cX2_settle 19 = .ok (.aaload, 1) := by decide +kernel
theorem dX2_settle_20 : decode cX2_settle 20 = .ok (.invokevirtual 218, 3) := by decide +kernel
theorem dX2_settle_23 : decode cX2_settle 23 = .ok (.iconst 0, 1) := by decide +kernel
theorem dX2_settle_24 : decode cX2_settle 24 = .ok (.istore_n 2, 1) := by decide +kernel
theorem dX2_settle_25 : decode cX2_settle 25 = .ok (.aload_n 0, 1) := by decide +kernel
theorem dX2_settle_26 : decode cX2_settle 26 = .ok (.aload_n 0, 1) := by decide +kernel
theorem dX2_settle_27 : decode cX2_settle 27 = .ok (.getfield 23, 3) := by decide +kernel
theorem dX2_settle_30 : decode cX2_settle 30 = .ok (.invokevirtual 147, 3) := by decide +kernel
theorem dX2_settle_33 : decode cX2_settle 33 = .ok (.istore_n 3, 1) := by decide +kernel
theorem dX2_settle_34 : decode cX2_settle 34 = .ok (.iconst 0, 1) := by decide +kernel
theorem dX2_settle_35 : decode cX2_settle 35 = .ok (.istore 4, 2) := by decide +kernel
theorem dX2_settle_37 : decode cX2_settle 37 = .ok (.iconst 0, 1) := by decide +kernel
theorem dX2_settle_38 : decode cX2_settle 38 = .ok (.istore 5, 2) := by decide +kernel
theorem dX2_settle_40 : decode cX2_settle 40 = .ok (.iload 4, 2) := by decide +kernel
theorem dX2_settle_42 : decode cX2_settle 42 = .ok (.iload_n 3, 1) := by decide +kernel
theorem dX2_settle_43 : decode cX2_settle 43 = .ok (.if_icmp .ge 77, 3) := by decide +kernel
theorem dX2_settle_46 : decode cX2_settle 46 = .ok (.aload_n 0, 1) := by decide +kernel
theorem dX2_settle_47 : decode cX2_settle 47 = .ok (.getfield 23, 3) := by decide +kernel
theorem dX2_settle_50 : decode cX2_settle 50 = .ok (.aload_n 0, 1) := by decide +kernel
theorem dX2_settle_51 : decode cX2_settle 51 = .ok (.getfield 23, 3) := by decide +kernel
theorem dX2_settle_54 : decode cX2_settle 54 = .ok (.iload 5, 2) := by decide +kernel
theorem dX2_settle_56 : decode cX2_settle 56 = .ok (.invokevirtual 186, 3) := by decide +kernel
theorem dX2_settle_59 : decode cX2_settle 59 = .ok (.invokevirtual 222, 3) := by decide +kernel
theorem dX2_settle_62 : decode cX2_settle 62 = .ok (.bipush (-2), 2) := by decide +kernel
theorem dX2_settle_64 : decode cX2_settle 64 = .ok (.if_icmp .ne 39, 3) := by decide +kernel
theorem dX2_settle_67 : decode cX2_settle 67 = .ok (.aload_n 0, 1) := by decide +kernel
theorem dX2_settle_68 : decode cX2_settle 68 = .ok (.getfield 23, 3) := by decide +kernel
theorem dX2_settle_71 : decode cX2_settle 71 = .ok (.invokevirtual 99, 3) := by decide +kernel
theorem dX2_settle_74 : decode cX2_settle 74 = .ok (.istore 6, 2) := by decide +kernel
theorem dX2_settle_76 : decode cX2_settle 76 = .ok (.iload 6, 2) := by decide +kernel
theorem dX2_settle_78 : decode cX2_settle 78 = .ok (.iconst (-1), 1) := by decide +kernel
theorem dX2_settle_79 : decode cX2_settle 79 = .ok (.if_icmp .ne 6, 3) := by decide +kernel
theorem dX2_settle_82 : decode cX2_settle 82 = .ok (.bipush (-2), 2) := by decide +kernel
theorem dX2_settle_84 : decode cX2_settle 84 = .ok (.ireturn, 1) := by decide +kernel
theorem dX2_settle_85 : decode cX2_settle 85 = .ok (.aload_n 0, 1) := by decide +kernel
theorem dX2_settle_86 : decode cX2_settle 86 = .ok (.getfield 23, 3) := by decide +kernel
theorem dX2_settle_89 : decode cX2_settle 89 = .ok (.iload 6, 2) := by decide +kernel
theorem dX2_settle_91 : decode cX2_settle 91 = .ok (.iload 5, 2) := by decide +kernel
theorem dX2_settle_93 : decode cX2_settle 93 = .ok (.aload_n 0, 1) := by decide +kernel
theorem dX2_settle_94 : decode cX2_settle 94 = .ok (.getfield 12, 3) := by decide +kernel
theorem dX2_settle_97 : decode cX2_settle 97 = .ok (.invokevirtual 106, 3) := by decide +kernel
theorem dX2_settle_100 : decode cX2_settle 100 = .ok (.iinc 2 1, 3) := by decide +kernel
theorem dX2_settle_103 : decode cX2_settle 103 = .ok (.iinc 4 1, 3) := by decide +kernel
theorem dX2_settle_106 : decode cX2_settle 106 = .ok (.aload_n 0, 1) := by decide +kernel
theorem dX2_settle_107 : decode cX2_settle 107 = .ok (.getfield 12, 3) := by decide +kernel
theorem dX2_settle_110 : decode cX2_settle 110 = .ok (.iload 5, 2) := by decide +kernel
theorem dX2_settle_112 : decode cX2_settle 112 = .ok (.invokevirtual 209, 3) := by decide +kernel
theorem dX2_settle_115 : decode cX2_settle 115 = .ok (.istore 5, 2) := by decide +kernel
theorem dX2_settle_117 : decode cX2_settle 117 = .ok (.goto (-77), 3) := by decide +kernel
theorem dX2_settle_120 : decode cX2_settle 120 = .ok (.iload_n 2, 1) := by decide +kernel
theorem dX2_settle_121 : decode cX2_settle 121 = .ok (.ireturn, 1) := by decide +kernel
theorem dX2_hasFunction_0 : decode cX2_hasFunction 0 = .ok (.iload_n 1, 1) := by decide +kernel
theorem dX2_hasFunction_1 : decode cX2_hasFunction 1 = .ok (.ifCond .lt 15, 3) := by decide +kernel
theorem dX2_hasFunction_4 : decode cX2_hasFunction 4 = .ok (.iload_n 1, 1) := by decide +kernel
theorem dX2_hasFunction_5 : decode cX2_hasFunction 5 = .ok (.aload_n 0, 1) := by decide +kernel
theorem dX2_hasFunction_6 : decode cX2_hasFunction 6 = .ok (.getfield 27, 3) := by decide +kernel
theorem dX2_hasFunction_9 : decode cX2_hasFunction 9 = .ok (.if_icmp .ge 7, 3) := by decide +kernel
theorem dX2_hasFunction_12 : decode cX2_hasFunction 12 = .ok (.iconst 1, 1) := by decide +kernel
theorem dX2_hasFunction_13 : decode cX2_hasFunction 13 = .ok (.goto 4, 3) := by decide +kernel
theorem dX2_hasFunction_16 : decode cX2_hasFunction 16 = .ok (.iconst 0, 1) := by decide +kernel
theorem dX2_hasFunction_17 : decode cX2_hasFunction 17 = .ok (.ireturn, 1) := by decide +kernel
theorem dX2_hasMethod_0 : decode cX2_hasMethod 0 = .ok (.aload_n 0, 1) := by decide +kernel
theorem dX2_hasMethod_1 : decode cX2_hasMethod 1 = .ok (.iload_n 1, 1) := by decide +kernel
theorem dX2_hasMethod_2 : decode cX2_hasMethod 2 = .ok (.invokevirtual 144, 3) := by decide +kernel
theorem dX2_hasMethod_5 : decode cX2_hasMethod 5 = .ok (.ifCond .eq 33, 3) := by decide +kernel
theorem dX2_hasMethod_8 : decode cX2_hasMethod 8 = .ok (.iload_n 2, 1) := by decide +kernel
theorem dX2_hasMethod_9 : decode cX2_hasMethod 9 = .ok (.ifCond .lt 29, 3) := by decide +kernel
theorem dX2_hasMethod_12 : decode cX2_hasMethod 12 = .ok (.iload_n 2, 1) := by decide +kernel
theorem dX2_hasMethod_13 : decode cX2_hasMethod 13 = .ok (.bipush 12, 2) := by decide +kernel
theorem dX2_hasMethod_15 : decode cX2_hasMethod 15 = .ok (.if_icmp .ge 23, 3) := by decide +kernel
theorem dX2_hasMethod_18 : decode cX2_hasMethod 18 = .ok (.aload_n 0, 1) := by decide +kernel
theorem dX2_hasMethod_19 : decode cX2_hasMethod 19 = .ok (.getfield 18, 3) := by decide +kernel
theorem dX2_hasMethod_22 : decode cX2_hasMethod 22 = .ok (.iload_n 1, 1) := by decide +kernel
theorem dX2_hasMethod_23 : decode cX2_hasMethod 23 = .ok (.aaload, 1) := by decide +kernel
theorem dX2_hasMethod_24 : decode cX2_hasMethod 24 = .ok (.getfield 126, 3) := by decide +kernel
theorem dX2_hasMethod_27 : decode cX2_hasMethod 27 = .ok (.iload_n 2, 1) := by decide +kernel
theorem dX2_hasMethod_28 : decode cX2_hasMethod 28 = .ok (.ishr, 1) := by decide +kernel
theorem dX2_hasMethod_29 : decode cX2_hasMethod 29 = .ok (.iconst 1, 1) := by decide +kernel
theorem dX2_hasMethod_30 : decode cX2_hasMethod 30 = .ok (.iand, 1) := by decide +kernel
theorem dX2_hasMethod_31 : decode cX2_hasMethod 31 = .ok (.ifCond .eq 7, 3) := by decide +kernel
theorem dX2_hasMethod_34 : decode cX2_hasMethod 34 = .ok (.iconst 1, 1) := by decide +kernel
theorem dX2_hasMethod_35 : decode cX2_hasMethod 35 = .ok (.goto 4, 3) := by decide +kernel
theorem dX2_hasMethod_38 : decode cX2_hasMethod 38 = .ok (.iconst 0, 1) := by decide +kernel
theorem dX2_hasMethod_39 : decode cX2_hasMethod 39 = .ok (.ireturn, 1) := by decide +kernel
theorem dX2_hasCall_0 : decode cX2_hasCall 0 = .ok (.aload_n 0, 1) := by decide +kernel
theorem dX2_hasCall_1 : decode cX2_hasCall 1 = .ok (.iload_n 1, 1) := by decide +kernel
theorem dX2_hasCall_2 : decode cX2_hasCall 2 = .ok (.invokevirtual 144, 3) := by decide +kernel
theorem dX2_hasCall_5 : decode cX2_hasCall 5 = .ok (.ifCond .eq 24, 3) := by decide +kernel
theorem dX2_hasCall_8 : decode cX2_hasCall 8 = .ok (.iload_n 2, 1) := by decide +kernel
theorem dX2_hasCall_9 : decode cX2_hasCall 9 = .ok (.ifCond .lt 20, 3) := by decide +kernel
theorem dX2_hasCall_12 : decode cX2_hasCall 12 = .ok (.iload_n 2, 1) := by decide +kernel
theorem dX2_hasCall_13 : decode cX2_hasCall 13 = .ok (.iconst 1, 1) := by decide +kernel
theorem dX2_hasCall_14 : decode cX2_hasCall 14 = .ok (.iconst 4, 1) := by decide +kernel
theorem dX2_hasCall_15 : decode cX2_hasCall 15 = .ok (.aload_n 0, 1) := by decide +kernel
theorem dX2_hasCall_16 : decode cX2_hasCall 16 = .ok (.getfield 18, 3) := by decide +kernel
theorem dX2_hasCall_19 : decode cX2_hasCall 19 = .ok (.iload_n 1, 1) := by decide +kernel
theorem dX2_hasCall_20 : decode cX2_hasCall 20 = .ok (.aaload, 1) := by decide +kernel
theorem dX2_hasCall_21 : decode cX2_hasCall 21 = .ok (.getfield 93, 3) := by decide +kernel
theorem dX2_hasCall_24 : decode cX2_hasCall 24 = .ok (.imul, 1) := by decide +kernel
theorem dX2_hasCall_25 : decode cX2_hasCall 25 = .ok (.ishl, 1) := by decide +kernel
theorem dX2_hasCall_26 : decode cX2_hasCall 26 = .ok (.if_icmp .lt 5, 3) := by decide +kernel
theorem dX2_hasCall_29 : decode cX2_hasCall 29 = .ok (.iconst 0, 1) := by decide +kernel
theorem dX2_hasCall_30 : decode cX2_hasCall 30 = .ok (.ireturn, 1) := by decide +kernel
theorem dX2_hasCall_31 : decode cX2_hasCall 31 = .ok (.aload_n 0, 1) := by decide +kernel
theorem dX2_hasCall_32 : decode cX2_hasCall 32 = .ok (.getfield 12, 3) := by decide +kernel
theorem dX2_hasCall_35 : decode cX2_hasCall 35 = .ok (.iload_n 2, 1) := by decide +kernel
theorem dX2_hasCall_36 : decode cX2_hasCall 36 = .ok (.iconst 0, 1) := by decide +kernel
theorem dX2_hasCall_37 : decode cX2_hasCall 37 = .ok (.invokestatic 225, 3) := by decide +kernel
theorem dX2_hasCall_40 : decode cX2_hasCall 40 = .ok (.invokevirtual 72, 3) := by decide +kernel
theorem dX2_hasCall_43 : decode cX2_hasCall 43 = .ok (.ifCond .eq 37, 3) := by decide +kernel
theorem dX2_hasCall_46 : decode cX2_hasCall 46 = .ok (.aload_n 0, 1) := by decide +kernel
theorem dX2_hasCall_47 : decode cX2_hasCall 47 = .ok (.getfield 12, 3) := by decide +kernel
theorem dX2_hasCall_50 : decode cX2_hasCall 50 = .ok (.iload_n 2, 1) := by decide +kernel
theorem dX2_hasCall_51 : decode cX2_hasCall 51 = .ok (.iconst 1, 1) := by decide +kernel
theorem dX2_hasCall_52 : decode cX2_hasCall 52 = .ok (.invokestatic 225, 3) := by decide +kernel
theorem dX2_hasCall_55 : decode cX2_hasCall 55 = .ok (.invokevirtual 72, 3) := by decide +kernel
theorem dX2_hasCall_58 : decode cX2_hasCall 58 = .ok (.ifCond .eq 22, 3) := by decide +kernel
theorem dX2_hasCall_61 : decode cX2_hasCall 61 = .ok (.aload_n 0, 1) := by decide +kernel
theorem dX2_hasCall_62 : decode cX2_hasCall 62 = .ok (.getfield 12, 3) := by decide +kernel
theorem dX2_hasCall_65 : decode cX2_hasCall 65 = .ok (.iload_n 2, 1) := by decide +kernel
theorem dX2_hasCall_66 : decode cX2_hasCall 66 = .ok (.iconst 2, 1) := by decide +kernel
theorem dX2_hasCall_67 : decode cX2_hasCall 67 = .ok (.invokestatic 225, 3) := by decide +kernel
theorem dX2_hasCall_70 : decode cX2_hasCall 70 = .ok (.invokevirtual 72, 3) := by decide +kernel
theorem dX2_hasCall_73 : decode cX2_hasCall 73 = .ok (.ifCond .eq 7, 3) := by decide +kernel
theorem dX2_hasCall_76 : decode cX2_hasCall 76 = .ok (.iconst 1, 1) := by decide +kernel
theorem dX2_hasCall_77 : decode cX2_hasCall 77 = .ok (.goto 4, 3) := by decide +kernel
theorem dX2_hasCall_80 : decode cX2_hasCall 80 = .ok (.iconst 0, 1) := by decide +kernel
theorem dX2_hasCall_81 : decode cX2_hasCall 81 = .ok (.ireturn, 1) := by decide +kernel
theorem dX2_classAt_0 : decode cX2_classAt 0 = .ok (.iload_n 0, 1) := by decide +kernel
theorem dX2_classAt_1 : decode cX2_classAt 1 = .ok (.iconst 4, 1) := by decide +kernel
theorem dX2_classAt_2 : decode cX2_classAt 2 = .ok (.iload_n 1, 1) := by decide +kernel
theorem dX2_classAt_3 : decode cX2_classAt 3 = .ok (.imul, 1) := by decide +kernel
theorem dX2_classAt_4 : decode cX2_classAt 4 = .ok (.ishr, 1) := by decide +kernel
theorem dX2_classAt_5 : decode cX2_classAt 5 = .ok (.bipush 15, 2) := by decide +kernel
theorem dX2_classAt_7 : decode cX2_classAt 7 = .ok (.iand, 1) := by decide +kernel
theorem dX2_classAt_8 : decode cX2_classAt 8 = .ok (.ireturn, 1) := by decide +kernel
theorem dX2_methodsOfAll_0 : decode cX2_methodsOfAll 0 = .ok (.iconst 0, 1) := by decide +kernel
theorem dX2_methodsOfAll_1 : decode cX2_methodsOfAll 1 = .ok (.istore_n 1, 1) := by decide +kernel
theorem dX2_methodsOfAll_2 : decode cX2_methodsOfAll 2 = .ok (.iconst 0, 1) := by decide +kernel
theorem dX2_methodsOfAll_3 : decode cX2_methodsOfAll 3 = .ok (.istore_n 2, 1) := by decide +kernel
theorem dX2_methodsOfAll_4 : decode cX2_methodsOfAll 4 = .ok (.iload_n 2, 1) := by decide +kernel
theorem dX2_methodsOfAll_5 : decode cX2_methodsOfAll 5 = .ok (.aload_n 0, 1) := by decide +kernel
theorem dX2_methodsOfAll_6 : decode cX2_methodsOfAll 6 = .ok (.getfield 27, 3) := by decide +kernel
theorem dX2_methodsOfAll_9 : decode cX2_methodsOfAll 9 = .ok (.if_icmp .ge 24, 3) := by decide +kernel
theorem dX2_methodsOfAll_12 : decode cX2_methodsOfAll 12 = .ok (.iload_n 1, 1) := by decide +kernel
theorem dX2_methodsOfAll_13 : decode cX2_methodsOfAll 13 = .ok (.aload_n 0, 1) := by decide +kernel
theorem dX2_methodsOfAll_14 : decode cX2_methodsOfAll 14 = .ok (.getfield 18, 3) := by decide +kernel
theorem dX2_methodsOfAll_17 : decode cX2_methodsOfAll 17 = .ok (.iload_n 2, 1) := by decide +kernel
theorem dX2_methodsOfAll_18 : decode cX2_methodsOfAll 18 = .ok (.aaload, 1) := by decide +kernel
theorem dX2_methodsOfAll_19 : decode cX2_methodsOfAll 19 = .ok (.getfield 126, 3) := by decide +kernel
theorem dX2_methodsOfAll_22 : decode cX2_methodsOfAll 22 = .ok (.invokestatic 129, 3) := by decide +kernel
theorem dX2_methodsOfAll_25 : decode cX2_methodsOfAll 25 = .ok (.iadd, 1) := by decide +kernel
theorem dX2_methodsOfAll_26 : decode cX2_methodsOfAll 26 = .ok (.istore_n 1, 1) := by decide +kernel
theorem dX2_methodsOfAll_27 : decode cX2_methodsOfAll 27 = .ok (.iinc 2 1, 3) := by decide +kernel
theorem dX2_methodsOfAll_30 : decode cX2_methodsOfAll 30 = .ok (.goto (-26), 3) := by decide +kernel
theorem dX2_methodsOfAll_33 : decode cX2_methodsOfAll 33 = .ok (.iload_n 1, 1) := by decide +kernel
theorem dX2_methodsOfAll_34 : decode cX2_methodsOfAll 34 = .ok (.ireturn, 1) := by decide +kernel
theorem dX2_keptOfAll_0 : decode cX2_keptOfAll 0 = .ok (.iconst 0, 1) := by decide +kernel
theorem dX2_keptOfAll_1 : decode cX2_keptOfAll 1 = .ok (.istore_n 1, 1) := by decide +kernel
theorem dX2_keptOfAll_2 : decode cX2_keptOfAll 2 = .ok (.iconst 0, 1) := by decide +kernel
theorem dX2_keptOfAll_3 : decode cX2_keptOfAll 3 = .ok (.istore_n 2, 1) := by decide +kernel
theorem dX2_keptOfAll_4 : decode cX2_keptOfAll 4 = .ok (.iload_n 2, 1) := by decide +kernel
theorem dX2_keptOfAll_5 : decode cX2_keptOfAll 5 = .ok (.aload_n 0, 1) := by decide +kernel
theorem dX2_keptOfAll_6 : decode cX2_keptOfAll 6 = .ok (.getfield 27, 3) := by decide +kernel
theorem dX2_keptOfAll_9 : decode cX2_keptOfAll 9 = .ok (.if_icmp .ge 21, 3) := by decide +kernel
theorem dX2_keptOfAll_12 : decode cX2_keptOfAll 12 = .ok (.iload_n 1, 1) := by decide +kernel
theorem dX2_keptOfAll_13 : decode cX2_keptOfAll 13 = .ok (.aload_n 0, 1) := by decide +kernel
theorem dX2_keptOfAll_14 : decode cX2_keptOfAll 14 = .ok (.getfield 18, 3) := by decide +kernel
theorem dX2_keptOfAll_17 : decode cX2_keptOfAll 17 = .ok (.iload_n 2, 1) := by decide +kernel
theorem dX2_keptOfAll_18 : decode cX2_keptOfAll 18 = .ok (.aaload, 1) := by decide +kernel
theorem dX2_keptOfAll_19 : decode cX2_keptOfAll 19 = .ok (.getfield 135, 3) := by decide +kernel
theorem dX2_keptOfAll_22 : decode cX2_keptOfAll 22 = .ok (.iadd, 1) := by decide +kernel
theorem dX2_keptOfAll_23 : decode cX2_keptOfAll 23 = .ok (.istore_n 1, 1) := by decide +kernel
theorem dX2_keptOfAll_24 : decode cX2_keptOfAll 24 = .ok (.iinc 2 1, 3) := by decide +kernel
theorem dX2_keptOfAll_27 : decode cX2_keptOfAll 27 = .ok (.goto (-23), 3) := by decide +kernel
theorem dX2_keptOfAll_30 : decode cX2_keptOfAll 30 = .ok (.iload_n 1, 1) := by decide +kernel
theorem dX2_keptOfAll_31 : decode cX2_keptOfAll 31 = .ok (.ireturn, 1) := by decide +kernel
theorem dX2_firstOf_0 : decode cX2_firstOf 0 = .ok (.aload_n 0, 1) := by decide +kernel
theorem dX2_firstOf_1 : decode cX2_firstOf 1 = .ok (.getfield 31, 3) := by decide +kernel
theorem dX2_firstOf_4 : decode cX2_firstOf 4 = .ok (.ifCond .ne 11, 3) := by decide +kernel
theorem dX2_firstOf_7 : decode cX2_firstOf 7 = .ok (.aload_n 1, 1) := by decide +kernel
theorem dX2_firstOf_8 : decode cX2_firstOf 8 = .ok (.iload_n 3, 1) := by decide +kernel
theorem dX2_firstOf_9 : decode cX2_firstOf 9 = .ok (.invokevirtual 222, 3) := by decide +kernel
theorem dX2_firstOf_12 : decode cX2_firstOf 12 = .ok (.goto 10, 3) := by decide +kernel
theorem dX2_firstOf_15 : decode cX2_firstOf 15 = .ok (.aload_n 0, 1) := by decide +kernel
theorem dX2_firstOf_16 : decode cX2_firstOf 16 = .ok (.aload_n 1, 1) := by decide +kernel
theorem dX2_firstOf_17 : decode cX2_firstOf 17 = .ok (.iload_n 2, 1) := by decide +kernel
theorem dX2_firstOf_18 : decode cX2_firstOf 18 = .ok (.iload_n 3, 1) := by decide +kernel
theorem dX2_firstOf_19 : decode cX2_firstOf 19 = .ok (.invokevirtual 228, 3) := by decide +kernel
theorem dX2_firstOf_22 : decode cX2_firstOf 22 = .ok (.ireturn, 1) := by decide +kernel
theorem dX2_foremostOf_0 : decode cX2_foremostOf 0 = .ok (.iconst (-1), 1) := by decide +kernel
theorem dX2_foremostOf_1 : decode cX2_foremostOf 1 = .ok (.istore 4, 2) := by decide +kernel
theorem dX2_foremostOf_3 : decode cX2_foremostOf 3 = .ok (.iconst 0, 1) := by decide +kernel
theorem dX2_foremostOf_4 : decode cX2_foremostOf 4 = .ok (.istore 5, 2) := by decide +kernel
theorem dX2_foremostOf_6 : decode cX2_foremostOf 6 = .ok (.iload 5, 2) := by decide +kernel
theorem dX2_foremostOf_8 : decode cX2_foremostOf 8 = .ok (.bipush 12, 2) := by decide +kernel
theorem dX2_foremostOf_10 : decode cX2_foremostOf 10 = .ok (.if_icmp .gt 50, 3) := by decide +kernel
theorem dX2_foremostOf_13 : decode cX2_foremostOf 13 = .ok (.iload_n 3, 1) := by decide +kernel
theorem dX2_foremostOf_14 : decode cX2_foremostOf 14 = .ok (.iload 5, 2) := by decide +kernel
theorem dX2_foremostOf_16 : decode cX2_foremostOf 16 = .ok (.ishr, 1) := by decide +kernel
theorem dX2_foremostOf_17 : decode cX2_foremostOf 17 = .ok (.iconst 1, 1) := by decide +kernel
theorem dX2_foremostOf_18 : decode cX2_foremostOf 18 = .ok (.iand, 1) := by decide +kernel
theorem dX2_foremostOf_19 : decode cX2_foremostOf 19 = .ok (.ifCond .eq 35, 3) := by decide +kernel
theorem dX2_foremostOf_22 : decode cX2_foremostOf 22 = .ok (.iload 4, 2) := by decide +kernel
theorem dX2_foremostOf_24 : decode cX2_foremostOf 24 = .ok (.iconst (-1), 1) := by decide +kernel
theorem dX2_foremostOf_25 : decode cX2_foremostOf 25 = .ok (.if_icmp .eq 25, 3) := by decide +kernel
theorem dX2_foremostOf_28 : decode cX2_foremostOf 28 = .ok (.aload_n 0, 1) := by decide +kernel
theorem dX2_foremostOf_29 : decode cX2_foremostOf 29 = .ok (.iload_n 2, 1) := by decide +kernel
theorem dX2_foremostOf_30 : decode cX2_foremostOf 30 = .ok (.aload_n 1, 1) := by decide +kernel
theorem dX2_foremostOf_31 : decode cX2_foremostOf 31 = .ok (.getfield 174, 3) := by decide +kernel
theorem dX2_foremostOf_34 : decode cX2_foremostOf 34 = .ok (.iload 5, 2) := by decide +kernel
theorem dX2_foremostOf_36 : decode cX2_foremostOf 36 = .ok (.iaload, 1) := by decide +kernel
theorem dX2_foremostOf_37 : decode cX2_foremostOf 37 = .ok (.aload_n 1, 1) := by decide +kernel
theorem dX2_foremostOf_38 : decode cX2_foremostOf 38 = .ok (.getfield 174, 3) := by decide +kernel
theorem dX2_foremostOf_41 : decode cX2_foremostOf 41 = .ok (.iload 4, 2) := by decide +kernel
theorem dX2_foremostOf_43 : decode cX2_foremostOf 43 = .ok (.iaload, 1) := by decide +kernel
theorem dX2_foremostOf_44 : decode cX2_foremostOf 44 = .ok (.invokevirtual 231, 3) := by decide +kernel
theorem dX2_foremostOf_47 : decode cX2_foremostOf 47 = .ok (.ifCond .eq 7, 3) := by decide +kernel
theorem dX2_foremostOf_50 : decode cX2_foremostOf 50 = .ok (.iload 5, 2) := by decide +kernel
theorem dX2_foremostOf_52 : decode cX2_foremostOf 52 = .ok (.istore 4, 2) := by decide +kernel
theorem dX2_foremostOf_54 : decode cX2_foremostOf 54 = .ok (.iinc 5 1, 3) := by decide +kernel
theorem dX2_foremostOf_57 : decode cX2_foremostOf 57 = .ok (.goto (-51), 3) := by decide +kernel
theorem dX2_foremostOf_60 : decode cX2_foremostOf 60 = .ok (.iload 4, 2) := by decide +kernel
theorem dX2_foremostOf_62 : decode cX2_foremostOf 62 = .ok (.ireturn, 1) := by decide +kernel
theorem dX2_comesAhead_0 : decode cX2_comesAhead 0 = .ok (.iconst 0, 1) := by decide +kernel
theorem dX2_comesAhead_1 : decode cX2_comesAhead 1 = .ok (.istore 4, 2) := by decide +kernel
theorem dX2_comesAhead_3 : decode cX2_comesAhead 3 = .ok (.iload 4, 2) := by decide +kernel
theorem dX2_comesAhead_5 : decode cX2_comesAhead 5 = .ok (.iconst 3, 1) := by decide +kernel
theorem dX2_comesAhead_6 : decode cX2_comesAhead 6 = .ok (.if_icmp .ge 78, 3) := by decide +kernel
theorem dX2_comesAhead_9 : decode cX2_comesAhead 9 = .ok (.iload_n 2, 1) := by decide +kernel
theorem dX2_comesAhead_10 : decode cX2_comesAhead 10 = .ok (.iload 4, 2) := by decide +kernel
theorem dX2_comesAhead_12 : decode cX2_comesAhead 12 = .ok (.invokestatic 225, 3) := by decide +kernel
theorem dX2_comesAhead_15 : decode cX2_comesAhead 15 = .ok (.iload_n 3, 1) := by decide +kernel
theorem dX2_comesAhead_16 : decode cX2_comesAhead 16 = .ok (.iload 4, 2) := by decide +kernel
theorem dX2_comesAhead_18 : decode cX2_comesAhead 18 = .ok (.invokestatic 225, 3) := by decide +kernel
theorem dX2_comesAhead_21 : decode cX2_comesAhead 21 = .ok (.if_icmp .eq 57, 3) := by decide +kernel
theorem dX2_comesAhead_24 : decode cX2_comesAhead 24 = .ok (.bipush 16, 2) := by decide +kernel
theorem dX2_comesAhead_26 : decode cX2_comesAhead 26 = .ok (.iload_n 1, 1) := by decide +kernel
theorem dX2_comesAhead_27 : decode cX2_comesAhead 27 = .ok (.iload 4, 2) := by decide +kernel
theorem dX2_comesAhead_29 : decode cX2_comesAhead 29 = .ok (.invokestatic 225, 3) := by decide +kernel
theorem dX2_comesAhead_32 : decode cX2_comesAhead 32 = .ok (.imul, 1) := by decide +kernel
theorem dX2_comesAhead_33 : decode cX2_comesAhead 33 = .ok (.istore 5, 2) := by decide +kernel
theorem dX2_comesAhead_35 : decode cX2_comesAhead 35 = .ok (.aload_n 0, 1) := by decide +kernel
theorem dX2_comesAhead_36 : decode cX2_comesAhead 36 = .ok (.getfield 12, 3) := by decide +kernel
theorem dX2_comesAhead_39 : decode cX2_comesAhead 39 = .ok (.getfield 234, 3) := by decide +kernel
theorem dX2_comesAhead_42 : decode cX2_comesAhead 42 = .ok (.iload 5, 2) := by decide +kernel
theorem dX2_comesAhead_44 : decode cX2_comesAhead 44 = .ok (.iload_n 2, 1) := by decide +kernel
theorem dX2_comesAhead_45 : decode cX2_comesAhead 45 = .ok (.iload 4, 2) := by decide +kernel
theorem dX2_comesAhead_47 : decode cX2_comesAhead 47 = .ok (.invokestatic 225, 3) := by decide +kernel
theorem dX2_comesAhead_50 : decode cX2_comesAhead 50 = .ok (.iadd, 1) := by decide +kernel
theorem dX2_comesAhead_51 : decode cX2_comesAhead 51 = .ok (.iaload, 1) := by decide +kernel
theorem dX2_comesAhead_52 : decode cX2_comesAhead 52 = .ok (.aload_n 0, 1) := by decide +kernel
theorem dX2_comesAhead_53 : decode cX2_comesAhead 53 = .ok (.getfield 12, 3) := by decide +kernel
theorem dX2_comesAhead_56 : decode cX2_comesAhead 56 = .ok (.getfield 234, 3) := by decide +kernel
theorem dX2_comesAhead_59 : decode cX2_comesAhead 59 = .ok (.iload 5, 2) := by decide +kernel
theorem dX2_comesAhead_61 : decode cX2_comesAhead 61 = .ok (.iload_n 3, 1) := by decide +kernel
theorem dX2_comesAhead_62 : decode cX2_comesAhead 62 = .ok (.iload 4, 2) := by decide +kernel
theorem dX2_comesAhead_64 : decode cX2_comesAhead 64 = .ok (.invokestatic 225, 3) := by decide +kernel
theorem dX2_comesAhead_67 : decode cX2_comesAhead 67 = .ok (.iadd, 1) := by decide +kernel
theorem dX2_comesAhead_68 : decode cX2_comesAhead 68 = .ok (.iaload, 1) := by decide +kernel
theorem dX2_comesAhead_69 : decode cX2_comesAhead 69 = .ok (.if_icmp .ge 7, 3) := by decide +kernel
theorem dX2_comesAhead_72 : decode cX2_comesAhead 72 = .ok (.iconst 1, 1) := by decide +kernel
theorem dX2_comesAhead_73 : decode cX2_comesAhead 73 = .ok (.goto 4, 3) := by decide +kernel
theorem dX2_comesAhead_76 : decode cX2_comesAhead 76 = .ok (.iconst 0, 1) := by decide +kernel
theorem dX2_comesAhead_77 : decode cX2_comesAhead 77 = .ok (.ireturn, 1) := by decide +kernel
theorem dX2_comesAhead_78 : decode cX2_comesAhead 78 = .ok (.iinc 4 1, 3) := by decide +kernel
theorem dX2_comesAhead_81 : decode cX2_comesAhead 81 = .ok (.goto (-78), 3) := by decide +kernel
theorem dX2_comesAhead_84 : decode cX2_comesAhead 84 = .ok (.iconst 0, 1) := by decide +kernel
theorem dX2_comesAhead_85 : decode cX2_comesAhead 85 = .ok (.ireturn, 1) := by decide +kernel
theorem dX2_layChain_0 : decode cX2_layChain 0 = .ok (.aload_n 1, 1) := by decide +kernel
theorem dX2_layChain_1 : decode cX2_layChain 1 = .ok (.iload_n 2, 1) := by decide +kernel
theorem dX2_layChain_2 : decode cX2_layChain 2 = .ok (.invokevirtual 186, 3) := by decide +kernel
theorem dX2_layChain_5 : decode cX2_layChain 5 = .ok (.istore_n 3, 1) := by decide +kernel
theorem dX2_layChain_6 : decode cX2_layChain 6 = .ok (.aload_n 0, 1) := by decide +kernel
theorem dX2_layChain_7 : decode cX2_layChain 7 = .ok (.iconst 0, 1) := by decide +kernel
theorem dX2_layChain_8 : decode cX2_layChain 8 = .ok (.putfield 44, 3) := by decide +kernel
theorem dX2_layChain_11 : decode cX2_layChain 11 = .ok (.iconst 0, 1) := by decide +kernel
theorem dX2_layChain_12 : decode cX2_layChain 12 = .ok (.istore 4, 2) := by decide +kernel
theorem dX2_layChain_14 : decode cX2_layChain 14 = .ok (.iload 4, 2) := by decide +kernel
theorem dX2_layChain_16 : decode cX2_layChain 16 = .ok (.bipush 12, 2) := by decide +kernel
theorem dX2_layChain_18 : decode cX2_layChain 18 = .ok (.if_icmp .ge 54, 3) := by decide +kernel
theorem dX2_layChain_21 : decode cX2_layChain 21 = .ok (.aload_n 0, 1) := by decide +kernel
theorem dX2_layChain_22 : decode cX2_layChain 22 = .ok (.aload_n 1, 1) := by decide +kernel
theorem dX2_layChain_23 : decode cX2_layChain 23 = .ok (.iload_n 2, 1) := by decide +kernel
theorem dX2_layChain_24 : decode cX2_layChain 24 = .ok (.iload_n 3, 1) := by decide +kernel
theorem dX2_layChain_25 : decode cX2_layChain 25 = .ok (.invokevirtual 189, 3) := by decide +kernel
theorem dX2_layChain_28 : decode cX2_layChain 28 = .ok (.istore 5, 2) := by decide +kernel
theorem dX2_layChain_30 : decode cX2_layChain 30 = .ok (.iload 5, 2) := by decide +kernel
theorem dX2_layChain_32 : decode cX2_layChain 32 = .ok (.ifCond .ge 6, 3) := by decide +kernel
theorem dX2_layChain_35 : decode cX2_layChain 35 = .ok (.goto 37, 3) := by decide +kernel
theorem dX2_layChain_38 : decode cX2_layChain 38 = .ok (.aload_n 0, 1) := by decide +kernel
theorem dX2_layChain_39 : decode cX2_layChain 39 = .ok (.getfield 40, 3) := by decide +kernel
theorem dX2_layChain_42 : decode cX2_layChain 42 = .ok (.iload 4, 2) := by decide +kernel
theorem dX2_layChain_44 : decode cX2_layChain 44 = .ok (.iload 5, 2) := by decide +kernel
theorem dX2_layChain_46 : decode cX2_layChain 46 = .ok (.iastore, 1) := by decide +kernel
theorem dX2_layChain_47 : decode cX2_layChain 47 = .ok (.aload_n 0, 1) := by decide +kernel
theorem dX2_layChain_48 : decode cX2_layChain 48 = .ok (.dup, 1) := by decide +kernel
theorem dX2_layChain_49 : decode cX2_layChain 49 = .ok (.getfield 44, 3) := by decide +kernel
theorem dX2_layChain_52 : decode cX2_layChain 52 = .ok (.iconst 1, 1) := by decide +kernel
theorem dX2_layChain_53 : decode cX2_layChain 53 = .ok (.iadd, 1) := by decide +kernel
theorem dX2_layChain_54 : decode cX2_layChain 54 = .ok (.putfield 44, 3) := by decide +kernel
theorem dX2_layChain_57 : decode cX2_layChain 57 = .ok (.iload_n 3, 1) := by decide +kernel
theorem dX2_layChain_58 : decode cX2_layChain 58 = .ok (.iconst 1, 1) := by decide +kernel
theorem dX2_layChain_59 : decode cX2_layChain 59 = .ok (.iload 5, 2) := by decide +kernel
theorem dX2_layChain_61 : decode cX2_layChain 61 = .ok (.ishl, 1) := by decide +kernel
theorem dX2_layChain_62 : decode cX2_layChain 62 = .ok (.iconst (-1), 1) := by decide +kernel
theorem dX2_layChain_63 : decode cX2_layChain 63 = .ok (.ixor, 1) := by decide +kernel
theorem dX2_layChain_64 : decode cX2_layChain 64 = .ok (.iand, 1) := by decide +kernel
theorem dX2_layChain_65 : decode cX2_layChain 65 = .ok (.istore_n 3, 1) := by decide +kernel
theorem dX2_layChain_66 : decode cX2_layChain 66 = .ok (.iinc 4 1, 3) := by decide +kernel
theorem dX2_layChain_69 : decode cX2_layChain 69 = .ok (.goto (-55), 3) := by decide +kernel
theorem dX2_layChain_72 : decode cX2_layChain 72 = .ok (.iload_n 3, 1) := by decide +kernel
theorem dX2_layChain_73 : decode cX2_layChain 73 = .ok (.ireturn, 1) := by decide +kernel
theorem dX2_callCount_0 : decode cX2_callCount 0 = .ok (.iconst 1, 1) := by decide +kernel
theorem dX2_callCount_1 : decode cX2_callCount 1 = .ok (.istore_n 2, 1) := by decide +kernel
theorem dX2_callCount_2 : decode cX2_callCount 2 = .ok (.iconst 0, 1) := by decide +kernel
theorem dX2_callCount_3 : decode cX2_callCount 3 = .ok (.istore_n 3, 1) := by decide +kernel
theorem dX2_callCount_4 : decode cX2_callCount 4 = .ok (.iload_n 3, 1) := by decide +kernel
theorem dX2_callCount_5 : decode cX2_callCount 5 = .ok (.aload_n 1, 1) := by decide +kernel
theorem dX2_callCount_6 : decode cX2_callCount 6 = .ok (.getfield 93, 3) := by decide +kernel
theorem dX2_callCount_9 : decode cX2_callCount 9 = .ok (.if_icmp .ge 19, 3) := by decide +kernel
theorem dX2_callCount_12 : decode cX2_callCount 12 = .ok (.iload_n 2, 1) := by decide +kernel
theorem dX2_callCount_13 : decode cX2_callCount 13 = .ok (.aload_n 0, 1) := by decide +kernel
theorem dX2_callCount_14 : decode cX2_callCount 14 = .ok (.getfield 12, 3) := by decide +kernel
theorem dX2_callCount_17 : decode cX2_callCount 17 = .ok (.getfield 57, 3) := by decide +kernel
theorem dX2_callCount_20 : decode cX2_callCount 20 = .ok (.imul, 1) := by decide +kernel
theorem dX2_callCount_21 : decode cX2_callCount 21 = .ok (.istore_n 2, 1) := by decide +kernel
theorem dX2_callCount_22 : decode cX2_callCount 22 = .ok (.iinc 3 1, 3) := by decide +kernel
theorem dX2_callCount_25 : decode cX2_callCount 25 = .ok (.goto (-21), 3) := by decide +kernel
theorem dX2_callCount_28 : decode cX2_callCount 28 = .ok (.iload_n 2, 1) := by decide +kernel
theorem dX2_callCount_29 : decode cX2_callCount 29 = .ok (.ireturn, 1) := by decide +kernel
theorem dX2_fillAnswers_0 : decode cX2_fillAnswers 0 = .ok (.aload_n 0, 1) := by decide +kernel
theorem dX2_fillAnswers_1 : decode cX2_fillAnswers 1 = .ok (.getfield 50, 3) := by decide +kernel
theorem dX2_fillAnswers_4 : decode cX2_fillAnswers 4 = .ok (.iload_n 1, 1) := by decide +kernel
theorem dX2_fillAnswers_5 : decode cX2_fillAnswers 5 = .ok (.if_icmp .ne 4, 3) := by decide +kernel
theorem dX2_fillAnswers_8 : decode cX2_fillAnswers 8 = .ok (.return_, 1) := by decide +kernel
theorem dX2_fillAnswers_9 : decode cX2_fillAnswers 9 = .ok (.aload_n 0, 1) := by decide +kernel
theorem dX2_fillAnswers_10 : decode cX2_fillAnswers 10 = .ok (.getfield 18, 3) := by decide +kernel
theorem dX2_fillAnswers_13 : decode cX2_fillAnswers 13 = .ok (.iload_n 1, 1) := by decide +kernel
theorem dX2_fillAnswers_14 : decode cX2_fillAnswers 14 = .ok (.aaload, 1) := by decide +kernel
theorem dX2_fillAnswers_15 : decode cX2_fillAnswers 15 = .ok (.astore_n 2, 1) := by decide +kernel
theorem dX2_fillAnswers_16 : decode cX2_fillAnswers 16 = .ok (.aload_n 0, 1) := by decide +kernel
theorem dX2_fillAnswers_17 : decode cX2_fillAnswers 17 = .ok (.aload_n 2, 1) := by decide +kernel
theorem dX2_fillAnswers_18 : decode cX2_fillAnswers 18 = .ok (.invokevirtual 147, 3) := by decide +kernel
theorem dX2_fillAnswers_21 : decode cX2_fillAnswers 21 = .ok (.istore_n 3, 1) := by decide +kernel
theorem dX2_fillAnswers_22 : decode cX2_fillAnswers 22 = .ok (.iconst 0, 1) := by decide +kernel
theorem dX2_fillAnswers_23 : decode cX2_fillAnswers 23 = .ok (.istore 4, 2) := by decide +kernel
theorem dX2_fillAnswers_25 : decode cX2_fillAnswers 25 = .ok (.iconst 0, 1) := by decide +kernel
theorem dX2_fillAnswers_26 : decode cX2_fillAnswers 26 = .ok (.istore 5, 2) := by decide +kernel
theorem dX2_fillAnswers_28 : decode cX2_fillAnswers 28 = .ok (.iload 4, 2) := by decide +kernel
theorem dX2_fillAnswers_30 : decode cX2_fillAnswers 30 = .ok (.iload_n 3, 1) := by decide +kernel
theorem dX2_fillAnswers_31 : decode cX2_fillAnswers 31 = .ok (.if_icmp .ge 40, 3) := by decide +kernel
theorem dX2_fillAnswers_34 : decode cX2_fillAnswers 34 = .ok (.aload_n 0, 1) := by decide +kernel
theorem dX2_fillAnswers_35 : decode cX2_fillAnswers 35 = .ok (.getfield 47, 3) := by decide +kernel
theorem dX2_fillAnswers_38 : decode cX2_fillAnswers 38 = .ok (.iload 5, 2) := by decide +kernel
theorem dX2_fillAnswers_40 : decode cX2_fillAnswers 40 = .ok (.aload_n 0, 1) := by decide +kernel
theorem dX2_fillAnswers_41 : decode cX2_fillAnswers 41 = .ok (.aload_n 2, 1) := by decide +kernel
theorem dX2_fillAnswers_42 : decode cX2_fillAnswers 42 = .ok (.iload 5, 2) := by decide +kernel
theorem dX2_fillAnswers_44 : decode cX2_fillAnswers 44 = .ok (.aload_n 2, 1) := by decide +kernel
theorem dX2_fillAnswers_45 : decode cX2_fillAnswers 45 = .ok (.iload 5, 2) := by decide +kernel
theorem dX2_fillAnswers_47 : decode cX2_fillAnswers 47 = .ok (.invokevirtual 186, 3) := by decide +kernel
theorem dX2_fillAnswers_50 : decode cX2_fillAnswers 50 = .ok (.invokevirtual 189, 3) := by decide +kernel
theorem dX2_fillAnswers_53 : decode cX2_fillAnswers 53 = .ok (.iastore, 1) := by decide +kernel
theorem dX2_fillAnswers_54 : decode cX2_fillAnswers 54 = .ok (.iinc 4 1, 3) := by decide +kernel
theorem dX2_fillAnswers_57 : decode cX2_fillAnswers 57 = .ok (.aload_n 0, 1) := by decide +kernel
theorem dX2_fillAnswers_58 : decode cX2_fillAnswers 58 = .ok (.getfield 12, 3) := by decide +kernel
theorem dX2_fillAnswers_61 : decode cX2_fillAnswers 61 = .ok (.iload 5, 2) := by decide +kernel
theorem dX2_fillAnswers_63 : decode cX2_fillAnswers 63 = .ok (.invokevirtual 209, 3) := by decide +kernel
theorem dX2_fillAnswers_66 : decode cX2_fillAnswers 66 = .ok (.istore 5, 2) := by decide +kernel
theorem dX2_fillAnswers_68 : decode cX2_fillAnswers 68 = .ok (.goto (-40), 3) := by decide +kernel
theorem dX2_fillAnswers_71 : decode cX2_fillAnswers 71 = .ok (.aload_n 0, 1) := by decide +kernel
theorem dX2_fillAnswers_72 : decode cX2_fillAnswers 72 = .ok (.iload_n 1, 1) := by decide +kernel
theorem dX2_fillAnswers_73 : decode cX2_fillAnswers 73 = .ok (.putfield 50, 3) := by decide +kernel
theorem dX2_fillAnswers_76 : decode cX2_fillAnswers 76 = .ok (.return_, 1) := by decide +kernel
theorem dX2_callsAnswered_0 : decode cX2_callsAnswered 0 = .ok (.aload_n 0, 1) := by decide +kernel
theorem dX2_callsAnswered_1 : decode cX2_callsAnswered 1 = .ok (.iload_n 1, 1) := by decide +kernel
theorem dX2_callsAnswered_2 : decode cX2_callsAnswered 2 = .ok (.invokevirtual 212, 3) := by decide +kernel
theorem dX2_callsAnswered_5 : decode cX2_callsAnswered 5 = .ok (.iconst 0, 1) := by decide +kernel
theorem dX2_callsAnswered_6 : decode cX2_callsAnswered 6 = .ok (.istore_n 3, 1) := by decide +kernel
theorem dX2_callsAnswered_7 : decode cX2_callsAnswered 7 = .ok (.aload_n 0, 1) := by decide +kernel
theorem dX2_callsAnswered_8 : decode cX2_callsAnswered 8 = .ok (.aload_n 0, 1) := by decide +kernel
theorem dX2_callsAnswered_9 : decode cX2_callsAnswered 9 = .ok (.getfield 18, 3) := by decide +kernel
theorem dX2_callsAnswered_12 : decode cX2_callsAnswered 12 = .ok (.iload_n 1, 1) := by decide +kernel
theorem dX2_callsAnswered_13 : decode cX2_callsAnswered 13 = .ok (.aaload, 1) := by decide +kernel
theorem dX2_callsAnswered_14 : decode cX2_callsAnswered 14 = .ok (.invokevirtual 147, 3) := by decide +kernel
theorem dX2_callsAnswered_17 : decode cX2_callsAnswered 17 = .ok (.istore 4, 2) := by decide +kernel
theorem dX2_callsAnswered_19 : decode cX2_callsAnswered 19 = .ok (.iconst 0, 1) := by decide +kernel
theorem dX2_callsAnswered_20 : decode cX2_callsAnswered 20 = .ok (.istore 5, 2) := by decide +kernel
theorem dX2_callsAnswered_22 : decode cX2_callsAnswered 22 = .ok (.iconst 0, 1) := by decide +kernel
theorem dX2_callsAnswered_23 : decode cX2_callsAnswered 23 = .ok (.istore 6, 2) := by decide +kernel
theorem dX2_callsAnswered_25 : decode cX2_callsAnswered 25 = .ok (.iload 5, 2) := by decide +kernel
theorem dX2_callsAnswered_27 : decode cX2_callsAnswered 27 = .ok (.iload 4, 2) := by decide +kernel
theorem dX2_callsAnswered_29 : decode cX2_callsAnswered 29 = .ok (.if_icmp .ge 34, 3) := by decide +kernel
theorem dX2_callsAnswered_32 : decode cX2_callsAnswered 32 = .ok (.aload_n 0, 1) := by decide +kernel
theorem dX2_callsAnswered_33 : decode cX2_callsAnswered 33 = .ok (.getfield 47, 3) := by decide +kernel
theorem dX2_callsAnswered_36 : decode cX2_callsAnswered 36 = .ok (.iload 6, 2) := by decide +kernel
theorem dX2_callsAnswered_38 : decode cX2_callsAnswered 38 = .ok (.iaload, 1) := by decide +kernel
theorem dX2_callsAnswered_39 : decode cX2_callsAnswered 39 = .ok (.iload_n 2, 1) := by decide +kernel
theorem dX2_callsAnswered_40 : decode cX2_callsAnswered 40 = .ok (.if_icmp .ne 6, 3) := by decide +kernel
theorem dX2_callsAnswered_43 : decode cX2_callsAnswered 43 = .ok (.iinc 3 1, 3) := by decide +kernel
theorem dX2_callsAnswered_46 : decode cX2_callsAnswered 46 = .ok (.iinc 5 1, 3) := by decide +kernel
theorem dX2_callsAnswered_49 : decode cX2_callsAnswered 49 = .ok (.aload_n 0, 1) := by decide +kernel
theorem dX2_callsAnswered_50 : decode cX2_callsAnswered 50 = .ok (.getfield 12, 3) := by decide +kernel
theorem dX2_callsAnswered_53 : decode cX2_callsAnswered 53 = .ok (.iload 6, 2) := by decide +kernel
theorem dX2_callsAnswered_55 : decode cX2_callsAnswered 55 = .ok (.invokevirtual 209, 3) := by decide +kernel
theorem dX2_callsAnswered_58 : decode cX2_callsAnswered 58 = .ok (.istore 6, 2) := by decide +kernel
theorem dX2_callsAnswered_60 : decode cX2_callsAnswered 60 = .ok (.goto (-35), 3) := by decide +kernel
theorem dX2_callsAnswered_63 : decode cX2_callsAnswered 63 = .ok (.iload_n 3, 1) := by decide +kernel
theorem dX2_callsAnswered_64 : decode cX2_callsAnswered 64 = .ok (.ireturn, 1) := by decide +kernel
theorem dX2_callsTaken_0 : decode cX2_callsTaken 0 = .ok (.iconst 0, 1) := by decide +kernel
theorem dX2_callsTaken_1 : decode cX2_callsTaken 1 = .ok (.istore_n 3, 1) := by decide +kernel
theorem dX2_callsTaken_2 : decode cX2_callsTaken 2 = .ok (.aload_n 0, 1) := by decide +kernel
theorem dX2_callsTaken_3 : decode cX2_callsTaken 3 = .ok (.aload_n 1, 1) := by decide +kernel
theorem dX2_callsTaken_4 : decode cX2_callsTaken 4 = .ok (.invokevirtual 147, 3) := by decide +kernel
theorem dX2_callsTaken_7 : decode cX2_callsTaken 7 = .ok (.istore 4, 2) := by decide +kernel
theorem dX2_callsTaken_9 : decode cX2_callsTaken 9 = .ok (.iconst 0, 1) := by decide +kernel
theorem dX2_callsTaken_10 : decode cX2_callsTaken 10 = .ok (.istore 5, 2) := by decide +kernel
theorem dX2_callsTaken_12 : decode cX2_callsTaken 12 = .ok (.iconst 0, 1) := by decide +kernel
theorem dX2_callsTaken_13 : decode cX2_callsTaken 13 = .ok (.istore 6, 2) := by decide +kernel
theorem dX2_callsTaken_15 : decode cX2_callsTaken 15 = .ok (.iload 5, 2) := by decide +kernel
theorem dX2_callsTaken_17 : decode cX2_callsTaken 17 = .ok (.iload 4, 2) := by decide +kernel
theorem dX2_callsTaken_19 : decode cX2_callsTaken 19 = .ok (.if_icmp .ge 33, 3) := by decide +kernel
theorem dX2_callsTaken_22 : decode cX2_callsTaken 22 = .ok (.iload_n 3, 1) := by decide +kernel
theorem dX2_callsTaken_23 : decode cX2_callsTaken 23 = .ok (.aload_n 1, 1) := by decide +kernel
theorem dX2_callsTaken_24 : decode cX2_callsTaken 24 = .ok (.iload 6, 2) := by decide +kernel
theorem dX2_callsTaken_26 : decode cX2_callsTaken 26 = .ok (.invokevirtual 186, 3) := by decide +kernel
theorem dX2_callsTaken_29 : decode cX2_callsTaken 29 = .ok (.iload_n 2, 1) := by decide +kernel
theorem dX2_callsTaken_30 : decode cX2_callsTaken 30 = .ok (.ishr, 1) := by decide +kernel
theorem dX2_callsTaken_31 : decode cX2_callsTaken 31 = .ok (.iconst 1, 1) := by decide +kernel
theorem dX2_callsTaken_32 : decode cX2_callsTaken 32 = .ok (.iand, 1) := by decide +kernel
theorem dX2_callsTaken_33 : decode cX2_callsTaken 33 = .ok (.iadd, 1) := by decide +kernel
theorem dX2_callsTaken_34 : decode cX2_callsTaken 34 = .ok (.istore_n 3, 1) := by decide +kernel
theorem dX2_callsTaken_35 : decode cX2_callsTaken 35 = .ok (.iinc 5 1, 3) := by decide +kernel
theorem dX2_callsTaken_38 : decode cX2_callsTaken 38 = .ok (.aload_n 0, 1) := by decide +kernel
theorem dX2_callsTaken_39 : decode cX2_callsTaken 39 = .ok (.getfield 12, 3) := by decide +kernel
theorem dX2_callsTaken_42 : decode cX2_callsTaken 42 = .ok (.iload 6, 2) := by decide +kernel
theorem dX2_callsTaken_44 : decode cX2_callsTaken 44 = .ok (.invokevirtual 209, 3) := by decide +kernel
theorem dX2_callsTaken_47 : decode cX2_callsTaken 47 = .ok (.istore 6, 2) := by decide +kernel
theorem dX2_callsTaken_49 : decode cX2_callsTaken 49 = .ok (.goto (-34), 3) := by decide +kernel
theorem dX2_callsTaken_52 : decode cX2_callsTaken 52 = .ok (.iload_n 3, 1) := by decide +kernel
theorem dX2_callsTaken_53 : decode cX2_callsTaken 53 = .ok (.ireturn, 1) := by decide +kernel
theorem dX2_ambiguousCalls_0 : decode cX2_ambiguousCalls 0 = .ok (.iconst 0, 1) := by decide +kernel
theorem dX2_ambiguousCalls_1 : decode cX2_ambiguousCalls 1 = .ok (.istore_n 2, 1) := by decide +kernel
theorem dX2_ambiguousCalls_2 : decode cX2_ambiguousCalls 2 = .ok (.aload_n 0, 1) := by decide +kernel
theorem dX2_ambiguousCalls_3 : decode cX2_ambiguousCalls 3 = .ok (.aload_n 1, 1) := by decide +kernel
theorem dX2_ambiguousCalls_4 : decode cX2_ambiguousCalls 4 = .ok (.invokevirtual 147, 3) := by decide +kernel
theorem dX2_ambiguousCalls_7 : decode cX2_ambiguousCalls 7 = .ok (.istore_n 3, 1) := by decide +kernel
theorem dX2_ambiguousCalls_8 : decode cX2_ambiguousCalls 8 = .ok (.iconst 0, 1) := by decide +kernel
theorem dX2_ambiguousCalls_9 : decode cX2_ambiguousCalls 9 = .ok (.istore 4, 2) := by decide +kernel
theorem dX2_ambiguousCalls_11 : decode cX2_ambiguousCalls 11 = .ok (.iconst 0, 1) := by decide +kernel
theorem dX2_ambiguousCalls_12 : decode cX2_ambiguousCalls 12 = .ok (.istore 5, 2) := by decide +kernel
theorem dX2_ambiguousCalls_14 : decode cX2_ambiguousCalls 14 = .ok (.iload 4, 2) := by decide +kernel
theorem dX2_ambiguousCalls_16 : decode cX2_ambiguousCalls 16 = .ok (.iload_n 3, 1) := by decide +kernel
theorem dX2_ambiguousCalls_17 : decode cX2_ambiguousCalls 17 = .ok (.if_icmp .ge 38, 3) := by decide +kernel
theorem dX2_ambiguousCalls_20 : decode cX2_ambiguousCalls 20 = .ok (.aload_n 1, 1) := by decide +kernel
theorem dX2_ambiguousCalls_21 : decode cX2_ambiguousCalls 21 = .ok (.aload_n 1, 1) := by decide +kernel
theorem dX2_ambiguousCalls_22 : decode cX2_ambiguousCalls 22 = .ok (.iload 5, 2) := by decide +kernel
theorem dX2_ambiguousCalls_24 : decode cX2_ambiguousCalls 24 = .ok (.invokevirtual 186, 3) := by decide +kernel
theorem dX2_ambiguousCalls_27 : decode cX2_ambiguousCalls 27 = .ok (.invokevirtual 222, 3) := by decide +kernel
theorem dX2_ambiguousCalls_30 : decode cX2_ambiguousCalls 30 = .ok (.bipush (-2), 2) := by decide +kernel
theorem dX2_ambiguousCalls_32 : decode cX2_ambiguousCalls 32 = .ok (.if_icmp .ne 6, 3) := by decide +kernel
theorem dX2_ambiguousCalls_35 : decode cX2_ambiguousCalls 35 = .ok (.iinc 2 1, 3) := by decide +kernel
theorem dX2_ambiguousCalls_38 : decode cX2_ambiguousCalls 38 = .ok (.iinc 4 1, 3) := by decide +kernel
theorem dX2_ambiguousCalls_41 : decode cX2_ambiguousCalls 41 = .ok (.aload_n 0, 1) := by decide +kernel
theorem dX2_ambiguousCalls_42 : decode cX2_ambiguousCalls 42 = .ok (.getfield 12, 3) := by decide +kernel
theorem dX2_ambiguousCalls_45 : decode cX2_ambiguousCalls 45 = .ok (.iload 5, 2) := by decide +kernel
theorem dX2_ambiguousCalls_47 : decode cX2_ambiguousCalls 47 = .ok (.invokevirtual 209, 3) := by decide +kernel
theorem dX2_ambiguousCalls_50 : decode cX2_ambiguousCalls 50 = .ok (.istore 5, 2) := by decide +kernel
theorem dX2_ambiguousCalls_52 : decode cX2_ambiguousCalls 52 = .ok (.goto (-38), 3) := by decide +kernel
theorem dX2_ambiguousCalls_55 : decode cX2_ambiguousCalls 55 = .ok (.iload_n 2, 1) := by decide +kernel
theorem dX2_ambiguousCalls_56 : decode cX2_ambiguousCalls 56 = .ok (.ireturn, 1) := by decide +kernel
theorem dX2_idleMethods_0 : decode cX2_idleMethods 0 = .ok (.aload_n 0, 1) := by decide +kernel
theorem dX2_idleMethods_1 : decode cX2_idleMethods 1 = .ok (.iload_n 1, 1) := by decide +kernel
theorem dX2_idleMethods_2 : decode cX2_idleMethods 2 = .ok (.invokevirtual 212, 3) := by decide +kernel
theorem dX2_idleMethods_5 : decode cX2_idleMethods 5 = .ok (.aload_n 0, 1) := by decide +kernel
theorem dX2_idleMethods_6 : decode cX2_idleMethods 6 = .ok (.getfield 18, 3) := by decide +kernel
theorem dX2_idleMethods_9 : decode cX2_idleMethods 9 = .ok (.iload_n 1, 1) := by decide +kernel
theorem dX2_idleMethods_10 : decode cX2_idleMethods 10 = .ok (.aaload, 1) := by decide +kernel
theorem dX2_idleMethods_11 : decode cX2_idleMethods 11 = .ok (.astore_n 2, 1) := by decide +kernel
theorem dX2_idleMethods_12 : decode cX2_idleMethods 12 = .ok (.aload_n 2, 1) := by decide +kernel
theorem dX2_idleMethods_13 : decode cX2_idleMethods 13 = .ok (.getfield 126, 3) := by decide +kernel
theorem dX2_idleMethods_16 : decode cX2_idleMethods 16 = .ok (.istore_n 3, 1) := by decide +kernel
theorem dX2_idleMethods_17 : decode cX2_idleMethods 17 = .ok (.aload_n 0, 1) := by decide +kernel
theorem dX2_idleMethods_18 : decode cX2_idleMethods 18 = .ok (.aload_n 2, 1) := by decide +kernel
theorem dX2_idleMethods_19 : decode cX2_idleMethods 19 = .ok (.invokevirtual 147, 3) := by decide +kernel
theorem dX2_idleMethods_22 : decode cX2_idleMethods 22 = .ok (.istore 4, 2) := by decide +kernel
theorem dX2_idleMethods_24 : decode cX2_idleMethods 24 = .ok (.iconst 0, 1) := by decide +kernel
theorem dX2_idleMethods_25 : decode cX2_idleMethods 25 = .ok (.istore 5, 2) := by decide +kernel
theorem dX2_idleMethods_27 : decode cX2_idleMethods 27 = .ok (.iconst 0, 1) := by decide +kernel
theorem dX2_idleMethods_28 : decode cX2_idleMethods 28 = .ok (.istore 6, 2) := by decide +kernel
theorem dX2_idleMethods_30 : decode cX2_idleMethods 30 = .ok (.iload 5, 2) := by decide +kernel
theorem dX2_idleMethods_32 : decode cX2_idleMethods 32 = .ok (.iload 4, 2) := by decide +kernel
theorem dX2_idleMethods_34 : decode cX2_idleMethods 34 = .ok (.if_icmp .ge 44, 3) := by decide +kernel
theorem dX2_idleMethods_37 : decode cX2_idleMethods 37 = .ok (.aload_n 0, 1) := by decide +kernel
theorem dX2_idleMethods_38 : decode cX2_idleMethods 38 = .ok (.getfield 47, 3) := by decide +kernel
theorem dX2_idleMethods_41 : decode cX2_idleMethods 41 = .ok (.iload 6, 2) := by decide +kernel
theorem dX2_idleMethods_43 : decode cX2_idleMethods 43 = .ok (.iaload, 1) := by decide +kernel
theorem dX2_idleMethods_44 : decode cX2_idleMethods 44 = .ok (.ifCond .lt 17, 3) := by decide +kernel
theorem dX2_idleMethods_47 : decode cX2_idleMethods 47 = .ok (.iload_n 3, 1) := by decide +kernel
theorem dX2_idleMethods_48 : decode cX2_idleMethods 48 = .ok (.iconst 1, 1) := by decide +kernel
theorem dX2_idleMethods_49 : decode cX2_idleMethods 49 = .ok (.aload_n 0, 1) := by decide +kernel
theorem dX2_idleMethods_50 : decode cX2_idleMethods 50 = .ok (.getfield 47, 3) := by decide +kernel
theorem dX2_idleMethods_53 : decode cX2_idleMethods 53 = .ok (.iload 6, 2) := by decide +kernel
theorem dX2_idleMethods_55 : decode cX2_idleMethods 55 = .ok (.iaload, 1) := by decide +kernel
theorem dX2_idleMethods_56 : decode cX2_idleMethods 56 = .ok (.ishl, 1) := by decide +kernel
theorem dX2_idleMethods_57 : decode cX2_idleMethods 57 = .ok (.iconst (-1), 1) := by decide +kernel
theorem dX2_idleMethods_58 : decode cX2_idleMethods 58 = .ok (.ixor, 1) := by decide +kernel
theorem dX2_idleMethods_59 : decode cX2_idleMethods 59 = .ok (.iand, 1) := by decide +kernel
theorem dX2_idleMethods_60 : decode cX2_idleMethods 60 = .ok (.istore_n 3, 1) := by decide +kernel
theorem dX2_idleMethods_61 : decode cX2_idleMethods 61 = .ok (.iinc 5 1, 3) := by decide +kernel
theorem dX2_idleMethods_64 : decode cX2_idleMethods 64 = .ok (.aload_n 0, 1) := by decide +kernel
theorem dX2_idleMethods_65 : decode cX2_idleMethods 65 = .ok (.getfield 12, 3) := by decide +kernel
theorem dX2_idleMethods_68 : decode cX2_idleMethods 68 = .ok (.iload 6, 2) := by decide +kernel
theorem dX2_idleMethods_70 : decode cX2_idleMethods 70 = .ok (.invokevirtual 209, 3) := by decide +kernel
theorem dX2_idleMethods_73 : decode cX2_idleMethods 73 = .ok (.istore 6, 2) := by decide +kernel
theorem dX2_idleMethods_75 : decode cX2_idleMethods 75 = .ok (.goto (-45), 3) := by decide +kernel
theorem dX2_idleMethods_78 : decode cX2_idleMethods 78 = .ok (.iload_n 3, 1) := by decide +kernel
theorem dX2_idleMethods_79 : decode cX2_idleMethods 79 = .ok (.ireturn, 1) := by decide +kernel
theorem dX2_greatestMarked_0 : decode cX2_greatestMarked 0 = .ok (.iconst 0, 1) := by decide +kernel
theorem dX2_greatestMarked_1 : decode cX2_greatestMarked 1 = .ok (.istore 4, 2) := by decide +kernel
theorem dX2_greatestMarked_3 : decode cX2_greatestMarked 3 = .ok (.aload_n 0, 1) := by decide +kernel
theorem dX2_greatestMarked_4 : decode cX2_greatestMarked 4 = .ok (.aload_n 1, 1) := by decide +kernel
theorem dX2_greatestMarked_5 : decode cX2_greatestMarked 5 = .ok (.invokevirtual 147, 3) := by decide +kernel
theorem dX2_greatestMarked_8 : decode cX2_greatestMarked 8 = .ok (.istore 5, 2) := by decide +kernel
theorem dX2_greatestMarked_10 : decode cX2_greatestMarked 10 = .ok (.iconst 0, 1) := by decide +kernel
theorem dX2_greatestMarked_11 : decode cX2_greatestMarked 11 = .ok (.istore 6, 2) := by decide +kernel
theorem dX2_greatestMarked_13 : decode cX2_greatestMarked 13 = .ok (.iconst 0, 1) := by decide +kernel
theorem dX2_greatestMarked_14 : decode cX2_greatestMarked 14 = .ok (.istore 7, 2) := by decide +kernel
theorem dX2_greatestMarked_16 : decode cX2_greatestMarked 16 = .ok (.iload 6, 2) := by decide +kernel
theorem dX2_greatestMarked_18 : decode cX2_greatestMarked 18 = .ok (.iload 5, 2) := by decide +kernel
theorem dX2_greatestMarked_20 : decode cX2_greatestMarked 20 = .ok (.if_icmp .ge 115, 3) := by decide +kernel
theorem dX2_greatestMarked_23 : decode cX2_greatestMarked 23 = .ok (.iload 4, 2) := by decide +kernel
theorem dX2_greatestMarked_25 : decode cX2_greatestMarked 25 = .ok (.ifCond .le 16, 3) := by decide +kernel
theorem dX2_greatestMarked_28 : decode cX2_greatestMarked 28 = .ok (.aload_n 0, 1) := by decide +kernel
theorem dX2_greatestMarked_29 : decode cX2_greatestMarked 29 = .ok (.iload 7, 2) := by decide +kernel
theorem dX2_greatestMarked_31 : decode cX2_greatestMarked 31 = .ok (.invokevirtual 237, 3) := by decide +kernel
theorem dX2_greatestMarked_34 : decode cX2_greatestMarked 34 = .ok (.ifCond .eq 7, 3) := by decide +kernel
theorem dX2_greatestMarked_37 : decode cX2_greatestMarked 37 = .ok (.iconst 1, 1) := by decide +kernel
theorem dX2_greatestMarked_38 : decode cX2_greatestMarked 38 = .ok (.goto 4, 3) := by decide +kernel
theorem dX2_greatestMarked_41 : decode cX2_greatestMarked 41 = .ok (.iconst 0, 1) := by decide +kernel
theorem dX2_greatestMarked_42 : decode cX2_greatestMarked 42 = .ok (.istore 8, 2) := by decide +kernel
theorem dX2_greatestMarked_44 : decode cX2_greatestMarked 44 = .ok (.aload_n 1, 1) := by decide +kernel
theorem dX2_greatestMarked_45 : decode cX2_greatestMarked 45 = .ok (.aload_n 1, 1) := by decide +kernel
theorem dX2_greatestMarked_46 : decode cX2_greatestMarked 46 = .ok (.iload 7, 2) := by decide +kernel
theorem dX2_greatestMarked_48 : decode cX2_greatestMarked 48 = .ok (.invokevirtual 186, 3) := by decide +kernel
theorem dX2_greatestMarked_51 : decode cX2_greatestMarked 51 = .ok (.invokevirtual 222, 3) := by decide +kernel
theorem dX2_greatestMarked_54 : decode cX2_greatestMarked 54 = .ok (.iload_n 2, 1) := by decide +kernel
theorem dX2_greatestMarked_55 : decode cX2_greatestMarked 55 = .ok (.ifCond .eq 7, 3) := by decide +kernel
theorem dX2_greatestMarked_58 : decode cX2_greatestMarked 58 = .ok (.iconst (-1), 1) := by decide +kernel
theorem dX2_greatestMarked_59 : decode cX2_greatestMarked 59 = .ok (.goto 5, 3) := by decide +kernel
theorem dX2_greatestMarked_62 : decode cX2_greatestMarked 62 = .ok (.bipush (-2), 2) := by decide +kernel
theorem dX2_greatestMarked_64 : decode cX2_greatestMarked 64 = .ok (.if_icmp .ne 7, 3) := by decide +kernel
theorem dX2_greatestMarked_67 : decode cX2_greatestMarked 67 = .ok (.iconst 1, 1) := by decide +kernel
theorem dX2_greatestMarked_68 : decode cX2_greatestMarked 68 = .ok (.goto 4, 3) := by decide +kernel
theorem dX2_greatestMarked_71 : decode cX2_greatestMarked 71 = .ok (.iconst 0, 1) := by decide +kernel
theorem dX2_greatestMarked_72 : decode cX2_greatestMarked 72 = .ok (.istore 9, 2) := by decide +kernel
theorem dX2_greatestMarked_74 : decode cX2_greatestMarked 74 = .ok (.aload_n 0, 1) := by decide +kernel
theorem dX2_greatestMarked_75 : decode cX2_greatestMarked 75 = .ok (.getfield 53, 3) := by decide +kernel
theorem dX2_greatestMarked_78 : decode cX2_greatestMarked 78 = .ok (.iload 7, 2) := by decide +kernel
theorem dX2_greatestMarked_80 : decode cX2_greatestMarked 80 = .ok (.iload 8, 2) := by decide +kernel
theorem dX2_greatestMarked_82 : decode cX2_greatestMarked 82 = .ok (.ifCond .ne 8, 3) := by decide +kernel
theorem dX2_greatestMarked_85 : decode cX2_greatestMarked 85 = .ok (.iload 9, 2) := by decide +kernel
theorem dX2_greatestMarked_87 : decode cX2_greatestMarked 87 = .ok (.ifCond .eq 7, 3) := by decide +kernel
theorem dX2_greatestMarked_90 : decode cX2_greatestMarked 90 = .ok (.iconst 1, 1) := by decide +kernel
theorem dX2_greatestMarked_91 : decode cX2_greatestMarked 91 = .ok (.goto 4, 3) := by decide +kernel
theorem dX2_greatestMarked_94 : decode cX2_greatestMarked 94 = .ok (.iconst 0, 1) := by decide +kernel
theorem dX2_greatestMarked_95 : decode cX2_greatestMarked 95 = .ok (.bastore, 1) := by decide +kernel
theorem dX2_greatestMarked_96 : decode cX2_greatestMarked 96 = .ok (.iload 9, 2) := by decide +kernel
theorem dX2_greatestMarked_98 : decode cX2_greatestMarked 98 = .ok (.ifCond .eq 20, 3) := by decide +kernel
theorem dX2_greatestMarked_101 : decode cX2_greatestMarked 101 = .ok (.iload 8, 2) := by decide +kernel
theorem dX2_greatestMarked_103 : decode cX2_greatestMarked 103 = .ok (.ifCond .ne 15, 3) := by decide +kernel
theorem dX2_greatestMarked_106 : decode cX2_greatestMarked 106 = .ok (.iload 4, 2) := by decide +kernel
theorem dX2_greatestMarked_108 : decode cX2_greatestMarked 108 = .ok (.iload_n 3, 1) := by decide +kernel
theorem dX2_greatestMarked_109 : decode cX2_greatestMarked 109 = .ok (.if_icmp .ne 6, 3) := by decide +kernel
theorem dX2_greatestMarked_112 : decode cX2_greatestMarked 112 = .ok (.iload 7, 2) := by decide +kernel
theorem dX2_greatestMarked_114 : decode cX2_greatestMarked 114 = .ok (.ireturn, 1) := by decide +kernel
theorem dX2_greatestMarked_115 : decode cX2_greatestMarked 115 = .ok (.iinc 4 1, 3) := by decide +kernel
theorem dX2_greatestMarked_118 : decode cX2_greatestMarked 118 = .ok (.iinc 6 1, 3) := by decide +kernel
theorem dX2_greatestMarked_121 : decode cX2_greatestMarked 121 = .ok (.aload_n 0, 1) := by decide +kernel
theorem dX2_greatestMarked_122 : decode cX2_greatestMarked 122 = .ok (.getfield 12, 3) := by decide +kernel
theorem dX2_greatestMarked_125 : decode cX2_greatestMarked 125 = .ok (.iload 7, 2) := by decide +kernel
theorem dX2_greatestMarked_127 : decode cX2_greatestMarked 127 = .ok (.invokevirtual 209, 3) := by decide +kernel
theorem dX2_greatestMarked_130 : decode cX2_greatestMarked 130 = .ok (.istore 7, 2) := by decide +kernel
theorem dX2_greatestMarked_132 : decode cX2_greatestMarked 132 = .ok (.goto (-116), 3) := by decide +kernel
theorem dX2_greatestMarked_135 : decode cX2_greatestMarked 135 = .ok (.iload_n 3, 1) := by decide +kernel
theorem dX2_greatestMarked_136 : decode cX2_greatestMarked 136 = .ok (.iconst (-1), 1) := by decide +kernel
theorem dX2_greatestMarked_137 : decode cX2_greatestMarked 137 = .ok (.if_icmp .ne 8, 3) := by decide +kernel
theorem dX2_greatestMarked_140 : decode cX2_greatestMarked 140 = .ok (.iload 4, 2) := by decide +kernel
theorem dX2_greatestMarked_142 : decode cX2_greatestMarked 142 = .ok (.goto 4, 3) := by decide +kernel
theorem dX2_greatestMarked_145 : decode cX2_greatestMarked 145 = .ok (.iconst (-1), 1) := by decide +kernel
theorem dX2_greatestMarked_146 : decode cX2_greatestMarked 146 = .ok (.ireturn, 1) := by decide +kernel
theorem dX2_isBelowCovered_0 : decode cX2_isBelowCovered 0 = .ok (.iconst 0, 1) := by decide +kernel
theorem dX2_isBelowCovered_1 : decode cX2_isBelowCovered 1 = .ok (.istore_n 2, 1) := by decide +kernel
theorem dX2_isBelowCovered_2 : decode cX2_isBelowCovered 2 = .ok (.iload_n 2, 1) := by decide +kernel
theorem dX2_isBelowCovered_3 : decode cX2_isBelowCovered 3 = .ok (.iconst 3, 1) := by decide +kernel
theorem dX2_isBelowCovered_4 : decode cX2_isBelowCovered 4 = .ok (.if_icmp .ge 74, 3) := by decide +kernel
theorem dX2_isBelowCovered_7 : decode cX2_isBelowCovered 7 = .ok (.iload_n 1, 1) := by decide +kernel
theorem dX2_isBelowCovered_8 : decode cX2_isBelowCovered 8 = .ok (.iload_n 2, 1) := by decide +kernel
theorem dX2_isBelowCovered_9 : decode cX2_isBelowCovered 9 = .ok (.invokestatic 225, 3) := by decide +kernel
theorem dX2_isBelowCovered_12 : decode cX2_isBelowCovered 12 = .ok (.istore_n 3, 1) := by decide +kernel
theorem dX2_isBelowCovered_13 : decode cX2_isBelowCovered 13 = .ok (.iconst 0, 1) := by decide +kernel
theorem dX2_isBelowCovered_14 : decode cX2_isBelowCovered 14 = .ok (.istore 4, 2) := by decide +kernel
theorem dX2_isBelowCovered_16 : decode cX2_isBelowCovered 16 = .ok (.iload 4, 2) := by decide +kernel
theorem dX2_isBelowCovered_18 : decode cX2_isBelowCovered 18 = .ok (.aload_n 0, 1) := by decide +kernel
theorem dX2_isBelowCovered_19 : decode cX2_isBelowCovered 19 = .ok (.getfield 12, 3) := by decide +kernel
theorem dX2_isBelowCovered_22 : decode cX2_isBelowCovered 22 = .ok (.getfield 240, 3) := by decide +kernel
theorem dX2_isBelowCovered_25 : decode cX2_isBelowCovered 25 = .ok (.iload_n 3, 1) := by decide +kernel
theorem dX2_isBelowCovered_26 : decode cX2_isBelowCovered 26 = .ok (.iaload, 1) := by decide +kernel
theorem dX2_isBelowCovered_27 : decode cX2_isBelowCovered 27 = .ok (.if_icmp .ge 45, 3) := by decide +kernel
theorem dX2_isBelowCovered_30 : decode cX2_isBelowCovered 30 = .ok (.aload_n 0, 1) := by decide +kernel
theorem dX2_isBelowCovered_31 : decode cX2_isBelowCovered 31 = .ok (.getfield 12, 3) := by decide +kernel
theorem dX2_isBelowCovered_34 : decode cX2_isBelowCovered 34 = .ok (.getfield 243, 3) := by decide +kernel
theorem dX2_isBelowCovered_37 : decode cX2_isBelowCovered 37 = .ok (.iconst 3, 1) := by decide +kernel
theorem dX2_isBelowCovered_38 : decode cX2_isBelowCovered 38 = .ok (.iload_n 3, 1) := by decide +kernel
theorem dX2_isBelowCovered_39 : decode cX2_isBelowCovered 39 = .ok (.imul, 1) := by decide +kernel
theorem dX2_isBelowCovered_40 : decode cX2_isBelowCovered 40 = .ok (.iload 4, 2) := by decide +kernel
theorem dX2_isBelowCovered_42 : decode cX2_isBelowCovered 42 = .ok (.iadd, 1) := by decide +kernel
theorem dX2_isBelowCovered_43 : decode cX2_isBelowCovered 43 = .ok (.iaload, 1) := by decide +kernel
theorem dX2_isBelowCovered_44 : decode cX2_isBelowCovered 44 = .ok (.istore 5, 2) := by decide +kernel
theorem dX2_isBelowCovered_46 : decode cX2_isBelowCovered 46 = .ok (.aload_n 0, 1) := by decide +kernel
theorem dX2_isBelowCovered_47 : decode cX2_isBelowCovered 47 = .ok (.getfield 53, 3) := by decide +kernel
theorem dX2_isBelowCovered_50 : decode cX2_isBelowCovered 50 = .ok (.iload_n 1, 1) := by decide +kernel
theorem dX2_isBelowCovered_51 : decode cX2_isBelowCovered 51 = .ok (.iload_n 3, 1) := by decide +kernel
theorem dX2_isBelowCovered_52 : decode cX2_isBelowCovered 52 = .ok (.iload 5, 2) := by decide +kernel
theorem dX2_isBelowCovered_54 : decode cX2_isBelowCovered 54 = .ok (.isub, 1) := by decide +kernel
theorem dX2_isBelowCovered_55 : decode cX2_isBelowCovered 55 = .ok (.iconst 4, 1) := by decide +kernel
theorem dX2_isBelowCovered_56 : decode cX2_isBelowCovered 56 = .ok (.iload_n 2, 1) := by decide +kernel
theorem dX2_isBelowCovered_57 : decode cX2_isBelowCovered 57 = .ok (.imul, 1) := by decide +kernel
theorem dX2_isBelowCovered_58 : decode cX2_isBelowCovered 58 = .ok (.ishl, 1) := by decide +kernel
theorem dX2_isBelowCovered_59 : decode cX2_isBelowCovered 59 = .ok (.isub, 1) := by decide +kernel
theorem dX2_isBelowCovered_60 : decode cX2_isBelowCovered 60 = .ok (.baload, 1) := by decide +kernel
theorem dX2_isBelowCovered_61 : decode cX2_isBelowCovered 61 = .ok (.ifCond .eq 5, 3) := by decide +kernel
theorem dX2_isBelowCovered_64 : decode cX2_isBelowCovered 64 = .ok (.iconst 1, 1) := by decide +kernel
theorem dX2_isBelowCovered_65 : decode cX2_isBelowCovered 65 = .ok (.ireturn, 1) := by decide +kernel
theorem dX2_isBelowCovered_66 : decode cX2_isBelowCovered 66 = .ok (.iinc 4 1, 3) := by decide +kernel
theorem dX2_isBelowCovered_69 : decode cX2_isBelowCovered 69 = .ok (.goto (-53), 3) := by decide +kernel
theorem dX2_isBelowCovered_72 : decode cX2_isBelowCovered 72 = .ok (.iinc 2 1, 3) := by decide +kernel
theorem dX2_isBelowCovered_75 : decode cX2_isBelowCovered 75 = .ok (.goto (-73), 3) := by decide +kernel
theorem dX2_isBelowCovered_78 : decode cX2_isBelowCovered 78 = .ok (.iconst 0, 1) := by decide +kernel
theorem dX2_isBelowCovered_79 : decode cX2_isBelowCovered 79 = .ok (.ireturn, 1) := by decide +kernel
theorem dX2_tableSize_0 : decode cX2_tableSize 0 = .ok (.aload_n 0, 1) := by decide +kernel
theorem dX2_tableSize_1 : decode cX2_tableSize 1 = .ok (.iload_n 1, 1) := by decide +kernel
theorem dX2_tableSize_2 : decode cX2_tableSize 2 = .ok (.invokevirtual 212, 3) := by decide +kernel
theorem dX2_tableSize_5 : decode cX2_tableSize 5 = .ok (.aload_n 0, 1) := by decide +kernel
theorem dX2_tableSize_6 : decode cX2_tableSize 6 = .ok (.getfield 18, 3) := by decide +kernel
theorem dX2_tableSize_9 : decode cX2_tableSize 9 = .ok (.iload_n 1, 1) := by decide +kernel
theorem dX2_tableSize_10 : decode cX2_tableSize 10 = .ok (.aaload, 1) := by decide +kernel
theorem dX2_tableSize_11 : decode cX2_tableSize 11 = .ok (.astore_n 2, 1) := by decide +kernel
theorem dX2_tableSize_12 : decode cX2_tableSize 12 = .ok (.iconst 1, 1) := by decide +kernel
theorem dX2_tableSize_13 : decode cX2_tableSize 13 = .ok (.istore_n 3, 1) := by decide +kernel
theorem dX2_tableSize_14 : decode cX2_tableSize 14 = .ok (.iconst 0, 1) := by decide +kernel
theorem dX2_tableSize_15 : decode cX2_tableSize 15 = .ok (.istore 4, 2) := by decide +kernel
theorem dX2_tableSize_17 : decode cX2_tableSize 17 = .ok (.iload 4, 2) := by decide +kernel
theorem dX2_tableSize_19 : decode cX2_tableSize 19 = .ok (.aload_n 2, 1) := by decide +kernel
theorem dX2_tableSize_20 : decode cX2_tableSize 20 = .ok (.getfield 93, 3) := by decide +kernel
theorem dX2_tableSize_23 : decode cX2_tableSize 23 = .ok (.if_icmp .ge 55, 3) := by decide +kernel
theorem dX2_tableSize_26 : decode cX2_tableSize 26 = .ok (.iconst 0, 1) := by decide +kernel
theorem dX2_tableSize_27 : decode cX2_tableSize 27 = .ok (.istore 5, 2) := by decide +kernel
theorem dX2_tableSize_29 : decode cX2_tableSize 29 = .ok (.iconst 0, 1) := by decide +kernel
theorem dX2_tableSize_30 : decode cX2_tableSize 30 = .ok (.istore 6, 2) := by decide +kernel
theorem dX2_tableSize_32 : decode cX2_tableSize 32 = .ok (.iload 6, 2) := by decide +kernel
theorem dX2_tableSize_34 : decode cX2_tableSize 34 = .ok (.aload_n 0, 1) := by decide +kernel
theorem dX2_tableSize_35 : decode cX2_tableSize 35 = .ok (.getfield 12, 3) := by decide +kernel
theorem dX2_tableSize_38 : decode cX2_tableSize 38 = .ok (.getfield 57, 3) := by decide +kernel
theorem dX2_tableSize_41 : decode cX2_tableSize 41 = .ok (.if_icmp .ge 26, 3) := by decide +kernel
theorem dX2_tableSize_44 : decode cX2_tableSize 44 = .ok (.aload_n 0, 1) := by decide +kernel
theorem dX2_tableSize_45 : decode cX2_tableSize 45 = .ok (.aload_n 2, 1) := by decide +kernel
theorem dX2_tableSize_46 : decode cX2_tableSize 46 = .ok (.iload 4, 2) := by decide +kernel
theorem dX2_tableSize_48 : decode cX2_tableSize 48 = .ok (.iload 6, 2) := by decide +kernel
theorem dX2_tableSize_50 : decode cX2_tableSize 50 = .ok (.invokevirtual 215, 3) := by decide +kernel
theorem dX2_tableSize_53 : decode cX2_tableSize 53 = .ok (.iload 6, 2) := by decide +kernel
theorem dX2_tableSize_55 : decode cX2_tableSize 55 = .ok (.if_icmp .ne 6, 3) := by decide +kernel
theorem dX2_tableSize_58 : decode cX2_tableSize 58 = .ok (.iinc 5 1, 3) := by decide +kernel
theorem dX2_tableSize_61 : decode cX2_tableSize 61 = .ok (.iinc 6 1, 3) := by decide +kernel
theorem dX2_tableSize_64 : decode cX2_tableSize 64 = .ok (.goto (-32), 3) := by decide +kernel
theorem dX2_tableSize_67 : decode cX2_tableSize 67 = .ok (.iload_n 3, 1) := by decide +kernel
theorem dX2_tableSize_68 : decode cX2_tableSize 68 = .ok (.iload 5, 2) := by decide +kernel
theorem dX2_tableSize_70 : decode cX2_tableSize 70 = .ok (.imul, 1) := by decide +kernel
theorem dX2_tableSize_71 : decode cX2_tableSize 71 = .ok (.istore_n 3, 1) := by decide +kernel
theorem dX2_tableSize_72 : decode cX2_tableSize 72 = .ok (.iinc 4 1, 3) := by decide +kernel
theorem dX2_tableSize_75 : decode cX2_tableSize 75 = .ok (.goto (-58), 3) := by decide +kernel
theorem dX2_tableSize_78 : decode cX2_tableSize 78 = .ok (.iload_n 3, 1) := by decide +kernel
theorem dX2_tableSize_79 : decode cX2_tableSize 79 = .ok (.ireturn, 1) := by decide +kernel
theorem dX2_leastAlike_0 : decode cX2_leastAlike 0 = .ok (.iconst 0, 1) := by decide +kernel
theorem dX2_leastAlike_1 : decode cX2_leastAlike 1 = .ok (.istore 4, 2) := by decide +kernel
theorem dX2_leastAlike_3 : decode cX2_leastAlike 3 = .ok (.iload 4, 2) := by decide +kernel
theorem dX2_leastAlike_5 : decode cX2_leastAlike 5 = .ok (.iload_n 3, 1) := by decide +kernel
theorem dX2_leastAlike_6 : decode cX2_leastAlike 6 = .ok (.if_icmp .ge 24, 3) := by decide +kernel
theorem dX2_leastAlike_9 : decode cX2_leastAlike 9 = .ok (.aload_n 0, 1) := by decide +kernel
theorem dX2_leastAlike_10 : decode cX2_leastAlike 10 = .ok (.aload_n 1, 1) := by decide +kernel
theorem dX2_leastAlike_11 : decode cX2_leastAlike 11 = .ok (.iload_n 2, 1) := by decide +kernel
theorem dX2_leastAlike_12 : decode cX2_leastAlike 12 = .ok (.iload 4, 2) := by decide +kernel
theorem dX2_leastAlike_14 : decode cX2_leastAlike 14 = .ok (.iload_n 3, 1) := by decide +kernel
theorem dX2_leastAlike_15 : decode cX2_leastAlike 15 = .ok (.invokevirtual 246, 3) := by decide +kernel
theorem dX2_leastAlike_18 : decode cX2_leastAlike 18 = .ok (.ifCond .eq 6, 3) := by decide +kernel
theorem dX2_leastAlike_21 : decode cX2_leastAlike 21 = .ok (.iload 4, 2) := by decide +kernel
theorem dX2_leastAlike_23 : decode cX2_leastAlike 23 = .ok (.ireturn, 1) := by decide +kernel
theorem dX2_leastAlike_24 : decode cX2_leastAlike 24 = .ok (.iinc 4 1, 3) := by decide +kernel
theorem dX2_leastAlike_27 : decode cX2_leastAlike 27 = .ok (.goto (-24), 3) := by decide +kernel
theorem dX2_leastAlike_30 : decode cX2_leastAlike 30 = .ok (.iload_n 3, 1) := by decide +kernel
theorem dX2_leastAlike_31 : decode cX2_leastAlike 31 = .ok (.ireturn, 1) := by decide +kernel
theorem dX2_areAlike_0 : decode cX2_areAlike 0 = .ok (.iload_n 2, 1) := by decide +kernel
theorem dX2_areAlike_1 : decode cX2_areAlike 1 = .ok (.ifCond .ne 7, 3) := by decide +kernel
theorem dX2_areAlike_4 : decode cX2_areAlike 4 = .ok (.iconst 1, 1) := by decide +kernel
theorem dX2_areAlike_5 : decode cX2_areAlike 5 = .ok (.goto 4, 3) := by decide +kernel
theorem dX2_areAlike_8 : decode cX2_areAlike 8 = .ok (.iconst 0, 1) := by decide +kernel
theorem dX2_areAlike_9 : decode cX2_areAlike 9 = .ok (.istore 5, 2) := by decide +kernel
theorem dX2_areAlike_11 : decode cX2_areAlike 11 = .ok (.iload_n 2, 1) := by decide +kernel
theorem dX2_areAlike_12 : decode cX2_areAlike 12 = .ok (.iconst 2, 1) := by decide +kernel
theorem dX2_areAlike_13 : decode cX2_areAlike 13 = .ok (.if_icmp .ne 7, 3) := by decide +kernel
theorem dX2_areAlike_16 : decode cX2_areAlike 16 = .ok (.iconst 1, 1) := by decide +kernel
theorem dX2_areAlike_17 : decode cX2_areAlike 17 = .ok (.goto 4, 3) := by decide +kernel
theorem dX2_areAlike_20 : decode cX2_areAlike 20 = .ok (.iconst 2, 1) := by decide +kernel
theorem dX2_areAlike_21 : decode cX2_areAlike 21 = .ok (.istore 6, 2) := by decide +kernel
theorem dX2_areAlike_23 : decode cX2_areAlike 23 = .ok (.iload 5, 2) := by decide +kernel
theorem dX2_areAlike_25 : decode cX2_areAlike 25 = .ok (.aload_n 1, 1) := by decide +kernel
theorem dX2_areAlike_26 : decode cX2_areAlike 26 = .ok (.getfield 93, 3) := by decide +kernel
theorem dX2_areAlike_29 : decode cX2_areAlike 29 = .ok (.if_icmp .ge 13, 3) := by decide +kernel
theorem dX2_areAlike_32 : decode cX2_areAlike 32 = .ok (.aload_n 0, 1) := by decide +kernel
theorem dX2_areAlike_33 : decode cX2_areAlike 33 = .ok (.getfield 12, 3) := by decide +kernel
theorem dX2_areAlike_36 : decode cX2_areAlike 36 = .ok (.getfield 57, 3) := by decide +kernel
theorem dX2_areAlike_39 : decode cX2_areAlike 39 = .ok (.goto 4, 3) := by decide +kernel
theorem dX2_areAlike_42 : decode cX2_areAlike 42 = .ok (.iconst 1, 1) := by decide +kernel
theorem dX2_areAlike_43 : decode cX2_areAlike 43 = .ok (.istore 7, 2) := by decide +kernel
theorem dX2_areAlike_45 : decode cX2_areAlike 45 = .ok (.iload 6, 2) := by decide +kernel
theorem dX2_areAlike_47 : decode cX2_areAlike 47 = .ok (.aload_n 1, 1) := by decide +kernel
theorem dX2_areAlike_48 : decode cX2_areAlike 48 = .ok (.getfield 93, 3) := by decide +kernel
theorem dX2_areAlike_51 : decode cX2_areAlike 51 = .ok (.if_icmp .ge 13, 3) := by decide +kernel
theorem dX2_areAlike_54 : decode cX2_areAlike 54 = .ok (.aload_n 0, 1) := by decide +kernel
theorem dX2_areAlike_55 : decode cX2_areAlike 55 = .ok (.getfield 12, 3) := by decide +kernel
theorem dX2_areAlike_58 : decode cX2_areAlike 58 = .ok (.getfield 57, 3) := by decide +kernel
theorem dX2_areAlike_61 : decode cX2_areAlike 61 = .ok (.goto 4, 3) := by decide +kernel
theorem dX2_areAlike_64 : decode cX2_areAlike 64 = .ok (.iconst 1, 1) := by decide +kernel
theorem dX2_areAlike_65 : decode cX2_areAlike 65 = .ok (.istore 8, 2) := by decide +kernel
theorem dX2_areAlike_67 : decode cX2_areAlike 67 = .ok (.iconst 0, 1) := by decide +kernel
theorem dX2_areAlike_68 : decode cX2_areAlike 68 = .ok (.istore 9, 2) := by decide +kernel
theorem dX2_areAlike_70 : decode cX2_areAlike 70 = .ok (.iload 9, 2) := by decide +kernel
theorem dX2_areAlike_72 : decode cX2_areAlike 72 = .ok (.iload 8, 2) := by decide +kernel
theorem dX2_areAlike_74 : decode cX2_areAlike 74 = .ok (.if_icmp .ge 74, 3) := by decide +kernel
theorem dX2_areAlike_77 : decode cX2_areAlike 77 = .ok (.iconst 0, 1) := by decide +kernel
theorem dX2_areAlike_78 : decode cX2_areAlike 78 = .ok (.istore 10, 2) := by decide +kernel
theorem dX2_areAlike_80 : decode cX2_areAlike 80 = .ok (.iload 10, 2) := by decide +kernel
theorem dX2_areAlike_82 : decode cX2_areAlike 82 = .ok (.iload 7, 2) := by decide +kernel
theorem dX2_areAlike_84 : decode cX2_areAlike 84 = .ok (.if_icmp .ge 58, 3) := by decide +kernel
theorem dX2_areAlike_87 : decode cX2_areAlike 87 = .ok (.iload 9, 2) := by decide +kernel
theorem dX2_areAlike_89 : decode cX2_areAlike 89 = .ok (.iconst 4, 1) := by decide +kernel
theorem dX2_areAlike_90 : decode cX2_areAlike 90 = .ok (.iload 6, 2) := by decide +kernel
theorem dX2_areAlike_92 : decode cX2_areAlike 92 = .ok (.imul, 1) := by decide +kernel
theorem dX2_areAlike_93 : decode cX2_areAlike 93 = .ok (.ishl, 1) := by decide +kernel
theorem dX2_areAlike_94 : decode cX2_areAlike 94 = .ok (.iload 10, 2) := by decide +kernel
theorem dX2_areAlike_96 : decode cX2_areAlike 96 = .ok (.iconst 4, 1) := by decide +kernel
theorem dX2_areAlike_97 : decode cX2_areAlike 97 = .ok (.iload 5, 2) := by decide +kernel
theorem dX2_areAlike_99 : decode cX2_areAlike 99 = .ok (.imul, 1) := by decide +kernel
theorem dX2_areAlike_100 : decode cX2_areAlike 100 = .ok (.ishl, 1) := by decide +kernel
theorem dX2_areAlike_101 : decode cX2_areAlike 101 = .ok (.iadd, 1) := by decide +kernel
theorem dX2_areAlike_102 : decode cX2_areAlike 102 = .ok (.istore 11, 2) := by decide +kernel
theorem dX2_areAlike_104 : decode cX2_areAlike 104 = .ok (.aload_n 0, 1) := by decide +kernel
theorem dX2_areAlike_105 : decode cX2_areAlike 105 = .ok (.getfield 47, 3) := by decide +kernel
theorem dX2_areAlike_108 : decode cX2_areAlike 108 = .ok (.iload 11, 2) := by decide +kernel
theorem dX2_areAlike_110 : decode cX2_areAlike 110 = .ok (.iload_n 3, 1) := by decide +kernel
theorem dX2_areAlike_111 : decode cX2_areAlike 111 = .ok (.iconst 4, 1) := by decide +kernel
theorem dX2_areAlike_112 : decode cX2_areAlike 112 = .ok (.iload_n 2, 1) := by decide +kernel
theorem dX2_areAlike_113 : decode cX2_areAlike 113 = .ok (.imul, 1) := by decide +kernel
theorem dX2_areAlike_114 : decode cX2_areAlike 114 = .ok (.ishl, 1) := by decide +kernel
theorem dX2_areAlike_115 : decode cX2_areAlike 115 = .ok (.iadd, 1) := by decide +kernel
theorem dX2_areAlike_116 : decode cX2_areAlike 116 = .ok (.iaload, 1) := by decide +kernel
theorem dX2_areAlike_117 : decode cX2_areAlike 117 = .ok (.aload_n 0, 1) := by decide +kernel
theorem dX2_areAlike_118 : decode cX2_areAlike 118 = .ok (.getfield 47, 3) := by decide +kernel
theorem dX2_areAlike_121 : decode cX2_areAlike 121 = .ok (.iload 11, 2) := by decide +kernel
theorem dX2_areAlike_123 : decode cX2_areAlike 123 = .ok (.iload 4, 2) := by decide +kernel
theorem dX2_areAlike_125 : decode cX2_areAlike 125 = .ok (.iconst 4, 1) := by decide +kernel
theorem dX2_areAlike_126 : decode cX2_areAlike 126 = .ok (.iload_n 2, 1) := by decide +kernel
theorem dX2_areAlike_127 : decode cX2_areAlike 127 = .ok (.imul, 1) := by decide +kernel
theorem dX2_areAlike_128 : decode cX2_areAlike 128 = .ok (.ishl, 1) := by decide +kernel
theorem dX2_areAlike_129 : decode cX2_areAlike 129 = .ok (.iadd, 1) := by decide +kernel
theorem dX2_areAlike_130 : decode cX2_areAlike 130 = .ok (.iaload, 1) := by decide +kernel
theorem dX2_areAlike_131 : decode cX2_areAlike 131 = .ok (.if_icmp .eq 5, 3) := by decide +kernel
theorem dX2_areAlike_134 : decode cX2_areAlike 134 = .ok (.iconst 0, 1) := by decide +kernel
theorem dX2_areAlike_135 : decode cX2_areAlike 135 = .ok (.ireturn, 1) := by decide +kernel
theorem dX2_areAlike_136 : decode cX2_areAlike 136 = .ok (.iinc 10 1, 3) := by decide +kernel
theorem dX2_areAlike_139 : decode cX2_areAlike 139 = .ok (.goto (-59), 3) := by decide +kernel
theorem dX2_areAlike_142 : decode cX2_areAlike 142 = .ok (.iinc 9 1, 3) := by decide +kernel
theorem dX2_areAlike_145 : decode cX2_areAlike 145 = .ok (.goto (-75), 3) := by decide +kernel
theorem dX2_areAlike_148 : decode cX2_areAlike 148 = .ok (.iconst 1, 1) := by decide +kernel
theorem dX2_areAlike_149 : decode cX2_areAlike 149 = .ok (.ireturn, 1) := by decide +kernel
end
section
theorem dX3_init_0 : decode cX3_init 0 = .ok (.aload_n 0, 1) := by decide +kernel
theorem dX3_init_1 : decode cX3_init 1 = .ok (.invokespecial 1, 3) := by decide +kernel
theorem dX3_init_4 : decode cX3_init 4 = .ok (.aload_n 0, 1) := by decide +kernel
theorem dX3_init_5 : decode cX3_init 5 = .ok (.bipush 16, 2) := by decide +kernel
theorem dX3_init_7 : decode cX3_init 7 = .ok (.newarray .int, 2) := by decide +kernel
theorem dX3_init_9 : decode cX3_init 9 = .ok (.putfield 7, 3) := by decide +kernel
theorem dX3_init_12 : decode cX3_init 12 = .ok (.aload_n 0, 1) := by decide +kernel
theorem dX3_init_13 : decode cX3_init 13 = .ok (.sipush 256, 3) := by decide +kernel
theorem dX3_init_16 : decode cX3_init 16 = .ok (.newarray .int, 2) := by decide +kernel
theorem dX3_init_18 : decode cX3_init 18 = .ok (.putfield 13, 3) := by decide +kernel
theorem dX3_init_21 : decode cX3_init 21 = .ok (.aload_n 0, 1) := by decide +kernel
theorem dX3_init_22 : decode cX3_init 22 = .ok (.bipush 16, 2) := by decide +kernel
theorem dX3_init_24 : decode cX3_init 24 = .ok (.newarray .int, 2) := by decide +kernel
theorem dX3_init_26 : decode cX3_init 26 = .ok (.putfield 16, 3) := by decide +kernel
theorem dX3_init_29 : decode cX3_init 29 = .ok (.aload_n 0, 1) := by decide +kernel
theorem dX3_init_30 : decode cX3_init 30 = .ok (.sipush 256, 3) := by decide +kernel
theorem dX3_init_33 : decode cX3_init 33 = .ok (.newarray .int, 2) := by decide +kernel
theorem dX3_init_35 : decode cX3_init 35 = .ok (.putfield 19, 3) := by decide +kernel
theorem dX3_init_38 : decode cX3_init 38 = .ok (.aload_n 0, 1) := by decide +kernel
theorem dX3_init_39 : decode cX3_init 39 = .ok (.iconst 4, 1) := by decide +kernel
theorem dX3_init_40 : decode cX3_init 40 = .ok (.newarray .int, 2) := by decide +kernel
theorem dX3_init_42 : decode cX3_init 42 = .ok (.putfield 22, 3) := by decide +kernel
theorem dX3_init_45 : decode cX3_init 45 = .ok (.aload_n 0, 1) := by decide +kernel
theorem dX3_init_46 : decode cX3_init 46 = .ok (.bipush 48, 2) := by decide +kernel
theorem dX3_init_48 : decode cX3_init 48 = .ok (.newarray .int, 2) := by decide +kernel
theorem dX3_init_50 : decode cX3_init 50 = .ok (.putfield 25, 3) := by decide +kernel
theorem dX3_init_53 : decode cX3_init 53 = .ok (.aload_n 0, 1) := by decide +kernel
theorem dX3_init_54 : decode cX3_init 54 = .ok (.bipush 48, 2) := by decide +kernel
theorem dX3_init_56 : decode cX3_init 56 = .ok (.newarray .int, 2) := by decide +kernel
theorem dX3_init_58 : decode cX3_init 58 = .ok (.putfield 28, 3) := by decide +kernel
theorem dX3_init_61 : decode cX3_init 61 = .ok (.aload_n 0, 1) := by decide +kernel
theorem dX3_init_62 : decode cX3_init 62 = .ok (.bipush 48, 2) := by decide +kernel
theorem dX3_init_64 : decode cX3_init 64 = .ok (.newarray .int, 2) := by decide +kernel
theorem dX3_init_66 : decode cX3_init 66 = .ok (.putfield 31, 3) := by decide +kernel
theorem dX3_init_69 : decode cX3_init 69 = .ok (.aload_n 0, 1) := by decide +kernel
theorem dX3_init_70 : decode cX3_init 70 = .ok (.bipush 24, 2) := by decide +kernel
theorem dX3_init_72 : decode cX3_init 72 = .ok (.newarray .int, 2) := by decide +kernel
theorem dX3_init_74 : decode cX3_init 74 = .ok (.putfield 34, 3) := by decide +kernel
theorem dX3_init_77 : decode cX3_init 77 = .ok (.aload_n 0, 1) := by decide +kernel
theorem dX3_init_78 : decode cX3_init 78 = .ok (.iconst 4, 1) := by decide +kernel
theorem dX3_init_79 : decode cX3_init 79 = .ok (.newarray .int, 2) := by decide +kernel
theorem dX3_init_81 : decode cX3_init 81 = .ok (.putfield 37, 3) := by decide +kernel
theorem dX3_init_84 : decode cX3_init 84 = .ok (.aload_n 0, 1) := by decide +kernel
theorem dX3_init_85 : decode cX3_init 85 = .ok (.bipush 64, 2) := by decide +kernel
theorem dX3_init_87 : decode cX3_init 87 = .ok (.newarray .int, 2) := by decide +kernel
theorem dX3_init_89 : decode cX3_init 89 = .ok (.putfield 40, 3) := by decide +kernel
theorem dX3_init_92 : decode cX3_init 92 = .ok (.aload_n 0, 1) := by decide +kernel
theorem dX3_init_93 : decode cX3_init 93 = .ok (.iconst 4, 1) := by decide +kernel
theorem dX3_init_94 : decode cX3_init 94 = .ok (.newarray .int, 2) := by decide +kernel
theorem dX3_init_96 : decode cX3_init 96 = .ok (.putfield 43, 3) := by decide +kernel
theorem dX3_init_99 : decode cX3_init 99 = .ok (.aload_n 0, 1) := by decide +kernel
theorem dX3_init_100 : decode cX3_init 100 = .ok (.iconst 4, 1) := by decide +kernel
theorem dX3_init_101 : decode cX3_init 101 = .ok (.newarray .int, 2) := by decide +kernel
theorem dX3_init_103 : decode cX3_init 103 = .ok (.putfield 46, 3) := by decide +kernel
theorem dX3_init_106 : decode cX3_init 106 = .ok (.aload_n 0, 1) := by decide +kernel
theorem dX3_init_107 : decode cX3_init 107 = .ok (.iconst (-1), 1) := by decide +kernel
theorem dX3_init_108 : decode cX3_init 108 = .ok (.putfield 49, 3) := by decide +kernel
theorem dX3_init_111 : decode cX3_init 111 = .ok (.aload_n 0, 1) := by decide +kernel
theorem dX3_init_112 : decode cX3_init 112 = .ok (.bipush 13, 2) := by decide +kernel
theorem dX3_init_114 : decode cX3_init 114 = .ok (.newarray .int, 2) := by decide +kernel
theorem dX3_init_116 : decode cX3_init 116 = .ok (.putfield 53, 3) := by decide +kernel
theorem dX3_init_119 : decode cX3_init 119 = .ok (.aload_n 0, 1) := by decide +kernel
theorem dX3_init_120 : decode cX3_init 120 = .ok (.sipush 4096, 3) := by decide +kernel
theorem dX3_init_123 : decode cX3_init 123 = .ok (.newarray .int, 2) := by decide +kernel
theorem dX3_init_125 : decode cX3_init 125 = .ok (.putfield 56, 3) := by decide +kernel
theorem dX3_init_128 : decode cX3_init 128 = .ok (.aload_n 0, 1) := by decide +kernel
theorem dX3_init_129 : decode cX3_init 129 = .ok (.bipush 12, 2) := by decide +kernel
theorem dX3_init_131 : decode cX3_init 131 = .ok (.newarray .int, 2) := by decide +kernel
theorem dX3_init_133 : decode cX3_init 133 = .ok (.putfield 59, 3) := by decide +kernel
theorem dX3_init_136 : decode cX3_init 136 = .ok (.aload_n 0, 1) := by decide +kernel
theorem dX3_init_137 : decode cX3_init 137 = .ok (.getfield 7, 3) := by decide +kernel
theorem dX3_init_140 : decode cX3_init 140 = .ok (.iconst 0, 1) := by decide +kernel
theorem dX3_init_141 : decode cX3_init 141 = .ok (.iconst 1, 1) := by decide +kernel
theorem dX3_init_142 : decode cX3_init 142 = .ok (.iastore, 1) := by decide +kernel
theorem dX3_init_143 : decode cX3_init 143 = .ok (.aload_n 0, 1) := by decide +kernel
theorem dX3_init_144 : decode cX3_init 144 = .ok (.getfield 16, 3) := by decide +kernel
theorem dX3_init_147 : decode cX3_init 147 = .ok (.iconst 0, 1) := by decide +kernel
theorem dX3_init_148 : decode cX3_init 148 = .ok (.iconst 1, 1) := by decide +kernel
theorem dX3_init_149 : decode cX3_init 149 = .ok (.iastore, 1) := by decide +kernel
theorem dX3_init_150 : decode cX3_init 150 = .ok (.aload_n 0, 1) := by decide +kernel
theorem dX3_init_151 : decode cX3_init 151 = .ok (.iconst 1, 1) := by decide +kernel
theorem dX3_init_152 : decode cX3_init 152 = .ok (.putfield 62, 3) := by decide +kernel
theorem dX3_init_155 : decode cX3_init 155 = .ok (.return_, 1) := by decide +kernel
theorem dX3_thrown_0 : decode cX3_thrown 0 = .ok (.aload_n 0, 1) := by decide +kernel
theorem dX3_thrown_1 : decode cX3_thrown 1 = .ok (.getfield 65, 3) := by decide +kernel
theorem dX3_thrown_4 : decode cX3_thrown 4 = .ok (.ireturn, 1) := by decide +kernel
theorem dX3_in_0 : decode cX3_in 0 = .ok (.iload_n 0, 1) := by decide +kernel
theorem dX3_in_1 : decode cX3_in 1 = .ok (.iload_n 1, 1) := by decide +kernel
theorem dX3_in_2 : decode cX3_in 2 = .ok (.if_icmp .lt 12, 3) := by decide +kernel
theorem dX3_in_5 : decode cX3_in 5 = .ok (.iload_n 0, 1) := by decide +kernel
theorem dX3_in_6 : decode cX3_in 6 = .ok (.iload_n 2, 1) := by decide +kernel
theorem dX3_in_7 : decode cX3_in 7 = .ok (.if_icmp .gt 7, 3) := by decide +kernel
theorem dX3_in_10 : decode cX3_in 10 = .ok (.iconst 1, 1) := by decide +kernel
theorem dX3_in_11 : decode cX3_in 11 = .ok (.goto 4, 3) := by decide +kernel
theorem dX3_in_14 : decode cX3_in 14 = .ok (.iconst 0, 1) := by decide +kernel
theorem dX3_in_15 : decode cX3_in 15 = .ok (.ireturn, 1) := by decide +kernel
theorem dX3_isOn_0 : decode cX3_isOn 0 = .ok (.iload_n 0, 1) := by decide +kernel
theorem dX3_isOn_1 : decode cX3_isOn 1 = .ok (.iload_n 1, 1) := by decide +kernel
theorem dX3_isOn_2 : decode cX3_isOn 2 = .ok (.ishr, 1) := by decide +kernel
theorem dX3_isOn_3 : decode cX3_isOn 3 = .ok (.iconst 1, 1) := by decide +kernel
theorem dX3_isOn_4 : decode cX3_isOn 4 = .ok (.iand, 1) := by decide +kernel
theorem dX3_isOn_5 : decode cX3_isOn 5 = .ok (.iconst 1, 1) := by decide +kernel
theorem dX3_isOn_6 : decode cX3_isOn 6 = .ok (.if_icmp .ne 7, 3) := by decide +kernel
theorem dX3_isOn_9 : decode cX3_isOn 9 = .ok (.iconst 1, 1) := by decide +kernel
theorem dX3_isOn_10 : decode cX3_isOn 10 = .ok (.goto 4, 3) := by decide +kernel
theorem dX3_isOn_13 : decode cX3_isOn 13 = .ok (.iconst 0, 1) := by decide +kernel
theorem dX3_isOn_14 : decode cX3_isOn 14 = .ok (.ireturn, 1) := by decide +kernel
theorem dX3_bits_0 : decode cX3_bits 0 = .ok (.iconst 0, 1) := by decide +kernel
theorem dX3_bits_1 : decode cX3_bits 1 = .ok (.istore_n 1, 1) := by decide +kernel
theorem dX3_bits_2 : decode cX3_bits 2 = .ok (.iconst 0, 1) := by decide +kernel
theorem dX3_bits_3 : decode cX3_bits 3 = .ok (.istore_n 2, 1) := by decide +kernel
theorem dX3_bits_4 : decode cX3_bits 4 = .ok (.iload_n 2, 1) := by decide +kernel
theorem dX3_bits_5 : decode cX3_bits 5 = .ok (.bipush 16, 2) := by decide +kernel
theorem dX3_bits_7 : decode cX3_bits 7 = .ok (.if_icmp .ge 17, 3) := by decide +kernel
theorem dX3_bits_10 : decode cX3_bits 10 = .ok (.iload_n 1, 1) := by decide +kernel
theorem dX3_bits_11 : decode cX3_bits 11 = .ok (.iload_n 0, 1) := by decide +kernel
theorem dX3_bits_12 : decode cX3_bits 12 = .ok (.iload_n 2, 1) := by decide +kernel
theorem dX3_bits_13 : decode cX3_bits 13 = .ok (.ishr, 1) := by decide +kernel
theorem dX3_bits_14 : decode cX3_bits 14 = .ok (.iconst 1, 1) := by decide +kernel
theorem dX3_bits_15 : decode cX3_bits 15 = .ok (.iand, 1) := by decide +kernel
theorem dX3_bits_16 : decode cX3_bits 16 = .ok (.iadd, 1) := by decide +kernel
theorem dX3_bits_17 : decode cX3_bits 17 = .ok (.istore_n 1, 1) := by decide +kernel
theorem dX3_bits_18 : decode cX3_bits 18 = .ok (.iinc 2 1, 3) := by decide +kernel
theorem dX3_bits_21 : decode cX3_bits 21 = .ok (.goto (-17), 3) := by decide +kernel
theorem dX3_bits_24 : decode cX3_bits 24 = .ok (.iload_n 1, 1) := by decide +kernel
theorem dX3_bits_25 : decode cX3_bits 25 = .ok (.ireturn, 1) := by decide +kernel
theorem dX3_isClass_0 : decode cX3_isClass 0 = .ok (.iload_n 1, 1) := by decide +kernel
theorem dX3_isClass_1 : decode cX3_isClass 1 = .ok (.iconst 0, 1) := by decide +kernel
theorem dX3_isClass_2 : decode cX3_isClass 2 = .ok (.aload_n 0, 1) := by decide +kernel
theorem dX3_isClass_3 : decode cX3_isClass 3 = .ok (.getfield 62, 3) := by decide +kernel
theorem dX3_isClass_6 : decode cX3_isClass 6 = .ok (.iconst 1, 1) := by decide +kernel
theorem dX3_isClass_7 : decode cX3_isClass 7 = .ok (.isub, 1) := by decide +kernel
theorem dX3_isClass_8 : decode cX3_isClass 8 = .ok (.invokestatic 68, 3) := by decide +kernel
theorem dX3_isClass_11 : decode cX3_isClass 11 = .ok (.ireturn, 1) := by decide +kernel
theorem dX3_isFunction_0 : decode cX3_isFunction 0 = .ok (.iload_n 1, 1) := by decide +kernel
theorem dX3_isFunction_1 : decode cX3_isFunction 1 = .ok (.iconst 0, 1) := by decide +kernel
theorem dX3_isFunction_2 : decode cX3_isFunction 2 = .ok (.aload_n 0, 1) := by decide +kernel
theorem dX3_isFunction_3 : decode cX3_isFunction 3 = .ok (.getfield 72, 3) := by decide +kernel
theorem dX3_isFunction_6 : decode cX3_isFunction 6 = .ok (.iconst 1, 1) := by decide +kernel
theorem dX3_isFunction_7 : decode cX3_isFunction 7 = .ok (.isub, 1) := by decide +kernel
theorem dX3_isFunction_8 : decode cX3_isFunction 8 = .ok (.invokestatic 68, 3) := by decide +kernel
theorem dX3_isFunction_11 : decode cX3_isFunction 11 = .ok (.ireturn, 1) := by decide +kernel
theorem dX3_laysRow_0 : decode cX3_laysRow 0 = .ok (.aload_n 0, 1) := by decide +kernel
theorem dX3_laysRow_1 : decode cX3_laysRow 1 = .ok (.getfield 43, 3) := by decide +kernel
theorem dX3_laysRow_4 : decode cX3_laysRow 4 = .ok (.iload_n 1, 1) := by decide +kernel
theorem dX3_laysRow_5 : decode cX3_laysRow 5 = .ok (.iconst 0, 1) := by decide +kernel
theorem dX3_laysRow_6 : decode cX3_laysRow 6 = .ok (.iastore, 1) := by decide +kernel
theorem dX3_laysRow_7 : decode cX3_laysRow 7 = .ok (.aload_n 0, 1) := by decide +kernel
theorem dX3_laysRow_8 : decode cX3_laysRow 8 = .ok (.getfield 46, 3) := by decide +kernel
theorem dX3_laysRow_11 : decode cX3_laysRow 11 = .ok (.iload_n 1, 1) := by decide +kernel
theorem dX3_laysRow_12 : decode cX3_laysRow 12 = .ok (.iconst 0, 1) := by decide +kernel
theorem dX3_laysRow_13 : decode cX3_laysRow 13 = .ok (.iastore, 1) := by decide +kernel
theorem dX3_laysRow_14 : decode cX3_laysRow 14 = .ok (.iconst 0, 1) := by decide +kernel
theorem dX3_laysRow_15 : decode cX3_laysRow 15 = .ok (.istore_n 3, 1) := by decide +kernel
theorem dX3_laysRow_16 : decode cX3_laysRow 16 = .ok (.iload_n 2, 1) := by decide +kernel
theorem dX3_laysRow_17 : decode cX3_laysRow 17 = .ok (.iconst (-1), 1) := by decide +kernel
theorem dX3_laysRow_18 : decode cX3_laysRow 18 = .ok (.if_icmp .eq 51, 3) := by decide +kernel
theorem dX3_laysRow_21 : decode cX3_laysRow 21 = .ok (.iload_n 3, 1) := by decide +kernel
theorem dX3_laysRow_22 : decode cX3_laysRow 22 = .ok (.aload_n 0, 1) := by decide +kernel
theorem dX3_laysRow_23 : decode cX3_laysRow 23 = .ok (.getfield 16, 3) := by decide +kernel
theorem dX3_laysRow_26 : decode cX3_laysRow 26 = .ok (.iload_n 2, 1) := by decide +kernel
theorem dX3_laysRow_27 : decode cX3_laysRow 27 = .ok (.iaload, 1) := by decide +kernel
theorem dX3_laysRow_28 : decode cX3_laysRow 28 = .ok (.if_icmp .ge 41, 3) := by decide +kernel
theorem dX3_laysRow_31 : decode cX3_laysRow 31 = .ok (.aload_n 0, 1) := by decide +kernel
theorem dX3_laysRow_32 : decode cX3_laysRow 32 = .ok (.getfield 40, 3) := by decide +kernel
theorem dX3_laysRow_35 : decode cX3_laysRow 35 = .ok (.bipush 16, 2) := by decide +kernel
theorem dX3_laysRow_37 : decode cX3_laysRow 37 = .ok (.iload_n 1, 1) := by decide +kernel
theorem dX3_laysRow_38 : decode cX3_laysRow 38 = .ok (.imul, 1) := by decide +kernel
theorem dX3_laysRow_39 : decode cX3_laysRow 39 = .ok (.iload_n 3, 1) := by decide +kernel
theorem dX3_laysRow_40 : decode cX3_laysRow 40 = .ok (.iadd, 1) := by decide +kernel
theorem dX3_laysRow_41 : decode cX3_laysRow 41 = .ok (.aload_n 0, 1) := by decide +kernel
theorem dX3_laysRow_42 : decode cX3_laysRow 42 = .ok (.getfield 13, 3) := by decide +kernel
theorem dX3_laysRow_45 : decode cX3_laysRow 45 = .ok (.bipush 16, 2) := by decide +kernel
theorem dX3_laysRow_47 : decode cX3_laysRow 47 = .ok (.iload_n 2, 1) := by decide +kernel
theorem dX3_laysRow_48 : decode cX3_laysRow 48 = .ok (.imul, 1) := by decide +kernel
theorem dX3_laysRow_49 : decode cX3_laysRow 49 = .ok (.iload_n 3, 1) := by decide +kernel
theorem dX3_laysRow_50 : decode cX3_laysRow 50 = .ok (.iadd, 1) := by decide +kernel
theorem dX3_laysRow_51 : decode cX3_laysRow 51 = .ok (.iaload, 1) := by decide +kernel
theorem dX3_laysRow_52 : decode cX3_laysRow 52 = .ok (.iastore, 1) := by decide +kernel
theorem dX3_laysRow_53 : decode cX3_laysRow 53 = .ok (.aload_n 0, 1) := by decide +kernel
theorem dX3_laysRow_54 : decode cX3_laysRow 54 = .ok (.getfield 46, 3) := by decide +kernel
theorem dX3_laysRow_57 : decode cX3_laysRow 57 = .ok (.iload_n 1, 1) := by decide +kernel
theorem dX3_laysRow_58 : decode cX3_laysRow 58 = .ok (.dup2, 1) := by decide +kernel
theorem dX3_laysRow_59 : decode cX3_laysRow 59 = .ok (.iaload, 1) := by decide +kernel
theorem dX3_laysRow_60 : decode cX3_laysRow 60 = .ok (.iconst 1, 1) := by decide +kernel
theorem dX3_laysRow_61 : decode cX3_laysRow 61 = .ok (.iadd, 1) := by decide +kernel
theorem dX3_laysRow_62 : decode cX3_laysRow 62 = .ok (.iastore, 1) := by decide +kernel
theorem dX3_laysRow_63 : decode cX3_laysRow 63 = .ok (.iinc 3 1, 3) := by decide +kernel
theorem dX3_laysRow_66 : decode cX3_laysRow 66 = .ok (.goto (-50), 3) := by decide +kernel
theorem dX3_laysRow_69 : decode cX3_laysRow 69 = .ok (.return_, 1) := by decide +kernel
theorem dX3_standsBehind_0 : decode cX3_standsBehind 0 = .ok (.iconst 0, 1) := by decide +kernel
theorem dX3_standsBehind_1 : decode cX3_standsBehind 1 = .ok (.istore_n 2, 1) := by decide +kernel
theorem dX3_standsBehind_2 : decode cX3_standsBehind 2 = .ok (.iload_n 2, 1) := by decide +kernel
theorem dX3_standsBehind_3 : decode cX3_standsBehind 3 = .ok (.iconst 4, 1) := by decide +kernel
theorem dX3_standsBehind_4 : decode cX3_standsBehind 4 = .ok (.if_icmp .ge 51, 3) := by decide +kernel
theorem dX3_standsBehind_7 : decode cX3_standsBehind 7 = .ok (.aload_n 0, 1) := by decide +kernel
theorem dX3_standsBehind_8 : decode cX3_standsBehind 8 = .ok (.getfield 43, 3) := by decide +kernel
theorem dX3_standsBehind_11 : decode cX3_standsBehind 11 = .ok (.iload_n 2, 1) := by decide +kernel
theorem dX3_standsBehind_12 : decode cX3_standsBehind 12 = .ok (.iaload, 1) := by decide +kernel
theorem dX3_standsBehind_13 : decode cX3_standsBehind 13 = .ok (.iconst 1, 1) := by decide +kernel
theorem dX3_standsBehind_14 : decode cX3_standsBehind 14 = .ok (.iadd, 1) := by decide +kernel
theorem dX3_standsBehind_15 : decode cX3_standsBehind 15 = .ok (.istore_n 3, 1) := by decide +kernel
theorem dX3_standsBehind_16 : decode cX3_standsBehind 16 = .ok (.iload_n 3, 1) := by decide +kernel
theorem dX3_standsBehind_17 : decode cX3_standsBehind 17 = .ok (.aload_n 0, 1) := by decide +kernel
theorem dX3_standsBehind_18 : decode cX3_standsBehind 18 = .ok (.getfield 46, 3) := by decide +kernel
theorem dX3_standsBehind_21 : decode cX3_standsBehind 21 = .ok (.iload_n 2, 1) := by decide +kernel
theorem dX3_standsBehind_22 : decode cX3_standsBehind 22 = .ok (.iaload, 1) := by decide +kernel
theorem dX3_standsBehind_23 : decode cX3_standsBehind 23 = .ok (.if_icmp .ge 26, 3) := by decide +kernel
theorem dX3_standsBehind_26 : decode cX3_standsBehind 26 = .ok (.aload_n 0, 1) := by decide +kernel
theorem dX3_standsBehind_27 : decode cX3_standsBehind 27 = .ok (.getfield 40, 3) := by decide +kernel
theorem dX3_standsBehind_30 : decode cX3_standsBehind 30 = .ok (.bipush 16, 2) := by decide +kernel
theorem dX3_standsBehind_32 : decode cX3_standsBehind 32 = .ok (.iload_n 2, 1) := by decide +kernel
theorem dX3_standsBehind_33 : decode cX3_standsBehind 33 = .ok (.imul, 1) := by decide +kernel
theorem dX3_standsBehind_34 : decode cX3_standsBehind 34 = .ok (.iload_n 3, 1) := by decide +kernel
theorem dX3_standsBehind_35 : decode cX3_standsBehind 35 = .ok (.iadd, 1) := by decide +kernel
theorem dX3_standsBehind_36 : decode cX3_standsBehind 36 = .ok (.iaload, 1) := by decide +kernel
theorem dX3_standsBehind_37 : decode cX3_standsBehind 37 = .ok (.iload_n 1, 1) := by decide +kernel
theorem dX3_standsBehind_38 : decode cX3_standsBehind 38 = .ok (.if_icmp .ne 5, 3) := by decide +kernel
theorem dX3_standsBehind_41 : decode cX3_standsBehind 41 = .ok (.iconst 1, 1) := by decide +kernel
theorem dX3_standsBehind_42 : decode cX3_standsBehind 42 = .ok (.ireturn, 1) := by decide +kernel
theorem dX3_standsBehind_43 : decode cX3_standsBehind 43 = .ok (.iinc 3 1, 3) := by decide +kernel
theorem dX3_standsBehind_46 : decode cX3_standsBehind 46 = .ok (.goto (-30), 3) := by decide +kernel
theorem dX3_standsBehind_49 : decode cX3_standsBehind 49 = .ok (.iinc 2 1, 3) := by decide +kernel
theorem dX3_standsBehind_52 : decode cX3_standsBehind 52 = .ok (.goto (-50), 3) := by decide +kernel
theorem dX3_standsBehind_55 : decode cX3_standsBehind 55 = .ok (.iconst 0, 1) := by decide +kernel
theorem dX3_standsBehind_56 : decode cX3_standsBehind 56 = .ok (.ireturn, 1) := by decide +kernel
theorem dX3_comesNext_0 : decode cX3_comesNext 0 = .ok (.iconst 0, 1) := by decide +kernel
theorem dX3_comesNext_1 : decode cX3_comesNext 1 = .ok (.istore_n 1, 1) := by decide +kernel
theorem dX3_comesNext_2 : decode cX3_comesNext 2 = .ok (.iload_n 1, 1) := by decide +kernel
theorem dX3_comesNext_3 : decode cX3_comesNext 3 = .ok (.iconst 4, 1) := by decide +kernel
theorem dX3_comesNext_4 : decode cX3_comesNext 4 = .ok (.if_icmp .ge 64, 3) := by decide +kernel
theorem dX3_comesNext_7 : decode cX3_comesNext 7 = .ok (.aload_n 0, 1) := by decide +kernel
theorem dX3_comesNext_8 : decode cX3_comesNext 8 = .ok (.getfield 43, 3) := by decide +kernel
theorem dX3_comesNext_11 : decode cX3_comesNext 11 = .ok (.iload_n 1, 1) := by decide +kernel
theorem dX3_comesNext_12 : decode cX3_comesNext 12 = .ok (.iaload, 1) := by decide +kernel
theorem dX3_comesNext_13 : decode cX3_comesNext 13 = .ok (.aload_n 0, 1) := by decide +kernel
theorem dX3_comesNext_14 : decode cX3_comesNext 14 = .ok (.getfield 46, 3) := by decide +kernel
theorem dX3_comesNext_17 : decode cX3_comesNext 17 = .ok (.iload_n 1, 1) := by decide +kernel
theorem dX3_comesNext_18 : decode cX3_comesNext 18 = .ok (.iaload, 1) := by decide +kernel
theorem dX3_comesNext_19 : decode cX3_comesNext 19 = .ok (.if_icmp .ge 43, 3) := by decide +kernel
theorem dX3_comesNext_22 : decode cX3_comesNext 22 = .ok (.aload_n 0, 1) := by decide +kernel
theorem dX3_comesNext_23 : decode cX3_comesNext 23 = .ok (.aload_n 0, 1) := by decide +kernel
theorem dX3_comesNext_24 : decode cX3_comesNext 24 = .ok (.getfield 40, 3) := by decide +kernel
theorem dX3_comesNext_27 : decode cX3_comesNext 27 = .ok (.bipush 16, 2) := by decide +kernel
theorem dX3_comesNext_29 : decode cX3_comesNext 29 = .ok (.iload_n 1, 1) := by decide +kernel
theorem dX3_comesNext_30 : decode cX3_comesNext 30 = .ok (.imul, 1) := by decide +kernel
theorem dX3_comesNext_31 : decode cX3_comesNext 31 = .ok (.aload_n 0, 1) := by decide +kernel
theorem dX3_comesNext_32 : decode cX3_comesNext 32 = .ok (.getfield 43, 3) := by decide +kernel
theorem dX3_comesNext_35 : decode cX3_comesNext 35 = .ok (.iload_n 1, 1) := by decide +kernel
theorem dX3_comesNext_36 : decode cX3_comesNext 36 = .ok (.iaload, 1) := by decide +kernel
theorem dX3_comesNext_37 : decode cX3_comesNext 37 = .ok (.iadd, 1) := by decide +kernel
theorem dX3_comesNext_38 : decode cX3_comesNext 38 = .ok (.iaload, 1) := by decide +kernel
theorem dX3_comesNext_39 : decode cX3_comesNext 39 = .ok (.invokevirtual 75, 3) := by decide +kernel
theorem dX3_comesNext_42 : decode cX3_comesNext 42 = .ok (.ifCond .ne 20, 3) := by decide +kernel
theorem dX3_comesNext_45 : decode cX3_comesNext 45 = .ok (.aload_n 0, 1) := by decide +kernel
theorem dX3_comesNext_46 : decode cX3_comesNext 46 = .ok (.getfield 40, 3) := by decide +kernel
theorem dX3_comesNext_49 : decode cX3_comesNext 49 = .ok (.bipush 16, 2) := by decide +kernel
theorem dX3_comesNext_51 : decode cX3_comesNext 51 = .ok (.iload_n 1, 1) := by decide +kernel
theorem dX3_comesNext_52 : decode cX3_comesNext 52 = .ok (.imul, 1) := by decide +kernel
theorem dX3_comesNext_53 : decode cX3_comesNext 53 = .ok (.aload_n 0, 1) := by decide +kernel
theorem dX3_comesNext_54 : decode cX3_comesNext 54 = .ok (.getfield 43, 3) := by decide +kernel
theorem dX3_comesNext_57 : decode cX3_comesNext 57 = .ok (.iload_n 1, 1) := by decide +kernel
theorem dX3_comesNext_58 : decode cX3_comesNext 58 = .ok (.iaload, 1) := by decide +kernel
theorem dX3_comesNext_59 : decode cX3_comesNext 59 = .ok (.iadd, 1) := by decide +kernel
theorem dX3_comesNext_60 : decode cX3_comesNext 60 = .ok (.iaload, 1) := by decide +kernel
theorem dX3_comesNext_61 : decode cX3_comesNext 61 = .ok (.ireturn, 1) := by decide +kernel
theorem dX3_comesNext_62 : decode cX3_comesNext 62 = .ok (.iinc 1 1, 3) := by decide +kernel
theorem dX3_comesNext_65 : decode cX3_comesNext 65 = .ok (.goto (-63), 3) := by decide +kernel
theorem dX3_comesNext_68 : decode cX3_comesNext 68 = .ok (.iconst (-1), 1) := by decide +kernel
theorem dX3_comesNext_69 : decode cX3_comesNext 69 = .ok (.ireturn, 1) := by decide +kernel
theorem dX3_isLeft_0 : decode cX3_isLeft 0 = .ok (.iconst 0, 1) := by decide +kernel
theorem dX3_isLeft_1 : decode cX3_isLeft 1 = .ok (.istore_n 1, 1) := by decide +kernel
theorem dX3_isLeft_2 : decode cX3_isLeft 2 = .ok (.iconst 0, 1) := by decide +kernel
theorem dX3_isLeft_3 : decode cX3_isLeft 3 = .ok (.istore_n 2, 1) := by decide +kernel
theorem dX3_isLeft_4 : decode cX3_isLeft 4 = .ok (.iload_n 2, 1) := by decide +kernel
theorem dX3_isLeft_5 : decode cX3_isLeft 5 = .ok (.iconst 4, 1) := by decide +kernel
theorem dX3_isLeft_6 : decode cX3_isLeft 6 = .ok (.if_icmp .ge 34, 3) := by decide +kernel
theorem dX3_isLeft_9 : decode cX3_isLeft 9 = .ok (.iload_n 1, 1) := by decide +kernel
theorem dX3_isLeft_10 : decode cX3_isLeft 10 = .ok (.ifCond .ne 18, 3) := by decide +kernel
theorem dX3_isLeft_13 : decode cX3_isLeft 13 = .ok (.aload_n 0, 1) := by decide +kernel
theorem dX3_isLeft_14 : decode cX3_isLeft 14 = .ok (.getfield 43, 3) := by decide +kernel
theorem dX3_isLeft_17 : decode cX3_isLeft 17 = .ok (.iload_n 2, 1) := by decide +kernel
theorem dX3_isLeft_18 : decode cX3_isLeft 18 = .ok (.iaload, 1) := by decide +kernel
theorem dX3_isLeft_19 : decode cX3_isLeft 19 = .ok (.aload_n 0, 1) := by decide +kernel
theorem dX3_isLeft_20 : decode cX3_isLeft 20 = .ok (.getfield 46, 3) := by decide +kernel
theorem dX3_isLeft_23 : decode cX3_isLeft 23 = .ok (.iload_n 2, 1) := by decide +kernel
theorem dX3_isLeft_24 : decode cX3_isLeft 24 = .ok (.iaload, 1) := by decide +kernel
theorem dX3_isLeft_25 : decode cX3_isLeft 25 = .ok (.if_icmp .ge 7, 3) := by decide +kernel
theorem dX3_isLeft_28 : decode cX3_isLeft 28 = .ok (.iconst 1, 1) := by decide +kernel
theorem dX3_isLeft_29 : decode cX3_isLeft 29 = .ok (.goto 4, 3) := by decide +kernel
theorem dX3_isLeft_32 : decode cX3_isLeft 32 = .ok (.iconst 0, 1) := by decide +kernel
theorem dX3_isLeft_33 : decode cX3_isLeft 33 = .ok (.istore_n 1, 1) := by decide +kernel
theorem dX3_isLeft_34 : decode cX3_isLeft 34 = .ok (.iinc 2 1, 3) := by decide +kernel
theorem dX3_isLeft_37 : decode cX3_isLeft 37 = .ok (.goto (-33), 3) := by decide +kernel
theorem dX3_isLeft_40 : decode cX3_isLeft 40 = .ok (.iload_n 1, 1) := by decide +kernel
theorem dX3_isLeft_41 : decode cX3_isLeft 41 = .ok (.ireturn, 1) := by decide +kernel
theorem dX3_merges_0 : decode cX3_merges 0 = .ok (.aload_n 0, 1) := by decide +kernel
theorem dX3_merges_1 : decode cX3_merges 1 = .ok (.getfield 13, 3) := by decide +kernel
theorem dX3_merges_4 : decode cX3_merges 4 = .ok (.bipush 16, 2) := by decide +kernel
theorem dX3_merges_6 : decode cX3_merges 6 = .ok (.iload_n 1, 1) := by decide +kernel
theorem dX3_merges_7 : decode cX3_merges 7 = .ok (.imul, 1) := by decide +kernel
theorem dX3_merges_8 : decode cX3_merges 8 = .ok (.iload_n 1, 1) := by decide +kernel
theorem dX3_merges_9 : decode cX3_merges 9 = .ok (.iastore, 1) := by decide +kernel
theorem dX3_merges_10 : decode cX3_merges 10 = .ok (.aload_n 0, 1) := by decide +kernel
theorem dX3_merges_11 : decode cX3_merges 11 = .ok (.getfield 16, 3) := by decide +kernel
theorem dX3_merges_14 : decode cX3_merges 14 = .ok (.iload_n 1, 1) := by decide +kernel
theorem dX3_merges_15 : decode cX3_merges 15 = .ok (.iconst 1, 1) := by decide +kernel
theorem dX3_merges_16 : decode cX3_merges 16 = .ok (.iastore, 1) := by decide +kernel
theorem dX3_merges_17 : decode cX3_merges 17 = .ok (.aload_n 0, 1) := by decide +kernel
theorem dX3_merges_18 : decode cX3_merges 18 = .ok (.invokevirtual 79, 3) := by decide +kernel
theorem dX3_merges_21 : decode cX3_merges 21 = .ok (.ifCond .eq 107, 3) := by decide +kernel
theorem dX3_merges_24 : decode cX3_merges 24 = .ok (.aload_n 0, 1) := by decide +kernel
theorem dX3_merges_25 : decode cX3_merges 25 = .ok (.invokevirtual 83, 3) := by decide +kernel
theorem dX3_merges_28 : decode cX3_merges 28 = .ok (.istore_n 2, 1) := by decide +kernel
theorem dX3_merges_29 : decode cX3_merges 29 = .ok (.iload_n 2, 1) := by decide +kernel
theorem dX3_merges_30 : decode cX3_merges 30 = .ok (.iconst (-1), 1) := by decide +kernel
theorem dX3_merges_31 : decode cX3_merges 31 = .ok (.if_icmp .ne 5, 3) := by decide +kernel
theorem dX3_merges_34 : decode cX3_merges 34 = .ok (.iconst 0, 1) := by decide +kernel
theorem dX3_merges_35 : decode cX3_merges 35 = .ok (.ireturn, 1) := by decide +kernel
theorem dX3_merges_36 : decode cX3_merges 36 = .ok (.aload_n 0, 1) := by decide +kernel
theorem dX3_merges_37 : decode cX3_merges 37 = .ok (.getfield 13, 3) := by decide +kernel
theorem dX3_merges_40 : decode cX3_merges 40 = .ok (.bipush 16, 2) := by decide +kernel
theorem dX3_merges_42 : decode cX3_merges 42 = .ok (.iload_n 1, 1) := by decide +kernel
theorem dX3_merges_43 : decode cX3_merges 43 = .ok (.imul, 1) := by decide +kernel
theorem dX3_merges_44 : decode cX3_merges 44 = .ok (.aload_n 0, 1) := by decide +kernel
theorem dX3_merges_45 : decode cX3_merges 45 = .ok (.getfield 16, 3) := by decide +kernel
theorem dX3_merges_48 : decode cX3_merges 48 = .ok (.iload_n 1, 1) := by decide +kernel
theorem dX3_merges_49 : decode cX3_merges 49 = .ok (.iaload, 1) := by decide +kernel
theorem dX3_merges_50 : decode cX3_merges 50 = .ok (.iadd, 1) := by decide +kernel
theorem dX3_merges_51 : decode cX3_merges 51 = .ok (.iload_n 2, 1) := by decide +kernel
theorem dX3_merges_52 : decode cX3_merges 52 = .ok (.iastore, 1) := by decide +kernel
theorem dX3_merges_53 : decode cX3_merges 53 = .ok (.aload_n 0, 1) := by decide +kernel
theorem dX3_merges_54 : decode cX3_merges 54 = .ok (.getfield 16, 3) := by decide +kernel
theorem dX3_merges_57 : decode cX3_merges 57 = .ok (.iload_n 1, 1) := by decide +kernel
theorem dX3_merges_58 : decode cX3_merges 58 = .ok (.dup2, 1) := by decide +kernel
theorem dX3_merges_59 : decode cX3_merges 59 = .ok (.iaload, 1) := by decide +kernel
theorem dX3_merges_60 : decode cX3_merges 60 = .ok (.iconst 1, 1) := by decide +kernel
theorem dX3_merges_61 : decode cX3_merges 61 = .ok (.iadd, 1) := by decide +kernel
theorem dX3_merges_62 : decode cX3_merges 62 = .ok (.iastore, 1) := by decide +kernel
theorem dX3_merges_63 : decode cX3_merges 63 = .ok (.iconst 0, 1) := by decide +kernel
theorem dX3_merges_64 : decode cX3_merges 64 = .ok (.istore_n 3, 1) := by decide +kernel
theorem dX3_merges_65 : decode cX3_merges 65 = .ok (.iload_n 3, 1) := by decide +kernel
theorem dX3_merges_66 : decode cX3_merges 66 = .ok (.iconst 4, 1) := by decide +kernel
theorem dX3_merges_67 : decode cX3_merges 67 = .ok (.if_icmp .ge 58, 3) := by decide +kernel
theorem dX3_merges_70 : decode cX3_merges 70 = .ok (.aload_n 0, 1) := by decide +kernel
theorem dX3_merges_71 : decode cX3_merges 71 = .ok (.getfield 43, 3) := by decide +kernel
theorem dX3_merges_74 : decode cX3_merges 74 = .ok (.iload_n 3, 1) := by decide +kernel
theorem dX3_merges_75 : decode cX3_merges 75 = .ok (.dup2, 1) := by decide +kernel
theorem dX3_merges_76 : decode cX3_merges 76 = .ok (.iaload, 1) := by decide +kernel
theorem dX3_merges_77 : decode cX3_merges 77 = .ok (.aload_n 0, 1) := by decide +kernel
theorem dX3_merges_78 : decode cX3_merges 78 = .ok (.getfield 43, 3) := by decide +kernel
theorem dX3_merges_81 : decode cX3_merges 81 = .ok (.iload_n 3, 1) := by decide +kernel
theorem dX3_merges_82 : decode cX3_merges 82 = .ok (.iaload, 1) := by decide +kernel
theorem dX3_merges_83 : decode cX3_merges 83 = .ok (.aload_n 0, 1) := by decide +kernel
theorem dX3_merges_84 : decode cX3_merges 84 = .ok (.getfield 46, 3) := by decide +kernel
theorem dX3_merges_87 : decode cX3_merges 87 = .ok (.iload_n 3, 1) := by decide +kernel
theorem dX3_merges_88 : decode cX3_merges 88 = .ok (.iaload, 1) := by decide +kernel
theorem dX3_merges_89 : decode cX3_merges 89 = .ok (.if_icmp .ge 27, 3) := by decide +kernel
theorem dX3_merges_92 : decode cX3_merges 92 = .ok (.aload_n 0, 1) := by decide +kernel
theorem dX3_merges_93 : decode cX3_merges 93 = .ok (.getfield 40, 3) := by decide +kernel
theorem dX3_merges_96 : decode cX3_merges 96 = .ok (.bipush 16, 2) := by decide +kernel
theorem dX3_merges_98 : decode cX3_merges 98 = .ok (.iload_n 3, 1) := by decide +kernel
theorem dX3_merges_99 : decode cX3_merges 99 = .ok (.imul, 1) := by decide +kernel
theorem dX3_merges_100 : decode cX3_merges 100 = .ok (.aload_n 0, 1) := by decide +kernel
theorem dX3_merges_101 : decode cX3_merges 101 = .ok (.getfield 43, 3) := by decide +kernel
theorem dX3_merges_104 : decode cX3_merges 104 = .ok (.iload_n 3, 1) := by decide +kernel
theorem dX3_merges_105 : decode cX3_merges 105 = .ok (.iaload, 1) := by decide +kernel
theorem dX3_merges_106 : decode cX3_merges 106 = .ok (.iadd, 1) := by decide +kernel
theorem dX3_merges_107 : decode cX3_merges 107 = .ok (.iaload, 1) := by decide +kernel
theorem dX3_merges_108 : decode cX3_merges 108 = .ok (.iload_n 2, 1) := by decide +kernel
theorem dX3_merges_109 : decode cX3_merges 109 = .ok (.if_icmp .ne 7, 3) := by decide +kernel
theorem dX3_merges_112 : decode cX3_merges 112 = .ok (.iconst 1, 1) := by decide +kernel
theorem dX3_merges_113 : decode cX3_merges 113 = .ok (.goto 4, 3) := by decide +kernel
theorem dX3_merges_116 : decode cX3_merges 116 = .ok (.iconst 0, 1) := by decide +kernel
theorem dX3_merges_117 : decode cX3_merges 117 = .ok (.iadd, 1) := by decide +kernel
theorem dX3_merges_118 : decode cX3_merges 118 = .ok (.iastore, 1) := by decide +kernel
theorem dX3_merges_119 : decode cX3_merges 119 = .ok (.iinc 3 1, 3) := by decide +kernel
theorem dX3_merges_122 : decode cX3_merges 122 = .ok (.goto (-57), 3) := by decide +kernel
theorem dX3_merges_125 : decode cX3_merges 125 = .ok (.goto (-108), 3) := by decide +kernel
theorem dX3_merges_128 : decode cX3_merges 128 = .ok (.iconst 1, 1) := by decide +kernel
theorem dX3_merges_129 : decode cX3_merges 129 = .ok (.ireturn, 1) := by decide +kernel
theorem dX3_kind_0 : decode cX3_kind 0 = .ok (.aload_n 0, 1) := by decide +kernel
theorem dX3_kind_1 : decode cX3_kind 1 = .ok (.iconst 0, 1) := by decide +kernel
theorem dX3_kind_2 : decode cX3_kind 2 = .ok (.putfield 65, 3) := by decide +kernel
theorem dX3_kind_5 : decode cX3_kind 5 = .ok (.aload_n 0, 1) := by decide +kernel
theorem dX3_kind_6 : decode cX3_kind 6 = .ok (.iload_n 1, 1) := by decide +kernel
theorem dX3_kind_7 : decode cX3_kind 7 = .ok (.invokevirtual 87, 3) := by decide +kernel
theorem dX3_kind_10 : decode cX3_kind 10 = .ok (.ifCond .eq 41, 3) := by decide +kernel
theorem dX3_kind_13 : decode cX3_kind 13 = .ok (.iload_n 2, 1) := by decide +kernel
theorem dX3_kind_14 : decode cX3_kind 14 = .ok (.iconst (-1), 1) := by decide +kernel
theorem dX3_kind_15 : decode cX3_kind 15 = .ok (.if_icmp .ne 11, 3) := by decide +kernel
theorem dX3_kind_18 : decode cX3_kind 18 = .ok (.iload_n 3, 1) := by decide +kernel
theorem dX3_kind_19 : decode cX3_kind 19 = .ok (.iconst (-1), 1) := by decide +kernel
theorem dX3_kind_20 : decode cX3_kind 20 = .ok (.if_icmp .ne 31, 3) := by decide +kernel
theorem dX3_kind_23 : decode cX3_kind 23 = .ok (.goto 11, 3) := by decide +kernel
theorem dX3_kind_26 : decode cX3_kind 26 = .ok (.aload_n 0, 1) := by decide +kernel
theorem dX3_kind_27 : decode cX3_kind 27 = .ok (.iload_n 2, 1) := by decide +kernel
theorem dX3_kind_28 : decode cX3_kind 28 = .ok (.invokevirtual 87, 3) := by decide +kernel
theorem dX3_kind_31 : decode cX3_kind 31 = .ok (.ifCond .eq 20, 3) := by decide +kernel
theorem dX3_kind_34 : decode cX3_kind 34 = .ok (.iload_n 3, 1) := by decide +kernel
theorem dX3_kind_35 : decode cX3_kind 35 = .ok (.iconst (-1), 1) := by decide +kernel
theorem dX3_kind_36 : decode cX3_kind 36 = .ok (.if_icmp .eq 11, 3) := by decide +kernel
theorem dX3_kind_39 : decode cX3_kind 39 = .ok (.aload_n 0, 1) := by decide +kernel
theorem dX3_kind_40 : decode cX3_kind 40 = .ok (.iload_n 3, 1) := by decide +kernel
theorem dX3_kind_41 : decode cX3_kind 41 = .ok (.invokevirtual 87, 3) := by decide +kernel
theorem dX3_kind_44 : decode cX3_kind 44 = .ok (.ifCond .eq 7, 3) := by decide +kernel
theorem dX3_kind_47 : decode cX3_kind 47 = .ok (.iconst 1, 1) := by decide +kernel
theorem dX3_kind_48 : decode cX3_kind 48 = .ok (.goto 4, 3) := by decide +kernel
theorem dX3_kind_51 : decode cX3_kind 51 = .ok (.iconst 0, 1) := by decide +kernel
theorem dX3_kind_52 : decode cX3_kind 52 = .ok (.istore 4, 2) := by decide +kernel
theorem dX3_kind_54 : decode cX3_kind 54 = .ok (.iload 4, 2) := by decide +kernel
theorem dX3_kind_56 : decode cX3_kind 56 = .ok (.ifCond .eq 32, 3) := by decide +kernel
theorem dX3_kind_59 : decode cX3_kind 59 = .ok (.aload_n 0, 1) := by decide +kernel
theorem dX3_kind_60 : decode cX3_kind 60 = .ok (.getfield 62, 3) := by decide +kernel
theorem dX3_kind_63 : decode cX3_kind 63 = .ok (.bipush 16, 2) := by decide +kernel
theorem dX3_kind_65 : decode cX3_kind 65 = .ok (.if_icmp .eq 23, 3) := by decide +kernel
theorem dX3_kind_68 : decode cX3_kind 68 = .ok (.iload_n 1, 1) := by decide +kernel
theorem dX3_kind_69 : decode cX3_kind 69 = .ok (.iload_n 2, 1) := by decide +kernel
theorem dX3_kind_70 : decode cX3_kind 70 = .ok (.if_icmp .eq 18, 3) := by decide +kernel
theorem dX3_kind_73 : decode cX3_kind 73 = .ok (.iload_n 1, 1) := by decide +kernel
theorem dX3_kind_74 : decode cX3_kind 74 = .ok (.iload_n 3, 1) := by decide +kernel
theorem dX3_kind_75 : decode cX3_kind 75 = .ok (.if_icmp .eq 13, 3) := by decide +kernel
theorem dX3_kind_78 : decode cX3_kind 78 = .ok (.iload_n 2, 1) := by decide +kernel
theorem dX3_kind_79 : decode cX3_kind 79 = .ok (.iload_n 3, 1) := by decide +kernel
theorem dX3_kind_80 : decode cX3_kind 80 = .ok (.if_icmp .ne 10, 3) := by decide +kernel
theorem dX3_kind_83 : decode cX3_kind 83 = .ok (.iload_n 2, 1) := by decide +kernel
theorem dX3_kind_84 : decode cX3_kind 84 = .ok (.iconst (-1), 1) := by decide +kernel
theorem dX3_kind_85 : decode cX3_kind 85 = .ok (.if_icmp .eq 5, 3) := by decide +kernel
theorem dX3_kind_88 : decode cX3_kind 88 = .ok (.iconst (-1), 1) := by decide +kernel
theorem dX3_kind_89 : decode cX3_kind 89 = .ok (.ireturn, 1) := by decide +kernel
theorem dX3_kind_90 : decode cX3_kind 90 = .ok (.aload_n 0, 1) := by decide +kernel
theorem dX3_kind_91 : decode cX3_kind 91 = .ok (.getfield 62, 3) := by decide +kernel
theorem dX3_kind_94 : decode cX3_kind 94 = .ok (.istore 5, 2) := by decide +kernel
theorem dX3_kind_96 : decode cX3_kind 96 = .ok (.aload_n 0, 1) := by decide +kernel
theorem dX3_kind_97 : decode cX3_kind 97 = .ok (.iconst 0, 1) := by decide +kernel
theorem dX3_kind_98 : decode cX3_kind 98 = .ok (.iload_n 1, 1) := by decide +kernel
theorem dX3_kind_99 : decode cX3_kind 99 = .ok (.invokevirtual 90, 3) := by decide +kernel
theorem dX3_kind_102 : decode cX3_kind 102 = .ok (.aload_n 0, 1) := by decide +kernel
theorem dX3_kind_103 : decode cX3_kind 103 = .ok (.iconst 1, 1) := by decide +kernel
theorem dX3_kind_104 : decode cX3_kind 104 = .ok (.iload_n 2, 1) := by decide +kernel
theorem dX3_kind_105 : decode cX3_kind 105 = .ok (.invokevirtual 90, 3) := by decide +kernel
theorem dX3_kind_108 : decode cX3_kind 108 = .ok (.aload_n 0, 1) := by decide +kernel
theorem dX3_kind_109 : decode cX3_kind 109 = .ok (.iconst 2, 1) := by decide +kernel
theorem dX3_kind_110 : decode cX3_kind 110 = .ok (.iload_n 3, 1) := by decide +kernel
theorem dX3_kind_111 : decode cX3_kind 111 = .ok (.invokevirtual 90, 3) := by decide +kernel
theorem dX3_kind_114 : decode cX3_kind 114 = .ok (.aload_n 0, 1) := by decide +kernel
theorem dX3_kind_115 : decode cX3_kind 115 = .ok (.getfield 43, 3) := by decide +kernel
theorem dX3_kind_118 : decode cX3_kind 118 = .ok (.iconst 3, 1) := by decide +kernel
theorem dX3_kind_119 : decode cX3_kind 119 = .ok (.iconst 0, 1) := by decide +kernel
theorem dX3_kind_120 : decode cX3_kind 120 = .ok (.iastore, 1) := by decide +kernel
theorem dX3_kind_121 : decode cX3_kind 121 = .ok (.aload_n 0, 1) := by decide +kernel
theorem dX3_kind_122 : decode cX3_kind 122 = .ok (.getfield 40, 3) := by decide +kernel
theorem dX3_kind_125 : decode cX3_kind 125 = .ok (.bipush 48, 2) := by decide +kernel
theorem dX3_kind_127 : decode cX3_kind 127 = .ok (.iload_n 1, 1) := by decide +kernel
theorem dX3_kind_128 : decode cX3_kind 128 = .ok (.iastore, 1) := by decide +kernel
theorem dX3_kind_129 : decode cX3_kind 129 = .ok (.aload_n 0, 1) := by decide +kernel
theorem dX3_kind_130 : decode cX3_kind 130 = .ok (.getfield 40, 3) := by decide +kernel
theorem dX3_kind_133 : decode cX3_kind 133 = .ok (.bipush 49, 2) := by decide +kernel
theorem dX3_kind_135 : decode cX3_kind 135 = .ok (.iload_n 2, 1) := by decide +kernel
theorem dX3_kind_136 : decode cX3_kind 136 = .ok (.iastore, 1) := by decide +kernel
theorem dX3_kind_137 : decode cX3_kind 137 = .ok (.aload_n 0, 1) := by decide +kernel
theorem dX3_kind_138 : decode cX3_kind 138 = .ok (.getfield 40, 3) := by decide +kernel
theorem dX3_kind_141 : decode cX3_kind 141 = .ok (.bipush 50, 2) := by decide +kernel
theorem dX3_kind_143 : decode cX3_kind 143 = .ok (.iload_n 3, 1) := by decide +kernel
theorem dX3_kind_144 : decode cX3_kind 144 = .ok (.iastore, 1) := by decide +kernel
theorem dX3_kind_145 : decode cX3_kind 145 = .ok (.aload_n 0, 1) := by decide +kernel
theorem dX3_kind_146 : decode cX3_kind 146 = .ok (.getfield 46, 3) := by decide +kernel
theorem dX3_kind_149 : decode cX3_kind 149 = .ok (.iconst 3, 1) := by decide +kernel
theorem dX3_kind_150 : decode cX3_kind 150 = .ok (.iload_n 2, 1) := by decide +kernel
theorem dX3_kind_151 : decode cX3_kind 151 = .ok (.iconst (-1), 1) := by decide +kernel
theorem dX3_kind_152 : decode cX3_kind 152 = .ok (.if_icmp .ne 7, 3) := by decide +kernel
theorem dX3_kind_155 : decode cX3_kind 155 = .ok (.iconst 1, 1) := by decide +kernel
theorem dX3_kind_156 : decode cX3_kind 156 = .ok (.goto 13, 3) := by decide +kernel
theorem dX3_kind_159 : decode cX3_kind 159 = .ok (.iload_n 3, 1) := by decide +kernel
theorem dX3_kind_160 : decode cX3_kind 160 = .ok (.iconst (-1), 1) := by decide +kernel
theorem dX3_kind_161 : decode cX3_kind 161 = .ok (.if_icmp .ne 7, 3) := by decide +kernel
theorem dX3_kind_164 : decode cX3_kind 164 = .ok (.iconst 2, 1) := by decide +kernel
theorem dX3_kind_165 : decode cX3_kind 165 = .ok (.goto 4, 3) := by decide +kernel
theorem dX3_kind_168 : decode cX3_kind 168 = .ok (.iconst 3, 1) := by decide +kernel
theorem dX3_kind_169 : decode cX3_kind 169 = .ok (.iastore, 1) := by decide +kernel
theorem dX3_kind_170 : decode cX3_kind 170 = .ok (.aload_n 0, 1) := by decide +kernel
theorem dX3_kind_171 : decode cX3_kind 171 = .ok (.iload 5, 2) := by decide +kernel
theorem dX3_kind_173 : decode cX3_kind 173 = .ok (.invokevirtual 94, 3) := by decide +kernel
theorem dX3_kind_176 : decode cX3_kind 176 = .ok (.ifCond .ne 6, 3) := by decide +kernel
theorem dX3_kind_179 : decode cX3_kind 179 = .ok (.bipush (-2), 2) := by decide +kernel
theorem dX3_kind_181 : decode cX3_kind 181 = .ok (.ireturn, 1) := by decide +kernel
theorem dX3_kind_182 : decode cX3_kind 182 = .ok (.aload_n 0, 1) := by decide +kernel
theorem dX3_kind_183 : decode cX3_kind 183 = .ok (.getfield 7, 3) := by decide +kernel
theorem dX3_kind_186 : decode cX3_kind 186 = .ok (.iload 5, 2) := by decide +kernel
theorem dX3_kind_188 : decode cX3_kind 188 = .ok (.iconst 0, 1) := by decide +kernel
theorem dX3_kind_189 : decode cX3_kind 189 = .ok (.iastore, 1) := by decide +kernel
theorem dX3_kind_190 : decode cX3_kind 190 = .ok (.iconst 0, 1) := by decide +kernel
theorem dX3_kind_191 : decode cX3_kind 191 = .ok (.istore 6, 2) := by decide +kernel
theorem dX3_kind_193 : decode cX3_kind 193 = .ok (.iload 6, 2) := by decide +kernel
theorem dX3_kind_195 : decode cX3_kind 195 = .ok (.aload_n 0, 1) := by decide +kernel
theorem dX3_kind_196 : decode cX3_kind 196 = .ok (.getfield 16, 3) := by decide +kernel
theorem dX3_kind_199 : decode cX3_kind 199 = .ok (.iload 5, 2) := by decide +kernel
theorem dX3_kind_201 : decode cX3_kind 201 = .ok (.iaload, 1) := by decide +kernel
theorem dX3_kind_202 : decode cX3_kind 202 = .ok (.if_icmp .ge 60, 3) := by decide +kernel
theorem dX3_kind_205 : decode cX3_kind 205 = .ok (.aload_n 0, 1) := by decide +kernel
theorem dX3_kind_206 : decode cX3_kind 206 = .ok (.getfield 7, 3) := by decide +kernel
theorem dX3_kind_209 : decode cX3_kind 209 = .ok (.iload 5, 2) := by decide +kernel
theorem dX3_kind_211 : decode cX3_kind 211 = .ok (.dup2, 1) := by decide +kernel
theorem dX3_kind_212 : decode cX3_kind 212 = .ok (.iaload, 1) := by decide +kernel
theorem dX3_kind_213 : decode cX3_kind 213 = .ok (.iconst 1, 1) := by decide +kernel
theorem dX3_kind_214 : decode cX3_kind 214 = .ok (.aload_n 0, 1) := by decide +kernel
theorem dX3_kind_215 : decode cX3_kind 215 = .ok (.getfield 13, 3) := by decide +kernel
theorem dX3_kind_218 : decode cX3_kind 218 = .ok (.bipush 16, 2) := by decide +kernel
theorem dX3_kind_220 : decode cX3_kind 220 = .ok (.iload 5, 2) := by decide +kernel
theorem dX3_kind_222 : decode cX3_kind 222 = .ok (.imul, 1) := by decide +kernel
theorem dX3_kind_223 : decode cX3_kind 223 = .ok (.iload 6, 2) := by decide +kernel
theorem dX3_kind_225 : decode cX3_kind 225 = .ok (.iadd, 1) := by decide +kernel
theorem dX3_kind_226 : decode cX3_kind 226 = .ok (.iaload, 1) := by decide +kernel
theorem dX3_kind_227 : decode cX3_kind 227 = .ok (.ishl, 1) := by decide +kernel
theorem dX3_kind_228 : decode cX3_kind 228 = .ok (.ior, 1) := by decide +kernel
theorem dX3_kind_229 : decode cX3_kind 229 = .ok (.iastore, 1) := by decide +kernel
theorem dX3_kind_230 : decode cX3_kind 230 = .ok (.aload_n 0, 1) := by decide +kernel
theorem dX3_kind_231 : decode cX3_kind 231 = .ok (.getfield 19, 3) := by decide +kernel
theorem dX3_kind_234 : decode cX3_kind 234 = .ok (.bipush 16, 2) := by decide +kernel
theorem dX3_kind_236 : decode cX3_kind 236 = .ok (.iload 5, 2) := by decide +kernel
theorem dX3_kind_238 : decode cX3_kind 238 = .ok (.imul, 1) := by decide +kernel
theorem dX3_kind_239 : decode cX3_kind 239 = .ok (.aload_n 0, 1) := by decide +kernel
theorem dX3_kind_240 : decode cX3_kind 240 = .ok (.getfield 13, 3) := by decide +kernel
theorem dX3_kind_243 : decode cX3_kind 243 = .ok (.bipush 16, 2) := by decide +kernel
theorem dX3_kind_245 : decode cX3_kind 245 = .ok (.iload 5, 2) := by decide +kernel
theorem dX3_kind_247 : decode cX3_kind 247 = .ok (.imul, 1) := by decide +kernel
theorem dX3_kind_248 : decode cX3_kind 248 = .ok (.iload 6, 2) := by decide +kernel
theorem dX3_kind_250 : decode cX3_kind 250 = .ok (.iadd, 1) := by decide +kernel
theorem dX3_kind_251 : decode cX3_kind 251 = .ok (.iaload, 1) := by decide +kernel
theorem dX3_kind_252 : decode cX3_kind 252 = .ok (.iadd, 1) := by decide +kernel
theorem dX3_kind_253 : decode cX3_kind 253 = .ok (.iload 6, 2) := by decide +kernel
theorem dX3_kind_255 : decode cX3_kind 255 = .ok (.iastore, 1) := by decide +kernel
theorem dX3_kind_256 : decode cX3_kind 256 = .ok (.iinc 6 1, 3) := by decide +kernel
theorem dX3_kind_259 : decode cX3_kind 259 = .ok (.goto (-66), 3) := by decide +kernel
theorem dX3_kind_262 : decode cX3_kind 262 = .ok (.aload_n 0, 1) := by decide +kernel
theorem dX3_kind_263 : decode cX3_kind 263 = .ok (.dup, 1) := by decide +kernel
theorem dX3_kind_264 : decode cX3_kind 264 = .ok (.getfield 62, 3) := by decide +kernel
theorem dX3_kind_267 : decode cX3_kind 267 = .ok (.iconst 1, 1) := by decide +kernel
theorem dX3_kind_268 : decode cX3_kind 268 = .ok (.iadd, 1) := by decide +kernel
theorem dX3_kind_269 : decode cX3_kind 269 = .ok (.putfield 62, 3) := by decide +kernel
theorem dX3_kind_272 : decode cX3_kind 272 = .ok (.iload 5, 2) := by decide +kernel
theorem dX3_kind_274 : decode cX3_kind 274 = .ok (.ireturn, 1) := by decide +kernel
theorem dX3_is_0 : decode cX3_is 0 = .ok (.aload_n 0, 1) := by decide +kernel
theorem dX3_is_1 : decode cX3_is 1 = .ok (.iconst 0, 1) := by decide +kernel
theorem dX3_is_2 : decode cX3_is 2 = .ok (.putfield 65, 3) := by decide +kernel
theorem dX3_is_5 : decode cX3_is 5 = .ok (.aload_n 0, 1) := by decide +kernel
theorem dX3_is_6 : decode cX3_is 6 = .ok (.iload_n 1, 1) := by decide +kernel
theorem dX3_is_7 : decode cX3_is 7 = .ok (.invokevirtual 87, 3) := by decide +kernel
theorem dX3_is_10 : decode cX3_is 10 = .ok (.ifCond .eq 28, 3) := by decide +kernel
theorem dX3_is_13 : decode cX3_is 13 = .ok (.aload_n 0, 1) := by decide +kernel
theorem dX3_is_14 : decode cX3_is 14 = .ok (.iload_n 2, 1) := by decide +kernel
theorem dX3_is_15 : decode cX3_is 15 = .ok (.invokevirtual 87, 3) := by decide +kernel
theorem dX3_is_18 : decode cX3_is 18 = .ok (.ifCond .eq 20, 3) := by decide +kernel
theorem dX3_is_21 : decode cX3_is 21 = .ok (.aload_n 0, 1) := by decide +kernel
theorem dX3_is_22 : decode cX3_is 22 = .ok (.getfield 7, 3) := by decide +kernel
theorem dX3_is_25 : decode cX3_is 25 = .ok (.iload_n 1, 1) := by decide +kernel
theorem dX3_is_26 : decode cX3_is 26 = .ok (.iaload, 1) := by decide +kernel
theorem dX3_is_27 : decode cX3_is 27 = .ok (.iload_n 2, 1) := by decide +kernel
theorem dX3_is_28 : decode cX3_is 28 = .ok (.invokestatic 97, 3) := by decide +kernel
theorem dX3_is_31 : decode cX3_is 31 = .ok (.ifCond .eq 7, 3) := by decide +kernel
theorem dX3_is_34 : decode cX3_is 34 = .ok (.iconst 1, 1) := by decide +kernel
theorem dX3_is_35 : decode cX3_is 35 = .ok (.goto 4, 3) := by decide +kernel
theorem dX3_is_38 : decode cX3_is 38 = .ok (.iconst 0, 1) := by decide +kernel
theorem dX3_is_39 : decode cX3_is 39 = .ok (.ireturn, 1) := by decide +kernel
theorem dX3_list_0 : decode cX3_list 0 = .ok (.aload_n 0, 1) := by decide +kernel
theorem dX3_list_1 : decode cX3_list 1 = .ok (.iconst 0, 1) := by decide +kernel
theorem dX3_list_2 : decode cX3_list 2 = .ok (.putfield 65, 3) := by decide +kernel
theorem dX3_list_5 : decode cX3_list 5 = .ok (.aload_n 0, 1) := by decide +kernel
theorem dX3_list_6 : decode cX3_list 6 = .ok (.iload_n 1, 1) := by decide +kernel
theorem dX3_list_7 : decode cX3_list 7 = .ok (.invokevirtual 87, 3) := by decide +kernel
theorem dX3_list_10 : decode cX3_list 10 = .ok (.ifCond .ne 5, 3) := by decide +kernel
theorem dX3_list_13 : decode cX3_list 13 = .ok (.iconst (-1), 1) := by decide +kernel
theorem dX3_list_14 : decode cX3_list 14 = .ok (.ireturn, 1) := by decide +kernel
theorem dX3_list_15 : decode cX3_list 15 = .ok (.iload_n 2, 1) := by decide +kernel
theorem dX3_list_16 : decode cX3_list 16 = .ok (.iconst (-1), 1) := by decide +kernel
theorem dX3_list_17 : decode cX3_list 17 = .ok (.if_icmp .ne 12, 3) := by decide +kernel
theorem dX3_list_20 : decode cX3_list 20 = .ok (.aload_n 0, 1) := by decide +kernel
theorem dX3_list_21 : decode cX3_list 21 = .ok (.getfield 16, 3) := by decide +kernel
theorem dX3_list_24 : decode cX3_list 24 = .ok (.iload_n 1, 1) := by decide +kernel
theorem dX3_list_25 : decode cX3_list 25 = .ok (.iaload, 1) := by decide +kernel
theorem dX3_list_26 : decode cX3_list 26 = .ok (.goto 34, 3) := by decide +kernel
theorem dX3_list_29 : decode cX3_list 29 = .ok (.iload_n 2, 1) := by decide +kernel
theorem dX3_list_30 : decode cX3_list 30 = .ok (.iconst 0, 1) := by decide +kernel
theorem dX3_list_31 : decode cX3_list 31 = .ok (.aload_n 0, 1) := by decide +kernel
theorem dX3_list_32 : decode cX3_list 32 = .ok (.getfield 16, 3) := by decide +kernel
theorem dX3_list_35 : decode cX3_list 35 = .ok (.iload_n 1, 1) := by decide +kernel
theorem dX3_list_36 : decode cX3_list 36 = .ok (.iaload, 1) := by decide +kernel
theorem dX3_list_37 : decode cX3_list 37 = .ok (.iconst 1, 1) := by decide +kernel
theorem dX3_list_38 : decode cX3_list 38 = .ok (.isub, 1) := by decide +kernel
theorem dX3_list_39 : decode cX3_list 39 = .ok (.invokestatic 68, 3) := by decide +kernel
theorem dX3_list_42 : decode cX3_list 42 = .ok (.ifCond .eq 17, 3) := by decide +kernel
theorem dX3_list_45 : decode cX3_list 45 = .ok (.aload_n 0, 1) := by decide +kernel
theorem dX3_list_46 : decode cX3_list 46 = .ok (.getfield 13, 3) := by decide +kernel
theorem dX3_list_49 : decode cX3_list 49 = .ok (.bipush 16, 2) := by decide +kernel
theorem dX3_list_51 : decode cX3_list 51 = .ok (.iload_n 1, 1) := by decide +kernel
theorem dX3_list_52 : decode cX3_list 52 = .ok (.imul, 1) := by decide +kernel
theorem dX3_list_53 : decode cX3_list 53 = .ok (.iload_n 2, 1) := by decide +kernel
theorem dX3_list_54 : decode cX3_list 54 = .ok (.iadd, 1) := by decide +kernel
theorem dX3_list_55 : decode cX3_list 55 = .ok (.iaload, 1) := by decide +kernel
theorem dX3_list_56 : decode cX3_list 56 = .ok (.goto 4, 3) := by decide +kernel
theorem dX3_list_59 : decode cX3_list 59 = .ok (.iconst (-1), 1) := by decide +kernel
theorem dX3_list_60 : decode cX3_list 60 = .ok (.ireturn, 1) := by decide +kernel
theorem dX3_isMeet_0 : decode cX3_isMeet 0 = .ok (.aload_n 0, 1) := by decide +kernel
theorem dX3_isMeet_1 : decode cX3_isMeet 1 = .ok (.getfield 7, 3) := by decide +kernel
theorem dX3_isMeet_4 : decode cX3_isMeet 4 = .ok (.iload_n 1, 1) := by decide +kernel
theorem dX3_isMeet_5 : decode cX3_isMeet 5 = .ok (.iaload, 1) := by decide +kernel
theorem dX3_isMeet_6 : decode cX3_isMeet 6 = .ok (.iload_n 2, 1) := by decide +kernel
theorem dX3_isMeet_7 : decode cX3_isMeet 7 = .ok (.invokestatic 97, 3) := by decide +kernel
theorem dX3_isMeet_10 : decode cX3_isMeet 10 = .ok (.ifCond .eq 16, 3) := by decide +kernel
theorem dX3_isMeet_13 : decode cX3_isMeet 13 = .ok (.aload_n 0, 1) := by decide +kernel
theorem dX3_isMeet_14 : decode cX3_isMeet 14 = .ok (.getfield 7, 3) := by decide +kernel
theorem dX3_isMeet_17 : decode cX3_isMeet 17 = .ok (.iload_n 1, 1) := by decide +kernel
theorem dX3_isMeet_18 : decode cX3_isMeet 18 = .ok (.iaload, 1) := by decide +kernel
theorem dX3_isMeet_19 : decode cX3_isMeet 19 = .ok (.iload_n 3, 1) := by decide +kernel
theorem dX3_isMeet_20 : decode cX3_isMeet 20 = .ok (.invokestatic 97, 3) := by decide +kernel
theorem dX3_isMeet_23 : decode cX3_isMeet 23 = .ok (.ifCond .ne 5, 3) := by decide +kernel
theorem dX3_isMeet_26 : decode cX3_isMeet 26 = .ok (.iconst 0, 1) := by decide +kernel
theorem dX3_isMeet_27 : decode cX3_isMeet 27 = .ok (.ireturn, 1) := by decide +kernel
theorem dX3_isMeet_28 : decode cX3_isMeet 28 = .ok (.iconst 0, 1) := by decide +kernel
theorem dX3_isMeet_29 : decode cX3_isMeet 29 = .ok (.istore 4, 2) := by decide +kernel
theorem dX3_isMeet_31 : decode cX3_isMeet 31 = .ok (.iload 4, 2) := by decide +kernel
theorem dX3_isMeet_33 : decode cX3_isMeet 33 = .ok (.aload_n 0, 1) := by decide +kernel
theorem dX3_isMeet_34 : decode cX3_isMeet 34 = .ok (.getfield 62, 3) := by decide +kernel
theorem dX3_isMeet_37 : decode cX3_isMeet 37 = .ok (.if_icmp .ge 59, 3) := by decide +kernel
theorem dX3_isMeet_40 : decode cX3_isMeet 40 = .ok (.iload 4, 2) := by decide +kernel
theorem dX3_isMeet_42 : decode cX3_isMeet 42 = .ok (.iload_n 1, 1) := by decide +kernel
theorem dX3_isMeet_43 : decode cX3_isMeet 43 = .ok (.if_icmp .eq 47, 3) := by decide +kernel
theorem dX3_isMeet_46 : decode cX3_isMeet 46 = .ok (.aload_n 0, 1) := by decide +kernel
theorem dX3_isMeet_47 : decode cX3_isMeet 47 = .ok (.getfield 7, 3) := by decide +kernel
theorem dX3_isMeet_50 : decode cX3_isMeet 50 = .ok (.iload_n 1, 1) := by decide +kernel
theorem dX3_isMeet_51 : decode cX3_isMeet 51 = .ok (.iaload, 1) := by decide +kernel
theorem dX3_isMeet_52 : decode cX3_isMeet 52 = .ok (.iload 4, 2) := by decide +kernel
theorem dX3_isMeet_54 : decode cX3_isMeet 54 = .ok (.invokestatic 97, 3) := by decide +kernel
theorem dX3_isMeet_57 : decode cX3_isMeet 57 = .ok (.ifCond .eq 33, 3) := by decide +kernel
theorem dX3_isMeet_60 : decode cX3_isMeet 60 = .ok (.aload_n 0, 1) := by decide +kernel
theorem dX3_isMeet_61 : decode cX3_isMeet 61 = .ok (.getfield 7, 3) := by decide +kernel
theorem dX3_isMeet_64 : decode cX3_isMeet 64 = .ok (.iload 4, 2) := by decide +kernel
theorem dX3_isMeet_66 : decode cX3_isMeet 66 = .ok (.iaload, 1) := by decide +kernel
theorem dX3_isMeet_67 : decode cX3_isMeet 67 = .ok (.iload_n 2, 1) := by decide +kernel
theorem dX3_isMeet_68 : decode cX3_isMeet 68 = .ok (.invokestatic 97, 3) := by decide +kernel
theorem dX3_isMeet_71 : decode cX3_isMeet 71 = .ok (.ifCond .eq 19, 3) := by decide +kernel
theorem dX3_isMeet_74 : decode cX3_isMeet 74 = .ok (.aload_n 0, 1) := by decide +kernel
theorem dX3_isMeet_75 : decode cX3_isMeet 75 = .ok (.getfield 7, 3) := by decide +kernel
theorem dX3_isMeet_78 : decode cX3_isMeet 78 = .ok (.iload 4, 2) := by decide +kernel
theorem dX3_isMeet_80 : decode cX3_isMeet 80 = .ok (.iaload, 1) := by decide +kernel
theorem dX3_isMeet_81 : decode cX3_isMeet 81 = .ok (.iload_n 3, 1) := by decide +kernel
theorem dX3_isMeet_82 : decode cX3_isMeet 82 = .ok (.invokestatic 97, 3) := by decide +kernel
theorem dX3_isMeet_85 : decode cX3_isMeet 85 = .ok (.ifCond .eq 5, 3) := by decide +kernel
theorem dX3_isMeet_88 : decode cX3_isMeet 88 = .ok (.iconst 0, 1) := by decide +kernel
theorem dX3_isMeet_89 : decode cX3_isMeet 89 = .ok (.ireturn, 1) := by decide +kernel
theorem dX3_isMeet_90 : decode cX3_isMeet 90 = .ok (.iinc 4 1, 3) := by decide +kernel
theorem dX3_isMeet_93 : decode cX3_isMeet 93 = .ok (.goto (-62), 3) := by decide +kernel
theorem dX3_isMeet_96 : decode cX3_isMeet 96 = .ok (.iconst 1, 1) := by decide +kernel
theorem dX3_isMeet_97 : decode cX3_isMeet 97 = .ok (.ireturn, 1) := by decide +kernel
theorem dX3_meet_0 : decode cX3_meet 0 = .ok (.aload_n 0, 1) := by decide +kernel
theorem dX3_meet_1 : decode cX3_meet 1 = .ok (.iconst 0, 1) := by decide +kernel
theorem dX3_meet_2 : decode cX3_meet 2 = .ok (.putfield 65, 3) := by decide +kernel
theorem dX3_meet_5 : decode cX3_meet 5 = .ok (.aload_n 0, 1) := by decide +kernel
theorem dX3_meet_6 : decode cX3_meet 6 = .ok (.iload_n 1, 1) := by decide +kernel
theorem dX3_meet_7 : decode cX3_meet 7 = .ok (.invokevirtual 87, 3) := by decide +kernel
theorem dX3_meet_10 : decode cX3_meet 10 = .ok (.ifCond .eq 11, 3) := by decide +kernel
theorem dX3_meet_13 : decode cX3_meet 13 = .ok (.aload_n 0, 1) := by decide +kernel
theorem dX3_meet_14 : decode cX3_meet 14 = .ok (.iload_n 2, 1) := by decide +kernel
theorem dX3_meet_15 : decode cX3_meet 15 = .ok (.invokevirtual 87, 3) := by decide +kernel
theorem dX3_meet_18 : decode cX3_meet 18 = .ok (.ifCond .ne 5, 3) := by decide +kernel
theorem dX3_meet_21 : decode cX3_meet 21 = .ok (.iconst (-1), 1) := by decide +kernel
theorem dX3_meet_22 : decode cX3_meet 22 = .ok (.ireturn, 1) := by decide +kernel
theorem dX3_meet_23 : decode cX3_meet 23 = .ok (.iconst 0, 1) := by decide +kernel
theorem dX3_meet_24 : decode cX3_meet 24 = .ok (.istore 4, 2) := by decide +kernel
theorem dX3_meet_26 : decode cX3_meet 26 = .ok (.iconst 0, 1) := by decide +kernel
theorem dX3_meet_27 : decode cX3_meet 27 = .ok (.istore 5, 2) := by decide +kernel
theorem dX3_meet_29 : decode cX3_meet 29 = .ok (.iload 5, 2) := by decide +kernel
theorem dX3_meet_31 : decode cX3_meet 31 = .ok (.aload_n 0, 1) := by decide +kernel
theorem dX3_meet_32 : decode cX3_meet 32 = .ok (.getfield 62, 3) := by decide +kernel
theorem dX3_meet_35 : decode cX3_meet 35 = .ok (.if_icmp .ge 32, 3) := by decide +kernel
theorem dX3_meet_38 : decode cX3_meet 38 = .ok (.aload_n 0, 1) := by decide +kernel
theorem dX3_meet_39 : decode cX3_meet 39 = .ok (.iload 5, 2) := by decide +kernel
theorem dX3_meet_41 : decode cX3_meet 41 = .ok (.iload_n 1, 1) := by decide +kernel
theorem dX3_meet_42 : decode cX3_meet 42 = .ok (.iload_n 2, 1) := by decide +kernel
theorem dX3_meet_43 : decode cX3_meet 43 = .ok (.invokevirtual 101, 3) := by decide +kernel
theorem dX3_meet_46 : decode cX3_meet 46 = .ok (.ifCond .eq 15, 3) := by decide +kernel
theorem dX3_meet_49 : decode cX3_meet 49 = .ok (.iload 4, 2) := by decide +kernel
theorem dX3_meet_51 : decode cX3_meet 51 = .ok (.iload_n 3, 1) := by decide +kernel
theorem dX3_meet_52 : decode cX3_meet 52 = .ok (.if_icmp .ne 6, 3) := by decide +kernel
theorem dX3_meet_55 : decode cX3_meet 55 = .ok (.iload 5, 2) := by decide +kernel
theorem dX3_meet_57 : decode cX3_meet 57 = .ok (.ireturn, 1) := by decide +kernel
theorem dX3_meet_58 : decode cX3_meet 58 = .ok (.iinc 4 1, 3) := by decide +kernel
theorem dX3_meet_61 : decode cX3_meet 61 = .ok (.iinc 5 1, 3) := by decide +kernel
theorem dX3_meet_64 : decode cX3_meet 64 = .ok (.goto (-35), 3) := by decide +kernel
theorem dX3_meet_67 : decode cX3_meet 67 = .ok (.iload_n 3, 1) := by decide +kernel
theorem dX3_meet_68 : decode cX3_meet 68 = .ok (.iconst (-1), 1) := by decide +kernel
theorem dX3_meet_69 : decode cX3_meet 69 = .ok (.if_icmp .ne 8, 3) := by decide +kernel
theorem dX3_meet_72 : decode cX3_meet 72 = .ok (.iload 4, 2) := by decide +kernel
theorem dX3_meet_74 : decode cX3_meet 74 = .ok (.goto 4, 3) := by decide +kernel
theorem dX3_meet_77 : decode cX3_meet 77 = .ok (.iconst (-1), 1) := by decide +kernel
theorem dX3_meet_78 : decode cX3_meet 78 = .ok (.ireturn, 1) := by decide +kernel
theorem dX3_function_0 : decode cX3_function 0 = .ok (.aload_n 0, 1) := by decide +kernel
theorem dX3_function_1 : decode cX3_function 1 = .ok (.iconst 0, 1) := by decide +kernel
theorem dX3_function_2 : decode cX3_function 2 = .ok (.putfield 65, 3) := by decide +kernel
theorem dX3_function_5 : decode cX3_function 5 = .ok (.aload_n 0, 1) := by decide +kernel
theorem dX3_function_6 : decode cX3_function 6 = .ok (.getfield 72, 3) := by decide +kernel
theorem dX3_function_9 : decode cX3_function 9 = .ok (.iconst 4, 1) := by decide +kernel
theorem dX3_function_10 : decode cX3_function 10 = .ok (.if_icmp .eq 12, 3) := by decide +kernel
theorem dX3_function_13 : decode cX3_function 13 = .ok (.iload_n 1, 1) := by decide +kernel
theorem dX3_function_14 : decode cX3_function 14 = .ok (.iconst 1, 1) := by decide +kernel
theorem dX3_function_15 : decode cX3_function 15 = .ok (.iconst 3, 1) := by decide +kernel
theorem dX3_function_16 : decode cX3_function 16 = .ok (.invokestatic 68, 3) := by decide +kernel
theorem dX3_function_19 : decode cX3_function 19 = .ok (.ifCond .ne 5, 3) := by decide +kernel
theorem dX3_function_22 : decode cX3_function 22 = .ok (.iconst (-1), 1) := by decide +kernel
theorem dX3_function_23 : decode cX3_function 23 = .ok (.ireturn, 1) := by decide +kernel
theorem dX3_function_24 : decode cX3_function 24 = .ok (.aload_n 0, 1) := by decide +kernel
theorem dX3_function_25 : decode cX3_function 25 = .ok (.getfield 22, 3) := by decide +kernel
theorem dX3_function_28 : decode cX3_function 28 = .ok (.aload_n 0, 1) := by decide +kernel
theorem dX3_function_29 : decode cX3_function 29 = .ok (.getfield 72, 3) := by decide +kernel
theorem dX3_function_32 : decode cX3_function 32 = .ok (.iload_n 1, 1) := by decide +kernel
theorem dX3_function_33 : decode cX3_function 33 = .ok (.iastore, 1) := by decide +kernel
theorem dX3_function_34 : decode cX3_function 34 = .ok (.iconst 0, 1) := by decide +kernel
theorem dX3_function_35 : decode cX3_function 35 = .ok (.istore_n 2, 1) := by decide +kernel
theorem dX3_function_36 : decode cX3_function 36 = .ok (.iload_n 2, 1) := by decide +kernel
theorem dX3_function_37 : decode cX3_function 37 = .ok (.bipush 12, 2) := by decide +kernel
theorem dX3_function_39 : decode cX3_function 39 = .ok (.if_icmp .ge 24, 3) := by decide +kernel
theorem dX3_function_42 : decode cX3_function 42 = .ok (.aload_n 0, 1) := by decide +kernel
theorem dX3_function_43 : decode cX3_function 43 = .ok (.getfield 25, 3) := by decide +kernel
theorem dX3_function_46 : decode cX3_function 46 = .ok (.bipush 12, 2) := by decide +kernel
theorem dX3_function_48 : decode cX3_function 48 = .ok (.aload_n 0, 1) := by decide +kernel
theorem dX3_function_49 : decode cX3_function 49 = .ok (.getfield 72, 3) := by decide +kernel
theorem dX3_function_52 : decode cX3_function 52 = .ok (.imul, 1) := by decide +kernel
theorem dX3_function_53 : decode cX3_function 53 = .ok (.iload_n 2, 1) := by decide +kernel
theorem dX3_function_54 : decode cX3_function 54 = .ok (.iadd, 1) := by decide +kernel
theorem dX3_function_55 : decode cX3_function 55 = .ok (.iconst (-1), 1) := by decide +kernel
theorem dX3_function_56 : decode cX3_function 56 = .ok (.iastore, 1) := by decide +kernel
theorem dX3_function_57 : decode cX3_function 57 = .ok (.iinc 2 1, 3) := by decide +kernel
theorem dX3_function_60 : decode cX3_function 60 = .ok (.goto (-24), 3) := by decide +kernel
theorem dX3_function_63 : decode cX3_function 63 = .ok (.aload_n 0, 1) := by decide +kernel
theorem dX3_function_64 : decode cX3_function 64 = .ok (.dup, 1) := by decide +kernel
theorem dX3_function_65 : decode cX3_function 65 = .ok (.getfield 72, 3) := by decide +kernel
theorem dX3_function_68 : decode cX3_function 68 = .ok (.iconst 1, 1) := by decide +kernel
theorem dX3_function_69 : decode cX3_function 69 = .ok (.iadd, 1) := by decide +kernel
theorem dX3_function_70 : decode cX3_function 70 = .ok (.putfield 72, 3) := by decide +kernel
theorem dX3_function_73 : decode cX3_function 73 = .ok (.aload_n 0, 1) := by decide +kernel
theorem dX3_function_74 : decode cX3_function 74 = .ok (.getfield 72, 3) := by decide +kernel
theorem dX3_function_77 : decode cX3_function 77 = .ok (.iconst 1, 1) := by decide +kernel
theorem dX3_function_78 : decode cX3_function 78 = .ok (.isub, 1) := by decide +kernel
theorem dX3_function_79 : decode cX3_function 79 = .ok (.ireturn, 1) := by decide +kernel
theorem dX3_digit_0 : decode cX3_digit 0 = .ok (.iload_n 0, 1) := by decide +kernel
theorem dX3_digit_1 : decode cX3_digit 1 = .ok (.iconst 4, 1) := by decide +kernel
theorem dX3_digit_2 : decode cX3_digit 2 = .ok (.iload_n 1, 1) := by decide +kernel
theorem dX3_digit_3 : decode cX3_digit 3 = .ok (.imul, 1) := by decide +kernel
theorem dX3_digit_4 : decode cX3_digit 4 = .ok (.ishr, 1) := by decide +kernel
theorem dX3_digit_5 : decode cX3_digit 5 = .ok (.bipush 15, 2) := by decide +kernel
theorem dX3_digit_7 : decode cX3_digit 7 = .ok (.iand, 1) := by decide +kernel
theorem dX3_digit_8 : decode cX3_digit 8 = .ok (.ireturn, 1) := by decide +kernel
theorem dX3_isCall_0 : decode cX3_isCall 0 = .ok (.aload_n 0, 1) := by decide +kernel
theorem dX3_isCall_1 : decode cX3_isCall 1 = .ok (.iload_n 1, 1) := by decide +kernel
theorem dX3_isCall_2 : decode cX3_isCall 2 = .ok (.invokevirtual 104, 3) := by decide +kernel
theorem dX3_isCall_5 : decode cX3_isCall 5 = .ok (.ifCond .eq 21, 3) := by decide +kernel
theorem dX3_isCall_8 : decode cX3_isCall 8 = .ok (.iload_n 2, 1) := by decide +kernel
theorem dX3_isCall_9 : decode cX3_isCall 9 = .ok (.ifCond .lt 17, 3) := by decide +kernel
theorem dX3_isCall_12 : decode cX3_isCall 12 = .ok (.iload_n 2, 1) := by decide +kernel
theorem dX3_isCall_13 : decode cX3_isCall 13 = .ok (.iconst 1, 1) := by decide +kernel
theorem dX3_isCall_14 : decode cX3_isCall 14 = .ok (.iconst 4, 1) := by decide +kernel
theorem dX3_isCall_15 : decode cX3_isCall 15 = .ok (.aload_n 0, 1) := by decide +kernel
theorem dX3_isCall_16 : decode cX3_isCall 16 = .ok (.getfield 22, 3) := by decide +kernel
theorem dX3_isCall_19 : decode cX3_isCall 19 = .ok (.iload_n 1, 1) := by decide +kernel
theorem dX3_isCall_20 : decode cX3_isCall 20 = .ok (.iaload, 1) := by decide +kernel
theorem dX3_isCall_21 : decode cX3_isCall 21 = .ok (.imul, 1) := by decide +kernel
theorem dX3_isCall_22 : decode cX3_isCall 22 = .ok (.ishl, 1) := by decide +kernel
theorem dX3_isCall_23 : decode cX3_isCall 23 = .ok (.if_icmp .lt 5, 3) := by decide +kernel
theorem dX3_isCall_26 : decode cX3_isCall 26 = .ok (.iconst 0, 1) := by decide +kernel
theorem dX3_isCall_27 : decode cX3_isCall 27 = .ok (.ireturn, 1) := by decide +kernel
theorem dX3_isCall_28 : decode cX3_isCall 28 = .ok (.iconst 0, 1) := by decide +kernel
theorem dX3_isCall_29 : decode cX3_isCall 29 = .ok (.istore_n 3, 1) := by decide +kernel
theorem dX3_isCall_30 : decode cX3_isCall 30 = .ok (.iload_n 3, 1) := by decide +kernel
theorem dX3_isCall_31 : decode cX3_isCall 31 = .ok (.aload_n 0, 1) := by decide +kernel
theorem dX3_isCall_32 : decode cX3_isCall 32 = .ok (.getfield 22, 3) := by decide +kernel
theorem dX3_isCall_35 : decode cX3_isCall 35 = .ok (.iload_n 1, 1) := by decide +kernel
theorem dX3_isCall_36 : decode cX3_isCall 36 = .ok (.iaload, 1) := by decide +kernel
theorem dX3_isCall_37 : decode cX3_isCall 37 = .ok (.if_icmp .ge 23, 3) := by decide +kernel
theorem dX3_isCall_40 : decode cX3_isCall 40 = .ok (.aload_n 0, 1) := by decide +kernel
theorem dX3_isCall_41 : decode cX3_isCall 41 = .ok (.iload_n 2, 1) := by decide +kernel
theorem dX3_isCall_42 : decode cX3_isCall 42 = .ok (.iload_n 3, 1) := by decide +kernel
theorem dX3_isCall_43 : decode cX3_isCall 43 = .ok (.invokestatic 107, 3) := by decide +kernel
theorem dX3_isCall_46 : decode cX3_isCall 46 = .ok (.invokevirtual 87, 3) := by decide +kernel
theorem dX3_isCall_49 : decode cX3_isCall 49 = .ok (.ifCond .ne 5, 3) := by decide +kernel
theorem dX3_isCall_52 : decode cX3_isCall 52 = .ok (.iconst 0, 1) := by decide +kernel
theorem dX3_isCall_53 : decode cX3_isCall 53 = .ok (.ireturn, 1) := by decide +kernel
theorem dX3_isCall_54 : decode cX3_isCall 54 = .ok (.iinc 3 1, 3) := by decide +kernel
theorem dX3_isCall_57 : decode cX3_isCall 57 = .ok (.goto (-27), 3) := by decide +kernel
theorem dX3_isCall_60 : decode cX3_isCall 60 = .ok (.iconst 1, 1) := by decide +kernel
theorem dX3_isCall_61 : decode cX3_isCall 61 = .ok (.ireturn, 1) := by decide +kernel
theorem dX3_areOf_0 : decode cX3_areOf 0 = .ok (.iconst 0, 1) := by decide +kernel
theorem dX3_areOf_1 : decode cX3_areOf 1 = .ok (.istore 4, 2) := by decide +kernel
theorem dX3_areOf_3 : decode cX3_areOf 3 = .ok (.iload 4, 2) := by decide +kernel
theorem dX3_areOf_5 : decode cX3_areOf 5 = .ok (.aload_n 0, 1) := by decide +kernel
theorem dX3_areOf_6 : decode cX3_areOf 6 = .ok (.getfield 22, 3) := by decide +kernel
theorem dX3_areOf_9 : decode cX3_areOf 9 = .ok (.iload_n 1, 1) := by decide +kernel
theorem dX3_areOf_10 : decode cX3_areOf 10 = .ok (.iaload, 1) := by decide +kernel
theorem dX3_areOf_11 : decode cX3_areOf 11 = .ok (.if_icmp .ge 34, 3) := by decide +kernel
theorem dX3_areOf_14 : decode cX3_areOf 14 = .ok (.aload_n 0, 1) := by decide +kernel
theorem dX3_areOf_15 : decode cX3_areOf 15 = .ok (.getfield 7, 3) := by decide +kernel
theorem dX3_areOf_18 : decode cX3_areOf 18 = .ok (.iload_n 2, 1) := by decide +kernel
theorem dX3_areOf_19 : decode cX3_areOf 19 = .ok (.iload 4, 2) := by decide +kernel
theorem dX3_areOf_21 : decode cX3_areOf 21 = .ok (.invokestatic 107, 3) := by decide +kernel
theorem dX3_areOf_24 : decode cX3_areOf 24 = .ok (.iaload, 1) := by decide +kernel
theorem dX3_areOf_25 : decode cX3_areOf 25 = .ok (.iload_n 3, 1) := by decide +kernel
theorem dX3_areOf_26 : decode cX3_areOf 26 = .ok (.iload 4, 2) := by decide +kernel
theorem dX3_areOf_28 : decode cX3_areOf 28 = .ok (.invokestatic 107, 3) := by decide +kernel
theorem dX3_areOf_31 : decode cX3_areOf 31 = .ok (.invokestatic 97, 3) := by decide +kernel
theorem dX3_areOf_34 : decode cX3_areOf 34 = .ok (.ifCond .ne 5, 3) := by decide +kernel
theorem dX3_areOf_37 : decode cX3_areOf 37 = .ok (.iconst 0, 1) := by decide +kernel
theorem dX3_areOf_38 : decode cX3_areOf 38 = .ok (.ireturn, 1) := by decide +kernel
theorem dX3_areOf_39 : decode cX3_areOf 39 = .ok (.iinc 4 1, 3) := by decide +kernel
theorem dX3_areOf_42 : decode cX3_areOf 42 = .ok (.goto (-39), 3) := by decide +kernel
theorem dX3_areOf_45 : decode cX3_areOf 45 = .ok (.iconst 1, 1) := by decide +kernel
theorem dX3_areOf_46 : decode cX3_areOf 46 = .ok (.ireturn, 1) := by decide +kernel
theorem dX3_methodFor_0 : decode cX3_methodFor 0 = .ok (.iconst 0, 1) := by decide +kernel
theorem dX3_methodFor_1 : decode cX3_methodFor 1 = .ok (.istore_n 3, 1) := by decide +kernel
theorem dX3_methodFor_2 : decode cX3_methodFor 2 = .ok (.iload_n 3, 1) := by decide +kernel
theorem dX3_methodFor_3 : decode cX3_methodFor 3 = .ok (.bipush 12, 2) := by decide +kernel
theorem dX3_methodFor_5 : decode cX3_methodFor 5 = .ok (.if_icmp .ge 26, 3) := by decide +kernel
theorem dX3_methodFor_8 : decode cX3_methodFor 8 = .ok (.aload_n 0, 1) := by decide +kernel
theorem dX3_methodFor_9 : decode cX3_methodFor 9 = .ok (.getfield 25, 3) := by decide +kernel
theorem dX3_methodFor_12 : decode cX3_methodFor 12 = .ok (.bipush 12, 2) := by decide +kernel
theorem dX3_methodFor_14 : decode cX3_methodFor 14 = .ok (.iload_n 1, 1) := by decide +kernel
theorem dX3_methodFor_15 : decode cX3_methodFor 15 = .ok (.imul, 1) := by decide +kernel
theorem dX3_methodFor_16 : decode cX3_methodFor 16 = .ok (.iload_n 3, 1) := by decide +kernel
theorem dX3_methodFor_17 : decode cX3_methodFor 17 = .ok (.iadd, 1) := by decide +kernel
theorem dX3_methodFor_18 : decode cX3_methodFor 18 = .ok (.iaload, 1) := by decide +kernel
theorem dX3_methodFor_19 : decode cX3_methodFor 19 = .ok (.iload_n 2, 1) := by decide +kernel
theorem dX3_methodFor_20 : decode cX3_methodFor 20 = .ok (.if_icmp .ne 5, 3) := by decide +kernel
theorem dX3_methodFor_23 : decode cX3_methodFor 23 = .ok (.iload_n 3, 1) := by decide +kernel
theorem dX3_methodFor_24 : decode cX3_methodFor 24 = .ok (.ireturn, 1) := by decide +kernel
theorem dX3_methodFor_25 : decode cX3_methodFor 25 = .ok (.iinc 3 1, 3) := by decide +kernel
theorem dX3_methodFor_28 : decode cX3_methodFor 28 = .ok (.goto (-26), 3) := by decide +kernel
theorem dX3_methodFor_31 : decode cX3_methodFor 31 = .ok (.iconst (-1), 1) := by decide +kernel
theorem dX3_methodFor_32 : decode cX3_methodFor 32 = .ok (.ireturn, 1) := by decide +kernel
theorem dX3_isMethod_0 : decode cX3_isMethod 0 = .ok (.aload_n 0, 1) := by decide +kernel
end
section
theorem dX3_isMethod_1 : decode cX3_isMethod 1 = .ok (.iload_n 1, 1) := by decide +kernel
theorem dX3_isMethod_2 : decode cX3_isMethod 2 = .ok (.invokevirtual 104, 3) := by decide +kernel
theorem dX3_isMethod_5 : decode cX3_isMethod 5 = .ok (.ifCond .eq 32, 3) := by decide +kernel
theorem dX3_isMethod_8 : decode cX3_isMethod 8 = .ok (.iload_n 2, 1) := by decide +kernel
theorem dX3_isMethod_9 : decode cX3_isMethod 9 = .ok (.iconst 0, 1) := by decide +kernel
theorem dX3_isMethod_10 : decode cX3_isMethod 10 = .ok (.bipush 11, 2) := by decide +kernel
theorem dX3_isMethod_12 : decode cX3_isMethod 12 = .ok (.invokestatic 68, 3) := by decide +kernel
theorem dX3_isMethod_15 : decode cX3_isMethod 15 = .ok (.ifCond .eq 22, 3) := by decide +kernel
theorem dX3_isMethod_18 : decode cX3_isMethod 18 = .ok (.aload_n 0, 1) := by decide +kernel
theorem dX3_isMethod_19 : decode cX3_isMethod 19 = .ok (.getfield 25, 3) := by decide +kernel
theorem dX3_isMethod_22 : decode cX3_isMethod 22 = .ok (.bipush 12, 2) := by decide +kernel
theorem dX3_isMethod_24 : decode cX3_isMethod 24 = .ok (.iload_n 1, 1) := by decide +kernel
theorem dX3_isMethod_25 : decode cX3_isMethod 25 = .ok (.imul, 1) := by decide +kernel
theorem dX3_isMethod_26 : decode cX3_isMethod 26 = .ok (.iload_n 2, 1) := by decide +kernel
theorem dX3_isMethod_27 : decode cX3_isMethod 27 = .ok (.iadd, 1) := by decide +kernel
theorem dX3_isMethod_28 : decode cX3_isMethod 28 = .ok (.iaload, 1) := by decide +kernel
theorem dX3_isMethod_29 : decode cX3_isMethod 29 = .ok (.iconst (-1), 1) := by decide +kernel
theorem dX3_isMethod_30 : decode cX3_isMethod 30 = .ok (.if_icmp .eq 7, 3) := by decide +kernel
theorem dX3_isMethod_33 : decode cX3_isMethod 33 = .ok (.iconst 1, 1) := by decide +kernel
theorem dX3_isMethod_34 : decode cX3_isMethod 34 = .ok (.goto 4, 3) := by decide +kernel
theorem dX3_isMethod_37 : decode cX3_isMethod 37 = .ok (.iconst 0, 1) := by decide +kernel
theorem dX3_isMethod_38 : decode cX3_isMethod 38 = .ok (.ireturn, 1) := by decide +kernel
theorem dX3_methodsOf_0 : decode cX3_methodsOf 0 = .ok (.iconst 0, 1) := by decide +kernel
theorem dX3_methodsOf_1 : decode cX3_methodsOf 1 = .ok (.istore_n 2, 1) := by decide +kernel
theorem dX3_methodsOf_2 : decode cX3_methodsOf 2 = .ok (.iconst 0, 1) := by decide +kernel
theorem dX3_methodsOf_3 : decode cX3_methodsOf 3 = .ok (.istore_n 3, 1) := by decide +kernel
theorem dX3_methodsOf_4 : decode cX3_methodsOf 4 = .ok (.iload_n 3, 1) := by decide +kernel
theorem dX3_methodsOf_5 : decode cX3_methodsOf 5 = .ok (.bipush 12, 2) := by decide +kernel
theorem dX3_methodsOf_7 : decode cX3_methodsOf 7 = .ok (.if_icmp .ge 34, 3) := by decide +kernel
theorem dX3_methodsOf_10 : decode cX3_methodsOf 10 = .ok (.iload_n 2, 1) := by decide +kernel
theorem dX3_methodsOf_11 : decode cX3_methodsOf 11 = .ok (.aload_n 0, 1) := by decide +kernel
theorem dX3_methodsOf_12 : decode cX3_methodsOf 12 = .ok (.getfield 25, 3) := by decide +kernel
theorem dX3_methodsOf_15 : decode cX3_methodsOf 15 = .ok (.bipush 12, 2) := by decide +kernel
theorem dX3_methodsOf_17 : decode cX3_methodsOf 17 = .ok (.iload_n 1, 1) := by decide +kernel
theorem dX3_methodsOf_18 : decode cX3_methodsOf 18 = .ok (.imul, 1) := by decide +kernel
theorem dX3_methodsOf_19 : decode cX3_methodsOf 19 = .ok (.iload_n 3, 1) := by decide +kernel
theorem dX3_methodsOf_20 : decode cX3_methodsOf 20 = .ok (.iadd, 1) := by decide +kernel
theorem dX3_methodsOf_21 : decode cX3_methodsOf 21 = .ok (.iaload, 1) := by decide +kernel
theorem dX3_methodsOf_22 : decode cX3_methodsOf 22 = .ok (.iconst (-1), 1) := by decide +kernel
theorem dX3_methodsOf_23 : decode cX3_methodsOf 23 = .ok (.if_icmp .eq 9, 3) := by decide +kernel
theorem dX3_methodsOf_26 : decode cX3_methodsOf 26 = .ok (.iconst 1, 1) := by decide +kernel
theorem dX3_methodsOf_27 : decode cX3_methodsOf 27 = .ok (.iload_n 3, 1) := by decide +kernel
theorem dX3_methodsOf_28 : decode cX3_methodsOf 28 = .ok (.ishl, 1) := by decide +kernel
theorem dX3_methodsOf_29 : decode cX3_methodsOf 29 = .ok (.goto 4, 3) := by decide +kernel
theorem dX3_methodsOf_32 : decode cX3_methodsOf 32 = .ok (.iconst 0, 1) := by decide +kernel
theorem dX3_methodsOf_33 : decode cX3_methodsOf 33 = .ok (.ior, 1) := by decide +kernel
theorem dX3_methodsOf_34 : decode cX3_methodsOf 34 = .ok (.istore_n 2, 1) := by decide +kernel
theorem dX3_methodsOf_35 : decode cX3_methodsOf 35 = .ok (.iinc 3 1, 3) := by decide +kernel
theorem dX3_methodsOf_38 : decode cX3_methodsOf 38 = .ok (.goto (-34), 3) := by decide +kernel
theorem dX3_methodsOf_41 : decode cX3_methodsOf 41 = .ok (.iload_n 2, 1) := by decide +kernel
theorem dX3_methodsOf_42 : decode cX3_methodsOf 42 = .ok (.ireturn, 1) := by decide +kernel
theorem dX3_drops_0 : decode cX3_drops 0 = .ok (.iconst 0, 1) := by decide +kernel
theorem dX3_drops_1 : decode cX3_drops 1 = .ok (.istore_n 3, 1) := by decide +kernel
theorem dX3_drops_2 : decode cX3_drops 2 = .ok (.iconst 0, 1) := by decide +kernel
theorem dX3_drops_3 : decode cX3_drops 3 = .ok (.istore 4, 2) := by decide +kernel
theorem dX3_drops_5 : decode cX3_drops 5 = .ok (.iload 4, 2) := by decide +kernel
theorem dX3_drops_7 : decode cX3_drops 7 = .ok (.aload_n 0, 1) := by decide +kernel
theorem dX3_drops_8 : decode cX3_drops 8 = .ok (.getfield 37, 3) := by decide +kernel
theorem dX3_drops_11 : decode cX3_drops 11 = .ok (.iload_n 1, 1) := by decide +kernel
theorem dX3_drops_12 : decode cX3_drops 12 = .ok (.iaload, 1) := by decide +kernel
theorem dX3_drops_13 : decode cX3_drops 13 = .ok (.if_icmp .ge 56, 3) := by decide +kernel
theorem dX3_drops_16 : decode cX3_drops 16 = .ok (.aload_n 0, 1) := by decide +kernel
theorem dX3_drops_17 : decode cX3_drops 17 = .ok (.iload_n 1, 1) := by decide +kernel
theorem dX3_drops_18 : decode cX3_drops 18 = .ok (.aload_n 0, 1) := by decide +kernel
theorem dX3_drops_19 : decode cX3_drops 19 = .ok (.getfield 34, 3) := by decide +kernel
theorem dX3_drops_22 : decode cX3_drops 22 = .ok (.bipush 6, 2) := by decide +kernel
theorem dX3_drops_24 : decode cX3_drops 24 = .ok (.iload_n 1, 1) := by decide +kernel
theorem dX3_drops_25 : decode cX3_drops 25 = .ok (.imul, 1) := by decide +kernel
theorem dX3_drops_26 : decode cX3_drops 26 = .ok (.iload 4, 2) := by decide +kernel
theorem dX3_drops_28 : decode cX3_drops 28 = .ok (.iadd, 1) := by decide +kernel
theorem dX3_drops_29 : decode cX3_drops 29 = .ok (.iaload, 1) := by decide +kernel
theorem dX3_drops_30 : decode cX3_drops 30 = .ok (.iload_n 2, 1) := by decide +kernel
theorem dX3_drops_31 : decode cX3_drops 31 = .ok (.invokevirtual 111, 3) := by decide +kernel
theorem dX3_drops_34 : decode cX3_drops 34 = .ok (.ifCond .ne 29, 3) := by decide +kernel
theorem dX3_drops_37 : decode cX3_drops 37 = .ok (.aload_n 0, 1) := by decide +kernel
theorem dX3_drops_38 : decode cX3_drops 38 = .ok (.getfield 34, 3) := by decide +kernel
theorem dX3_drops_41 : decode cX3_drops 41 = .ok (.bipush 6, 2) := by decide +kernel
theorem dX3_drops_43 : decode cX3_drops 43 = .ok (.iload_n 1, 1) := by decide +kernel
theorem dX3_drops_44 : decode cX3_drops 44 = .ok (.imul, 1) := by decide +kernel
theorem dX3_drops_45 : decode cX3_drops 45 = .ok (.iload_n 3, 1) := by decide +kernel
theorem dX3_drops_46 : decode cX3_drops 46 = .ok (.iadd, 1) := by decide +kernel
theorem dX3_drops_47 : decode cX3_drops 47 = .ok (.aload_n 0, 1) := by decide +kernel
theorem dX3_drops_48 : decode cX3_drops 48 = .ok (.getfield 34, 3) := by decide +kernel
theorem dX3_drops_51 : decode cX3_drops 51 = .ok (.bipush 6, 2) := by decide +kernel
theorem dX3_drops_53 : decode cX3_drops 53 = .ok (.iload_n 1, 1) := by decide +kernel
theorem dX3_drops_54 : decode cX3_drops 54 = .ok (.imul, 1) := by decide +kernel
theorem dX3_drops_55 : decode cX3_drops 55 = .ok (.iload 4, 2) := by decide +kernel
theorem dX3_drops_57 : decode cX3_drops 57 = .ok (.iadd, 1) := by decide +kernel
theorem dX3_drops_58 : decode cX3_drops 58 = .ok (.iaload, 1) := by decide +kernel
theorem dX3_drops_59 : decode cX3_drops 59 = .ok (.iastore, 1) := by decide +kernel
theorem dX3_drops_60 : decode cX3_drops 60 = .ok (.iinc 3 1, 3) := by decide +kernel
theorem dX3_drops_63 : decode cX3_drops 63 = .ok (.iinc 4 1, 3) := by decide +kernel
theorem dX3_drops_66 : decode cX3_drops 66 = .ok (.goto (-61), 3) := by decide +kernel
theorem dX3_drops_69 : decode cX3_drops 69 = .ok (.aload_n 0, 1) := by decide +kernel
theorem dX3_drops_70 : decode cX3_drops 70 = .ok (.getfield 37, 3) := by decide +kernel
theorem dX3_drops_73 : decode cX3_drops 73 = .ok (.iload_n 1, 1) := by decide +kernel
theorem dX3_drops_74 : decode cX3_drops 74 = .ok (.iload_n 3, 1) := by decide +kernel
theorem dX3_drops_75 : decode cX3_drops 75 = .ok (.iastore, 1) := by decide +kernel
theorem dX3_drops_76 : decode cX3_drops 76 = .ok (.return_, 1) := by decide +kernel
theorem dX3_method_0 : decode cX3_method 0 = .ok (.aload_n 0, 1) := by decide +kernel
theorem dX3_method_1 : decode cX3_method 1 = .ok (.iconst 0, 1) := by decide +kernel
theorem dX3_method_2 : decode cX3_method 2 = .ok (.putfield 65, 3) := by decide +kernel
theorem dX3_method_5 : decode cX3_method 5 = .ok (.aload_n 0, 1) := by decide +kernel
theorem dX3_method_6 : decode cX3_method 6 = .ok (.iload_n 1, 1) := by decide +kernel
theorem dX3_method_7 : decode cX3_method 7 = .ok (.iload_n 2, 1) := by decide +kernel
theorem dX3_method_8 : decode cX3_method 8 = .ok (.invokevirtual 114, 3) := by decide +kernel
theorem dX3_method_11 : decode cX3_method 11 = .ok (.ifCond .eq 26, 3) := by decide +kernel
theorem dX3_method_14 : decode cX3_method 14 = .ok (.iload_n 3, 1) := by decide +kernel
theorem dX3_method_15 : decode cX3_method 15 = .ok (.iconst 0, 1) := by decide +kernel
theorem dX3_method_16 : decode cX3_method 16 = .ok (.iconst 3, 1) := by decide +kernel
theorem dX3_method_17 : decode cX3_method 17 = .ok (.invokestatic 68, 3) := by decide +kernel
theorem dX3_method_20 : decode cX3_method 20 = .ok (.ifCond .eq 17, 3) := by decide +kernel
theorem dX3_method_23 : decode cX3_method 23 = .ok (.iload 4, 2) := by decide +kernel
theorem dX3_method_25 : decode cX3_method 25 = .ok (.sipush (-999), 3) := by decide +kernel
theorem dX3_method_28 : decode cX3_method 28 = .ok (.sipush 999, 3) := by decide +kernel
theorem dX3_method_31 : decode cX3_method 31 = .ok (.invokestatic 68, 3) := by decide +kernel
theorem dX3_method_34 : decode cX3_method 34 = .ok (.ifCond .ne 5, 3) := by decide +kernel
theorem dX3_method_37 : decode cX3_method 37 = .ok (.iconst (-1), 1) := by decide +kernel
theorem dX3_method_38 : decode cX3_method 38 = .ok (.ireturn, 1) := by decide +kernel
theorem dX3_method_39 : decode cX3_method 39 = .ok (.aload_n 0, 1) := by decide +kernel
theorem dX3_method_40 : decode cX3_method 40 = .ok (.iload_n 1, 1) := by decide +kernel
theorem dX3_method_41 : decode cX3_method 41 = .ok (.iconst (-1), 1) := by decide +kernel
theorem dX3_method_42 : decode cX3_method 42 = .ok (.invokevirtual 117, 3) := by decide +kernel
theorem dX3_method_45 : decode cX3_method 45 = .ok (.istore 5, 2) := by decide +kernel
theorem dX3_method_47 : decode cX3_method 47 = .ok (.iload 5, 2) := by decide +kernel
theorem dX3_method_49 : decode cX3_method 49 = .ok (.iconst (-1), 1) := by decide +kernel
theorem dX3_method_50 : decode cX3_method 50 = .ok (.if_icmp .ne 5, 3) := by decide +kernel
theorem dX3_method_53 : decode cX3_method 53 = .ok (.iconst (-1), 1) := by decide +kernel
theorem dX3_method_54 : decode cX3_method 54 = .ok (.ireturn, 1) := by decide +kernel
theorem dX3_method_55 : decode cX3_method 55 = .ok (.aload_n 0, 1) := by decide +kernel
theorem dX3_method_56 : decode cX3_method 56 = .ok (.iload_n 1, 1) := by decide +kernel
theorem dX3_method_57 : decode cX3_method 57 = .ok (.iload_n 2, 1) := by decide +kernel
theorem dX3_method_58 : decode cX3_method 58 = .ok (.invokevirtual 117, 3) := by decide +kernel
theorem dX3_method_61 : decode cX3_method 61 = .ok (.iconst (-1), 1) := by decide +kernel
theorem dX3_method_62 : decode cX3_method 62 = .ok (.if_icmp .eq 6, 3) := by decide +kernel
theorem dX3_method_65 : decode cX3_method 65 = .ok (.bipush (-2), 2) := by decide +kernel
theorem dX3_method_67 : decode cX3_method 67 = .ok (.ireturn, 1) := by decide +kernel
theorem dX3_method_68 : decode cX3_method 68 = .ok (.aload_n 0, 1) := by decide +kernel
theorem dX3_method_69 : decode cX3_method 69 = .ok (.getfield 25, 3) := by decide +kernel
theorem dX3_method_72 : decode cX3_method 72 = .ok (.bipush 12, 2) := by decide +kernel
theorem dX3_method_74 : decode cX3_method 74 = .ok (.iload_n 1, 1) := by decide +kernel
theorem dX3_method_75 : decode cX3_method 75 = .ok (.imul, 1) := by decide +kernel
theorem dX3_method_76 : decode cX3_method 76 = .ok (.iload 5, 2) := by decide +kernel
theorem dX3_method_78 : decode cX3_method 78 = .ok (.iadd, 1) := by decide +kernel
theorem dX3_method_79 : decode cX3_method 79 = .ok (.iload_n 2, 1) := by decide +kernel
theorem dX3_method_80 : decode cX3_method 80 = .ok (.iastore, 1) := by decide +kernel
theorem dX3_method_81 : decode cX3_method 81 = .ok (.aload_n 0, 1) := by decide +kernel
theorem dX3_method_82 : decode cX3_method 82 = .ok (.getfield 28, 3) := by decide +kernel
theorem dX3_method_85 : decode cX3_method 85 = .ok (.bipush 12, 2) := by decide +kernel
theorem dX3_method_87 : decode cX3_method 87 = .ok (.iload_n 1, 1) := by decide +kernel
theorem dX3_method_88 : decode cX3_method 88 = .ok (.imul, 1) := by decide +kernel
theorem dX3_method_89 : decode cX3_method 89 = .ok (.iload 5, 2) := by decide +kernel
theorem dX3_method_91 : decode cX3_method 91 = .ok (.iadd, 1) := by decide +kernel
theorem dX3_method_92 : decode cX3_method 92 = .ok (.iload_n 3, 1) := by decide +kernel
theorem dX3_method_93 : decode cX3_method 93 = .ok (.iastore, 1) := by decide +kernel
theorem dX3_method_94 : decode cX3_method 94 = .ok (.aload_n 0, 1) := by decide +kernel
theorem dX3_method_95 : decode cX3_method 95 = .ok (.getfield 31, 3) := by decide +kernel
theorem dX3_method_98 : decode cX3_method 98 = .ok (.bipush 12, 2) := by decide +kernel
theorem dX3_method_100 : decode cX3_method 100 = .ok (.iload_n 1, 1) := by decide +kernel
theorem dX3_method_101 : decode cX3_method 101 = .ok (.imul, 1) := by decide +kernel
theorem dX3_method_102 : decode cX3_method 102 = .ok (.iload 5, 2) := by decide +kernel
theorem dX3_method_104 : decode cX3_method 104 = .ok (.iadd, 1) := by decide +kernel
theorem dX3_method_105 : decode cX3_method 105 = .ok (.iload 4, 2) := by decide +kernel
theorem dX3_method_107 : decode cX3_method 107 = .ok (.iastore, 1) := by decide +kernel
theorem dX3_method_108 : decode cX3_method 108 = .ok (.aload_n 0, 1) := by decide +kernel
theorem dX3_method_109 : decode cX3_method 109 = .ok (.iload_n 1, 1) := by decide +kernel
theorem dX3_method_110 : decode cX3_method 110 = .ok (.iload_n 2, 1) := by decide +kernel
theorem dX3_method_111 : decode cX3_method 111 = .ok (.invokevirtual 120, 3) := by decide +kernel
theorem dX3_method_114 : decode cX3_method 114 = .ok (.iload 5, 2) := by decide +kernel
theorem dX3_method_116 : decode cX3_method 116 = .ok (.ireturn, 1) := by decide +kernel
theorem dX3_drop_0 : decode cX3_drop 0 = .ok (.aload_n 0, 1) := by decide +kernel
theorem dX3_drop_1 : decode cX3_drop 1 = .ok (.iconst 0, 1) := by decide +kernel
theorem dX3_drop_2 : decode cX3_drop 2 = .ok (.putfield 65, 3) := by decide +kernel
theorem dX3_drop_5 : decode cX3_drop 5 = .ok (.aload_n 0, 1) := by decide +kernel
theorem dX3_drop_6 : decode cX3_drop 6 = .ok (.iload_n 1, 1) := by decide +kernel
theorem dX3_drop_7 : decode cX3_drop 7 = .ok (.iload_n 2, 1) := by decide +kernel
theorem dX3_drop_8 : decode cX3_drop 8 = .ok (.invokevirtual 123, 3) := by decide +kernel
theorem dX3_drop_11 : decode cX3_drop 11 = .ok (.ifCond .ne 5, 3) := by decide +kernel
theorem dX3_drop_14 : decode cX3_drop 14 = .ok (.iconst (-1), 1) := by decide +kernel
theorem dX3_drop_15 : decode cX3_drop 15 = .ok (.ireturn, 1) := by decide +kernel
theorem dX3_drop_16 : decode cX3_drop 16 = .ok (.aload_n 0, 1) := by decide +kernel
theorem dX3_drop_17 : decode cX3_drop 17 = .ok (.iload_n 1, 1) := by decide +kernel
theorem dX3_drop_18 : decode cX3_drop 18 = .ok (.aload_n 0, 1) := by decide +kernel
theorem dX3_drop_19 : decode cX3_drop 19 = .ok (.getfield 25, 3) := by decide +kernel
theorem dX3_drop_22 : decode cX3_drop 22 = .ok (.bipush 12, 2) := by decide +kernel
theorem dX3_drop_24 : decode cX3_drop 24 = .ok (.iload_n 1, 1) := by decide +kernel
theorem dX3_drop_25 : decode cX3_drop 25 = .ok (.imul, 1) := by decide +kernel
theorem dX3_drop_26 : decode cX3_drop 26 = .ok (.iload_n 2, 1) := by decide +kernel
theorem dX3_drop_27 : decode cX3_drop 27 = .ok (.iadd, 1) := by decide +kernel
theorem dX3_drop_28 : decode cX3_drop 28 = .ok (.iaload, 1) := by decide +kernel
theorem dX3_drop_29 : decode cX3_drop 29 = .ok (.invokevirtual 120, 3) := by decide +kernel
theorem dX3_drop_32 : decode cX3_drop 32 = .ok (.aload_n 0, 1) := by decide +kernel
theorem dX3_drop_33 : decode cX3_drop 33 = .ok (.getfield 25, 3) := by decide +kernel
theorem dX3_drop_36 : decode cX3_drop 36 = .ok (.bipush 12, 2) := by decide +kernel
theorem dX3_drop_38 : decode cX3_drop 38 = .ok (.iload_n 1, 1) := by decide +kernel
theorem dX3_drop_39 : decode cX3_drop 39 = .ok (.imul, 1) := by decide +kernel
theorem dX3_drop_40 : decode cX3_drop 40 = .ok (.iload_n 2, 1) := by decide +kernel
theorem dX3_drop_41 : decode cX3_drop 41 = .ok (.iadd, 1) := by decide +kernel
theorem dX3_drop_42 : decode cX3_drop 42 = .ok (.iconst (-1), 1) := by decide +kernel
theorem dX3_drop_43 : decode cX3_drop 43 = .ok (.iastore, 1) := by decide +kernel
theorem dX3_drop_44 : decode cX3_drop 44 = .ok (.aload_n 0, 1) := by decide +kernel
theorem dX3_drop_45 : decode cX3_drop 45 = .ok (.iload_n 1, 1) := by decide +kernel
theorem dX3_drop_46 : decode cX3_drop 46 = .ok (.invokevirtual 126, 3) := by decide +kernel
theorem dX3_drop_49 : decode cX3_drop 49 = .ok (.invokestatic 130, 3) := by decide +kernel
theorem dX3_drop_52 : decode cX3_drop 52 = .ok (.ireturn, 1) := by decide +kernel
theorem dX3_rule_0 : decode cX3_rule 0 = .ok (.aload_n 0, 1) := by decide +kernel
theorem dX3_rule_1 : decode cX3_rule 1 = .ok (.iconst 0, 1) := by decide +kernel
theorem dX3_rule_2 : decode cX3_rule 2 = .ok (.putfield 65, 3) := by decide +kernel
theorem dX3_rule_5 : decode cX3_rule 5 = .ok (.aload_n 0, 1) := by decide +kernel
theorem dX3_rule_6 : decode cX3_rule 6 = .ok (.iconst 1, 1) := by decide +kernel
theorem dX3_rule_7 : decode cX3_rule 7 = .ok (.aload_n 0, 1) := by decide +kernel
theorem dX3_rule_8 : decode cX3_rule 8 = .ok (.getfield 133, 3) := by decide +kernel
theorem dX3_rule_11 : decode cX3_rule 11 = .ok (.isub, 1) := by decide +kernel
theorem dX3_rule_12 : decode cX3_rule 12 = .ok (.putfield 133, 3) := by decide +kernel
theorem dX3_rule_15 : decode cX3_rule 15 = .ok (.iconst 0, 1) := by decide +kernel
theorem dX3_rule_16 : decode cX3_rule 16 = .ok (.istore_n 1, 1) := by decide +kernel
theorem dX3_rule_17 : decode cX3_rule 17 = .ok (.iload_n 1, 1) := by decide +kernel
theorem dX3_rule_18 : decode cX3_rule 18 = .ok (.iconst 4, 1) := by decide +kernel
theorem dX3_rule_19 : decode cX3_rule 19 = .ok (.if_icmp .ge 16, 3) := by decide +kernel
theorem dX3_rule_22 : decode cX3_rule 22 = .ok (.aload_n 0, 1) := by decide +kernel
theorem dX3_rule_23 : decode cX3_rule 23 = .ok (.getfield 37, 3) := by decide +kernel
theorem dX3_rule_26 : decode cX3_rule 26 = .ok (.iload_n 1, 1) := by decide +kernel
theorem dX3_rule_27 : decode cX3_rule 27 = .ok (.iconst 0, 1) := by decide +kernel
theorem dX3_rule_28 : decode cX3_rule 28 = .ok (.iastore, 1) := by decide +kernel
theorem dX3_rule_29 : decode cX3_rule 29 = .ok (.iinc 1 1, 3) := by decide +kernel
theorem dX3_rule_32 : decode cX3_rule 32 = .ok (.goto (-15), 3) := by decide +kernel
theorem dX3_rule_35 : decode cX3_rule 35 = .ok (.aload_n 0, 1) := by decide +kernel
theorem dX3_rule_36 : decode cX3_rule 36 = .ok (.getfield 133, 3) := by decide +kernel
theorem dX3_rule_39 : decode cX3_rule 39 = .ok (.ireturn, 1) := by decide +kernel
theorem dX3_count_0 : decode cX3_count 0 = .ok (.aload_n 0, 1) := by decide +kernel
theorem dX3_count_1 : decode cX3_count 1 = .ok (.iconst 0, 1) := by decide +kernel
theorem dX3_count_2 : decode cX3_count 2 = .ok (.putfield 65, 3) := by decide +kernel
theorem dX3_count_5 : decode cX3_count 5 = .ok (.iconst 0, 1) := by decide +kernel
theorem dX3_count_6 : decode cX3_count 6 = .ok (.istore_n 2, 1) := by decide +kernel
theorem dX3_count_7 : decode cX3_count 7 = .ok (.iload_n 1, 1) := by decide +kernel
theorem dX3_count_8 : decode cX3_count 8 = .ok (.tableswitch 125 0 6 #[44, 49, 54, 59, 88, 93, 98], 44) := by decide +kernel
theorem dX3_count_52 : decode cX3_count 52 = .ok (.aload_n 0, 1) := by decide +kernel
theorem dX3_count_53 : decode cX3_count 53 = .ok (.getfield 62, 3) := by decide +kernel
theorem dX3_count_56 : decode cX3_count 56 = .ok (.ireturn, 1) := by decide +kernel
theorem dX3_count_57 : decode cX3_count 57 = .ok (.aload_n 0, 1) := by decide +kernel
theorem dX3_count_58 : decode cX3_count 58 = .ok (.getfield 72, 3) := by decide +kernel
theorem dX3_count_61 : decode cX3_count 61 = .ok (.ireturn, 1) := by decide +kernel
theorem dX3_count_62 : decode cX3_count 62 = .ok (.aload_n 0, 1) := by decide +kernel
theorem dX3_count_63 : decode cX3_count 63 = .ok (.getfield 133, 3) := by decide +kernel
theorem dX3_count_66 : decode cX3_count 66 = .ok (.ireturn, 1) := by decide +kernel
theorem dX3_count_67 : decode cX3_count 67 = .ok (.iconst 0, 1) := by decide +kernel
theorem dX3_count_68 : decode cX3_count 68 = .ok (.istore_n 3, 1) := by decide +kernel
theorem dX3_count_69 : decode cX3_count 69 = .ok (.iload_n 3, 1) := by decide +kernel
theorem dX3_count_70 : decode cX3_count 70 = .ok (.aload_n 0, 1) := by decide +kernel
theorem dX3_count_71 : decode cX3_count 71 = .ok (.getfield 72, 3) := by decide +kernel
theorem dX3_count_74 : decode cX3_count 74 = .ok (.if_icmp .ge 20, 3) := by decide +kernel
theorem dX3_count_77 : decode cX3_count 77 = .ok (.iload_n 2, 1) := by decide +kernel
theorem dX3_count_78 : decode cX3_count 78 = .ok (.aload_n 0, 1) := by decide +kernel
theorem dX3_count_79 : decode cX3_count 79 = .ok (.iload_n 3, 1) := by decide +kernel
theorem dX3_count_80 : decode cX3_count 80 = .ok (.invokevirtual 126, 3) := by decide +kernel
theorem dX3_count_83 : decode cX3_count 83 = .ok (.invokestatic 130, 3) := by decide +kernel
theorem dX3_count_86 : decode cX3_count 86 = .ok (.iadd, 1) := by decide +kernel
theorem dX3_count_87 : decode cX3_count 87 = .ok (.istore_n 2, 1) := by decide +kernel
theorem dX3_count_88 : decode cX3_count 88 = .ok (.iinc 3 1, 3) := by decide +kernel
theorem dX3_count_91 : decode cX3_count 91 = .ok (.goto (-22), 3) := by decide +kernel
theorem dX3_count_94 : decode cX3_count 94 = .ok (.iload_n 2, 1) := by decide +kernel
theorem dX3_count_95 : decode cX3_count 95 = .ok (.ireturn, 1) := by decide +kernel
theorem dX3_count_96 : decode cX3_count 96 = .ok (.aload_n 0, 1) := by decide +kernel
theorem dX3_count_97 : decode cX3_count 97 = .ok (.getfield 136, 3) := by decide +kernel
theorem dX3_count_100 : decode cX3_count 100 = .ok (.ireturn, 1) := by decide +kernel
theorem dX3_count_101 : decode cX3_count 101 = .ok (.aload_n 0, 1) := by decide +kernel
theorem dX3_count_102 : decode cX3_count 102 = .ok (.getfield 139, 3) := by decide +kernel
theorem dX3_count_105 : decode cX3_count 105 = .ok (.ireturn, 1) := by decide +kernel
theorem dX3_count_106 : decode cX3_count 106 = .ok (.iconst 0, 1) := by decide +kernel
theorem dX3_count_107 : decode cX3_count 107 = .ok (.istore_n 3, 1) := by decide +kernel
theorem dX3_count_108 : decode cX3_count 108 = .ok (.iload_n 3, 1) := by decide +kernel
theorem dX3_count_109 : decode cX3_count 109 = .ok (.aload_n 0, 1) := by decide +kernel
theorem dX3_count_110 : decode cX3_count 110 = .ok (.getfield 72, 3) := by decide +kernel
theorem dX3_count_113 : decode cX3_count 113 = .ok (.if_icmp .ge 18, 3) := by decide +kernel
theorem dX3_count_116 : decode cX3_count 116 = .ok (.iload_n 2, 1) := by decide +kernel
theorem dX3_count_117 : decode cX3_count 117 = .ok (.aload_n 0, 1) := by decide +kernel
theorem dX3_count_118 : decode cX3_count 118 = .ok (.getfield 37, 3) := by decide +kernel
theorem dX3_count_121 : decode cX3_count 121 = .ok (.iload_n 3, 1) := by decide +kernel
theorem dX3_count_122 : decode cX3_count 122 = .ok (.iaload, 1) := by decide +kernel
theorem dX3_count_123 : decode cX3_count 123 = .ok (.iadd, 1) := by decide +kernel
theorem dX3_count_124 : decode cX3_count 124 = .ok (.istore_n 2, 1) := by decide +kernel
theorem dX3_count_125 : decode cX3_count 125 = .ok (.iinc 3 1, 3) := by decide +kernel
theorem dX3_count_128 : decode cX3_count 128 = .ok (.goto (-20), 3) := by decide +kernel
theorem dX3_count_131 : decode cX3_count 131 = .ok (.iload_n 2, 1) := by decide +kernel
theorem dX3_count_132 : decode cX3_count 132 = .ok (.ireturn, 1) := by decide +kernel
theorem dX3_count_133 : decode cX3_count 133 = .ok (.iconst (-1), 1) := by decide +kernel
theorem dX3_count_134 : decode cX3_count 134 = .ok (.ireturn, 1) := by decide +kernel
theorem dX3_whatOf_0 : decode cX3_whatOf 0 = .ok (.aload_n 0, 1) := by decide +kernel
theorem dX3_whatOf_1 : decode cX3_whatOf 1 = .ok (.getfield 49, 3) := by decide +kernel
theorem dX3_whatOf_4 : decode cX3_whatOf 4 = .ok (.iconst (-1), 1) := by decide +kernel
theorem dX3_whatOf_5 : decode cX3_whatOf 5 = .ok (.if_icmp .eq 18, 3) := by decide +kernel
theorem dX3_whatOf_8 : decode cX3_whatOf 8 = .ok (.iload_n 2, 1) := by decide +kernel
theorem dX3_whatOf_9 : decode cX3_whatOf 9 = .ok (.aload_n 0, 1) := by decide +kernel
theorem dX3_whatOf_10 : decode cX3_whatOf 10 = .ok (.getfield 142, 3) := by decide +kernel
theorem dX3_whatOf_13 : decode cX3_whatOf 13 = .ok (.if_icmp .ne 10, 3) := by decide +kernel
theorem dX3_whatOf_16 : decode cX3_whatOf 16 = .ok (.aload_n 0, 1) := by decide +kernel
theorem dX3_whatOf_17 : decode cX3_whatOf 17 = .ok (.getfield 49, 3) := by decide +kernel
theorem dX3_whatOf_20 : decode cX3_whatOf 20 = .ok (.goto 14, 3) := by decide +kernel
theorem dX3_whatOf_23 : decode cX3_whatOf 23 = .ok (.aload_n 0, 1) := by decide +kernel
theorem dX3_whatOf_24 : decode cX3_whatOf 24 = .ok (.getfield 25, 3) := by decide +kernel
theorem dX3_whatOf_27 : decode cX3_whatOf 27 = .ok (.bipush 12, 2) := by decide +kernel
theorem dX3_whatOf_29 : decode cX3_whatOf 29 = .ok (.iload_n 1, 1) := by decide +kernel
theorem dX3_whatOf_30 : decode cX3_whatOf 30 = .ok (.imul, 1) := by decide +kernel
theorem dX3_whatOf_31 : decode cX3_whatOf 31 = .ok (.iload_n 2, 1) := by decide +kernel
theorem dX3_whatOf_32 : decode cX3_whatOf 32 = .ok (.iadd, 1) := by decide +kernel
theorem dX3_whatOf_33 : decode cX3_whatOf 33 = .ok (.iaload, 1) := by decide +kernel
theorem dX3_whatOf_34 : decode cX3_whatOf 34 = .ok (.ireturn, 1) := by decide +kernel
theorem dX3_applicableTo_0 : decode cX3_applicableTo 0 = .ok (.iconst 0, 1) := by decide +kernel
theorem dX3_applicableTo_1 : decode cX3_applicableTo 1 = .ok (.istore_n 3, 1) := by decide +kernel
theorem dX3_applicableTo_2 : decode cX3_applicableTo 2 = .ok (.iconst 0, 1) := by decide +kernel
theorem dX3_applicableTo_3 : decode cX3_applicableTo 3 = .ok (.istore 4, 2) := by decide +kernel
theorem dX3_applicableTo_5 : decode cX3_applicableTo 5 = .ok (.iload 4, 2) := by decide +kernel
theorem dX3_applicableTo_7 : decode cX3_applicableTo 7 = .ok (.bipush 12, 2) := by decide +kernel
theorem dX3_applicableTo_9 : decode cX3_applicableTo 9 = .ok (.if_icmp .ge 57, 3) := by decide +kernel
theorem dX3_applicableTo_12 : decode cX3_applicableTo 12 = .ok (.iload_n 3, 1) := by decide +kernel
theorem dX3_applicableTo_13 : decode cX3_applicableTo 13 = .ok (.aload_n 0, 1) := by decide +kernel
theorem dX3_applicableTo_14 : decode cX3_applicableTo 14 = .ok (.getfield 25, 3) := by decide +kernel
theorem dX3_applicableTo_17 : decode cX3_applicableTo 17 = .ok (.bipush 12, 2) := by decide +kernel
theorem dX3_applicableTo_19 : decode cX3_applicableTo 19 = .ok (.iload_n 1, 1) := by decide +kernel
theorem dX3_applicableTo_20 : decode cX3_applicableTo 20 = .ok (.imul, 1) := by decide +kernel
theorem dX3_applicableTo_21 : decode cX3_applicableTo 21 = .ok (.iload 4, 2) := by decide +kernel
theorem dX3_applicableTo_23 : decode cX3_applicableTo 23 = .ok (.iadd, 1) := by decide +kernel
theorem dX3_applicableTo_24 : decode cX3_applicableTo 24 = .ok (.iaload, 1) := by decide +kernel
theorem dX3_applicableTo_25 : decode cX3_applicableTo 25 = .ok (.iconst (-1), 1) := by decide +kernel
theorem dX3_applicableTo_26 : decode cX3_applicableTo 26 = .ok (.if_icmp .eq 31, 3) := by decide +kernel
theorem dX3_applicableTo_29 : decode cX3_applicableTo 29 = .ok (.aload_n 0, 1) := by decide +kernel
theorem dX3_applicableTo_30 : decode cX3_applicableTo 30 = .ok (.iload_n 1, 1) := by decide +kernel
theorem dX3_applicableTo_31 : decode cX3_applicableTo 31 = .ok (.iload_n 2, 1) := by decide +kernel
theorem dX3_applicableTo_32 : decode cX3_applicableTo 32 = .ok (.aload_n 0, 1) := by decide +kernel
theorem dX3_applicableTo_33 : decode cX3_applicableTo 33 = .ok (.getfield 25, 3) := by decide +kernel
theorem dX3_applicableTo_36 : decode cX3_applicableTo 36 = .ok (.bipush 12, 2) := by decide +kernel
theorem dX3_applicableTo_38 : decode cX3_applicableTo 38 = .ok (.iload_n 1, 1) := by decide +kernel
theorem dX3_applicableTo_39 : decode cX3_applicableTo 39 = .ok (.imul, 1) := by decide +kernel
theorem dX3_applicableTo_40 : decode cX3_applicableTo 40 = .ok (.iload 4, 2) := by decide +kernel
theorem dX3_applicableTo_42 : decode cX3_applicableTo 42 = .ok (.iadd, 1) := by decide +kernel
theorem dX3_applicableTo_43 : decode cX3_applicableTo 43 = .ok (.iaload, 1) := by decide +kernel
theorem dX3_applicableTo_44 : decode cX3_applicableTo 44 = .ok (.invokevirtual 111, 3) := by decide +kernel
theorem dX3_applicableTo_47 : decode cX3_applicableTo 47 = .ok (.ifCond .eq 10, 3) := by decide +kernel
theorem dX3_applicableTo_50 : decode cX3_applicableTo 50 = .ok (.iconst 1, 1) := by decide +kernel
theorem dX3_applicableTo_51 : decode cX3_applicableTo 51 = .ok (.iload 4, 2) := by decide +kernel
theorem dX3_applicableTo_53 : decode cX3_applicableTo 53 = .ok (.ishl, 1) := by decide +kernel
theorem dX3_applicableTo_54 : decode cX3_applicableTo 54 = .ok (.goto 4, 3) := by decide +kernel
theorem dX3_applicableTo_57 : decode cX3_applicableTo 57 = .ok (.iconst 0, 1) := by decide +kernel
theorem dX3_applicableTo_58 : decode cX3_applicableTo 58 = .ok (.ior, 1) := by decide +kernel
theorem dX3_applicableTo_59 : decode cX3_applicableTo 59 = .ok (.istore_n 3, 1) := by decide +kernel
theorem dX3_applicableTo_60 : decode cX3_applicableTo 60 = .ok (.iinc 4 1, 3) := by decide +kernel
theorem dX3_applicableTo_63 : decode cX3_applicableTo 63 = .ok (.goto (-58), 3) := by decide +kernel
theorem dX3_applicableTo_66 : decode cX3_applicableTo 66 = .ok (.aload_n 0, 1) := by decide +kernel
theorem dX3_applicableTo_67 : decode cX3_applicableTo 67 = .ok (.getfield 49, 3) := by decide +kernel
theorem dX3_applicableTo_70 : decode cX3_applicableTo 70 = .ok (.iconst (-1), 1) := by decide +kernel
theorem dX3_applicableTo_71 : decode cX3_applicableTo 71 = .ok (.if_icmp .eq 27, 3) := by decide +kernel
theorem dX3_applicableTo_74 : decode cX3_applicableTo 74 = .ok (.aload_n 0, 1) := by decide +kernel
theorem dX3_applicableTo_75 : decode cX3_applicableTo 75 = .ok (.iload_n 1, 1) := by decide +kernel
theorem dX3_applicableTo_76 : decode cX3_applicableTo 76 = .ok (.iload_n 2, 1) := by decide +kernel
theorem dX3_applicableTo_77 : decode cX3_applicableTo 77 = .ok (.aload_n 0, 1) := by decide +kernel
theorem dX3_applicableTo_78 : decode cX3_applicableTo 78 = .ok (.getfield 49, 3) := by decide +kernel
theorem dX3_applicableTo_81 : decode cX3_applicableTo 81 = .ok (.invokevirtual 111, 3) := by decide +kernel
theorem dX3_applicableTo_84 : decode cX3_applicableTo 84 = .ok (.ifCond .eq 14, 3) := by decide +kernel
theorem dX3_applicableTo_87 : decode cX3_applicableTo 87 = .ok (.iload_n 3, 1) := by decide +kernel
theorem dX3_applicableTo_88 : decode cX3_applicableTo 88 = .ok (.iconst 1, 1) := by decide +kernel
theorem dX3_applicableTo_89 : decode cX3_applicableTo 89 = .ok (.aload_n 0, 1) := by decide +kernel
theorem dX3_applicableTo_90 : decode cX3_applicableTo 90 = .ok (.getfield 142, 3) := by decide +kernel
theorem dX3_applicableTo_93 : decode cX3_applicableTo 93 = .ok (.ishl, 1) := by decide +kernel
theorem dX3_applicableTo_94 : decode cX3_applicableTo 94 = .ok (.ior, 1) := by decide +kernel
theorem dX3_applicableTo_95 : decode cX3_applicableTo 95 = .ok (.goto 4, 3) := by decide +kernel
theorem dX3_applicableTo_98 : decode cX3_applicableTo 98 = .ok (.iload_n 3, 1) := by decide +kernel
theorem dX3_applicableTo_99 : decode cX3_applicableTo 99 = .ok (.ireturn, 1) := by decide +kernel
theorem dX3_isAhead_0 : decode cX3_isAhead 0 = .ok (.iconst 0, 1) := by decide +kernel
theorem dX3_isAhead_1 : decode cX3_isAhead 1 = .ok (.istore 5, 2) := by decide +kernel
theorem dX3_isAhead_3 : decode cX3_isAhead 3 = .ok (.iload 5, 2) := by decide +kernel
theorem dX3_isAhead_5 : decode cX3_isAhead 5 = .ok (.aload_n 0, 1) := by decide +kernel
theorem dX3_isAhead_6 : decode cX3_isAhead 6 = .ok (.getfield 22, 3) := by decide +kernel
theorem dX3_isAhead_9 : decode cX3_isAhead 9 = .ok (.iload_n 1, 1) := by decide +kernel
theorem dX3_isAhead_10 : decode cX3_isAhead 10 = .ok (.iaload, 1) := by decide +kernel
theorem dX3_isAhead_11 : decode cX3_isAhead 11 = .ok (.if_icmp .ge 86, 3) := by decide +kernel
theorem dX3_isAhead_14 : decode cX3_isAhead 14 = .ok (.aload_n 0, 1) := by decide +kernel
theorem dX3_isAhead_15 : decode cX3_isAhead 15 = .ok (.iload_n 1, 1) := by decide +kernel
theorem dX3_isAhead_16 : decode cX3_isAhead 16 = .ok (.iload_n 3, 1) := by decide +kernel
theorem dX3_isAhead_17 : decode cX3_isAhead 17 = .ok (.invokevirtual 145, 3) := by decide +kernel
theorem dX3_isAhead_20 : decode cX3_isAhead 20 = .ok (.iload 5, 2) := by decide +kernel
theorem dX3_isAhead_22 : decode cX3_isAhead 22 = .ok (.invokestatic 107, 3) := by decide +kernel
theorem dX3_isAhead_25 : decode cX3_isAhead 25 = .ok (.istore 6, 2) := by decide +kernel
theorem dX3_isAhead_27 : decode cX3_isAhead 27 = .ok (.aload_n 0, 1) := by decide +kernel
theorem dX3_isAhead_28 : decode cX3_isAhead 28 = .ok (.iload_n 1, 1) := by decide +kernel
theorem dX3_isAhead_29 : decode cX3_isAhead 29 = .ok (.iload 4, 2) := by decide +kernel
theorem dX3_isAhead_31 : decode cX3_isAhead 31 = .ok (.invokevirtual 145, 3) := by decide +kernel
theorem dX3_isAhead_34 : decode cX3_isAhead 34 = .ok (.iload 5, 2) := by decide +kernel
theorem dX3_isAhead_36 : decode cX3_isAhead 36 = .ok (.invokestatic 107, 3) := by decide +kernel
theorem dX3_isAhead_39 : decode cX3_isAhead 39 = .ok (.istore 7, 2) := by decide +kernel
theorem dX3_isAhead_41 : decode cX3_isAhead 41 = .ok (.iload 6, 2) := by decide +kernel
theorem dX3_isAhead_43 : decode cX3_isAhead 43 = .ok (.iload 7, 2) := by decide +kernel
theorem dX3_isAhead_45 : decode cX3_isAhead 45 = .ok (.if_icmp .eq 46, 3) := by decide +kernel
theorem dX3_isAhead_48 : decode cX3_isAhead 48 = .ok (.aload_n 0, 1) := by decide +kernel
theorem dX3_isAhead_49 : decode cX3_isAhead 49 = .ok (.getfield 19, 3) := by decide +kernel
theorem dX3_isAhead_52 : decode cX3_isAhead 52 = .ok (.bipush 16, 2) := by decide +kernel
theorem dX3_isAhead_54 : decode cX3_isAhead 54 = .ok (.iload_n 2, 1) := by decide +kernel
theorem dX3_isAhead_55 : decode cX3_isAhead 55 = .ok (.iload 5, 2) := by decide +kernel
theorem dX3_isAhead_57 : decode cX3_isAhead 57 = .ok (.invokestatic 107, 3) := by decide +kernel
theorem dX3_isAhead_60 : decode cX3_isAhead 60 = .ok (.imul, 1) := by decide +kernel
theorem dX3_isAhead_61 : decode cX3_isAhead 61 = .ok (.iload 6, 2) := by decide +kernel
theorem dX3_isAhead_63 : decode cX3_isAhead 63 = .ok (.iadd, 1) := by decide +kernel
theorem dX3_isAhead_64 : decode cX3_isAhead 64 = .ok (.iaload, 1) := by decide +kernel
theorem dX3_isAhead_65 : decode cX3_isAhead 65 = .ok (.aload_n 0, 1) := by decide +kernel
theorem dX3_isAhead_66 : decode cX3_isAhead 66 = .ok (.getfield 19, 3) := by decide +kernel
theorem dX3_isAhead_69 : decode cX3_isAhead 69 = .ok (.bipush 16, 2) := by decide +kernel
theorem dX3_isAhead_71 : decode cX3_isAhead 71 = .ok (.iload_n 2, 1) := by decide +kernel
theorem dX3_isAhead_72 : decode cX3_isAhead 72 = .ok (.iload 5, 2) := by decide +kernel
theorem dX3_isAhead_74 : decode cX3_isAhead 74 = .ok (.invokestatic 107, 3) := by decide +kernel
theorem dX3_isAhead_77 : decode cX3_isAhead 77 = .ok (.imul, 1) := by decide +kernel
theorem dX3_isAhead_78 : decode cX3_isAhead 78 = .ok (.iload 7, 2) := by decide +kernel
theorem dX3_isAhead_80 : decode cX3_isAhead 80 = .ok (.iadd, 1) := by decide +kernel
theorem dX3_isAhead_81 : decode cX3_isAhead 81 = .ok (.iaload, 1) := by decide +kernel
theorem dX3_isAhead_82 : decode cX3_isAhead 82 = .ok (.if_icmp .ge 7, 3) := by decide +kernel
theorem dX3_isAhead_85 : decode cX3_isAhead 85 = .ok (.iconst 1, 1) := by decide +kernel
theorem dX3_isAhead_86 : decode cX3_isAhead 86 = .ok (.goto 4, 3) := by decide +kernel
theorem dX3_isAhead_89 : decode cX3_isAhead 89 = .ok (.iconst 0, 1) := by decide +kernel
theorem dX3_isAhead_90 : decode cX3_isAhead 90 = .ok (.ireturn, 1) := by decide +kernel
theorem dX3_isAhead_91 : decode cX3_isAhead 91 = .ok (.iinc 5 1, 3) := by decide +kernel
theorem dX3_isAhead_94 : decode cX3_isAhead 94 = .ok (.goto (-91), 3) := by decide +kernel
theorem dX3_isAhead_97 : decode cX3_isAhead 97 = .ok (.iconst 0, 1) := by decide +kernel
theorem dX3_isAhead_98 : decode cX3_isAhead 98 = .ok (.ireturn, 1) := by decide +kernel
theorem dX3_firstOf_0 : decode cX3_firstOf 0 = .ok (.iload_n 3, 1) := by decide +kernel
theorem dX3_firstOf_1 : decode cX3_firstOf 1 = .ok (.ifCond .ne 5, 3) := by decide +kernel
theorem dX3_firstOf_4 : decode cX3_firstOf 4 = .ok (.iconst (-1), 1) := by decide +kernel
theorem dX3_firstOf_5 : decode cX3_firstOf 5 = .ok (.ireturn, 1) := by decide +kernel
theorem dX3_firstOf_6 : decode cX3_firstOf 6 = .ok (.iconst 0, 1) := by decide +kernel
theorem dX3_firstOf_7 : decode cX3_firstOf 7 = .ok (.istore 5, 2) := by decide +kernel
theorem dX3_firstOf_9 : decode cX3_firstOf 9 = .ok (.iload 5, 2) := by decide +kernel
theorem dX3_firstOf_11 : decode cX3_firstOf 11 = .ok (.bipush 12, 2) := by decide +kernel
theorem dX3_firstOf_13 : decode cX3_firstOf 13 = .ok (.if_icmp .gt 119, 3) := by decide +kernel
theorem dX3_firstOf_16 : decode cX3_firstOf 16 = .ok (.iload_n 3, 1) := by decide +kernel
theorem dX3_firstOf_17 : decode cX3_firstOf 17 = .ok (.iload 5, 2) := by decide +kernel
theorem dX3_firstOf_19 : decode cX3_firstOf 19 = .ok (.invokestatic 97, 3) := by decide +kernel
theorem dX3_firstOf_22 : decode cX3_firstOf 22 = .ok (.ifCond .ne 6, 3) := by decide +kernel
theorem dX3_firstOf_25 : decode cX3_firstOf 25 = .ok (.goto 101, 3) := by decide +kernel
theorem dX3_firstOf_28 : decode cX3_firstOf 28 = .ok (.iconst 1, 1) := by decide +kernel
theorem dX3_firstOf_29 : decode cX3_firstOf 29 = .ok (.istore 6, 2) := by decide +kernel
theorem dX3_firstOf_31 : decode cX3_firstOf 31 = .ok (.iconst 0, 1) := by decide +kernel
theorem dX3_firstOf_32 : decode cX3_firstOf 32 = .ok (.istore 7, 2) := by decide +kernel
theorem dX3_firstOf_34 : decode cX3_firstOf 34 = .ok (.iload 7, 2) := by decide +kernel
theorem dX3_firstOf_36 : decode cX3_firstOf 36 = .ok (.bipush 12, 2) := by decide +kernel
theorem dX3_firstOf_38 : decode cX3_firstOf 38 = .ok (.if_icmp .gt 80, 3) := by decide +kernel
theorem dX3_firstOf_41 : decode cX3_firstOf 41 = .ok (.iload 6, 2) := by decide +kernel
theorem dX3_firstOf_43 : decode cX3_firstOf 43 = .ok (.ifCond .eq 75, 3) := by decide +kernel
theorem dX3_firstOf_46 : decode cX3_firstOf 46 = .ok (.iload_n 3, 1) := by decide +kernel
theorem dX3_firstOf_47 : decode cX3_firstOf 47 = .ok (.iload 7, 2) := by decide +kernel
theorem dX3_firstOf_49 : decode cX3_firstOf 49 = .ok (.invokestatic 97, 3) := by decide +kernel
theorem dX3_firstOf_52 : decode cX3_firstOf 52 = .ok (.ifCond .eq 53, 3) := by decide +kernel
theorem dX3_firstOf_55 : decode cX3_firstOf 55 = .ok (.iload 7, 2) := by decide +kernel
theorem dX3_firstOf_57 : decode cX3_firstOf 57 = .ok (.iload 5, 2) := by decide +kernel
theorem dX3_firstOf_59 : decode cX3_firstOf 59 = .ok (.if_icmp .eq 46, 3) := by decide +kernel
theorem dX3_firstOf_62 : decode cX3_firstOf 62 = .ok (.iload 4, 2) := by decide +kernel
theorem dX3_firstOf_64 : decode cX3_firstOf 64 = .ok (.ifCond .ne 28, 3) := by decide +kernel
theorem dX3_firstOf_67 : decode cX3_firstOf 67 = .ok (.aload_n 0, 1) := by decide +kernel
theorem dX3_firstOf_68 : decode cX3_firstOf 68 = .ok (.iload_n 1, 1) := by decide +kernel
theorem dX3_firstOf_69 : decode cX3_firstOf 69 = .ok (.aload_n 0, 1) := by decide +kernel
theorem dX3_firstOf_70 : decode cX3_firstOf 70 = .ok (.iload_n 1, 1) := by decide +kernel
theorem dX3_firstOf_71 : decode cX3_firstOf 71 = .ok (.iload 5, 2) := by decide +kernel
theorem dX3_firstOf_73 : decode cX3_firstOf 73 = .ok (.invokevirtual 145, 3) := by decide +kernel
theorem dX3_firstOf_76 : decode cX3_firstOf 76 = .ok (.aload_n 0, 1) := by decide +kernel
theorem dX3_firstOf_77 : decode cX3_firstOf 77 = .ok (.iload_n 1, 1) := by decide +kernel
theorem dX3_firstOf_78 : decode cX3_firstOf 78 = .ok (.iload 7, 2) := by decide +kernel
theorem dX3_firstOf_80 : decode cX3_firstOf 80 = .ok (.invokevirtual 145, 3) := by decide +kernel
theorem dX3_firstOf_83 : decode cX3_firstOf 83 = .ok (.invokevirtual 111, 3) := by decide +kernel
theorem dX3_firstOf_86 : decode cX3_firstOf 86 = .ok (.ifCond .eq 23, 3) := by decide +kernel
theorem dX3_firstOf_89 : decode cX3_firstOf 89 = .ok (.goto 16, 3) := by decide +kernel
theorem dX3_firstOf_92 : decode cX3_firstOf 92 = .ok (.aload_n 0, 1) := by decide +kernel
theorem dX3_firstOf_93 : decode cX3_firstOf 93 = .ok (.iload_n 1, 1) := by decide +kernel
theorem dX3_firstOf_94 : decode cX3_firstOf 94 = .ok (.iload_n 2, 1) := by decide +kernel
theorem dX3_firstOf_95 : decode cX3_firstOf 95 = .ok (.iload 5, 2) := by decide +kernel
theorem dX3_firstOf_97 : decode cX3_firstOf 97 = .ok (.iload 7, 2) := by decide +kernel
theorem dX3_firstOf_99 : decode cX3_firstOf 99 = .ok (.invokevirtual 148, 3) := by decide +kernel
theorem dX3_firstOf_102 : decode cX3_firstOf 102 = .ok (.ifCond .eq 7, 3) := by decide +kernel
theorem dX3_firstOf_105 : decode cX3_firstOf 105 = .ok (.iconst 1, 1) := by decide +kernel
theorem dX3_firstOf_106 : decode cX3_firstOf 106 = .ok (.goto 4, 3) := by decide +kernel
theorem dX3_firstOf_109 : decode cX3_firstOf 109 = .ok (.iconst 0, 1) := by decide +kernel
theorem dX3_firstOf_110 : decode cX3_firstOf 110 = .ok (.istore 6, 2) := by decide +kernel
theorem dX3_firstOf_112 : decode cX3_firstOf 112 = .ok (.iinc 7 1, 3) := by decide +kernel
theorem dX3_firstOf_115 : decode cX3_firstOf 115 = .ok (.goto (-81), 3) := by decide +kernel
theorem dX3_firstOf_118 : decode cX3_firstOf 118 = .ok (.iload 6, 2) := by decide +kernel
theorem dX3_firstOf_120 : decode cX3_firstOf 120 = .ok (.ifCond .eq 6, 3) := by decide +kernel
theorem dX3_firstOf_123 : decode cX3_firstOf 123 = .ok (.iload 5, 2) := by decide +kernel
theorem dX3_firstOf_125 : decode cX3_firstOf 125 = .ok (.ireturn, 1) := by decide +kernel
theorem dX3_firstOf_126 : decode cX3_firstOf 126 = .ok (.iinc 5 1, 3) := by decide +kernel
theorem dX3_firstOf_129 : decode cX3_firstOf 129 = .ok (.goto (-120), 3) := by decide +kernel
theorem dX3_firstOf_132 : decode cX3_firstOf 132 = .ok (.bipush (-2), 2) := by decide +kernel
theorem dX3_firstOf_134 : decode cX3_firstOf 134 = .ok (.ireturn, 1) := by decide +kernel
theorem dX3_answerOf_0 : decode cX3_answerOf 0 = .ok (.aload_n 0, 1) := by decide +kernel
theorem dX3_answerOf_1 : decode cX3_answerOf 1 = .ok (.iload_n 1, 1) := by decide +kernel
theorem dX3_answerOf_2 : decode cX3_answerOf 2 = .ok (.iload_n 2, 1) := by decide +kernel
theorem dX3_answerOf_3 : decode cX3_answerOf 3 = .ok (.aload_n 0, 1) := by decide +kernel
theorem dX3_answerOf_4 : decode cX3_answerOf 4 = .ok (.iload_n 1, 1) := by decide +kernel
theorem dX3_answerOf_5 : decode cX3_answerOf 5 = .ok (.iload_n 2, 1) := by decide +kernel
theorem dX3_answerOf_6 : decode cX3_answerOf 6 = .ok (.invokevirtual 152, 3) := by decide +kernel
theorem dX3_answerOf_9 : decode cX3_answerOf 9 = .ok (.iload_n 3, 1) := by decide +kernel
theorem dX3_answerOf_10 : decode cX3_answerOf 10 = .ok (.invokevirtual 155, 3) := by decide +kernel
theorem dX3_answerOf_13 : decode cX3_answerOf 13 = .ok (.ireturn, 1) := by decide +kernel
theorem dX3_answer_0 : decode cX3_answer 0 = .ok (.aload_n 0, 1) := by decide +kernel
theorem dX3_answer_1 : decode cX3_answer 1 = .ok (.iconst 0, 1) := by decide +kernel
theorem dX3_answer_2 : decode cX3_answer 2 = .ok (.putfield 65, 3) := by decide +kernel
theorem dX3_answer_5 : decode cX3_answer 5 = .ok (.aload_n 0, 1) := by decide +kernel
theorem dX3_answer_6 : decode cX3_answer 6 = .ok (.iload_n 1, 1) := by decide +kernel
theorem dX3_answer_7 : decode cX3_answer 7 = .ok (.iload_n 2, 1) := by decide +kernel
theorem dX3_answer_8 : decode cX3_answer 8 = .ok (.invokevirtual 114, 3) := by decide +kernel
theorem dX3_answer_11 : decode cX3_answer 11 = .ok (.ifCond .eq 16, 3) := by decide +kernel
theorem dX3_answer_14 : decode cX3_answer 14 = .ok (.aload_n 0, 1) := by decide +kernel
theorem dX3_answer_15 : decode cX3_answer 15 = .ok (.iload_n 1, 1) := by decide +kernel
theorem dX3_answer_16 : decode cX3_answer 16 = .ok (.iload_n 2, 1) := by decide +kernel
theorem dX3_answer_17 : decode cX3_answer 17 = .ok (.aload_n 0, 1) := by decide +kernel
theorem dX3_answer_18 : decode cX3_answer 18 = .ok (.getfield 133, 3) := by decide +kernel
theorem dX3_answer_21 : decode cX3_answer 21 = .ok (.invokevirtual 159, 3) := by decide +kernel
theorem dX3_answer_24 : decode cX3_answer 24 = .ok (.goto 5, 3) := by decide +kernel
theorem dX3_answer_27 : decode cX3_answer 27 = .ok (.bipush (-3), 2) := by decide +kernel
theorem dX3_answer_29 : decode cX3_answer 29 = .ok (.ireturn, 1) := by decide +kernel
theorem dX3_call_0 : decode cX3_call 0 = .ok (.aload_n 0, 1) := by decide +kernel
theorem dX3_call_1 : decode cX3_call 1 = .ok (.iconst 0, 1) := by decide +kernel
theorem dX3_call_2 : decode cX3_call 2 = .ok (.putfield 65, 3) := by decide +kernel
theorem dX3_call_5 : decode cX3_call 5 = .ok (.aload_n 0, 1) := by decide +kernel
theorem dX3_call_6 : decode cX3_call 6 = .ok (.iload_n 1, 1) := by decide +kernel
theorem dX3_call_7 : decode cX3_call 7 = .ok (.iload_n 2, 1) := by decide +kernel
theorem dX3_call_8 : decode cX3_call 8 = .ok (.invokevirtual 114, 3) := by decide +kernel
theorem dX3_call_11 : decode cX3_call 11 = .ok (.ifCond .ne 6, 3) := by decide +kernel
theorem dX3_call_14 : decode cX3_call 14 = .ok (.bipush (-3), 2) := by decide +kernel
theorem dX3_call_16 : decode cX3_call 16 = .ok (.ireturn, 1) := by decide +kernel
theorem dX3_call_17 : decode cX3_call 17 = .ok (.bipush 6, 2) := by decide +kernel
theorem dX3_call_19 : decode cX3_call 19 = .ok (.iload_n 1, 1) := by decide +kernel
theorem dX3_call_20 : decode cX3_call 20 = .ok (.imul, 1) := by decide +kernel
theorem dX3_call_21 : decode cX3_call 21 = .ok (.istore_n 3, 1) := by decide +kernel
theorem dX3_call_22 : decode cX3_call 22 = .ok (.iconst 0, 1) := by decide +kernel
theorem dX3_call_23 : decode cX3_call 23 = .ok (.istore 4, 2) := by decide +kernel
theorem dX3_call_25 : decode cX3_call 25 = .ok (.iload 4, 2) := by decide +kernel
theorem dX3_call_27 : decode cX3_call 27 = .ok (.aload_n 0, 1) := by decide +kernel
theorem dX3_call_28 : decode cX3_call 28 = .ok (.getfield 37, 3) := by decide +kernel
theorem dX3_call_31 : decode cX3_call 31 = .ok (.iload_n 1, 1) := by decide +kernel
theorem dX3_call_32 : decode cX3_call 32 = .ok (.iaload, 1) := by decide +kernel
theorem dX3_call_33 : decode cX3_call 33 = .ok (.if_icmp .ge 22, 3) := by decide +kernel
theorem dX3_call_36 : decode cX3_call 36 = .ok (.aload_n 0, 1) := by decide +kernel
theorem dX3_call_37 : decode cX3_call 37 = .ok (.getfield 34, 3) := by decide +kernel
theorem dX3_call_40 : decode cX3_call 40 = .ok (.iload_n 3, 1) := by decide +kernel
theorem dX3_call_41 : decode cX3_call 41 = .ok (.iload 4, 2) := by decide +kernel
theorem dX3_call_43 : decode cX3_call 43 = .ok (.iadd, 1) := by decide +kernel
theorem dX3_call_44 : decode cX3_call 44 = .ok (.iaload, 1) := by decide +kernel
theorem dX3_call_45 : decode cX3_call 45 = .ok (.iload_n 2, 1) := by decide +kernel
theorem dX3_call_46 : decode cX3_call 46 = .ok (.if_icmp .eq 9, 3) := by decide +kernel
theorem dX3_call_49 : decode cX3_call 49 = .ok (.iinc 4 1, 3) := by decide +kernel
theorem dX3_call_52 : decode cX3_call 52 = .ok (.goto (-27), 3) := by decide +kernel
theorem dX3_call_55 : decode cX3_call 55 = .ok (.iload 4, 2) := by decide +kernel
theorem dX3_call_57 : decode cX3_call 57 = .ok (.aload_n 0, 1) := by decide +kernel
theorem dX3_call_58 : decode cX3_call 58 = .ok (.getfield 37, 3) := by decide +kernel
theorem dX3_call_61 : decode cX3_call 61 = .ok (.iload_n 1, 1) := by decide +kernel
theorem dX3_call_62 : decode cX3_call 62 = .ok (.iaload, 1) := by decide +kernel
theorem dX3_call_63 : decode cX3_call 63 = .ok (.if_icmp .ge 16, 3) := by decide +kernel
theorem dX3_call_66 : decode cX3_call 66 = .ok (.aload_n 0, 1) := by decide +kernel
theorem dX3_call_67 : decode cX3_call 67 = .ok (.dup, 1) := by decide +kernel
theorem dX3_call_68 : decode cX3_call 68 = .ok (.getfield 136, 3) := by decide +kernel
theorem dX3_call_71 : decode cX3_call 71 = .ok (.iconst 1, 1) := by decide +kernel
theorem dX3_call_72 : decode cX3_call 72 = .ok (.iadd, 1) := by decide +kernel
theorem dX3_call_73 : decode cX3_call 73 = .ok (.putfield 136, 3) := by decide +kernel
theorem dX3_call_76 : decode cX3_call 76 = .ok (.goto 66, 3) := by decide +kernel
theorem dX3_call_79 : decode cX3_call 79 = .ok (.aload_n 0, 1) := by decide +kernel
theorem dX3_call_80 : decode cX3_call 80 = .ok (.dup, 1) := by decide +kernel
theorem dX3_call_81 : decode cX3_call 81 = .ok (.getfield 139, 3) := by decide +kernel
theorem dX3_call_84 : decode cX3_call 84 = .ok (.iconst 1, 1) := by decide +kernel
theorem dX3_call_85 : decode cX3_call 85 = .ok (.iadd, 1) := by decide +kernel
theorem dX3_call_86 : decode cX3_call 86 = .ok (.putfield 139, 3) := by decide +kernel
theorem dX3_call_89 : decode cX3_call 89 = .ok (.aload_n 0, 1) := by decide +kernel
theorem dX3_call_90 : decode cX3_call 90 = .ok (.getfield 37, 3) := by decide +kernel
theorem dX3_call_93 : decode cX3_call 93 = .ok (.iload_n 1, 1) := by decide +kernel
theorem dX3_call_94 : decode cX3_call 94 = .ok (.iaload, 1) := by decide +kernel
theorem dX3_call_95 : decode cX3_call 95 = .ok (.bipush 6, 2) := by decide +kernel
theorem dX3_call_97 : decode cX3_call 97 = .ok (.if_icmp .ne 7, 3) := by decide +kernel
theorem dX3_call_100 : decode cX3_call 100 = .ok (.iconst 0, 1) := by decide +kernel
theorem dX3_call_101 : decode cX3_call 101 = .ok (.goto 9, 3) := by decide +kernel
theorem dX3_call_104 : decode cX3_call 104 = .ok (.aload_n 0, 1) := by decide +kernel
theorem dX3_call_105 : decode cX3_call 105 = .ok (.getfield 37, 3) := by decide +kernel
theorem dX3_call_108 : decode cX3_call 108 = .ok (.iload_n 1, 1) := by decide +kernel
theorem dX3_call_109 : decode cX3_call 109 = .ok (.iaload, 1) := by decide +kernel
theorem dX3_call_110 : decode cX3_call 110 = .ok (.istore 4, 2) := by decide +kernel
theorem dX3_call_112 : decode cX3_call 112 = .ok (.aload_n 0, 1) := by decide +kernel
theorem dX3_call_113 : decode cX3_call 113 = .ok (.getfield 37, 3) := by decide +kernel
theorem dX3_call_116 : decode cX3_call 116 = .ok (.iload_n 1, 1) := by decide +kernel
theorem dX3_call_117 : decode cX3_call 117 = .ok (.aload_n 0, 1) := by decide +kernel
theorem dX3_call_118 : decode cX3_call 118 = .ok (.getfield 37, 3) := by decide +kernel
theorem dX3_call_121 : decode cX3_call 121 = .ok (.iload_n 1, 1) := by decide +kernel
theorem dX3_call_122 : decode cX3_call 122 = .ok (.iaload, 1) := by decide +kernel
theorem dX3_call_123 : decode cX3_call 123 = .ok (.bipush 6, 2) := by decide +kernel
theorem dX3_call_125 : decode cX3_call 125 = .ok (.if_icmp .ne 8, 3) := by decide +kernel
theorem dX3_call_128 : decode cX3_call 128 = .ok (.bipush 6, 2) := by decide +kernel
theorem dX3_call_130 : decode cX3_call 130 = .ok (.goto 11, 3) := by decide +kernel
theorem dX3_call_133 : decode cX3_call 133 = .ok (.aload_n 0, 1) := by decide +kernel
theorem dX3_call_134 : decode cX3_call 134 = .ok (.getfield 37, 3) := by decide +kernel
theorem dX3_call_137 : decode cX3_call 137 = .ok (.iload_n 1, 1) := by decide +kernel
theorem dX3_call_138 : decode cX3_call 138 = .ok (.iaload, 1) := by decide +kernel
theorem dX3_call_139 : decode cX3_call 139 = .ok (.iconst 1, 1) := by decide +kernel
theorem dX3_call_140 : decode cX3_call 140 = .ok (.iadd, 1) := by decide +kernel
theorem dX3_call_141 : decode cX3_call 141 = .ok (.iastore, 1) := by decide +kernel
theorem dX3_call_142 : decode cX3_call 142 = .ok (.iload 4, 2) := by decide +kernel
theorem dX3_call_144 : decode cX3_call 144 = .ok (.iconst 1, 1) := by decide +kernel
theorem dX3_call_145 : decode cX3_call 145 = .ok (.iadd, 1) := by decide +kernel
theorem dX3_call_146 : decode cX3_call 146 = .ok (.aload_n 0, 1) := by decide +kernel
theorem dX3_call_147 : decode cX3_call 147 = .ok (.getfield 37, 3) := by decide +kernel
theorem dX3_call_150 : decode cX3_call 150 = .ok (.iload_n 1, 1) := by decide +kernel
theorem dX3_call_151 : decode cX3_call 151 = .ok (.iaload, 1) := by decide +kernel
theorem dX3_call_152 : decode cX3_call 152 = .ok (.if_icmp .ge 29, 3) := by decide +kernel
theorem dX3_call_155 : decode cX3_call 155 = .ok (.aload_n 0, 1) := by decide +kernel
theorem dX3_call_156 : decode cX3_call 156 = .ok (.getfield 34, 3) := by decide +kernel
theorem dX3_call_159 : decode cX3_call 159 = .ok (.iload_n 3, 1) := by decide +kernel
theorem dX3_call_160 : decode cX3_call 160 = .ok (.iload 4, 2) := by decide +kernel
theorem dX3_call_162 : decode cX3_call 162 = .ok (.iadd, 1) := by decide +kernel
theorem dX3_call_163 : decode cX3_call 163 = .ok (.aload_n 0, 1) := by decide +kernel
theorem dX3_call_164 : decode cX3_call 164 = .ok (.getfield 34, 3) := by decide +kernel
theorem dX3_call_167 : decode cX3_call 167 = .ok (.iload_n 3, 1) := by decide +kernel
theorem dX3_call_168 : decode cX3_call 168 = .ok (.iload 4, 2) := by decide +kernel
theorem dX3_call_170 : decode cX3_call 170 = .ok (.iadd, 1) := by decide +kernel
theorem dX3_call_171 : decode cX3_call 171 = .ok (.iconst 1, 1) := by decide +kernel
theorem dX3_call_172 : decode cX3_call 172 = .ok (.iadd, 1) := by decide +kernel
theorem dX3_call_173 : decode cX3_call 173 = .ok (.iaload, 1) := by decide +kernel
theorem dX3_call_174 : decode cX3_call 174 = .ok (.iastore, 1) := by decide +kernel
theorem dX3_call_175 : decode cX3_call 175 = .ok (.iinc 4 1, 3) := by decide +kernel
theorem dX3_call_178 : decode cX3_call 178 = .ok (.goto (-36), 3) := by decide +kernel
theorem dX3_call_181 : decode cX3_call 181 = .ok (.aload_n 0, 1) := by decide +kernel
theorem dX3_call_182 : decode cX3_call 182 = .ok (.getfield 34, 3) := by decide +kernel
theorem dX3_call_185 : decode cX3_call 185 = .ok (.iload_n 3, 1) := by decide +kernel
theorem dX3_call_186 : decode cX3_call 186 = .ok (.iload 4, 2) := by decide +kernel
theorem dX3_call_188 : decode cX3_call 188 = .ok (.iadd, 1) := by decide +kernel
theorem dX3_call_189 : decode cX3_call 189 = .ok (.iload_n 2, 1) := by decide +kernel
theorem dX3_call_190 : decode cX3_call 190 = .ok (.iastore, 1) := by decide +kernel
theorem dX3_call_191 : decode cX3_call 191 = .ok (.aload_n 0, 1) := by decide +kernel
theorem dX3_call_192 : decode cX3_call 192 = .ok (.iload_n 1, 1) := by decide +kernel
theorem dX3_call_193 : decode cX3_call 193 = .ok (.iload_n 2, 1) := by decide +kernel
theorem dX3_call_194 : decode cX3_call 194 = .ok (.aload_n 0, 1) := by decide +kernel
theorem dX3_call_195 : decode cX3_call 195 = .ok (.getfield 133, 3) := by decide +kernel
theorem dX3_call_198 : decode cX3_call 198 = .ok (.invokevirtual 159, 3) := by decide +kernel
theorem dX3_call_201 : decode cX3_call 201 = .ok (.ireturn, 1) := by decide +kernel
theorem dX3_applicable_0 : decode cX3_applicable 0 = .ok (.aload_n 0, 1) := by decide +kernel
theorem dX3_applicable_1 : decode cX3_applicable 1 = .ok (.iconst 0, 1) := by decide +kernel
theorem dX3_applicable_2 : decode cX3_applicable 2 = .ok (.putfield 65, 3) := by decide +kernel
theorem dX3_applicable_5 : decode cX3_applicable 5 = .ok (.aload_n 0, 1) := by decide +kernel
theorem dX3_applicable_6 : decode cX3_applicable 6 = .ok (.iload_n 1, 1) := by decide +kernel
theorem dX3_applicable_7 : decode cX3_applicable 7 = .ok (.iload_n 2, 1) := by decide +kernel
theorem dX3_applicable_8 : decode cX3_applicable 8 = .ok (.invokevirtual 114, 3) := by decide +kernel
theorem dX3_applicable_11 : decode cX3_applicable 11 = .ok (.ifCond .eq 12, 3) := by decide +kernel
theorem dX3_applicable_14 : decode cX3_applicable 14 = .ok (.aload_n 0, 1) := by decide +kernel
theorem dX3_applicable_15 : decode cX3_applicable 15 = .ok (.iload_n 1, 1) := by decide +kernel
theorem dX3_applicable_16 : decode cX3_applicable 16 = .ok (.iload_n 2, 1) := by decide +kernel
theorem dX3_applicable_17 : decode cX3_applicable 17 = .ok (.invokevirtual 152, 3) := by decide +kernel
theorem dX3_applicable_20 : decode cX3_applicable 20 = .ok (.goto 4, 3) := by decide +kernel
theorem dX3_applicable_23 : decode cX3_applicable 23 = .ok (.iconst (-1), 1) := by decide +kernel
theorem dX3_applicable_24 : decode cX3_applicable 24 = .ok (.ireturn, 1) := by decide +kernel
theorem dX3_laysChain_0 : decode cX3_laysChain 0 = .ok (.aload_n 0, 1) := by decide +kernel
theorem dX3_laysChain_1 : decode cX3_laysChain 1 = .ok (.aload_n 0, 1) := by decide +kernel
theorem dX3_laysChain_2 : decode cX3_laysChain 2 = .ok (.iload_n 1, 1) := by decide +kernel
theorem dX3_laysChain_3 : decode cX3_laysChain 3 = .ok (.iload_n 2, 1) := by decide +kernel
theorem dX3_laysChain_4 : decode cX3_laysChain 4 = .ok (.invokevirtual 152, 3) := by decide +kernel
theorem dX3_laysChain_7 : decode cX3_laysChain 7 = .ok (.putfield 163, 3) := by decide +kernel
theorem dX3_laysChain_10 : decode cX3_laysChain 10 = .ok (.aload_n 0, 1) := by decide +kernel
theorem dX3_laysChain_11 : decode cX3_laysChain 11 = .ok (.iconst 0, 1) := by decide +kernel
theorem dX3_laysChain_12 : decode cX3_laysChain 12 = .ok (.putfield 166, 3) := by decide +kernel
theorem dX3_laysChain_15 : decode cX3_laysChain 15 = .ok (.aload_n 0, 1) := by decide +kernel
theorem dX3_laysChain_16 : decode cX3_laysChain 16 = .ok (.iload_n 1, 1) := by decide +kernel
theorem dX3_laysChain_17 : decode cX3_laysChain 17 = .ok (.iload_n 2, 1) := by decide +kernel
theorem dX3_laysChain_18 : decode cX3_laysChain 18 = .ok (.aload_n 0, 1) := by decide +kernel
theorem dX3_laysChain_19 : decode cX3_laysChain 19 = .ok (.getfield 163, 3) := by decide +kernel
theorem dX3_laysChain_22 : decode cX3_laysChain 22 = .ok (.aload_n 0, 1) := by decide +kernel
theorem dX3_laysChain_23 : decode cX3_laysChain 23 = .ok (.getfield 133, 3) := by decide +kernel
theorem dX3_laysChain_26 : decode cX3_laysChain 26 = .ok (.invokevirtual 155, 3) := by decide +kernel
theorem dX3_laysChain_29 : decode cX3_laysChain 29 = .ok (.istore_n 3, 1) := by decide +kernel
theorem dX3_laysChain_30 : decode cX3_laysChain 30 = .ok (.iload_n 3, 1) := by decide +kernel
theorem dX3_laysChain_31 : decode cX3_laysChain 31 = .ok (.ifCond .lt 55, 3) := by decide +kernel
theorem dX3_laysChain_34 : decode cX3_laysChain 34 = .ok (.aload_n 0, 1) := by decide +kernel
theorem dX3_laysChain_35 : decode cX3_laysChain 35 = .ok (.getfield 53, 3) := by decide +kernel
theorem dX3_laysChain_38 : decode cX3_laysChain 38 = .ok (.aload_n 0, 1) := by decide +kernel
theorem dX3_laysChain_39 : decode cX3_laysChain 39 = .ok (.getfield 166, 3) := by decide +kernel
theorem dX3_laysChain_42 : decode cX3_laysChain 42 = .ok (.iload_n 3, 1) := by decide +kernel
theorem dX3_laysChain_43 : decode cX3_laysChain 43 = .ok (.iastore, 1) := by decide +kernel
theorem dX3_laysChain_44 : decode cX3_laysChain 44 = .ok (.aload_n 0, 1) := by decide +kernel
theorem dX3_laysChain_45 : decode cX3_laysChain 45 = .ok (.dup, 1) := by decide +kernel
theorem dX3_laysChain_46 : decode cX3_laysChain 46 = .ok (.getfield 166, 3) := by decide +kernel
theorem dX3_laysChain_49 : decode cX3_laysChain 49 = .ok (.iconst 1, 1) := by decide +kernel
theorem dX3_laysChain_50 : decode cX3_laysChain 50 = .ok (.iadd, 1) := by decide +kernel
theorem dX3_laysChain_51 : decode cX3_laysChain 51 = .ok (.putfield 166, 3) := by decide +kernel
theorem dX3_laysChain_54 : decode cX3_laysChain 54 = .ok (.aload_n 0, 1) := by decide +kernel
theorem dX3_laysChain_55 : decode cX3_laysChain 55 = .ok (.dup, 1) := by decide +kernel
theorem dX3_laysChain_56 : decode cX3_laysChain 56 = .ok (.getfield 163, 3) := by decide +kernel
theorem dX3_laysChain_59 : decode cX3_laysChain 59 = .ok (.iconst 1, 1) := by decide +kernel
theorem dX3_laysChain_60 : decode cX3_laysChain 60 = .ok (.iload_n 3, 1) := by decide +kernel
theorem dX3_laysChain_61 : decode cX3_laysChain 61 = .ok (.ishl, 1) := by decide +kernel
theorem dX3_laysChain_62 : decode cX3_laysChain 62 = .ok (.iconst (-1), 1) := by decide +kernel
theorem dX3_laysChain_63 : decode cX3_laysChain 63 = .ok (.ixor, 1) := by decide +kernel
theorem dX3_laysChain_64 : decode cX3_laysChain 64 = .ok (.iand, 1) := by decide +kernel
theorem dX3_laysChain_65 : decode cX3_laysChain 65 = .ok (.putfield 163, 3) := by decide +kernel
theorem dX3_laysChain_68 : decode cX3_laysChain 68 = .ok (.aload_n 0, 1) := by decide +kernel
theorem dX3_laysChain_69 : decode cX3_laysChain 69 = .ok (.iload_n 1, 1) := by decide +kernel
theorem dX3_laysChain_70 : decode cX3_laysChain 70 = .ok (.iload_n 2, 1) := by decide +kernel
theorem dX3_laysChain_71 : decode cX3_laysChain 71 = .ok (.aload_n 0, 1) := by decide +kernel
theorem dX3_laysChain_72 : decode cX3_laysChain 72 = .ok (.getfield 163, 3) := by decide +kernel
theorem dX3_laysChain_75 : decode cX3_laysChain 75 = .ok (.aload_n 0, 1) := by decide +kernel
theorem dX3_laysChain_76 : decode cX3_laysChain 76 = .ok (.getfield 133, 3) := by decide +kernel
theorem dX3_laysChain_79 : decode cX3_laysChain 79 = .ok (.invokevirtual 155, 3) := by decide +kernel
theorem dX3_laysChain_82 : decode cX3_laysChain 82 = .ok (.istore_n 3, 1) := by decide +kernel
theorem dX3_laysChain_83 : decode cX3_laysChain 83 = .ok (.goto (-53), 3) := by decide +kernel
theorem dX3_laysChain_86 : decode cX3_laysChain 86 = .ok (.return_, 1) := by decide +kernel
theorem dX3_chain_0 : decode cX3_chain 0 = .ok (.aload_n 0, 1) := by decide +kernel
theorem dX3_chain_1 : decode cX3_chain 1 = .ok (.iconst 0, 1) := by decide +kernel
theorem dX3_chain_2 : decode cX3_chain 2 = .ok (.putfield 65, 3) := by decide +kernel
theorem dX3_chain_5 : decode cX3_chain 5 = .ok (.aload_n 0, 1) := by decide +kernel
theorem dX3_chain_6 : decode cX3_chain 6 = .ok (.iload_n 1, 1) := by decide +kernel
theorem dX3_chain_7 : decode cX3_chain 7 = .ok (.iload_n 2, 1) := by decide +kernel
theorem dX3_chain_8 : decode cX3_chain 8 = .ok (.invokevirtual 114, 3) := by decide +kernel
theorem dX3_chain_11 : decode cX3_chain 11 = .ok (.ifCond .ne 5, 3) := by decide +kernel
theorem dX3_chain_14 : decode cX3_chain 14 = .ok (.iconst (-1), 1) := by decide +kernel
theorem dX3_chain_15 : decode cX3_chain 15 = .ok (.ireturn, 1) := by decide +kernel
theorem dX3_chain_16 : decode cX3_chain 16 = .ok (.aload_n 0, 1) := by decide +kernel
theorem dX3_chain_17 : decode cX3_chain 17 = .ok (.iload_n 1, 1) := by decide +kernel
theorem dX3_chain_18 : decode cX3_chain 18 = .ok (.iload_n 2, 1) := by decide +kernel
theorem dX3_chain_19 : decode cX3_chain 19 = .ok (.invokevirtual 169, 3) := by decide +kernel
theorem dX3_chain_22 : decode cX3_chain 22 = .ok (.iload_n 3, 1) := by decide +kernel
theorem dX3_chain_23 : decode cX3_chain 23 = .ok (.iconst (-1), 1) := by decide +kernel
theorem dX3_chain_24 : decode cX3_chain 24 = .ok (.if_icmp .ne 10, 3) := by decide +kernel
theorem dX3_chain_27 : decode cX3_chain 27 = .ok (.aload_n 0, 1) := by decide +kernel
theorem dX3_chain_28 : decode cX3_chain 28 = .ok (.getfield 166, 3) := by decide +kernel
theorem dX3_chain_31 : decode cX3_chain 31 = .ok (.goto 27, 3) := by decide +kernel
theorem dX3_chain_34 : decode cX3_chain 34 = .ok (.iload_n 3, 1) := by decide +kernel
theorem dX3_chain_35 : decode cX3_chain 35 = .ok (.iconst 0, 1) := by decide +kernel
theorem dX3_chain_36 : decode cX3_chain 36 = .ok (.aload_n 0, 1) := by decide +kernel
theorem dX3_chain_37 : decode cX3_chain 37 = .ok (.getfield 166, 3) := by decide +kernel
theorem dX3_chain_40 : decode cX3_chain 40 = .ok (.iconst 1, 1) := by decide +kernel
theorem dX3_chain_41 : decode cX3_chain 41 = .ok (.isub, 1) := by decide +kernel
theorem dX3_chain_42 : decode cX3_chain 42 = .ok (.invokestatic 68, 3) := by decide +kernel
theorem dX3_chain_45 : decode cX3_chain 45 = .ok (.ifCond .eq 12, 3) := by decide +kernel
theorem dX3_chain_48 : decode cX3_chain 48 = .ok (.aload_n 0, 1) := by decide +kernel
theorem dX3_chain_49 : decode cX3_chain 49 = .ok (.getfield 53, 3) := by decide +kernel
theorem dX3_chain_52 : decode cX3_chain 52 = .ok (.iload_n 3, 1) := by decide +kernel
theorem dX3_chain_53 : decode cX3_chain 53 = .ok (.iaload, 1) := by decide +kernel
theorem dX3_chain_54 : decode cX3_chain 54 = .ok (.goto 4, 3) := by decide +kernel
theorem dX3_chain_57 : decode cX3_chain 57 = .ok (.iconst (-1), 1) := by decide +kernel
theorem dX3_chain_58 : decode cX3_chain 58 = .ok (.ireturn, 1) := by decide +kernel
theorem dX3_broken_0 : decode cX3_broken 0 = .ok (.aload_n 0, 1) := by decide +kernel
theorem dX3_broken_1 : decode cX3_broken 1 = .ok (.iconst 0, 1) := by decide +kernel
theorem dX3_broken_2 : decode cX3_broken 2 = .ok (.putfield 65, 3) := by decide +kernel
theorem dX3_broken_5 : decode cX3_broken 5 = .ok (.aload_n 0, 1) := by decide +kernel
theorem dX3_broken_6 : decode cX3_broken 6 = .ok (.iload_n 1, 1) := by decide +kernel
theorem dX3_broken_7 : decode cX3_broken 7 = .ok (.iload_n 2, 1) := by decide +kernel
theorem dX3_broken_8 : decode cX3_broken 8 = .ok (.invokevirtual 114, 3) := by decide +kernel
theorem dX3_broken_11 : decode cX3_broken 11 = .ok (.ifCond .ne 5, 3) := by decide +kernel
theorem dX3_broken_14 : decode cX3_broken 14 = .ok (.iconst (-1), 1) := by decide +kernel
theorem dX3_broken_15 : decode cX3_broken 15 = .ok (.ireturn, 1) := by decide +kernel
theorem dX3_broken_16 : decode cX3_broken 16 = .ok (.aload_n 0, 1) := by decide +kernel
theorem dX3_broken_17 : decode cX3_broken 17 = .ok (.iload_n 1, 1) := by decide +kernel
theorem dX3_broken_18 : decode cX3_broken 18 = .ok (.iload_n 2, 1) := by decide +kernel
theorem dX3_broken_19 : decode cX3_broken 19 = .ok (.invokevirtual 169, 3) := by decide +kernel
theorem dX3_broken_22 : decode cX3_broken 22 = .ok (.aload_n 0, 1) := by decide +kernel
theorem dX3_broken_23 : decode cX3_broken 23 = .ok (.getfield 163, 3) := by decide +kernel
theorem dX3_broken_26 : decode cX3_broken 26 = .ok (.invokestatic 130, 3) := by decide +kernel
theorem dX3_broken_29 : decode cX3_broken 29 = .ok (.ireturn, 1) := by decide +kernel
theorem dX3_work_0 : decode cX3_work 0 = .ok (.aload_n 0, 1) := by decide +kernel
theorem dX3_work_1 : decode cX3_work 1 = .ok (.iconst 0, 1) := by decide +kernel
theorem dX3_work_2 : decode cX3_work 2 = .ok (.putfield 166, 3) := by decide +kernel
theorem dX3_work_5 : decode cX3_work 5 = .ok (.aload_n 0, 1) := by decide +kernel
theorem dX3_work_6 : decode cX3_work 6 = .ok (.iload_n 1, 1) := by decide +kernel
theorem dX3_work_7 : decode cX3_work 7 = .ok (.iload_n 2, 1) := by decide +kernel
theorem dX3_work_8 : decode cX3_work 8 = .ok (.invokevirtual 114, 3) := by decide +kernel
theorem dX3_work_11 : decode cX3_work 11 = .ok (.ifCond .eq 9, 3) := by decide +kernel
theorem dX3_work_14 : decode cX3_work 14 = .ok (.aload_n 0, 1) := by decide +kernel
theorem dX3_work_15 : decode cX3_work 15 = .ok (.iload_n 1, 1) := by decide +kernel
theorem dX3_work_16 : decode cX3_work 16 = .ok (.iload_n 2, 1) := by decide +kernel
theorem dX3_work_17 : decode cX3_work 17 = .ok (.invokevirtual 169, 3) := by decide +kernel
theorem dX3_work_20 : decode cX3_work 20 = .ok (.aload_n 0, 1) := by decide +kernel
theorem dX3_work_21 : decode cX3_work 21 = .ok (.aload_n 0, 1) := by decide +kernel
theorem dX3_work_22 : decode cX3_work 22 = .ok (.getfield 166, 3) := by decide +kernel
theorem dX3_work_25 : decode cX3_work 25 = .ok (.ifCond .le 7, 3) := by decide +kernel
theorem dX3_work_28 : decode cX3_work 28 = .ok (.iconst 0, 1) := by decide +kernel
theorem dX3_work_29 : decode cX3_work 29 = .ok (.goto 4, 3) := by decide +kernel
theorem dX3_work_32 : decode cX3_work 32 = .ok (.iconst 1, 1) := by decide +kernel
theorem dX3_work_33 : decode cX3_work 33 = .ok (.putfield 65, 3) := by decide +kernel
theorem dX3_work_36 : decode cX3_work 36 = .ok (.iconst 0, 1) := by decide +kernel
theorem dX3_work_37 : decode cX3_work 37 = .ok (.istore_n 3, 1) := by decide +kernel
theorem dX3_work_38 : decode cX3_work 38 = .ok (.aload_n 0, 1) := by decide +kernel
theorem dX3_work_39 : decode cX3_work 39 = .ok (.getfield 166, 3) := by decide +kernel
theorem dX3_work_42 : decode cX3_work 42 = .ok (.iconst 1, 1) := by decide +kernel
theorem dX3_work_43 : decode cX3_work 43 = .ok (.isub, 1) := by decide +kernel
theorem dX3_work_44 : decode cX3_work 44 = .ok (.istore 4, 2) := by decide +kernel
theorem dX3_work_46 : decode cX3_work 46 = .ok (.iload 4, 2) := by decide +kernel
theorem dX3_work_48 : decode cX3_work 48 = .ok (.ifCond .lt 105, 3) := by decide +kernel
theorem dX3_work_51 : decode cX3_work 51 = .ok (.aload_n 0, 1) := by decide +kernel
theorem dX3_work_52 : decode cX3_work 52 = .ok (.getfield 31, 3) := by decide +kernel
theorem dX3_work_55 : decode cX3_work 55 = .ok (.bipush 12, 2) := by decide +kernel
theorem dX3_work_57 : decode cX3_work 57 = .ok (.iload_n 1, 1) := by decide +kernel
theorem dX3_work_58 : decode cX3_work 58 = .ok (.imul, 1) := by decide +kernel
theorem dX3_work_59 : decode cX3_work 59 = .ok (.aload_n 0, 1) := by decide +kernel
theorem dX3_work_60 : decode cX3_work 60 = .ok (.getfield 53, 3) := by decide +kernel
theorem dX3_work_63 : decode cX3_work 63 = .ok (.iload 4, 2) := by decide +kernel
theorem dX3_work_65 : decode cX3_work 65 = .ok (.iaload, 1) := by decide +kernel
theorem dX3_work_66 : decode cX3_work 66 = .ok (.iadd, 1) := by decide +kernel
theorem dX3_work_67 : decode cX3_work 67 = .ok (.iaload, 1) := by decide +kernel
theorem dX3_work_68 : decode cX3_work 68 = .ok (.istore 5, 2) := by decide +kernel
theorem dX3_work_70 : decode cX3_work 70 = .ok (.aload_n 0, 1) := by decide +kernel
theorem dX3_work_71 : decode cX3_work 71 = .ok (.getfield 28, 3) := by decide +kernel
theorem dX3_work_74 : decode cX3_work 74 = .ok (.bipush 12, 2) := by decide +kernel
theorem dX3_work_76 : decode cX3_work 76 = .ok (.iload_n 1, 1) := by decide +kernel
theorem dX3_work_77 : decode cX3_work 77 = .ok (.imul, 1) := by decide +kernel
theorem dX3_work_78 : decode cX3_work 78 = .ok (.aload_n 0, 1) := by decide +kernel
theorem dX3_work_79 : decode cX3_work 79 = .ok (.getfield 53, 3) := by decide +kernel
theorem dX3_work_82 : decode cX3_work 82 = .ok (.iload 4, 2) := by decide +kernel
theorem dX3_work_84 : decode cX3_work 84 = .ok (.iaload, 1) := by decide +kernel
theorem dX3_work_85 : decode cX3_work 85 = .ok (.iadd, 1) := by decide +kernel
theorem dX3_work_86 : decode cX3_work 86 = .ok (.iaload, 1) := by decide +kernel
theorem dX3_work_87 : decode cX3_work 87 = .ok (.tableswitch 47 0 2 #[25, 31, 39], 25) := by decide +kernel
theorem dX3_work_112 : decode cX3_work 112 = .ok (.iload 5, 2) := by decide +kernel
theorem dX3_work_114 : decode cX3_work 114 = .ok (.istore_n 3, 1) := by decide +kernel
theorem dX3_work_115 : decode cX3_work 115 = .ok (.goto 32, 3) := by decide +kernel
theorem dX3_work_118 : decode cX3_work 118 = .ok (.iload 5, 2) := by decide +kernel
theorem dX3_work_120 : decode cX3_work 120 = .ok (.iload_n 3, 1) := by decide +kernel
theorem dX3_work_121 : decode cX3_work 121 = .ok (.iadd, 1) := by decide +kernel
theorem dX3_work_122 : decode cX3_work 122 = .ok (.istore_n 3, 1) := by decide +kernel
theorem dX3_work_123 : decode cX3_work 123 = .ok (.goto 24, 3) := by decide +kernel
theorem dX3_work_126 : decode cX3_work 126 = .ok (.iload 5, 2) := by decide +kernel
theorem dX3_work_128 : decode cX3_work 128 = .ok (.iload_n 3, 1) := by decide +kernel
theorem dX3_work_129 : decode cX3_work 129 = .ok (.imul, 1) := by decide +kernel
theorem dX3_work_130 : decode cX3_work 130 = .ok (.istore_n 3, 1) := by decide +kernel
theorem dX3_work_131 : decode cX3_work 131 = .ok (.goto 16, 3) := by decide +kernel
theorem dX3_work_134 : decode cX3_work 134 = .ok (.iload 5, 2) := by decide +kernel
theorem dX3_work_136 : decode cX3_work 136 = .ok (.iload_n 3, 1) := by decide +kernel
theorem dX3_work_137 : decode cX3_work 137 = .ok (.if_icmp .le 8, 3) := by decide +kernel
theorem dX3_work_140 : decode cX3_work 140 = .ok (.iload 5, 2) := by decide +kernel
theorem dX3_work_142 : decode cX3_work 142 = .ok (.goto 4, 3) := by decide +kernel
theorem dX3_work_145 : decode cX3_work 145 = .ok (.iload_n 3, 1) := by decide +kernel
theorem dX3_work_146 : decode cX3_work 146 = .ok (.istore_n 3, 1) := by decide +kernel
theorem dX3_work_147 : decode cX3_work 147 = .ok (.iinc 4 (-1), 3) := by decide +kernel
theorem dX3_work_150 : decode cX3_work 150 = .ok (.goto (-104), 3) := by decide +kernel
theorem dX3_work_153 : decode cX3_work 153 = .ok (.iload_n 3, 1) := by decide +kernel
theorem dX3_work_154 : decode cX3_work 154 = .ok (.ireturn, 1) := by decide +kernel
theorem dX3_kept_0 : decode cX3_kept 0 = .ok (.aload_n 0, 1) := by decide +kernel
theorem dX3_kept_1 : decode cX3_kept 1 = .ok (.iconst 0, 1) := by decide +kernel
theorem dX3_kept_2 : decode cX3_kept 2 = .ok (.putfield 65, 3) := by decide +kernel
theorem dX3_kept_5 : decode cX3_kept 5 = .ok (.aload_n 0, 1) := by decide +kernel
theorem dX3_kept_6 : decode cX3_kept 6 = .ok (.iload_n 1, 1) := by decide +kernel
end
section
theorem dX3_kept_7 : decode cX3_kept 7 = .ok (.invokevirtual 104, 3) := by decide +kernel
theorem dX3_kept_10 : decode cX3_kept 10 = .ok (.ifCond .eq 33, 3) := by decide +kernel
theorem dX3_kept_13 : decode cX3_kept 13 = .ok (.iload_n 2, 1) := by decide +kernel
theorem dX3_kept_14 : decode cX3_kept 14 = .ok (.iconst 0, 1) := by decide +kernel
theorem dX3_kept_15 : decode cX3_kept 15 = .ok (.aload_n 0, 1) := by decide +kernel
theorem dX3_kept_16 : decode cX3_kept 16 = .ok (.getfield 37, 3) := by decide +kernel
theorem dX3_kept_19 : decode cX3_kept 19 = .ok (.iload_n 1, 1) := by decide +kernel
theorem dX3_kept_20 : decode cX3_kept 20 = .ok (.iaload, 1) := by decide +kernel
theorem dX3_kept_21 : decode cX3_kept 21 = .ok (.iconst 1, 1) := by decide +kernel
theorem dX3_kept_22 : decode cX3_kept 22 = .ok (.isub, 1) := by decide +kernel
theorem dX3_kept_23 : decode cX3_kept 23 = .ok (.invokestatic 68, 3) := by decide +kernel
theorem dX3_kept_26 : decode cX3_kept 26 = .ok (.ifCond .eq 17, 3) := by decide +kernel
theorem dX3_kept_29 : decode cX3_kept 29 = .ok (.aload_n 0, 1) := by decide +kernel
theorem dX3_kept_30 : decode cX3_kept 30 = .ok (.getfield 34, 3) := by decide +kernel
theorem dX3_kept_33 : decode cX3_kept 33 = .ok (.bipush 6, 2) := by decide +kernel
theorem dX3_kept_35 : decode cX3_kept 35 = .ok (.iload_n 1, 1) := by decide +kernel
theorem dX3_kept_36 : decode cX3_kept 36 = .ok (.imul, 1) := by decide +kernel
theorem dX3_kept_37 : decode cX3_kept 37 = .ok (.iload_n 2, 1) := by decide +kernel
theorem dX3_kept_38 : decode cX3_kept 38 = .ok (.iadd, 1) := by decide +kernel
theorem dX3_kept_39 : decode cX3_kept 39 = .ok (.iaload, 1) := by decide +kernel
theorem dX3_kept_40 : decode cX3_kept 40 = .ok (.goto 4, 3) := by decide +kernel
theorem dX3_kept_43 : decode cX3_kept 43 = .ok (.iconst (-1), 1) := by decide +kernel
theorem dX3_kept_44 : decode cX3_kept 44 = .ok (.ireturn, 1) := by decide +kernel
theorem dX3_callsOf_0 : decode cX3_callsOf 0 = .ok (.iconst 1, 1) := by decide +kernel
theorem dX3_callsOf_1 : decode cX3_callsOf 1 = .ok (.iconst 4, 1) := by decide +kernel
theorem dX3_callsOf_2 : decode cX3_callsOf 2 = .ok (.aload_n 0, 1) := by decide +kernel
theorem dX3_callsOf_3 : decode cX3_callsOf 3 = .ok (.getfield 22, 3) := by decide +kernel
theorem dX3_callsOf_6 : decode cX3_callsOf 6 = .ok (.iload_n 1, 1) := by decide +kernel
theorem dX3_callsOf_7 : decode cX3_callsOf 7 = .ok (.iaload, 1) := by decide +kernel
theorem dX3_callsOf_8 : decode cX3_callsOf 8 = .ok (.imul, 1) := by decide +kernel
theorem dX3_callsOf_9 : decode cX3_callsOf 9 = .ok (.ishl, 1) := by decide +kernel
theorem dX3_callsOf_10 : decode cX3_callsOf 10 = .ok (.ireturn, 1) := by decide +kernel
theorem dX3_laysAnswers_0 : decode cX3_laysAnswers 0 = .ok (.iconst 0, 1) := by decide +kernel
theorem dX3_laysAnswers_1 : decode cX3_laysAnswers 1 = .ok (.istore_n 3, 1) := by decide +kernel
theorem dX3_laysAnswers_2 : decode cX3_laysAnswers 2 = .ok (.iload_n 3, 1) := by decide +kernel
theorem dX3_laysAnswers_3 : decode cX3_laysAnswers 3 = .ok (.aload_n 0, 1) := by decide +kernel
theorem dX3_laysAnswers_4 : decode cX3_laysAnswers 4 = .ok (.iload_n 1, 1) := by decide +kernel
theorem dX3_laysAnswers_5 : decode cX3_laysAnswers 5 = .ok (.invokevirtual 172, 3) := by decide +kernel
theorem dX3_laysAnswers_8 : decode cX3_laysAnswers 8 = .ok (.if_icmp .ge 36, 3) := by decide +kernel
theorem dX3_laysAnswers_11 : decode cX3_laysAnswers 11 = .ok (.aload_n 0, 1) := by decide +kernel
theorem dX3_laysAnswers_12 : decode cX3_laysAnswers 12 = .ok (.getfield 56, 3) := by decide +kernel
theorem dX3_laysAnswers_15 : decode cX3_laysAnswers 15 = .ok (.iload_n 3, 1) := by decide +kernel
theorem dX3_laysAnswers_16 : decode cX3_laysAnswers 16 = .ok (.aload_n 0, 1) := by decide +kernel
theorem dX3_laysAnswers_17 : decode cX3_laysAnswers 17 = .ok (.iload_n 1, 1) := by decide +kernel
theorem dX3_laysAnswers_18 : decode cX3_laysAnswers 18 = .ok (.iload_n 3, 1) := by decide +kernel
theorem dX3_laysAnswers_19 : decode cX3_laysAnswers 19 = .ok (.invokevirtual 114, 3) := by decide +kernel
theorem dX3_laysAnswers_22 : decode cX3_laysAnswers 22 = .ok (.ifCond .eq 13, 3) := by decide +kernel
theorem dX3_laysAnswers_25 : decode cX3_laysAnswers 25 = .ok (.aload_n 0, 1) := by decide +kernel
theorem dX3_laysAnswers_26 : decode cX3_laysAnswers 26 = .ok (.iload_n 1, 1) := by decide +kernel
theorem dX3_laysAnswers_27 : decode cX3_laysAnswers 27 = .ok (.iload_n 3, 1) := by decide +kernel
theorem dX3_laysAnswers_28 : decode cX3_laysAnswers 28 = .ok (.iload_n 2, 1) := by decide +kernel
theorem dX3_laysAnswers_29 : decode cX3_laysAnswers 29 = .ok (.invokevirtual 159, 3) := by decide +kernel
theorem dX3_laysAnswers_32 : decode cX3_laysAnswers 32 = .ok (.goto 5, 3) := by decide +kernel
theorem dX3_laysAnswers_35 : decode cX3_laysAnswers 35 = .ok (.bipush (-3), 2) := by decide +kernel
theorem dX3_laysAnswers_37 : decode cX3_laysAnswers 37 = .ok (.iastore, 1) := by decide +kernel
theorem dX3_laysAnswers_38 : decode cX3_laysAnswers 38 = .ok (.iinc 3 1, 3) := by decide +kernel
theorem dX3_laysAnswers_41 : decode cX3_laysAnswers 41 = .ok (.goto (-39), 3) := by decide +kernel
theorem dX3_laysAnswers_44 : decode cX3_laysAnswers 44 = .ok (.return_, 1) := by decide +kernel
theorem dX3_howMany_0 : decode cX3_howMany 0 = .ok (.iconst 0, 1) := by decide +kernel
theorem dX3_howMany_1 : decode cX3_howMany 1 = .ok (.istore_n 3, 1) := by decide +kernel
theorem dX3_howMany_2 : decode cX3_howMany 2 = .ok (.iconst 0, 1) := by decide +kernel
theorem dX3_howMany_3 : decode cX3_howMany 3 = .ok (.istore 4, 2) := by decide +kernel
theorem dX3_howMany_5 : decode cX3_howMany 5 = .ok (.iload 4, 2) := by decide +kernel
theorem dX3_howMany_7 : decode cX3_howMany 7 = .ok (.aload_n 0, 1) := by decide +kernel
theorem dX3_howMany_8 : decode cX3_howMany 8 = .ok (.iload_n 1, 1) := by decide +kernel
theorem dX3_howMany_9 : decode cX3_howMany 9 = .ok (.invokevirtual 172, 3) := by decide +kernel
theorem dX3_howMany_12 : decode cX3_howMany 12 = .ok (.if_icmp .ge 28, 3) := by decide +kernel
theorem dX3_howMany_15 : decode cX3_howMany 15 = .ok (.iload_n 3, 1) := by decide +kernel
theorem dX3_howMany_16 : decode cX3_howMany 16 = .ok (.aload_n 0, 1) := by decide +kernel
theorem dX3_howMany_17 : decode cX3_howMany 17 = .ok (.getfield 56, 3) := by decide +kernel
theorem dX3_howMany_20 : decode cX3_howMany 20 = .ok (.iload 4, 2) := by decide +kernel
theorem dX3_howMany_22 : decode cX3_howMany 22 = .ok (.iaload, 1) := by decide +kernel
theorem dX3_howMany_23 : decode cX3_howMany 23 = .ok (.iload_n 2, 1) := by decide +kernel
theorem dX3_howMany_24 : decode cX3_howMany 24 = .ok (.if_icmp .ne 7, 3) := by decide +kernel
theorem dX3_howMany_27 : decode cX3_howMany 27 = .ok (.iconst 1, 1) := by decide +kernel
theorem dX3_howMany_28 : decode cX3_howMany 28 = .ok (.goto 4, 3) := by decide +kernel
theorem dX3_howMany_31 : decode cX3_howMany 31 = .ok (.iconst 0, 1) := by decide +kernel
theorem dX3_howMany_32 : decode cX3_howMany 32 = .ok (.iadd, 1) := by decide +kernel
theorem dX3_howMany_33 : decode cX3_howMany 33 = .ok (.istore_n 3, 1) := by decide +kernel
theorem dX3_howMany_34 : decode cX3_howMany 34 = .ok (.iinc 4 1, 3) := by decide +kernel
theorem dX3_howMany_37 : decode cX3_howMany 37 = .ok (.goto (-32), 3) := by decide +kernel
theorem dX3_howMany_40 : decode cX3_howMany 40 = .ok (.iload_n 3, 1) := by decide +kernel
theorem dX3_howMany_41 : decode cX3_howMany 41 = .ok (.ireturn, 1) := by decide +kernel
theorem dX3_isTop_0 : decode cX3_isTop 0 = .ok (.iconst 0, 1) := by decide +kernel
theorem dX3_isTop_1 : decode cX3_isTop 1 = .ok (.istore_n 3, 1) := by decide +kernel
theorem dX3_isTop_2 : decode cX3_isTop 2 = .ok (.iload_n 3, 1) := by decide +kernel
theorem dX3_isTop_3 : decode cX3_isTop 3 = .ok (.aload_n 0, 1) := by decide +kernel
theorem dX3_isTop_4 : decode cX3_isTop 4 = .ok (.iload_n 1, 1) := by decide +kernel
theorem dX3_isTop_5 : decode cX3_isTop 5 = .ok (.invokevirtual 172, 3) := by decide +kernel
theorem dX3_isTop_8 : decode cX3_isTop 8 = .ok (.if_icmp .ge 41, 3) := by decide +kernel
theorem dX3_isTop_11 : decode cX3_isTop 11 = .ok (.iload_n 3, 1) := by decide +kernel
theorem dX3_isTop_12 : decode cX3_isTop 12 = .ok (.iload_n 2, 1) := by decide +kernel
theorem dX3_isTop_13 : decode cX3_isTop 13 = .ok (.if_icmp .eq 30, 3) := by decide +kernel
theorem dX3_isTop_16 : decode cX3_isTop 16 = .ok (.aload_n 0, 1) := by decide +kernel
theorem dX3_isTop_17 : decode cX3_isTop 17 = .ok (.getfield 56, 3) := by decide +kernel
theorem dX3_isTop_20 : decode cX3_isTop 20 = .ok (.iload_n 3, 1) := by decide +kernel
theorem dX3_isTop_21 : decode cX3_isTop 21 = .ok (.iaload, 1) := by decide +kernel
theorem dX3_isTop_22 : decode cX3_isTop 22 = .ok (.aload_n 0, 1) := by decide +kernel
theorem dX3_isTop_23 : decode cX3_isTop 23 = .ok (.getfield 56, 3) := by decide +kernel
theorem dX3_isTop_26 : decode cX3_isTop 26 = .ok (.iload_n 2, 1) := by decide +kernel
theorem dX3_isTop_27 : decode cX3_isTop 27 = .ok (.iaload, 1) := by decide +kernel
theorem dX3_isTop_28 : decode cX3_isTop 28 = .ok (.if_icmp .ne 15, 3) := by decide +kernel
theorem dX3_isTop_31 : decode cX3_isTop 31 = .ok (.aload_n 0, 1) := by decide +kernel
theorem dX3_isTop_32 : decode cX3_isTop 32 = .ok (.iload_n 1, 1) := by decide +kernel
theorem dX3_isTop_33 : decode cX3_isTop 33 = .ok (.iload_n 2, 1) := by decide +kernel
theorem dX3_isTop_34 : decode cX3_isTop 34 = .ok (.iload_n 3, 1) := by decide +kernel
theorem dX3_isTop_35 : decode cX3_isTop 35 = .ok (.invokevirtual 111, 3) := by decide +kernel
theorem dX3_isTop_38 : decode cX3_isTop 38 = .ok (.ifCond .eq 5, 3) := by decide +kernel
theorem dX3_isTop_41 : decode cX3_isTop 41 = .ok (.iconst 0, 1) := by decide +kernel
theorem dX3_isTop_42 : decode cX3_isTop 42 = .ok (.ireturn, 1) := by decide +kernel
theorem dX3_isTop_43 : decode cX3_isTop 43 = .ok (.iinc 3 1, 3) := by decide +kernel
theorem dX3_isTop_46 : decode cX3_isTop 46 = .ok (.goto (-44), 3) := by decide +kernel
theorem dX3_isTop_49 : decode cX3_isTop 49 = .ok (.iconst 1, 1) := by decide +kernel
theorem dX3_isTop_50 : decode cX3_isTop 50 = .ok (.ireturn, 1) := by decide +kernel
theorem dX3_topOf_0 : decode cX3_topOf 0 = .ok (.iconst 0, 1) := by decide +kernel
theorem dX3_topOf_1 : decode cX3_topOf 1 = .ok (.istore 4, 2) := by decide +kernel
theorem dX3_topOf_3 : decode cX3_topOf 3 = .ok (.iconst 0, 1) := by decide +kernel
theorem dX3_topOf_4 : decode cX3_topOf 4 = .ok (.istore 5, 2) := by decide +kernel
theorem dX3_topOf_6 : decode cX3_topOf 6 = .ok (.iload 5, 2) := by decide +kernel
theorem dX3_topOf_8 : decode cX3_topOf 8 = .ok (.aload_n 0, 1) := by decide +kernel
theorem dX3_topOf_9 : decode cX3_topOf 9 = .ok (.iload_n 1, 1) := by decide +kernel
theorem dX3_topOf_10 : decode cX3_topOf 10 = .ok (.invokevirtual 172, 3) := by decide +kernel
theorem dX3_topOf_13 : decode cX3_topOf 13 = .ok (.if_icmp .ge 42, 3) := by decide +kernel
theorem dX3_topOf_16 : decode cX3_topOf 16 = .ok (.aload_n 0, 1) := by decide +kernel
theorem dX3_topOf_17 : decode cX3_topOf 17 = .ok (.getfield 56, 3) := by decide +kernel
theorem dX3_topOf_20 : decode cX3_topOf 20 = .ok (.iload 5, 2) := by decide +kernel
theorem dX3_topOf_22 : decode cX3_topOf 22 = .ok (.iaload, 1) := by decide +kernel
theorem dX3_topOf_23 : decode cX3_topOf 23 = .ok (.iload_n 2, 1) := by decide +kernel
theorem dX3_topOf_24 : decode cX3_topOf 24 = .ok (.if_icmp .ne 25, 3) := by decide +kernel
theorem dX3_topOf_27 : decode cX3_topOf 27 = .ok (.aload_n 0, 1) := by decide +kernel
theorem dX3_topOf_28 : decode cX3_topOf 28 = .ok (.iload_n 1, 1) := by decide +kernel
theorem dX3_topOf_29 : decode cX3_topOf 29 = .ok (.iload 5, 2) := by decide +kernel
theorem dX3_topOf_31 : decode cX3_topOf 31 = .ok (.invokevirtual 175, 3) := by decide +kernel
theorem dX3_topOf_34 : decode cX3_topOf 34 = .ok (.ifCond .eq 15, 3) := by decide +kernel
theorem dX3_topOf_37 : decode cX3_topOf 37 = .ok (.iload 4, 2) := by decide +kernel
theorem dX3_topOf_39 : decode cX3_topOf 39 = .ok (.iload_n 3, 1) := by decide +kernel
theorem dX3_topOf_40 : decode cX3_topOf 40 = .ok (.if_icmp .ne 6, 3) := by decide +kernel
theorem dX3_topOf_43 : decode cX3_topOf 43 = .ok (.iload 5, 2) := by decide +kernel
theorem dX3_topOf_45 : decode cX3_topOf 45 = .ok (.ireturn, 1) := by decide +kernel
theorem dX3_topOf_46 : decode cX3_topOf 46 = .ok (.iinc 4 1, 3) := by decide +kernel
theorem dX3_topOf_49 : decode cX3_topOf 49 = .ok (.iinc 5 1, 3) := by decide +kernel
theorem dX3_topOf_52 : decode cX3_topOf 52 = .ok (.goto (-46), 3) := by decide +kernel
theorem dX3_topOf_55 : decode cX3_topOf 55 = .ok (.iload_n 3, 1) := by decide +kernel
theorem dX3_topOf_56 : decode cX3_topOf 56 = .ok (.iconst (-1), 1) := by decide +kernel
theorem dX3_topOf_57 : decode cX3_topOf 57 = .ok (.if_icmp .ne 8, 3) := by decide +kernel
theorem dX3_topOf_60 : decode cX3_topOf 60 = .ok (.iload 4, 2) := by decide +kernel
theorem dX3_topOf_62 : decode cX3_topOf 62 = .ok (.goto 4, 3) := by decide +kernel
theorem dX3_topOf_65 : decode cX3_topOf 65 = .ok (.iconst (-1), 1) := by decide +kernel
theorem dX3_topOf_66 : decode cX3_topOf 66 = .ok (.ireturn, 1) := by decide +kernel
theorem dX3_areAlike_0 : decode cX3_areAlike 0 = .ok (.iload 4, 2) := by decide +kernel
theorem dX3_areAlike_2 : decode cX3_areAlike 2 = .ok (.iload_n 3, 1) := by decide +kernel
theorem dX3_areAlike_3 : decode cX3_areAlike 3 = .ok (.isub, 1) := by decide +kernel
theorem dX3_areAlike_4 : decode cX3_areAlike 4 = .ok (.iconst 4, 1) := by decide +kernel
theorem dX3_areAlike_5 : decode cX3_areAlike 5 = .ok (.iload_n 2, 1) := by decide +kernel
theorem dX3_areAlike_6 : decode cX3_areAlike 6 = .ok (.imul, 1) := by decide +kernel
theorem dX3_areAlike_7 : decode cX3_areAlike 7 = .ok (.ishl, 1) := by decide +kernel
theorem dX3_areAlike_8 : decode cX3_areAlike 8 = .ok (.istore 5, 2) := by decide +kernel
theorem dX3_areAlike_10 : decode cX3_areAlike 10 = .ok (.iconst 0, 1) := by decide +kernel
theorem dX3_areAlike_11 : decode cX3_areAlike 11 = .ok (.istore 6, 2) := by decide +kernel
theorem dX3_areAlike_13 : decode cX3_areAlike 13 = .ok (.iload 6, 2) := by decide +kernel
theorem dX3_areAlike_15 : decode cX3_areAlike 15 = .ok (.aload_n 0, 1) := by decide +kernel
theorem dX3_areAlike_16 : decode cX3_areAlike 16 = .ok (.iload_n 1, 1) := by decide +kernel
theorem dX3_areAlike_17 : decode cX3_areAlike 17 = .ok (.invokevirtual 172, 3) := by decide +kernel
theorem dX3_areAlike_20 : decode cX3_areAlike 20 = .ok (.if_icmp .ge 53, 3) := by decide +kernel
theorem dX3_areAlike_23 : decode cX3_areAlike 23 = .ok (.aload_n 0, 1) := by decide +kernel
theorem dX3_areAlike_24 : decode cX3_areAlike 24 = .ok (.getfield 56, 3) := by decide +kernel
theorem dX3_areAlike_27 : decode cX3_areAlike 27 = .ok (.iload 6, 2) := by decide +kernel
theorem dX3_areAlike_29 : decode cX3_areAlike 29 = .ok (.iaload, 1) := by decide +kernel
theorem dX3_areAlike_30 : decode cX3_areAlike 30 = .ok (.bipush (-3), 2) := by decide +kernel
theorem dX3_areAlike_32 : decode cX3_areAlike 32 = .ok (.if_icmp .eq 35, 3) := by decide +kernel
theorem dX3_areAlike_35 : decode cX3_areAlike 35 = .ok (.iload 6, 2) := by decide +kernel
theorem dX3_areAlike_37 : decode cX3_areAlike 37 = .ok (.iload_n 2, 1) := by decide +kernel
theorem dX3_areAlike_38 : decode cX3_areAlike 38 = .ok (.invokestatic 107, 3) := by decide +kernel
theorem dX3_areAlike_41 : decode cX3_areAlike 41 = .ok (.iload_n 3, 1) := by decide +kernel
theorem dX3_areAlike_42 : decode cX3_areAlike 42 = .ok (.if_icmp .ne 25, 3) := by decide +kernel
theorem dX3_areAlike_45 : decode cX3_areAlike 45 = .ok (.aload_n 0, 1) := by decide +kernel
theorem dX3_areAlike_46 : decode cX3_areAlike 46 = .ok (.getfield 56, 3) := by decide +kernel
theorem dX3_areAlike_49 : decode cX3_areAlike 49 = .ok (.iload 6, 2) := by decide +kernel
theorem dX3_areAlike_51 : decode cX3_areAlike 51 = .ok (.iaload, 1) := by decide +kernel
theorem dX3_areAlike_52 : decode cX3_areAlike 52 = .ok (.aload_n 0, 1) := by decide +kernel
theorem dX3_areAlike_53 : decode cX3_areAlike 53 = .ok (.getfield 56, 3) := by decide +kernel
theorem dX3_areAlike_56 : decode cX3_areAlike 56 = .ok (.iload 6, 2) := by decide +kernel
theorem dX3_areAlike_58 : decode cX3_areAlike 58 = .ok (.iload 5, 2) := by decide +kernel
theorem dX3_areAlike_60 : decode cX3_areAlike 60 = .ok (.iadd, 1) := by decide +kernel
theorem dX3_areAlike_61 : decode cX3_areAlike 61 = .ok (.iaload, 1) := by decide +kernel
theorem dX3_areAlike_62 : decode cX3_areAlike 62 = .ok (.if_icmp .eq 5, 3) := by decide +kernel
theorem dX3_areAlike_65 : decode cX3_areAlike 65 = .ok (.iconst 0, 1) := by decide +kernel
theorem dX3_areAlike_66 : decode cX3_areAlike 66 = .ok (.ireturn, 1) := by decide +kernel
theorem dX3_areAlike_67 : decode cX3_areAlike 67 = .ok (.iinc 6 1, 3) := by decide +kernel
theorem dX3_areAlike_70 : decode cX3_areAlike 70 = .ok (.goto (-57), 3) := by decide +kernel
theorem dX3_areAlike_73 : decode cX3_areAlike 73 = .ok (.iconst 1, 1) := by decide +kernel
theorem dX3_areAlike_74 : decode cX3_areAlike 74 = .ok (.ireturn, 1) := by decide +kernel
theorem dX3_poleOf_0 : decode cX3_poleOf 0 = .ok (.iconst 0, 1) := by decide +kernel
theorem dX3_poleOf_1 : decode cX3_poleOf 1 = .ok (.istore 4, 2) := by decide +kernel
theorem dX3_poleOf_3 : decode cX3_poleOf 3 = .ok (.aload_n 0, 1) := by decide +kernel
theorem dX3_poleOf_4 : decode cX3_poleOf 4 = .ok (.iload_n 1, 1) := by decide +kernel
theorem dX3_poleOf_5 : decode cX3_poleOf 5 = .ok (.iload_n 2, 1) := by decide +kernel
theorem dX3_poleOf_6 : decode cX3_poleOf 6 = .ok (.iload_n 3, 1) := by decide +kernel
theorem dX3_poleOf_7 : decode cX3_poleOf 7 = .ok (.iload 4, 2) := by decide +kernel
theorem dX3_poleOf_9 : decode cX3_poleOf 9 = .ok (.invokevirtual 178, 3) := by decide +kernel
theorem dX3_poleOf_12 : decode cX3_poleOf 12 = .ok (.ifCond .ne 9, 3) := by decide +kernel
theorem dX3_poleOf_15 : decode cX3_poleOf 15 = .ok (.iinc 4 1, 3) := by decide +kernel
theorem dX3_poleOf_18 : decode cX3_poleOf 18 = .ok (.goto (-15), 3) := by decide +kernel
theorem dX3_poleOf_21 : decode cX3_poleOf 21 = .ok (.iload 4, 2) := by decide +kernel
theorem dX3_poleOf_23 : decode cX3_poleOf 23 = .ok (.ireturn, 1) := by decide +kernel
theorem dX3_sizeOf_0 : decode cX3_sizeOf 0 = .ok (.iconst 1, 1) := by decide +kernel
theorem dX3_sizeOf_1 : decode cX3_sizeOf 1 = .ok (.istore_n 2, 1) := by decide +kernel
theorem dX3_sizeOf_2 : decode cX3_sizeOf 2 = .ok (.iconst 0, 1) := by decide +kernel
theorem dX3_sizeOf_3 : decode cX3_sizeOf 3 = .ok (.istore_n 3, 1) := by decide +kernel
theorem dX3_sizeOf_4 : decode cX3_sizeOf 4 = .ok (.iload_n 3, 1) := by decide +kernel
theorem dX3_sizeOf_5 : decode cX3_sizeOf 5 = .ok (.aload_n 0, 1) := by decide +kernel
theorem dX3_sizeOf_6 : decode cX3_sizeOf 6 = .ok (.getfield 22, 3) := by decide +kernel
theorem dX3_sizeOf_9 : decode cX3_sizeOf 9 = .ok (.iload_n 1, 1) := by decide +kernel
theorem dX3_sizeOf_10 : decode cX3_sizeOf 10 = .ok (.iaload, 1) := by decide +kernel
theorem dX3_sizeOf_11 : decode cX3_sizeOf 11 = .ok (.if_icmp .ge 58, 3) := by decide +kernel
theorem dX3_sizeOf_14 : decode cX3_sizeOf 14 = .ok (.iconst 0, 1) := by decide +kernel
theorem dX3_sizeOf_15 : decode cX3_sizeOf 15 = .ok (.istore 4, 2) := by decide +kernel
theorem dX3_sizeOf_17 : decode cX3_sizeOf 17 = .ok (.iconst 0, 1) := by decide +kernel
theorem dX3_sizeOf_18 : decode cX3_sizeOf 18 = .ok (.istore 5, 2) := by decide +kernel
theorem dX3_sizeOf_20 : decode cX3_sizeOf 20 = .ok (.iload 5, 2) := by decide +kernel
theorem dX3_sizeOf_22 : decode cX3_sizeOf 22 = .ok (.aload_n 0, 1) := by decide +kernel
theorem dX3_sizeOf_23 : decode cX3_sizeOf 23 = .ok (.getfield 62, 3) := by decide +kernel
theorem dX3_sizeOf_26 : decode cX3_sizeOf 26 = .ok (.if_icmp .ge 32, 3) := by decide +kernel
theorem dX3_sizeOf_29 : decode cX3_sizeOf 29 = .ok (.iload 4, 2) := by decide +kernel
theorem dX3_sizeOf_31 : decode cX3_sizeOf 31 = .ok (.aload_n 0, 1) := by decide +kernel
theorem dX3_sizeOf_32 : decode cX3_sizeOf 32 = .ok (.iload_n 1, 1) := by decide +kernel
theorem dX3_sizeOf_33 : decode cX3_sizeOf 33 = .ok (.iload_n 3, 1) := by decide +kernel
theorem dX3_sizeOf_34 : decode cX3_sizeOf 34 = .ok (.iload 5, 2) := by decide +kernel
theorem dX3_sizeOf_36 : decode cX3_sizeOf 36 = .ok (.invokevirtual 181, 3) := by decide +kernel
theorem dX3_sizeOf_39 : decode cX3_sizeOf 39 = .ok (.iload 5, 2) := by decide +kernel
theorem dX3_sizeOf_41 : decode cX3_sizeOf 41 = .ok (.if_icmp .ne 7, 3) := by decide +kernel
theorem dX3_sizeOf_44 : decode cX3_sizeOf 44 = .ok (.iconst 1, 1) := by decide +kernel
theorem dX3_sizeOf_45 : decode cX3_sizeOf 45 = .ok (.goto 4, 3) := by decide +kernel
theorem dX3_sizeOf_48 : decode cX3_sizeOf 48 = .ok (.iconst 0, 1) := by decide +kernel
theorem dX3_sizeOf_49 : decode cX3_sizeOf 49 = .ok (.iadd, 1) := by decide +kernel
theorem dX3_sizeOf_50 : decode cX3_sizeOf 50 = .ok (.istore 4, 2) := by decide +kernel
theorem dX3_sizeOf_52 : decode cX3_sizeOf 52 = .ok (.iinc 5 1, 3) := by decide +kernel
theorem dX3_sizeOf_55 : decode cX3_sizeOf 55 = .ok (.goto (-35), 3) := by decide +kernel
theorem dX3_sizeOf_58 : decode cX3_sizeOf 58 = .ok (.iload_n 2, 1) := by decide +kernel
theorem dX3_sizeOf_59 : decode cX3_sizeOf 59 = .ok (.iload 4, 2) := by decide +kernel
theorem dX3_sizeOf_61 : decode cX3_sizeOf 61 = .ok (.imul, 1) := by decide +kernel
theorem dX3_sizeOf_62 : decode cX3_sizeOf 62 = .ok (.istore_n 2, 1) := by decide +kernel
theorem dX3_sizeOf_63 : decode cX3_sizeOf 63 = .ok (.iinc 3 1, 3) := by decide +kernel
theorem dX3_sizeOf_66 : decode cX3_sizeOf 66 = .ok (.goto (-62), 3) := by decide +kernel
theorem dX3_sizeOf_69 : decode cX3_sizeOf 69 = .ok (.iload_n 2, 1) := by decide +kernel
theorem dX3_sizeOf_70 : decode cX3_sizeOf 70 = .ok (.ireturn, 1) := by decide +kernel
theorem dX3_idleOf_0 : decode cX3_idleOf 0 = .ok (.aload_n 0, 1) := by decide +kernel
theorem dX3_idleOf_1 : decode cX3_idleOf 1 = .ok (.iload_n 1, 1) := by decide +kernel
theorem dX3_idleOf_2 : decode cX3_idleOf 2 = .ok (.invokevirtual 126, 3) := by decide +kernel
theorem dX3_idleOf_5 : decode cX3_idleOf 5 = .ok (.istore_n 2, 1) := by decide +kernel
theorem dX3_idleOf_6 : decode cX3_idleOf 6 = .ok (.iconst 0, 1) := by decide +kernel
theorem dX3_idleOf_7 : decode cX3_idleOf 7 = .ok (.istore_n 3, 1) := by decide +kernel
theorem dX3_idleOf_8 : decode cX3_idleOf 8 = .ok (.iload_n 3, 1) := by decide +kernel
theorem dX3_idleOf_9 : decode cX3_idleOf 9 = .ok (.aload_n 0, 1) := by decide +kernel
theorem dX3_idleOf_10 : decode cX3_idleOf 10 = .ok (.iload_n 1, 1) := by decide +kernel
theorem dX3_idleOf_11 : decode cX3_idleOf 11 = .ok (.invokevirtual 172, 3) := by decide +kernel
theorem dX3_idleOf_14 : decode cX3_idleOf 14 = .ok (.if_icmp .ge 35, 3) := by decide +kernel
theorem dX3_idleOf_17 : decode cX3_idleOf 17 = .ok (.iload_n 2, 1) := by decide +kernel
theorem dX3_idleOf_18 : decode cX3_idleOf 18 = .ok (.aload_n 0, 1) := by decide +kernel
theorem dX3_idleOf_19 : decode cX3_idleOf 19 = .ok (.getfield 56, 3) := by decide +kernel
theorem dX3_idleOf_22 : decode cX3_idleOf 22 = .ok (.iload_n 3, 1) := by decide +kernel
theorem dX3_idleOf_23 : decode cX3_idleOf 23 = .ok (.iaload, 1) := by decide +kernel
theorem dX3_idleOf_24 : decode cX3_idleOf 24 = .ok (.ifCond .lt 16, 3) := by decide +kernel
theorem dX3_idleOf_27 : decode cX3_idleOf 27 = .ok (.iconst 1, 1) := by decide +kernel
theorem dX3_idleOf_28 : decode cX3_idleOf 28 = .ok (.aload_n 0, 1) := by decide +kernel
theorem dX3_idleOf_29 : decode cX3_idleOf 29 = .ok (.getfield 56, 3) := by decide +kernel
theorem dX3_idleOf_32 : decode cX3_idleOf 32 = .ok (.iload_n 3, 1) := by decide +kernel
theorem dX3_idleOf_33 : decode cX3_idleOf 33 = .ok (.iaload, 1) := by decide +kernel
theorem dX3_idleOf_34 : decode cX3_idleOf 34 = .ok (.ishl, 1) := by decide +kernel
theorem dX3_idleOf_35 : decode cX3_idleOf 35 = .ok (.iconst (-1), 1) := by decide +kernel
theorem dX3_idleOf_36 : decode cX3_idleOf 36 = .ok (.ixor, 1) := by decide +kernel
theorem dX3_idleOf_37 : decode cX3_idleOf 37 = .ok (.goto 4, 3) := by decide +kernel
theorem dX3_idleOf_40 : decode cX3_idleOf 40 = .ok (.iconst (-1), 1) := by decide +kernel
theorem dX3_idleOf_41 : decode cX3_idleOf 41 = .ok (.iand, 1) := by decide +kernel
theorem dX3_idleOf_42 : decode cX3_idleOf 42 = .ok (.istore_n 2, 1) := by decide +kernel
theorem dX3_idleOf_43 : decode cX3_idleOf 43 = .ok (.iinc 3 1, 3) := by decide +kernel
theorem dX3_idleOf_46 : decode cX3_idleOf 46 = .ok (.goto (-38), 3) := by decide +kernel
theorem dX3_idleOf_49 : decode cX3_idleOf 49 = .ok (.iload_n 2, 1) := by decide +kernel
theorem dX3_idleOf_50 : decode cX3_idleOf 50 = .ok (.ireturn, 1) := by decide +kernel
theorem dX3_allCalls_0 : decode cX3_allCalls 0 = .ok (.iconst 1, 1) := by decide +kernel
theorem dX3_allCalls_1 : decode cX3_allCalls 1 = .ok (.istore_n 2, 1) := by decide +kernel
theorem dX3_allCalls_2 : decode cX3_allCalls 2 = .ok (.iconst 0, 1) := by decide +kernel
theorem dX3_allCalls_3 : decode cX3_allCalls 3 = .ok (.istore_n 3, 1) := by decide +kernel
theorem dX3_allCalls_4 : decode cX3_allCalls 4 = .ok (.iload_n 3, 1) := by decide +kernel
theorem dX3_allCalls_5 : decode cX3_allCalls 5 = .ok (.aload_n 0, 1) := by decide +kernel
theorem dX3_allCalls_6 : decode cX3_allCalls 6 = .ok (.getfield 22, 3) := by decide +kernel
theorem dX3_allCalls_9 : decode cX3_allCalls 9 = .ok (.iload_n 1, 1) := by decide +kernel
theorem dX3_allCalls_10 : decode cX3_allCalls 10 = .ok (.iaload, 1) := by decide +kernel
theorem dX3_allCalls_11 : decode cX3_allCalls 11 = .ok (.if_icmp .ge 16, 3) := by decide +kernel
theorem dX3_allCalls_14 : decode cX3_allCalls 14 = .ok (.iload_n 2, 1) := by decide +kernel
theorem dX3_allCalls_15 : decode cX3_allCalls 15 = .ok (.aload_n 0, 1) := by decide +kernel
theorem dX3_allCalls_16 : decode cX3_allCalls 16 = .ok (.getfield 62, 3) := by decide +kernel
theorem dX3_allCalls_19 : decode cX3_allCalls 19 = .ok (.imul, 1) := by decide +kernel
theorem dX3_allCalls_20 : decode cX3_allCalls 20 = .ok (.istore_n 2, 1) := by decide +kernel
theorem dX3_allCalls_21 : decode cX3_allCalls 21 = .ok (.iinc 3 1, 3) := by decide +kernel
theorem dX3_allCalls_24 : decode cX3_allCalls 24 = .ok (.goto (-20), 3) := by decide +kernel
theorem dX3_allCalls_27 : decode cX3_allCalls 27 = .ok (.iload_n 2, 1) := by decide +kernel
theorem dX3_allCalls_28 : decode cX3_allCalls 28 = .ok (.ireturn, 1) := by decide +kernel
theorem dX3_of_0 : decode cX3_of 0 = .ok (.aload_n 0, 1) := by decide +kernel
theorem dX3_of_1 : decode cX3_of 1 = .ok (.iconst 0, 1) := by decide +kernel
theorem dX3_of_2 : decode cX3_of 2 = .ok (.putfield 65, 3) := by decide +kernel
theorem dX3_of_5 : decode cX3_of 5 = .ok (.aload_n 0, 1) := by decide +kernel
theorem dX3_of_6 : decode cX3_of 6 = .ok (.iload_n 1, 1) := by decide +kernel
theorem dX3_of_7 : decode cX3_of 7 = .ok (.invokevirtual 104, 3) := by decide +kernel
theorem dX3_of_10 : decode cX3_of 10 = .ok (.ifCond .ne 5, 3) := by decide +kernel
theorem dX3_of_13 : decode cX3_of 13 = .ok (.iconst (-1), 1) := by decide +kernel
theorem dX3_of_14 : decode cX3_of 14 = .ok (.ireturn, 1) := by decide +kernel
theorem dX3_of_15 : decode cX3_of 15 = .ok (.aload_n 0, 1) := by decide +kernel
theorem dX3_of_16 : decode cX3_of 16 = .ok (.iload_n 1, 1) := by decide +kernel
theorem dX3_of_17 : decode cX3_of 17 = .ok (.iload_n 2, 1) := by decide +kernel
theorem dX3_of_18 : decode cX3_of 18 = .ok (.iconst 4, 1) := by decide +kernel
theorem dX3_of_19 : decode cX3_of 19 = .ok (.iconst 5, 1) := by decide +kernel
theorem dX3_of_20 : decode cX3_of 20 = .ok (.invokestatic 68, 3) := by decide +kernel
theorem dX3_of_23 : decode cX3_of 23 = .ok (.ifCond .eq 7, 3) := by decide +kernel
theorem dX3_of_26 : decode cX3_of 26 = .ok (.iconst 0, 1) := by decide +kernel
theorem dX3_of_27 : decode cX3_of 27 = .ok (.goto 7, 3) := by decide +kernel
theorem dX3_of_30 : decode cX3_of 30 = .ok (.aload_n 0, 1) := by decide +kernel
theorem dX3_of_31 : decode cX3_of 31 = .ok (.getfield 133, 3) := by decide +kernel
theorem dX3_of_34 : decode cX3_of 34 = .ok (.invokevirtual 184, 3) := by decide +kernel
theorem dX3_of_37 : decode cX3_of 37 = .ok (.iload_n 2, 1) := by decide +kernel
theorem dX3_of_38 : decode cX3_of 38 = .ok (.tableswitch 124 0 9 #[54, 61, 67, 73, 80, 88, 97, 105, 111, 117], 54) := by decide +kernel
theorem dX3_of_92 : decode cX3_of 92 = .ok (.aload_n 0, 1) := by decide +kernel
theorem dX3_of_93 : decode cX3_of 93 = .ok (.getfield 22, 3) := by decide +kernel
theorem dX3_of_96 : decode cX3_of 96 = .ok (.iload_n 1, 1) := by decide +kernel
theorem dX3_of_97 : decode cX3_of 97 = .ok (.iaload, 1) := by decide +kernel
theorem dX3_of_98 : decode cX3_of 98 = .ok (.ireturn, 1) := by decide +kernel
theorem dX3_of_99 : decode cX3_of 99 = .ok (.aload_n 0, 1) := by decide +kernel
theorem dX3_of_100 : decode cX3_of 100 = .ok (.iload_n 1, 1) := by decide +kernel
theorem dX3_of_101 : decode cX3_of 101 = .ok (.invokevirtual 126, 3) := by decide +kernel
theorem dX3_of_104 : decode cX3_of 104 = .ok (.ireturn, 1) := by decide +kernel
theorem dX3_of_105 : decode cX3_of 105 = .ok (.aload_n 0, 1) := by decide +kernel
theorem dX3_of_106 : decode cX3_of 106 = .ok (.iload_n 1, 1) := by decide +kernel
theorem dX3_of_107 : decode cX3_of 107 = .ok (.invokevirtual 187, 3) := by decide +kernel
theorem dX3_of_110 : decode cX3_of 110 = .ok (.ireturn, 1) := by decide +kernel
theorem dX3_of_111 : decode cX3_of 111 = .ok (.aload_n 0, 1) := by decide +kernel
theorem dX3_of_112 : decode cX3_of 112 = .ok (.iload_n 1, 1) := by decide +kernel
theorem dX3_of_113 : decode cX3_of 113 = .ok (.iconst (-1), 1) := by decide +kernel
theorem dX3_of_114 : decode cX3_of 114 = .ok (.invokevirtual 190, 3) := by decide +kernel
theorem dX3_of_117 : decode cX3_of 117 = .ok (.ireturn, 1) := by decide +kernel
theorem dX3_of_118 : decode cX3_of 118 = .ok (.aload_n 0, 1) := by decide +kernel
theorem dX3_of_119 : decode cX3_of 119 = .ok (.iload_n 1, 1) := by decide +kernel
theorem dX3_of_120 : decode cX3_of 120 = .ok (.bipush (-2), 2) := by decide +kernel
theorem dX3_of_122 : decode cX3_of 122 = .ok (.invokevirtual 190, 3) := by decide +kernel
theorem dX3_of_125 : decode cX3_of 125 = .ok (.ireturn, 1) := by decide +kernel
theorem dX3_of_126 : decode cX3_of 126 = .ok (.aload_n 0, 1) := by decide +kernel
theorem dX3_of_127 : decode cX3_of 127 = .ok (.iload_n 1, 1) := by decide +kernel
theorem dX3_of_128 : decode cX3_of 128 = .ok (.bipush (-2), 2) := by decide +kernel
theorem dX3_of_130 : decode cX3_of 130 = .ok (.iconst (-1), 1) := by decide +kernel
theorem dX3_of_131 : decode cX3_of 131 = .ok (.invokevirtual 193, 3) := by decide +kernel
theorem dX3_of_134 : decode cX3_of 134 = .ok (.ireturn, 1) := by decide +kernel
theorem dX3_of_135 : decode cX3_of 135 = .ok (.aload_n 0, 1) := by decide +kernel
theorem dX3_of_136 : decode cX3_of 136 = .ok (.iload_n 1, 1) := by decide +kernel
theorem dX3_of_137 : decode cX3_of 137 = .ok (.iconst (-1), 1) := by decide +kernel
theorem dX3_of_138 : decode cX3_of 138 = .ok (.iconst (-1), 1) := by decide +kernel
theorem dX3_of_139 : decode cX3_of 139 = .ok (.invokevirtual 193, 3) := by decide +kernel
theorem dX3_of_142 : decode cX3_of 142 = .ok (.ireturn, 1) := by decide +kernel
theorem dX3_of_143 : decode cX3_of 143 = .ok (.aload_n 0, 1) := by decide +kernel
theorem dX3_of_144 : decode cX3_of 144 = .ok (.iload_n 1, 1) := by decide +kernel
theorem dX3_of_145 : decode cX3_of 145 = .ok (.invokevirtual 196, 3) := by decide +kernel
theorem dX3_of_148 : decode cX3_of 148 = .ok (.ireturn, 1) := by decide +kernel
theorem dX3_of_149 : decode cX3_of 149 = .ok (.aload_n 0, 1) := by decide +kernel
theorem dX3_of_150 : decode cX3_of 150 = .ok (.iload_n 1, 1) := by decide +kernel
theorem dX3_of_151 : decode cX3_of 151 = .ok (.invokevirtual 199, 3) := by decide +kernel
theorem dX3_of_154 : decode cX3_of 154 = .ok (.ireturn, 1) := by decide +kernel
theorem dX3_of_155 : decode cX3_of 155 = .ok (.aload_n 0, 1) := by decide +kernel
theorem dX3_of_156 : decode cX3_of 156 = .ok (.getfield 37, 3) := by decide +kernel
theorem dX3_of_159 : decode cX3_of 159 = .ok (.iload_n 1, 1) := by decide +kernel
theorem dX3_of_160 : decode cX3_of 160 = .ok (.iaload, 1) := by decide +kernel
theorem dX3_of_161 : decode cX3_of 161 = .ok (.ireturn, 1) := by decide +kernel
theorem dX3_of_162 : decode cX3_of 162 = .ok (.iconst (-1), 1) := by decide +kernel
theorem dX3_of_163 : decode cX3_of 163 = .ok (.ireturn, 1) := by decide +kernel
theorem dX3_applicableMany_0 : decode cX3_applicableMany 0 = .ok (.iconst 0, 1) := by decide +kernel
theorem dX3_applicableMany_1 : decode cX3_applicableMany 1 = .ok (.istore_n 3, 1) := by decide +kernel
theorem dX3_applicableMany_2 : decode cX3_applicableMany 2 = .ok (.iconst 0, 1) := by decide +kernel
theorem dX3_applicableMany_3 : decode cX3_applicableMany 3 = .ok (.istore 4, 2) := by decide +kernel
theorem dX3_applicableMany_5 : decode cX3_applicableMany 5 = .ok (.iload 4, 2) := by decide +kernel
theorem dX3_applicableMany_7 : decode cX3_applicableMany 7 = .ok (.aload_n 0, 1) := by decide +kernel
theorem dX3_applicableMany_8 : decode cX3_applicableMany 8 = .ok (.iload_n 1, 1) := by decide +kernel
theorem dX3_applicableMany_9 : decode cX3_applicableMany 9 = .ok (.invokevirtual 172, 3) := by decide +kernel
theorem dX3_applicableMany_12 : decode cX3_applicableMany 12 = .ok (.if_icmp .ge 48, 3) := by decide +kernel
theorem dX3_applicableMany_15 : decode cX3_applicableMany 15 = .ok (.iload_n 3, 1) := by decide +kernel
theorem dX3_applicableMany_16 : decode cX3_applicableMany 16 = .ok (.aload_n 0, 1) := by decide +kernel
theorem dX3_applicableMany_17 : decode cX3_applicableMany 17 = .ok (.iload_n 1, 1) := by decide +kernel
theorem dX3_applicableMany_18 : decode cX3_applicableMany 18 = .ok (.iload 4, 2) := by decide +kernel
theorem dX3_applicableMany_20 : decode cX3_applicableMany 20 = .ok (.invokevirtual 114, 3) := by decide +kernel
theorem dX3_applicableMany_23 : decode cX3_applicableMany 23 = .ok (.ifCond .eq 28, 3) := by decide +kernel
theorem dX3_applicableMany_26 : decode cX3_applicableMany 26 = .ok (.aload_n 0, 1) := by decide +kernel
theorem dX3_applicableMany_27 : decode cX3_applicableMany 27 = .ok (.iload_n 1, 1) := by decide +kernel
theorem dX3_applicableMany_28 : decode cX3_applicableMany 28 = .ok (.iload 4, 2) := by decide +kernel
theorem dX3_applicableMany_30 : decode cX3_applicableMany 30 = .ok (.aload_n 0, 1) := by decide +kernel
theorem dX3_applicableMany_31 : decode cX3_applicableMany 31 = .ok (.getfield 25, 3) := by decide +kernel
theorem dX3_applicableMany_34 : decode cX3_applicableMany 34 = .ok (.bipush 12, 2) := by decide +kernel
theorem dX3_applicableMany_36 : decode cX3_applicableMany 36 = .ok (.iload_n 1, 1) := by decide +kernel
theorem dX3_applicableMany_37 : decode cX3_applicableMany 37 = .ok (.imul, 1) := by decide +kernel
theorem dX3_applicableMany_38 : decode cX3_applicableMany 38 = .ok (.iload_n 2, 1) := by decide +kernel
theorem dX3_applicableMany_39 : decode cX3_applicableMany 39 = .ok (.iadd, 1) := by decide +kernel
theorem dX3_applicableMany_40 : decode cX3_applicableMany 40 = .ok (.iaload, 1) := by decide +kernel
theorem dX3_applicableMany_41 : decode cX3_applicableMany 41 = .ok (.invokevirtual 111, 3) := by decide +kernel
theorem dX3_applicableMany_44 : decode cX3_applicableMany 44 = .ok (.ifCond .eq 7, 3) := by decide +kernel
theorem dX3_applicableMany_47 : decode cX3_applicableMany 47 = .ok (.iconst 1, 1) := by decide +kernel
theorem dX3_applicableMany_48 : decode cX3_applicableMany 48 = .ok (.goto 4, 3) := by decide +kernel
theorem dX3_applicableMany_51 : decode cX3_applicableMany 51 = .ok (.iconst 0, 1) := by decide +kernel
theorem dX3_applicableMany_52 : decode cX3_applicableMany 52 = .ok (.iadd, 1) := by decide +kernel
theorem dX3_applicableMany_53 : decode cX3_applicableMany 53 = .ok (.istore_n 3, 1) := by decide +kernel
theorem dX3_applicableMany_54 : decode cX3_applicableMany 54 = .ok (.iinc 4 1, 3) := by decide +kernel
theorem dX3_applicableMany_57 : decode cX3_applicableMany 57 = .ok (.goto (-52), 3) := by decide +kernel
theorem dX3_applicableMany_60 : decode cX3_applicableMany 60 = .ok (.iload_n 3, 1) := by decide +kernel
theorem dX3_applicableMany_61 : decode cX3_applicableMany 61 = .ok (.ireturn, 1) := by decide +kernel
theorem dX3_at_0 : decode cX3_at 0 = .ok (.aload_n 0, 1) := by decide +kernel
theorem dX3_at_1 : decode cX3_at 1 = .ok (.aload_n 0, 1) := by decide +kernel
theorem dX3_at_2 : decode cX3_at 2 = .ok (.iload_n 1, 1) := by decide +kernel
theorem dX3_at_3 : decode cX3_at 3 = .ok (.iload_n 2, 1) := by decide +kernel
theorem dX3_at_4 : decode cX3_at 4 = .ok (.invokevirtual 123, 3) := by decide +kernel
theorem dX3_at_7 : decode cX3_at 7 = .ok (.ifCond .eq 16, 3) := by decide +kernel
theorem dX3_at_10 : decode cX3_at 10 = .ok (.iload_n 3, 1) := by decide +kernel
theorem dX3_at_11 : decode cX3_at 11 = .ok (.iconst 0, 1) := by decide +kernel
theorem dX3_at_12 : decode cX3_at 12 = .ok (.iconst 4, 1) := by decide +kernel
theorem dX3_at_13 : decode cX3_at 13 = .ok (.invokestatic 68, 3) := by decide +kernel
theorem dX3_at_16 : decode cX3_at 16 = .ok (.ifCond .eq 7, 3) := by decide +kernel
theorem dX3_at_19 : decode cX3_at 19 = .ok (.iconst 0, 1) := by decide +kernel
theorem dX3_at_20 : decode cX3_at 20 = .ok (.goto 4, 3) := by decide +kernel
theorem dX3_at_23 : decode cX3_at 23 = .ok (.iconst 1, 1) := by decide +kernel
theorem dX3_at_24 : decode cX3_at 24 = .ok (.putfield 65, 3) := by decide +kernel
theorem dX3_at_27 : decode cX3_at 27 = .ok (.aload_n 0, 1) := by decide +kernel
theorem dX3_at_28 : decode cX3_at 28 = .ok (.getfield 65, 3) := by decide +kernel
theorem dX3_at_31 : decode cX3_at 31 = .ok (.ifCond .le 5, 3) := by decide +kernel
theorem dX3_at_34 : decode cX3_at 34 = .ok (.iconst 0, 1) := by decide +kernel
theorem dX3_at_35 : decode cX3_at 35 = .ok (.ireturn, 1) := by decide +kernel
theorem dX3_at_36 : decode cX3_at 36 = .ok (.iload_n 3, 1) := by decide +kernel
theorem dX3_at_37 : decode cX3_at 37 = .ok (.tableswitch 83 0 3 #[31, 43, 55, 67], 31) := by decide +kernel
theorem dX3_at_68 : decode cX3_at 68 = .ok (.aload_n 0, 1) := by decide +kernel
theorem dX3_at_69 : decode cX3_at 69 = .ok (.getfield 25, 3) := by decide +kernel
theorem dX3_at_72 : decode cX3_at 72 = .ok (.bipush 12, 2) := by decide +kernel
theorem dX3_at_74 : decode cX3_at 74 = .ok (.iload_n 1, 1) := by decide +kernel
theorem dX3_at_75 : decode cX3_at 75 = .ok (.imul, 1) := by decide +kernel
theorem dX3_at_76 : decode cX3_at 76 = .ok (.iload_n 2, 1) := by decide +kernel
theorem dX3_at_77 : decode cX3_at 77 = .ok (.iadd, 1) := by decide +kernel
theorem dX3_at_78 : decode cX3_at 78 = .ok (.iaload, 1) := by decide +kernel
theorem dX3_at_79 : decode cX3_at 79 = .ok (.ireturn, 1) := by decide +kernel
theorem dX3_at_80 : decode cX3_at 80 = .ok (.aload_n 0, 1) := by decide +kernel
theorem dX3_at_81 : decode cX3_at 81 = .ok (.getfield 28, 3) := by decide +kernel
theorem dX3_at_84 : decode cX3_at 84 = .ok (.bipush 12, 2) := by decide +kernel
theorem dX3_at_86 : decode cX3_at 86 = .ok (.iload_n 1, 1) := by decide +kernel
theorem dX3_at_87 : decode cX3_at 87 = .ok (.imul, 1) := by decide +kernel
theorem dX3_at_88 : decode cX3_at 88 = .ok (.iload_n 2, 1) := by decide +kernel
theorem dX3_at_89 : decode cX3_at 89 = .ok (.iadd, 1) := by decide +kernel
theorem dX3_at_90 : decode cX3_at 90 = .ok (.iaload, 1) := by decide +kernel
theorem dX3_at_91 : decode cX3_at 91 = .ok (.ireturn, 1) := by decide +kernel
theorem dX3_at_92 : decode cX3_at 92 = .ok (.aload_n 0, 1) := by decide +kernel
theorem dX3_at_93 : decode cX3_at 93 = .ok (.getfield 31, 3) := by decide +kernel
theorem dX3_at_96 : decode cX3_at 96 = .ok (.bipush 12, 2) := by decide +kernel
theorem dX3_at_98 : decode cX3_at 98 = .ok (.iload_n 1, 1) := by decide +kernel
theorem dX3_at_99 : decode cX3_at 99 = .ok (.imul, 1) := by decide +kernel
theorem dX3_at_100 : decode cX3_at 100 = .ok (.iload_n 2, 1) := by decide +kernel
theorem dX3_at_101 : decode cX3_at 101 = .ok (.iadd, 1) := by decide +kernel
theorem dX3_at_102 : decode cX3_at 102 = .ok (.iaload, 1) := by decide +kernel
theorem dX3_at_103 : decode cX3_at 103 = .ok (.ireturn, 1) := by decide +kernel
theorem dX3_at_104 : decode cX3_at 104 = .ok (.aload_n 0, 1) := by decide +kernel
theorem dX3_at_105 : decode cX3_at 105 = .ok (.iload_n 1, 1) := by decide +kernel
theorem dX3_at_106 : decode cX3_at 106 = .ok (.aload_n 0, 1) := by decide +kernel
theorem dX3_at_107 : decode cX3_at 107 = .ok (.getfield 133, 3) := by decide +kernel
theorem dX3_at_110 : decode cX3_at 110 = .ok (.invokevirtual 184, 3) := by decide +kernel
theorem dX3_at_113 : decode cX3_at 113 = .ok (.aload_n 0, 1) := by decide +kernel
theorem dX3_at_114 : decode cX3_at 114 = .ok (.iload_n 1, 1) := by decide +kernel
theorem dX3_at_115 : decode cX3_at 115 = .ok (.iload_n 2, 1) := by decide +kernel
theorem dX3_at_116 : decode cX3_at 116 = .ok (.invokevirtual 190, 3) := by decide +kernel
theorem dX3_at_119 : decode cX3_at 119 = .ok (.ireturn, 1) := by decide +kernel
theorem dX3_at_120 : decode cX3_at 120 = .ok (.aload_n 0, 1) := by decide +kernel
theorem dX3_at_121 : decode cX3_at 121 = .ok (.iload_n 1, 1) := by decide +kernel
theorem dX3_at_122 : decode cX3_at 122 = .ok (.iload_n 2, 1) := by decide +kernel
theorem dX3_at_123 : decode cX3_at 123 = .ok (.invokevirtual 202, 3) := by decide +kernel
theorem dX3_at_126 : decode cX3_at 126 = .ok (.ireturn, 1) := by decide +kernel
theorem dX3_clash_0 : decode cX3_clash 0 = .ok (.aload_n 0, 1) := by decide +kernel
theorem dX3_clash_1 : decode cX3_clash 1 = .ok (.iconst 0, 1) := by decide +kernel
theorem dX3_clash_2 : decode cX3_clash 2 = .ok (.putfield 65, 3) := by decide +kernel
theorem dX3_clash_5 : decode cX3_clash 5 = .ok (.aload_n 0, 1) := by decide +kernel
theorem dX3_clash_6 : decode cX3_clash 6 = .ok (.iload_n 1, 1) := by decide +kernel
theorem dX3_clash_7 : decode cX3_clash 7 = .ok (.invokevirtual 104, 3) := by decide +kernel
theorem dX3_clash_10 : decode cX3_clash 10 = .ok (.ifCond .eq 7, 3) := by decide +kernel
theorem dX3_clash_13 : decode cX3_clash 13 = .ok (.iload_n 2, 1) := by decide +kernel
theorem dX3_clash_14 : decode cX3_clash 14 = .ok (.ifCond .ge 5, 3) := by decide +kernel
theorem dX3_clash_17 : decode cX3_clash 17 = .ok (.iconst (-1), 1) := by decide +kernel
theorem dX3_clash_18 : decode cX3_clash 18 = .ok (.ireturn, 1) := by decide +kernel
theorem dX3_clash_19 : decode cX3_clash 19 = .ok (.aload_n 0, 1) := by decide +kernel
theorem dX3_clash_20 : decode cX3_clash 20 = .ok (.iload_n 1, 1) := by decide +kernel
theorem dX3_clash_21 : decode cX3_clash 21 = .ok (.iconst 0, 1) := by decide +kernel
theorem dX3_clash_22 : decode cX3_clash 22 = .ok (.invokevirtual 184, 3) := by decide +kernel
theorem dX3_clash_25 : decode cX3_clash 25 = .ok (.aload_n 0, 1) := by decide +kernel
theorem dX3_clash_26 : decode cX3_clash 26 = .ok (.iload_n 1, 1) := by decide +kernel
theorem dX3_clash_27 : decode cX3_clash 27 = .ok (.bipush (-2), 2) := by decide +kernel
theorem dX3_clash_29 : decode cX3_clash 29 = .ok (.iload_n 2, 1) := by decide +kernel
theorem dX3_clash_30 : decode cX3_clash 30 = .ok (.invokevirtual 193, 3) := by decide +kernel
theorem dX3_clash_33 : decode cX3_clash 33 = .ok (.ireturn, 1) := by decide +kernel
theorem dX3_gap_0 : decode cX3_gap 0 = .ok (.aload_n 0, 1) := by decide +kernel
theorem dX3_gap_1 : decode cX3_gap 1 = .ok (.iconst 0, 1) := by decide +kernel
theorem dX3_gap_2 : decode cX3_gap 2 = .ok (.putfield 65, 3) := by decide +kernel
theorem dX3_gap_5 : decode cX3_gap 5 = .ok (.aload_n 0, 1) := by decide +kernel
theorem dX3_gap_6 : decode cX3_gap 6 = .ok (.iload_n 1, 1) := by decide +kernel
theorem dX3_gap_7 : decode cX3_gap 7 = .ok (.invokevirtual 104, 3) := by decide +kernel
theorem dX3_gap_10 : decode cX3_gap 10 = .ok (.ifCond .eq 7, 3) := by decide +kernel
theorem dX3_gap_13 : decode cX3_gap 13 = .ok (.iload_n 2, 1) := by decide +kernel
theorem dX3_gap_14 : decode cX3_gap 14 = .ok (.ifCond .ge 5, 3) := by decide +kernel
theorem dX3_gap_17 : decode cX3_gap 17 = .ok (.iconst (-1), 1) := by decide +kernel
theorem dX3_gap_18 : decode cX3_gap 18 = .ok (.ireturn, 1) := by decide +kernel
theorem dX3_gap_19 : decode cX3_gap 19 = .ok (.aload_n 0, 1) := by decide +kernel
theorem dX3_gap_20 : decode cX3_gap 20 = .ok (.iload_n 1, 1) := by decide +kernel
theorem dX3_gap_21 : decode cX3_gap 21 = .ok (.iconst 0, 1) := by decide +kernel
theorem dX3_gap_22 : decode cX3_gap 22 = .ok (.invokevirtual 184, 3) := by decide +kernel
theorem dX3_gap_25 : decode cX3_gap 25 = .ok (.aload_n 0, 1) := by decide +kernel
theorem dX3_gap_26 : decode cX3_gap 26 = .ok (.iload_n 1, 1) := by decide +kernel
theorem dX3_gap_27 : decode cX3_gap 27 = .ok (.iconst (-1), 1) := by decide +kernel
theorem dX3_gap_28 : decode cX3_gap 28 = .ok (.iload_n 2, 1) := by decide +kernel
theorem dX3_gap_29 : decode cX3_gap 29 = .ok (.invokevirtual 193, 3) := by decide +kernel
theorem dX3_gap_32 : decode cX3_gap 32 = .ok (.ireturn, 1) := by decide +kernel
theorem dX3_fightIn_0 : decode cX3_fightIn 0 = .ok (.aload_n 0, 1) := by decide +kernel
theorem dX3_fightIn_1 : decode cX3_fightIn 1 = .ok (.iload_n 1, 1) := by decide +kernel
theorem dX3_fightIn_2 : decode cX3_fightIn 2 = .ok (.iload_n 2, 1) := by decide +kernel
theorem dX3_fightIn_3 : decode cX3_fightIn 3 = .ok (.invokevirtual 152, 3) := by decide +kernel
theorem dX3_fightIn_6 : decode cX3_fightIn 6 = .ok (.istore 5, 2) := by decide +kernel
theorem dX3_fightIn_8 : decode cX3_fightIn 8 = .ok (.iload 5, 2) := by decide +kernel
theorem dX3_fightIn_10 : decode cX3_fightIn 10 = .ok (.iload_n 3, 1) := by decide +kernel
theorem dX3_fightIn_11 : decode cX3_fightIn 11 = .ok (.invokestatic 97, 3) := by decide +kernel
theorem dX3_fightIn_14 : decode cX3_fightIn 14 = .ok (.ifCond .eq 13, 3) := by decide +kernel
theorem dX3_fightIn_17 : decode cX3_fightIn 17 = .ok (.iload 5, 2) := by decide +kernel
theorem dX3_fightIn_19 : decode cX3_fightIn 19 = .ok (.iload 4, 2) := by decide +kernel
theorem dX3_fightIn_21 : decode cX3_fightIn 21 = .ok (.invokestatic 97, 3) := by decide +kernel
theorem dX3_fightIn_24 : decode cX3_fightIn 24 = .ok (.ifCond .ne 5, 3) := by decide +kernel
theorem dX3_fightIn_27 : decode cX3_fightIn 27 = .ok (.iconst 0, 1) := by decide +kernel
theorem dX3_fightIn_28 : decode cX3_fightIn 28 = .ok (.ireturn, 1) := by decide +kernel
theorem dX3_fightIn_29 : decode cX3_fightIn 29 = .ok (.iconst 0, 1) := by decide +kernel
theorem dX3_fightIn_30 : decode cX3_fightIn 30 = .ok (.istore 6, 2) := by decide +kernel
theorem dX3_fightIn_32 : decode cX3_fightIn 32 = .ok (.iload 6, 2) := by decide +kernel
theorem dX3_fightIn_34 : decode cX3_fightIn 34 = .ok (.bipush 12, 2) := by decide +kernel
theorem dX3_fightIn_36 : decode cX3_fightIn 36 = .ok (.if_icmp .ge 84, 3) := by decide +kernel
theorem dX3_fightIn_39 : decode cX3_fightIn 39 = .ok (.iload 5, 2) := by decide +kernel
theorem dX3_fightIn_41 : decode cX3_fightIn 41 = .ok (.iload 6, 2) := by decide +kernel
theorem dX3_fightIn_43 : decode cX3_fightIn 43 = .ok (.invokestatic 97, 3) := by decide +kernel
theorem dX3_fightIn_46 : decode cX3_fightIn 46 = .ok (.ifCond .eq 68, 3) := by decide +kernel
theorem dX3_fightIn_49 : decode cX3_fightIn 49 = .ok (.aload_n 0, 1) := by decide +kernel
theorem dX3_fightIn_50 : decode cX3_fightIn 50 = .ok (.iload_n 1, 1) := by decide +kernel
theorem dX3_fightIn_51 : decode cX3_fightIn 51 = .ok (.aload_n 0, 1) := by decide +kernel
theorem dX3_fightIn_52 : decode cX3_fightIn 52 = .ok (.getfield 25, 3) := by decide +kernel
theorem dX3_fightIn_55 : decode cX3_fightIn 55 = .ok (.bipush 12, 2) := by decide +kernel
theorem dX3_fightIn_57 : decode cX3_fightIn 57 = .ok (.iload_n 1, 1) := by decide +kernel
theorem dX3_fightIn_58 : decode cX3_fightIn 58 = .ok (.imul, 1) := by decide +kernel
theorem dX3_fightIn_59 : decode cX3_fightIn 59 = .ok (.iload 6, 2) := by decide +kernel
theorem dX3_fightIn_61 : decode cX3_fightIn 61 = .ok (.iadd, 1) := by decide +kernel
theorem dX3_fightIn_62 : decode cX3_fightIn 62 = .ok (.iaload, 1) := by decide +kernel
theorem dX3_fightIn_63 : decode cX3_fightIn 63 = .ok (.aload_n 0, 1) := by decide +kernel
theorem dX3_fightIn_64 : decode cX3_fightIn 64 = .ok (.getfield 25, 3) := by decide +kernel
theorem dX3_fightIn_67 : decode cX3_fightIn 67 = .ok (.bipush 12, 2) := by decide +kernel
theorem dX3_fightIn_69 : decode cX3_fightIn 69 = .ok (.iload_n 1, 1) := by decide +kernel
theorem dX3_fightIn_70 : decode cX3_fightIn 70 = .ok (.imul, 1) := by decide +kernel
theorem dX3_fightIn_71 : decode cX3_fightIn 71 = .ok (.iload_n 3, 1) := by decide +kernel
theorem dX3_fightIn_72 : decode cX3_fightIn 72 = .ok (.iadd, 1) := by decide +kernel
theorem dX3_fightIn_73 : decode cX3_fightIn 73 = .ok (.iaload, 1) := by decide +kernel
theorem dX3_fightIn_74 : decode cX3_fightIn 74 = .ok (.invokevirtual 111, 3) := by decide +kernel
theorem dX3_fightIn_77 : decode cX3_fightIn 77 = .ok (.ifCond .eq 37, 3) := by decide +kernel
theorem dX3_fightIn_80 : decode cX3_fightIn 80 = .ok (.aload_n 0, 1) := by decide +kernel
theorem dX3_fightIn_81 : decode cX3_fightIn 81 = .ok (.iload_n 1, 1) := by decide +kernel
theorem dX3_fightIn_82 : decode cX3_fightIn 82 = .ok (.aload_n 0, 1) := by decide +kernel
theorem dX3_fightIn_83 : decode cX3_fightIn 83 = .ok (.getfield 25, 3) := by decide +kernel
theorem dX3_fightIn_86 : decode cX3_fightIn 86 = .ok (.bipush 12, 2) := by decide +kernel
theorem dX3_fightIn_88 : decode cX3_fightIn 88 = .ok (.iload_n 1, 1) := by decide +kernel
theorem dX3_fightIn_89 : decode cX3_fightIn 89 = .ok (.imul, 1) := by decide +kernel
theorem dX3_fightIn_90 : decode cX3_fightIn 90 = .ok (.iload 6, 2) := by decide +kernel
theorem dX3_fightIn_92 : decode cX3_fightIn 92 = .ok (.iadd, 1) := by decide +kernel
theorem dX3_fightIn_93 : decode cX3_fightIn 93 = .ok (.iaload, 1) := by decide +kernel
theorem dX3_fightIn_94 : decode cX3_fightIn 94 = .ok (.aload_n 0, 1) := by decide +kernel
theorem dX3_fightIn_95 : decode cX3_fightIn 95 = .ok (.getfield 25, 3) := by decide +kernel
theorem dX3_fightIn_98 : decode cX3_fightIn 98 = .ok (.bipush 12, 2) := by decide +kernel
theorem dX3_fightIn_100 : decode cX3_fightIn 100 = .ok (.iload_n 1, 1) := by decide +kernel
theorem dX3_fightIn_101 : decode cX3_fightIn 101 = .ok (.imul, 1) := by decide +kernel
theorem dX3_fightIn_102 : decode cX3_fightIn 102 = .ok (.iload 4, 2) := by decide +kernel
theorem dX3_fightIn_104 : decode cX3_fightIn 104 = .ok (.iadd, 1) := by decide +kernel
theorem dX3_fightIn_105 : decode cX3_fightIn 105 = .ok (.iaload, 1) := by decide +kernel
theorem dX3_fightIn_106 : decode cX3_fightIn 106 = .ok (.invokevirtual 111, 3) := by decide +kernel
theorem dX3_fightIn_109 : decode cX3_fightIn 109 = .ok (.ifCond .eq 5, 3) := by decide +kernel
theorem dX3_fightIn_112 : decode cX3_fightIn 112 = .ok (.iconst 0, 1) := by decide +kernel
theorem dX3_fightIn_113 : decode cX3_fightIn 113 = .ok (.ireturn, 1) := by decide +kernel
theorem dX3_fightIn_114 : decode cX3_fightIn 114 = .ok (.iinc 6 1, 3) := by decide +kernel
theorem dX3_fightIn_117 : decode cX3_fightIn 117 = .ok (.goto (-85), 3) := by decide +kernel
theorem dX3_fightIn_120 : decode cX3_fightIn 120 = .ok (.iconst 1, 1) := by decide +kernel
theorem dX3_fightIn_121 : decode cX3_fightIn 121 = .ok (.ireturn, 1) := by decide +kernel
theorem dX3_fight_0 : decode cX3_fight 0 = .ok (.aload_n 0, 1) := by decide +kernel
theorem dX3_fight_1 : decode cX3_fight 1 = .ok (.iconst 0, 1) := by decide +kernel
theorem dX3_fight_2 : decode cX3_fight 2 = .ok (.putfield 65, 3) := by decide +kernel
theorem dX3_fight_5 : decode cX3_fight 5 = .ok (.aload_n 0, 1) := by decide +kernel
theorem dX3_fight_6 : decode cX3_fight 6 = .ok (.iload_n 1, 1) := by decide +kernel
theorem dX3_fight_7 : decode cX3_fight 7 = .ok (.iload_n 2, 1) := by decide +kernel
theorem dX3_fight_8 : decode cX3_fight 8 = .ok (.invokevirtual 123, 3) := by decide +kernel
theorem dX3_fight_11 : decode cX3_fight 11 = .ok (.ifCond .eq 17, 3) := by decide +kernel
theorem dX3_fight_14 : decode cX3_fight 14 = .ok (.aload_n 0, 1) := by decide +kernel
theorem dX3_fight_15 : decode cX3_fight 15 = .ok (.iload_n 1, 1) := by decide +kernel
theorem dX3_fight_16 : decode cX3_fight 16 = .ok (.iload_n 3, 1) := by decide +kernel
theorem dX3_fight_17 : decode cX3_fight 17 = .ok (.invokevirtual 123, 3) := by decide +kernel
theorem dX3_fight_20 : decode cX3_fight 20 = .ok (.ifCond .eq 8, 3) := by decide +kernel
theorem dX3_fight_23 : decode cX3_fight 23 = .ok (.iload_n 2, 1) := by decide +kernel
theorem dX3_fight_24 : decode cX3_fight 24 = .ok (.iload_n 3, 1) := by decide +kernel
theorem dX3_fight_25 : decode cX3_fight 25 = .ok (.if_icmp .ne 5, 3) := by decide +kernel
theorem dX3_fight_28 : decode cX3_fight 28 = .ok (.iconst (-1), 1) := by decide +kernel
theorem dX3_fight_29 : decode cX3_fight 29 = .ok (.ireturn, 1) := by decide +kernel
theorem dX3_fight_30 : decode cX3_fight 30 = .ok (.iconst 0, 1) := by decide +kernel
theorem dX3_fight_31 : decode cX3_fight 31 = .ok (.istore 4, 2) := by decide +kernel
theorem dX3_fight_33 : decode cX3_fight 33 = .ok (.iload 4, 2) := by decide +kernel
theorem dX3_fight_35 : decode cX3_fight 35 = .ok (.aload_n 0, 1) := by decide +kernel
theorem dX3_fight_36 : decode cX3_fight 36 = .ok (.iload_n 1, 1) := by decide +kernel
theorem dX3_fight_37 : decode cX3_fight 37 = .ok (.invokevirtual 172, 3) := by decide +kernel
theorem dX3_fight_40 : decode cX3_fight 40 = .ok (.if_icmp .ge 34, 3) := by decide +kernel
theorem dX3_fight_43 : decode cX3_fight 43 = .ok (.aload_n 0, 1) := by decide +kernel
theorem dX3_fight_44 : decode cX3_fight 44 = .ok (.iload_n 1, 1) := by decide +kernel
theorem dX3_fight_45 : decode cX3_fight 45 = .ok (.iload 4, 2) := by decide +kernel
theorem dX3_fight_47 : decode cX3_fight 47 = .ok (.invokevirtual 114, 3) := by decide +kernel
theorem dX3_fight_50 : decode cX3_fight 50 = .ok (.ifCond .eq 18, 3) := by decide +kernel
theorem dX3_fight_53 : decode cX3_fight 53 = .ok (.aload_n 0, 1) := by decide +kernel
theorem dX3_fight_54 : decode cX3_fight 54 = .ok (.iload_n 1, 1) := by decide +kernel
theorem dX3_fight_55 : decode cX3_fight 55 = .ok (.iload 4, 2) := by decide +kernel
theorem dX3_fight_57 : decode cX3_fight 57 = .ok (.iload_n 2, 1) := by decide +kernel
theorem dX3_fight_58 : decode cX3_fight 58 = .ok (.iload_n 3, 1) := by decide +kernel
theorem dX3_fight_59 : decode cX3_fight 59 = .ok (.invokevirtual 205, 3) := by decide +kernel
theorem dX3_fight_62 : decode cX3_fight 62 = .ok (.ifCond .eq 6, 3) := by decide +kernel
theorem dX3_fight_65 : decode cX3_fight 65 = .ok (.iload 4, 2) := by decide +kernel
theorem dX3_fight_67 : decode cX3_fight 67 = .ok (.ireturn, 1) := by decide +kernel
theorem dX3_fight_68 : decode cX3_fight 68 = .ok (.iinc 4 1, 3) := by decide +kernel
theorem dX3_fight_71 : decode cX3_fight 71 = .ok (.goto (-38), 3) := by decide +kernel
theorem dX3_fight_74 : decode cX3_fight 74 = .ok (.iconst (-1), 1) := by decide +kernel
theorem dX3_fight_75 : decode cX3_fight 75 = .ok (.ireturn, 1) := by decide +kernel
theorem dX3_pole_0 : decode cX3_pole 0 = .ok (.aload_n 0, 1) := by decide +kernel
theorem dX3_pole_1 : decode cX3_pole 1 = .ok (.iconst 0, 1) := by decide +kernel
theorem dX3_pole_2 : decode cX3_pole 2 = .ok (.putfield 65, 3) := by decide +kernel
theorem dX3_pole_5 : decode cX3_pole 5 = .ok (.aload_n 0, 1) := by decide +kernel
theorem dX3_pole_6 : decode cX3_pole 6 = .ok (.iload_n 1, 1) := by decide +kernel
theorem dX3_pole_7 : decode cX3_pole 7 = .ok (.invokevirtual 104, 3) := by decide +kernel
theorem dX3_pole_10 : decode cX3_pole 10 = .ok (.ifCond .eq 27, 3) := by decide +kernel
theorem dX3_pole_13 : decode cX3_pole 13 = .ok (.iload_n 2, 1) := by decide +kernel
theorem dX3_pole_14 : decode cX3_pole 14 = .ok (.iconst 0, 1) := by decide +kernel
theorem dX3_pole_15 : decode cX3_pole 15 = .ok (.aload_n 0, 1) := by decide +kernel
theorem dX3_pole_16 : decode cX3_pole 16 = .ok (.getfield 22, 3) := by decide +kernel
theorem dX3_pole_19 : decode cX3_pole 19 = .ok (.iload_n 1, 1) := by decide +kernel
theorem dX3_pole_20 : decode cX3_pole 20 = .ok (.iaload, 1) := by decide +kernel
theorem dX3_pole_21 : decode cX3_pole 21 = .ok (.iconst 1, 1) := by decide +kernel
theorem dX3_pole_22 : decode cX3_pole 22 = .ok (.isub, 1) := by decide +kernel
theorem dX3_pole_23 : decode cX3_pole 23 = .ok (.invokestatic 68, 3) := by decide +kernel
theorem dX3_pole_26 : decode cX3_pole 26 = .ok (.ifCond .eq 11, 3) := by decide +kernel
theorem dX3_pole_29 : decode cX3_pole 29 = .ok (.aload_n 0, 1) := by decide +kernel
theorem dX3_pole_30 : decode cX3_pole 30 = .ok (.iload_n 3, 1) := by decide +kernel
theorem dX3_pole_31 : decode cX3_pole 31 = .ok (.invokevirtual 87, 3) := by decide +kernel
theorem dX3_pole_34 : decode cX3_pole 34 = .ok (.ifCond .ne 5, 3) := by decide +kernel
theorem dX3_pole_37 : decode cX3_pole 37 = .ok (.iconst (-1), 1) := by decide +kernel
theorem dX3_pole_38 : decode cX3_pole 38 = .ok (.ireturn, 1) := by decide +kernel
theorem dX3_pole_39 : decode cX3_pole 39 = .ok (.aload_n 0, 1) := by decide +kernel
theorem dX3_pole_40 : decode cX3_pole 40 = .ok (.iload_n 1, 1) := by decide +kernel
theorem dX3_pole_41 : decode cX3_pole 41 = .ok (.aload_n 0, 1) := by decide +kernel
theorem dX3_pole_42 : decode cX3_pole 42 = .ok (.getfield 133, 3) := by decide +kernel
theorem dX3_pole_45 : decode cX3_pole 45 = .ok (.invokevirtual 184, 3) := by decide +kernel
theorem dX3_pole_48 : decode cX3_pole 48 = .ok (.aload_n 0, 1) := by decide +kernel
theorem dX3_pole_49 : decode cX3_pole 49 = .ok (.iload_n 1, 1) := by decide +kernel
theorem dX3_pole_50 : decode cX3_pole 50 = .ok (.iload_n 2, 1) := by decide +kernel
theorem dX3_pole_51 : decode cX3_pole 51 = .ok (.iload_n 3, 1) := by decide +kernel
theorem dX3_pole_52 : decode cX3_pole 52 = .ok (.invokevirtual 181, 3) := by decide +kernel
theorem dX3_pole_55 : decode cX3_pole 55 = .ok (.ireturn, 1) := by decide +kernel
theorem dX3_change_0 : decode cX3_change 0 = .ok (.aload_n 0, 1) := by decide +kernel
theorem dX3_change_1 : decode cX3_change 1 = .ok (.iconst 0, 1) := by decide +kernel
theorem dX3_change_2 : decode cX3_change 2 = .ok (.putfield 65, 3) := by decide +kernel
theorem dX3_change_5 : decode cX3_change 5 = .ok (.aload_n 0, 1) := by decide +kernel
theorem dX3_change_6 : decode cX3_change 6 = .ok (.iload_n 1, 1) := by decide +kernel
theorem dX3_change_7 : decode cX3_change 7 = .ok (.iload_n 2, 1) := by decide +kernel
theorem dX3_change_8 : decode cX3_change 8 = .ok (.invokevirtual 114, 3) := by decide +kernel
theorem dX3_change_11 : decode cX3_change 11 = .ok (.ifCond .ne 5, 3) := by decide +kernel
theorem dX3_change_14 : decode cX3_change 14 = .ok (.iconst (-1), 1) := by decide +kernel
theorem dX3_change_15 : decode cX3_change 15 = .ok (.ireturn, 1) := by decide +kernel
theorem dX3_change_16 : decode cX3_change 16 = .ok (.aload_n 0, 1) := by decide +kernel
theorem dX3_change_17 : decode cX3_change 17 = .ok (.iload_n 1, 1) := by decide +kernel
theorem dX3_change_18 : decode cX3_change 18 = .ok (.iload_n 2, 1) := by decide +kernel
theorem dX3_change_19 : decode cX3_change 19 = .ok (.invokevirtual 117, 3) := by decide +kernel
theorem dX3_change_22 : decode cX3_change 22 = .ok (.iconst (-1), 1) := by decide +kernel
theorem dX3_change_23 : decode cX3_change 23 = .ok (.if_icmp .eq 6, 3) := by decide +kernel
theorem dX3_change_26 : decode cX3_change 26 = .ok (.bipush (-2), 2) := by decide +kernel
theorem dX3_change_28 : decode cX3_change 28 = .ok (.ireturn, 1) := by decide +kernel
theorem dX3_change_29 : decode cX3_change 29 = .ok (.aload_n 0, 1) := by decide +kernel
theorem dX3_change_30 : decode cX3_change 30 = .ok (.iload_n 1, 1) := by decide +kernel
theorem dX3_change_31 : decode cX3_change 31 = .ok (.aload_n 0, 1) := by decide +kernel
theorem dX3_change_32 : decode cX3_change 32 = .ok (.getfield 133, 3) := by decide +kernel
theorem dX3_change_35 : decode cX3_change 35 = .ok (.invokevirtual 184, 3) := by decide +kernel
theorem dX3_change_38 : decode cX3_change 38 = .ok (.aload_n 0, 1) := by decide +kernel
theorem dX3_change_39 : decode cX3_change 39 = .ok (.aload_n 0, 1) := by decide +kernel
theorem dX3_change_40 : decode cX3_change 40 = .ok (.iload_n 1, 1) := by decide +kernel
theorem dX3_change_41 : decode cX3_change 41 = .ok (.iconst (-1), 1) := by decide +kernel
theorem dX3_change_42 : decode cX3_change 42 = .ok (.invokevirtual 117, 3) := by decide +kernel
theorem dX3_change_45 : decode cX3_change 45 = .ok (.iconst (-1), 1) := by decide +kernel
theorem dX3_change_46 : decode cX3_change 46 = .ok (.if_icmp .ne 8, 3) := by decide +kernel
theorem dX3_change_49 : decode cX3_change 49 = .ok (.bipush 12, 2) := by decide +kernel
theorem dX3_change_51 : decode cX3_change 51 = .ok (.goto 9, 3) := by decide +kernel
theorem dX3_change_54 : decode cX3_change 54 = .ok (.aload_n 0, 1) := by decide +kernel
theorem dX3_change_55 : decode cX3_change 55 = .ok (.iload_n 1, 1) := by decide +kernel
theorem dX3_change_56 : decode cX3_change 56 = .ok (.iconst (-1), 1) := by decide +kernel
theorem dX3_change_57 : decode cX3_change 57 = .ok (.invokevirtual 117, 3) := by decide +kernel
theorem dX3_change_60 : decode cX3_change 60 = .ok (.putfield 142, 3) := by decide +kernel
theorem dX3_change_63 : decode cX3_change 63 = .ok (.aload_n 0, 1) := by decide +kernel
theorem dX3_change_64 : decode cX3_change 64 = .ok (.iload_n 2, 1) := by decide +kernel
theorem dX3_change_65 : decode cX3_change 65 = .ok (.putfield 49, 3) := by decide +kernel
theorem dX3_change_68 : decode cX3_change 68 = .ok (.iconst 0, 1) := by decide +kernel
theorem dX3_change_69 : decode cX3_change 69 = .ok (.istore_n 3, 1) := by decide +kernel
theorem dX3_change_70 : decode cX3_change 70 = .ok (.iconst 0, 1) := by decide +kernel
theorem dX3_change_71 : decode cX3_change 71 = .ok (.istore 4, 2) := by decide +kernel
theorem dX3_change_73 : decode cX3_change 73 = .ok (.iload 4, 2) := by decide +kernel
theorem dX3_change_75 : decode cX3_change 75 = .ok (.aload_n 0, 1) := by decide +kernel
theorem dX3_change_76 : decode cX3_change 76 = .ok (.iload_n 1, 1) := by decide +kernel
theorem dX3_change_77 : decode cX3_change 77 = .ok (.invokevirtual 172, 3) := by decide +kernel
theorem dX3_change_80 : decode cX3_change 80 = .ok (.if_icmp .ge 50, 3) := by decide +kernel
theorem dX3_change_83 : decode cX3_change 83 = .ok (.iload_n 3, 1) := by decide +kernel
theorem dX3_change_84 : decode cX3_change 84 = .ok (.aload_n 0, 1) := by decide +kernel
theorem dX3_change_85 : decode cX3_change 85 = .ok (.getfield 56, 3) := by decide +kernel
theorem dX3_change_88 : decode cX3_change 88 = .ok (.iload 4, 2) := by decide +kernel
theorem dX3_change_90 : decode cX3_change 90 = .ok (.iaload, 1) := by decide +kernel
theorem dX3_change_91 : decode cX3_change 91 = .ok (.bipush (-3), 2) := by decide +kernel
theorem dX3_change_93 : decode cX3_change 93 = .ok (.if_icmp .eq 28, 3) := by decide +kernel
theorem dX3_change_96 : decode cX3_change 96 = .ok (.aload_n 0, 1) := by decide +kernel
theorem dX3_change_97 : decode cX3_change 97 = .ok (.iload_n 1, 1) := by decide +kernel
theorem dX3_change_98 : decode cX3_change 98 = .ok (.iload 4, 2) := by decide +kernel
theorem dX3_change_100 : decode cX3_change 100 = .ok (.aload_n 0, 1) := by decide +kernel
theorem dX3_change_101 : decode cX3_change 101 = .ok (.getfield 133, 3) := by decide +kernel
theorem dX3_change_104 : decode cX3_change 104 = .ok (.invokevirtual 159, 3) := by decide +kernel
theorem dX3_change_107 : decode cX3_change 107 = .ok (.aload_n 0, 1) := by decide +kernel
theorem dX3_change_108 : decode cX3_change 108 = .ok (.getfield 56, 3) := by decide +kernel
theorem dX3_change_111 : decode cX3_change 111 = .ok (.iload 4, 2) := by decide +kernel
theorem dX3_change_113 : decode cX3_change 113 = .ok (.iaload, 1) := by decide +kernel
theorem dX3_change_114 : decode cX3_change 114 = .ok (.if_icmp .eq 7, 3) := by decide +kernel
theorem dX3_change_117 : decode cX3_change 117 = .ok (.iconst 1, 1) := by decide +kernel
theorem dX3_change_118 : decode cX3_change 118 = .ok (.goto 4, 3) := by decide +kernel
theorem dX3_change_121 : decode cX3_change 121 = .ok (.iconst 0, 1) := by decide +kernel
theorem dX3_change_122 : decode cX3_change 122 = .ok (.iadd, 1) := by decide +kernel
theorem dX3_change_123 : decode cX3_change 123 = .ok (.istore_n 3, 1) := by decide +kernel
theorem dX3_change_124 : decode cX3_change 124 = .ok (.iinc 4 1, 3) := by decide +kernel
theorem dX3_change_127 : decode cX3_change 127 = .ok (.goto (-54), 3) := by decide +kernel
theorem dX3_change_130 : decode cX3_change 130 = .ok (.aload_n 0, 1) := by decide +kernel
theorem dX3_change_131 : decode cX3_change 131 = .ok (.iconst (-1), 1) := by decide +kernel
theorem dX3_change_132 : decode cX3_change 132 = .ok (.putfield 49, 3) := by decide +kernel
theorem dX3_change_135 : decode cX3_change 135 = .ok (.iload_n 3, 1) := by decide +kernel
theorem dX3_change_136 : decode cX3_change 136 = .ok (.ireturn, 1) := by decide +kernel
theorem dX3_settle_0 : decode cX3_settle 0 = .ok (.aload_n 0, 1) := by decide +kernel
theorem dX3_settle_1 : decode cX3_settle 1 = .ok (.iconst 0, 1) := by decide +kernel
theorem dX3_settle_2 : decode cX3_settle 2 = .ok (.putfield 65, 3) := by decide +kernel
theorem dX3_settle_5 : decode cX3_settle 5 = .ok (.aload_n 0, 1) := by decide +kernel
theorem dX3_settle_6 : decode cX3_settle 6 = .ok (.iload_n 1, 1) := by decide +kernel
theorem dX3_settle_7 : decode cX3_settle 7 = .ok (.invokevirtual 104, 3) := by decide +kernel
theorem dX3_settle_10 : decode cX3_settle 10 = .ok (.ifCond .ne 5, 3) := by decide +kernel
theorem dX3_settle_13 : decode cX3_settle 13 = .ok (.iconst (-1), 1) := by decide +kernel
theorem dX3_settle_14 : decode cX3_settle 14 = .ok (.ireturn, 1) := by decide +kernel
theorem dX3_settle_15 : decode cX3_settle 15 = .ok (.iconst 0, 1) := by decide +kernel
theorem dX3_settle_16 : decode cX3_settle 16 = .ok (.istore_n 2, 1) := by decide +kernel
theorem dX3_settle_17 : decode cX3_settle 17 = .ok (.iload_n 2, 1) := by decide +kernel
theorem dX3_settle_18 : decode cX3_settle 18 = .ok (.bipush 12, 2) := by decide +kernel
theorem dX3_settle_20 : decode cX3_settle 20 = .ok (.if_icmp .ge 26, 3) := by decide +kernel
theorem dX3_settle_23 : decode cX3_settle 23 = .ok (.aload_n 0, 1) := by decide +kernel
theorem dX3_settle_24 : decode cX3_settle 24 = .ok (.getfield 59, 3) := by decide +kernel
theorem dX3_settle_27 : decode cX3_settle 27 = .ok (.iload_n 2, 1) := by decide +kernel
theorem dX3_settle_28 : decode cX3_settle 28 = .ok (.aload_n 0, 1) := by decide +kernel
theorem dX3_settle_29 : decode cX3_settle 29 = .ok (.getfield 25, 3) := by decide +kernel
theorem dX3_settle_32 : decode cX3_settle 32 = .ok (.bipush 12, 2) := by decide +kernel
theorem dX3_settle_34 : decode cX3_settle 34 = .ok (.iload_n 1, 1) := by decide +kernel
theorem dX3_settle_35 : decode cX3_settle 35 = .ok (.imul, 1) := by decide +kernel
theorem dX3_settle_36 : decode cX3_settle 36 = .ok (.iload_n 2, 1) := by decide +kernel
theorem dX3_settle_37 : decode cX3_settle 37 = .ok (.iadd, 1) := by decide +kernel
theorem dX3_settle_38 : decode cX3_settle 38 = .ok (.iaload, 1) := by decide +kernel
theorem dX3_settle_39 : decode cX3_settle 39 = .ok (.iastore, 1) := by decide +kernel
theorem dX3_settle_40 : decode cX3_settle 40 = .ok (.iinc 2 1, 3) := by decide +kernel
theorem dX3_settle_43 : decode cX3_settle 43 = .ok (.goto (-26), 3) := by decide +kernel
theorem dX3_settle_46 : decode cX3_settle 46 = .ok (.iconst 0, 1) := by decide +kernel
theorem dX3_settle_47 : decode cX3_settle 47 = .ok (.istore_n 2, 1) := by decide +kernel
theorem dX3_settle_48 : decode cX3_settle 48 = .ok (.aload_n 0, 1) := by decide +kernel
theorem dX3_settle_49 : decode cX3_settle 49 = .ok (.iload_n 1, 1) := by decide +kernel
theorem dX3_settle_50 : decode cX3_settle 50 = .ok (.iconst 0, 1) := by decide +kernel
theorem dX3_settle_51 : decode cX3_settle 51 = .ok (.invokevirtual 184, 3) := by decide +kernel
theorem dX3_settle_54 : decode cX3_settle 54 = .ok (.aload_n 0, 1) := by decide +kernel
theorem dX3_settle_55 : decode cX3_settle 55 = .ok (.iload_n 1, 1) := by decide +kernel
theorem dX3_settle_56 : decode cX3_settle 56 = .ok (.bipush (-2), 2) := by decide +kernel
theorem dX3_settle_58 : decode cX3_settle 58 = .ok (.iconst 0, 1) := by decide +kernel
theorem dX3_settle_59 : decode cX3_settle 59 = .ok (.invokevirtual 193, 3) := by decide +kernel
theorem dX3_settle_62 : decode cX3_settle 62 = .ok (.istore_n 3, 1) := by decide +kernel
theorem dX3_settle_63 : decode cX3_settle 63 = .ok (.iload_n 3, 1) := by decide +kernel
theorem dX3_settle_64 : decode cX3_settle 64 = .ok (.iconst (-1), 1) := by decide +kernel
theorem dX3_settle_65 : decode cX3_settle 65 = .ok (.if_icmp .eq 51, 3) := by decide +kernel
theorem dX3_settle_68 : decode cX3_settle 68 = .ok (.aload_n 0, 1) := by decide +kernel
theorem dX3_settle_69 : decode cX3_settle 69 = .ok (.iload_n 1, 1) := by decide +kernel
theorem dX3_settle_70 : decode cX3_settle 70 = .ok (.iconst (-1), 1) := by decide +kernel
theorem dX3_settle_71 : decode cX3_settle 71 = .ok (.invokevirtual 117, 3) := by decide +kernel
theorem dX3_settle_74 : decode cX3_settle 74 = .ok (.iconst (-1), 1) := by decide +kernel
theorem dX3_settle_75 : decode cX3_settle 75 = .ok (.if_icmp .eq 41, 3) := by decide +kernel
theorem dX3_settle_78 : decode cX3_settle 78 = .ok (.aload_n 0, 1) := by decide +kernel
theorem dX3_settle_79 : decode cX3_settle 79 = .ok (.getfield 25, 3) := by decide +kernel
theorem dX3_settle_82 : decode cX3_settle 82 = .ok (.bipush 12, 2) := by decide +kernel
theorem dX3_settle_84 : decode cX3_settle 84 = .ok (.iload_n 1, 1) := by decide +kernel
theorem dX3_settle_85 : decode cX3_settle 85 = .ok (.imul, 1) := by decide +kernel
theorem dX3_settle_86 : decode cX3_settle 86 = .ok (.aload_n 0, 1) := by decide +kernel
theorem dX3_settle_87 : decode cX3_settle 87 = .ok (.iload_n 1, 1) := by decide +kernel
theorem dX3_settle_88 : decode cX3_settle 88 = .ok (.iconst (-1), 1) := by decide +kernel
theorem dX3_settle_89 : decode cX3_settle 89 = .ok (.invokevirtual 117, 3) := by decide +kernel
theorem dX3_settle_92 : decode cX3_settle 92 = .ok (.iadd, 1) := by decide +kernel
theorem dX3_settle_93 : decode cX3_settle 93 = .ok (.iload_n 3, 1) := by decide +kernel
theorem dX3_settle_94 : decode cX3_settle 94 = .ok (.iastore, 1) := by decide +kernel
theorem dX3_settle_95 : decode cX3_settle 95 = .ok (.iinc 2 1, 3) := by decide +kernel
theorem dX3_settle_98 : decode cX3_settle 98 = .ok (.aload_n 0, 1) := by decide +kernel
theorem dX3_settle_99 : decode cX3_settle 99 = .ok (.iload_n 1, 1) := by decide +kernel
theorem dX3_settle_100 : decode cX3_settle 100 = .ok (.iconst 0, 1) := by decide +kernel
theorem dX3_settle_101 : decode cX3_settle 101 = .ok (.invokevirtual 184, 3) := by decide +kernel
theorem dX3_settle_104 : decode cX3_settle 104 = .ok (.aload_n 0, 1) := by decide +kernel
theorem dX3_settle_105 : decode cX3_settle 105 = .ok (.iload_n 1, 1) := by decide +kernel
theorem dX3_settle_106 : decode cX3_settle 106 = .ok (.bipush (-2), 2) := by decide +kernel
theorem dX3_settle_108 : decode cX3_settle 108 = .ok (.iconst 0, 1) := by decide +kernel
theorem dX3_settle_109 : decode cX3_settle 109 = .ok (.invokevirtual 193, 3) := by decide +kernel
theorem dX3_settle_112 : decode cX3_settle 112 = .ok (.istore_n 3, 1) := by decide +kernel
theorem dX3_settle_113 : decode cX3_settle 113 = .ok (.goto (-50), 3) := by decide +kernel
theorem dX3_settle_116 : decode cX3_settle 116 = .ok (.iconst 0, 1) := by decide +kernel
theorem dX3_settle_117 : decode cX3_settle 117 = .ok (.istore 4, 2) := by decide +kernel
theorem dX3_settle_119 : decode cX3_settle 119 = .ok (.iload 4, 2) := by decide +kernel
theorem dX3_settle_121 : decode cX3_settle 121 = .ok (.bipush 12, 2) := by decide +kernel
theorem dX3_settle_123 : decode cX3_settle 123 = .ok (.if_icmp .ge 28, 3) := by decide +kernel
theorem dX3_settle_126 : decode cX3_settle 126 = .ok (.aload_n 0, 1) := by decide +kernel
theorem dX3_settle_127 : decode cX3_settle 127 = .ok (.getfield 25, 3) := by decide +kernel
theorem dX3_settle_130 : decode cX3_settle 130 = .ok (.bipush 12, 2) := by decide +kernel
theorem dX3_settle_132 : decode cX3_settle 132 = .ok (.iload_n 1, 1) := by decide +kernel
theorem dX3_settle_133 : decode cX3_settle 133 = .ok (.imul, 1) := by decide +kernel
theorem dX3_settle_134 : decode cX3_settle 134 = .ok (.iload 4, 2) := by decide +kernel
theorem dX3_settle_136 : decode cX3_settle 136 = .ok (.iadd, 1) := by decide +kernel
theorem dX3_settle_137 : decode cX3_settle 137 = .ok (.aload_n 0, 1) := by decide +kernel
theorem dX3_settle_138 : decode cX3_settle 138 = .ok (.getfield 59, 3) := by decide +kernel
theorem dX3_settle_141 : decode cX3_settle 141 = .ok (.iload 4, 2) := by decide +kernel
theorem dX3_settle_143 : decode cX3_settle 143 = .ok (.iaload, 1) := by decide +kernel
theorem dX3_settle_144 : decode cX3_settle 144 = .ok (.iastore, 1) := by decide +kernel
theorem dX3_settle_145 : decode cX3_settle 145 = .ok (.iinc 4 1, 3) := by decide +kernel
theorem dX3_settle_148 : decode cX3_settle 148 = .ok (.goto (-29), 3) := by decide +kernel
theorem dX3_settle_151 : decode cX3_settle 151 = .ok (.iload_n 3, 1) := by decide +kernel
theorem dX3_settle_152 : decode cX3_settle 152 = .ok (.iconst (-1), 1) := by decide +kernel
theorem dX3_settle_153 : decode cX3_settle 153 = .ok (.if_icmp .ne 7, 3) := by decide +kernel
theorem dX3_settle_156 : decode cX3_settle 156 = .ok (.iload_n 2, 1) := by decide +kernel
theorem dX3_settle_157 : decode cX3_settle 157 = .ok (.goto 5, 3) := by decide +kernel
theorem dX3_settle_160 : decode cX3_settle 160 = .ok (.bipush (-2), 2) := by decide +kernel
theorem dX3_settle_162 : decode cX3_settle 162 = .ok (.ireturn, 1) := by decide +kernel
end
section
theorem dL_at_0 : decode cL_at 0 = .ok (.aload 4, 2) := by decide +kernel
theorem dL_at_2 : decode cL_at 2 = .ok (.iconst 0, 1) := by decide +kernel
theorem dL_at_3 : decode cL_at 3 = .ok (.aload_n 0, 1) := by decide +kernel
theorem dL_at_4 : decode cL_at 4 = .ok (.iload_n 1, 1) := by decide +kernel
theorem dL_at_5 : decode cL_at 5 = .ok (.iload_n 2, 1) := by decide +kernel
theorem dL_at_6 : decode cL_at 6 = .ok (.iload_n 3, 1) := by decide +kernel
theorem dL_at_7 : decode cL_at 7 = .ok (.invokevirtual 7, 3) := by decide +kernel
theorem dL_at_10 : decode cL_at 10 = .ok (.i2l, 1) := by decide +kernel
theorem dL_at_11 : decode cL_at 11 = .ok (.lastore, 1) := by decide +kernel
theorem dL_at_12 : decode cL_at 12 = .ok (.goto 7, 3) := by decide +kernel
theorem dL_at_15 : decode cL_at 15 = .ok (.astore 5, 2) := by decide +kernel
theorem dL_at_17 : decode cL_at 17 = .ok (.iconst 1, 1) := by decide +kernel
theorem dL_at_18 : decode cL_at 18 = .ok (.ireturn, 1) := by decide +kernel
theorem dL_at_19 : decode cL_at 19 = .ok (.iconst 0, 1) := by decide +kernel
theorem dL_at_20 : decode cL_at 20 = .ok (.ireturn, 1) := by decide +kernel
theorem dL_work_0 : decode cL_work 0 = .ok (.aload_n 3, 1) := by decide +kernel
theorem dL_work_1 : decode cL_work 1 = .ok (.iconst 0, 1) := by decide +kernel
theorem dL_work_2 : decode cL_work 2 = .ok (.aload_n 0, 1) := by decide +kernel
theorem dL_work_3 : decode cL_work 3 = .ok (.iload_n 1, 1) := by decide +kernel
theorem dL_work_4 : decode cL_work 4 = .ok (.iload_n 2, 1) := by decide +kernel
theorem dL_work_5 : decode cL_work 5 = .ok (.invokevirtual 15, 3) := by decide +kernel
theorem dL_work_8 : decode cL_work 8 = .ok (.i2l, 1) := by decide +kernel
theorem dL_work_9 : decode cL_work 9 = .ok (.lastore, 1) := by decide +kernel
theorem dL_work_10 : decode cL_work 10 = .ok (.goto 7, 3) := by decide +kernel
theorem dL_work_13 : decode cL_work 13 = .ok (.astore 4, 2) := by decide +kernel
theorem dL_work_15 : decode cL_work 15 = .ok (.iconst 1, 1) := by decide +kernel
theorem dL_work_16 : decode cL_work 16 = .ok (.ireturn, 1) := by decide +kernel
theorem dL_work_17 : decode cL_work 17 = .ok (.iconst 0, 1) := by decide +kernel
theorem dL_work_18 : decode cL_work 18 = .ok (.ireturn, 1) := by decide +kernel
theorem dL_law_0 : decode cL_law 0 = .ok (.new 8, 3) := by decide +kernel
theorem dL_law_3 : decode cL_law 3 = .ok (.dup, 1) := by decide +kernel
theorem dL_law_4 : decode cL_law 4 = .ok (.invokespecial 19, 3) := by decide +kernel
theorem dL_law_7 : decode cL_law 7 = .ok (.astore_n 1, 1) := by decide +kernel
theorem dL_law_8 : decode cL_law 8 = .ok (.new 20, 3) := by decide +kernel
theorem dL_law_11 : decode cL_law 11 = .ok (.dup, 1) := by decide +kernel
theorem dL_law_12 : decode cL_law 12 = .ok (.invokespecial 22, 3) := by decide +kernel
theorem dL_law_15 : decode cL_law 15 = .ok (.astore_n 2, 1) := by decide +kernel
theorem dL_law_16 : decode cL_law 16 = .ok (.iconst 1, 1) := by decide +kernel
theorem dL_law_17 : decode cL_law 17 = .ok (.newarray .long, 2) := by decide +kernel
theorem dL_law_19 : decode cL_law 19 = .ok (.astore_n 3, 1) := by decide +kernel
theorem dL_law_20 : decode cL_law 20 = .ok (.iconst 0, 1) := by decide +kernel
theorem dL_law_21 : decode cL_law 21 = .ok (.istore 4, 2) := by decide +kernel
theorem dL_law_23 : decode cL_law 23 = .ok (.iload 4, 2) := by decide +kernel
theorem dL_law_25 : decode cL_law 25 = .ok (.aload_n 0, 1) := by decide +kernel
theorem dL_law_26 : decode cL_law 26 = .ok (.arraylength, 1) := by decide +kernel
theorem dL_law_27 : decode cL_law 27 = .ok (.iconst 5, 1) := by decide +kernel
theorem dL_law_28 : decode cL_law 28 = .ok (.isub, 1) := by decide +kernel
theorem dL_law_29 : decode cL_law 29 = .ok (.if_icmp .gt 1111, 3) := by decide +kernel
theorem dL_law_32 : decode cL_law 32 = .ok (.aload_n 0, 1) := by decide +kernel
theorem dL_law_33 : decode cL_law 33 = .ok (.iload 4, 2) := by decide +kernel
theorem dL_law_35 : decode cL_law 35 = .ok (.iaload, 1) := by decide +kernel
theorem dL_law_36 : decode cL_law 36 = .ok (.bipush 31, 2) := by decide +kernel
theorem dL_law_38 : decode cL_law 38 = .ok (.iand, 1) := by decide +kernel
theorem dL_law_39 : decode cL_law 39 = .ok (.tableswitch 1095 0 23 #[109, 158, 195, 232, 281, 306, 367, 404, 417, 442, 479, 559, 596, 633, 670, 719, 756, 824, 861, 898, 935, 984, 1033, 1070], 109) := by decide +kernel
theorem dL_law_148 : decode cL_law 148 = .ok (.aload_n 1, 1) := by decide +kernel
theorem dL_law_149 : decode cL_law 149 = .ok (.aload_n 0, 1) := by decide +kernel
theorem dL_law_150 : decode cL_law 150 = .ok (.iload 4, 2) := by decide +kernel
theorem dL_law_152 : decode cL_law 152 = .ok (.iconst 1, 1) := by decide +kernel
theorem dL_law_153 : decode cL_law 153 = .ok (.iadd, 1) := by decide +kernel
theorem dL_law_154 : decode cL_law 154 = .ok (.iaload, 1) := by decide +kernel
theorem dL_law_155 : decode cL_law 155 = .ok (.aload_n 0, 1) := by decide +kernel
theorem dL_law_156 : decode cL_law 156 = .ok (.iload 4, 2) := by decide +kernel
theorem dL_law_158 : decode cL_law 158 = .ok (.iconst 2, 1) := by decide +kernel
theorem dL_law_159 : decode cL_law 159 = .ok (.iadd, 1) := by decide +kernel
theorem dL_law_160 : decode cL_law 160 = .ok (.iaload, 1) := by decide +kernel
theorem dL_law_161 : decode cL_law 161 = .ok (.aload_n 0, 1) := by decide +kernel
theorem dL_law_162 : decode cL_law 162 = .ok (.iload 4, 2) := by decide +kernel
theorem dL_law_164 : decode cL_law 164 = .ok (.iconst 3, 1) := by decide +kernel
theorem dL_law_165 : decode cL_law 165 = .ok (.iadd, 1) := by decide +kernel
theorem dL_law_166 : decode cL_law 166 = .ok (.iaload, 1) := by decide +kernel
theorem dL_law_167 : decode cL_law 167 = .ok (.invokevirtual 23, 3) := by decide +kernel
theorem dL_law_170 : decode cL_law 170 = .ok (.aload_n 2, 1) := by decide +kernel
theorem dL_law_171 : decode cL_law 171 = .ok (.aload_n 0, 1) := by decide +kernel
theorem dL_law_172 : decode cL_law 172 = .ok (.iload 4, 2) := by decide +kernel
theorem dL_law_174 : decode cL_law 174 = .ok (.iconst 1, 1) := by decide +kernel
theorem dL_law_175 : decode cL_law 175 = .ok (.iadd, 1) := by decide +kernel
theorem dL_law_176 : decode cL_law 176 = .ok (.iaload, 1) := by decide +kernel
theorem dL_law_177 : decode cL_law 177 = .ok (.aload_n 0, 1) := by decide +kernel
theorem dL_law_178 : decode cL_law 178 = .ok (.iload 4, 2) := by decide +kernel
theorem dL_law_180 : decode cL_law 180 = .ok (.iconst 2, 1) := by decide +kernel
theorem dL_law_181 : decode cL_law 181 = .ok (.iadd, 1) := by decide +kernel
theorem dL_law_182 : decode cL_law 182 = .ok (.iaload, 1) := by decide +kernel
theorem dL_law_183 : decode cL_law 183 = .ok (.aload_n 0, 1) := by decide +kernel
theorem dL_law_184 : decode cL_law 184 = .ok (.iload 4, 2) := by decide +kernel
theorem dL_law_186 : decode cL_law 186 = .ok (.iconst 3, 1) := by decide +kernel
theorem dL_law_187 : decode cL_law 187 = .ok (.iadd, 1) := by decide +kernel
theorem dL_law_188 : decode cL_law 188 = .ok (.iaload, 1) := by decide +kernel
theorem dL_law_189 : decode cL_law 189 = .ok (.invokevirtual 26, 3) := by decide +kernel
theorem dL_law_192 : decode cL_law 192 = .ok (.if_icmp .eq 942, 3) := by decide +kernel
theorem dL_law_195 : decode cL_law 195 = .ok (.iconst 0, 1) := by decide +kernel
theorem dL_law_196 : decode cL_law 196 = .ok (.ireturn, 1) := by decide +kernel
theorem dL_law_197 : decode cL_law 197 = .ok (.aload_n 1, 1) := by decide +kernel
theorem dL_law_198 : decode cL_law 198 = .ok (.aload_n 0, 1) := by decide +kernel
theorem dL_law_199 : decode cL_law 199 = .ok (.iload 4, 2) := by decide +kernel
theorem dL_law_201 : decode cL_law 201 = .ok (.iconst 1, 1) := by decide +kernel
theorem dL_law_202 : decode cL_law 202 = .ok (.iadd, 1) := by decide +kernel
theorem dL_law_203 : decode cL_law 203 = .ok (.iaload, 1) := by decide +kernel
theorem dL_law_204 : decode cL_law 204 = .ok (.aload_n 0, 1) := by decide +kernel
theorem dL_law_205 : decode cL_law 205 = .ok (.iload 4, 2) := by decide +kernel
theorem dL_law_207 : decode cL_law 207 = .ok (.iconst 2, 1) := by decide +kernel
theorem dL_law_208 : decode cL_law 208 = .ok (.iadd, 1) := by decide +kernel
theorem dL_law_209 : decode cL_law 209 = .ok (.iaload, 1) := by decide +kernel
theorem dL_law_210 : decode cL_law 210 = .ok (.invokevirtual 27, 3) := by decide +kernel
theorem dL_law_213 : decode cL_law 213 = .ok (.aload_n 2, 1) := by decide +kernel
theorem dL_law_214 : decode cL_law 214 = .ok (.aload_n 0, 1) := by decide +kernel
theorem dL_law_215 : decode cL_law 215 = .ok (.iload 4, 2) := by decide +kernel
theorem dL_law_217 : decode cL_law 217 = .ok (.iconst 1, 1) := by decide +kernel
theorem dL_law_218 : decode cL_law 218 = .ok (.iadd, 1) := by decide +kernel
theorem dL_law_219 : decode cL_law 219 = .ok (.iaload, 1) := by decide +kernel
theorem dL_law_220 : decode cL_law 220 = .ok (.aload_n 0, 1) := by decide +kernel
theorem dL_law_221 : decode cL_law 221 = .ok (.iload 4, 2) := by decide +kernel
theorem dL_law_223 : decode cL_law 223 = .ok (.iconst 2, 1) := by decide +kernel
theorem dL_law_224 : decode cL_law 224 = .ok (.iadd, 1) := by decide +kernel
theorem dL_law_225 : decode cL_law 225 = .ok (.iaload, 1) := by decide +kernel
theorem dL_law_226 : decode cL_law 226 = .ok (.invokevirtual 31, 3) := by decide +kernel
theorem dL_law_229 : decode cL_law 229 = .ok (.if_icmp .eq 905, 3) := by decide +kernel
theorem dL_law_232 : decode cL_law 232 = .ok (.iconst 0, 1) := by decide +kernel
theorem dL_law_233 : decode cL_law 233 = .ok (.ireturn, 1) := by decide +kernel
theorem dL_law_234 : decode cL_law 234 = .ok (.aload_n 1, 1) := by decide +kernel
theorem dL_law_235 : decode cL_law 235 = .ok (.aload_n 0, 1) := by decide +kernel
theorem dL_law_236 : decode cL_law 236 = .ok (.iload 4, 2) := by decide +kernel
theorem dL_law_238 : decode cL_law 238 = .ok (.iconst 1, 1) := by decide +kernel
theorem dL_law_239 : decode cL_law 239 = .ok (.iadd, 1) := by decide +kernel
theorem dL_law_240 : decode cL_law 240 = .ok (.iaload, 1) := by decide +kernel
theorem dL_law_241 : decode cL_law 241 = .ok (.aload_n 0, 1) := by decide +kernel
theorem dL_law_242 : decode cL_law 242 = .ok (.iload 4, 2) := by decide +kernel
theorem dL_law_244 : decode cL_law 244 = .ok (.iconst 2, 1) := by decide +kernel
theorem dL_law_245 : decode cL_law 245 = .ok (.iadd, 1) := by decide +kernel
theorem dL_law_246 : decode cL_law 246 = .ok (.iaload, 1) := by decide +kernel
theorem dL_law_247 : decode cL_law 247 = .ok (.invokevirtual 32, 3) := by decide +kernel
theorem dL_law_250 : decode cL_law 250 = .ok (.aload_n 2, 1) := by decide +kernel
theorem dL_law_251 : decode cL_law 251 = .ok (.aload_n 0, 1) := by decide +kernel
theorem dL_law_252 : decode cL_law 252 = .ok (.iload 4, 2) := by decide +kernel
theorem dL_law_254 : decode cL_law 254 = .ok (.iconst 1, 1) := by decide +kernel
theorem dL_law_255 : decode cL_law 255 = .ok (.iadd, 1) := by decide +kernel
theorem dL_law_256 : decode cL_law 256 = .ok (.iaload, 1) := by decide +kernel
theorem dL_law_257 : decode cL_law 257 = .ok (.aload_n 0, 1) := by decide +kernel
theorem dL_law_258 : decode cL_law 258 = .ok (.iload 4, 2) := by decide +kernel
theorem dL_law_260 : decode cL_law 260 = .ok (.iconst 2, 1) := by decide +kernel
theorem dL_law_261 : decode cL_law 261 = .ok (.iadd, 1) := by decide +kernel
theorem dL_law_262 : decode cL_law 262 = .ok (.iaload, 1) := by decide +kernel
theorem dL_law_263 : decode cL_law 263 = .ok (.invokevirtual 35, 3) := by decide +kernel
theorem dL_law_266 : decode cL_law 266 = .ok (.if_icmp .eq 868, 3) := by decide +kernel
theorem dL_law_269 : decode cL_law 269 = .ok (.iconst 0, 1) := by decide +kernel
theorem dL_law_270 : decode cL_law 270 = .ok (.ireturn, 1) := by decide +kernel
theorem dL_law_271 : decode cL_law 271 = .ok (.aload_n 1, 1) := by decide +kernel
theorem dL_law_272 : decode cL_law 272 = .ok (.aload_n 0, 1) := by decide +kernel
theorem dL_law_273 : decode cL_law 273 = .ok (.iload 4, 2) := by decide +kernel
theorem dL_law_275 : decode cL_law 275 = .ok (.iconst 1, 1) := by decide +kernel
theorem dL_law_276 : decode cL_law 276 = .ok (.iadd, 1) := by decide +kernel
theorem dL_law_277 : decode cL_law 277 = .ok (.iaload, 1) := by decide +kernel
theorem dL_law_278 : decode cL_law 278 = .ok (.aload_n 0, 1) := by decide +kernel
theorem dL_law_279 : decode cL_law 279 = .ok (.iload 4, 2) := by decide +kernel
theorem dL_law_281 : decode cL_law 281 = .ok (.iconst 2, 1) := by decide +kernel
theorem dL_law_282 : decode cL_law 282 = .ok (.iadd, 1) := by decide +kernel
theorem dL_law_283 : decode cL_law 283 = .ok (.iaload, 1) := by decide +kernel
theorem dL_law_284 : decode cL_law 284 = .ok (.aload_n 0, 1) := by decide +kernel
theorem dL_law_285 : decode cL_law 285 = .ok (.iload 4, 2) := by decide +kernel
theorem dL_law_287 : decode cL_law 287 = .ok (.iconst 3, 1) := by decide +kernel
theorem dL_law_288 : decode cL_law 288 = .ok (.iadd, 1) := by decide +kernel
theorem dL_law_289 : decode cL_law 289 = .ok (.iaload, 1) := by decide +kernel
theorem dL_law_290 : decode cL_law 290 = .ok (.invokevirtual 36, 3) := by decide +kernel
theorem dL_law_293 : decode cL_law 293 = .ok (.aload_n 2, 1) := by decide +kernel
theorem dL_law_294 : decode cL_law 294 = .ok (.aload_n 0, 1) := by decide +kernel
theorem dL_law_295 : decode cL_law 295 = .ok (.iload 4, 2) := by decide +kernel
theorem dL_law_297 : decode cL_law 297 = .ok (.iconst 1, 1) := by decide +kernel
theorem dL_law_298 : decode cL_law 298 = .ok (.iadd, 1) := by decide +kernel
theorem dL_law_299 : decode cL_law 299 = .ok (.iaload, 1) := by decide +kernel
theorem dL_law_300 : decode cL_law 300 = .ok (.aload_n 0, 1) := by decide +kernel
theorem dL_law_301 : decode cL_law 301 = .ok (.iload 4, 2) := by decide +kernel
theorem dL_law_303 : decode cL_law 303 = .ok (.iconst 2, 1) := by decide +kernel
theorem dL_law_304 : decode cL_law 304 = .ok (.iadd, 1) := by decide +kernel
theorem dL_law_305 : decode cL_law 305 = .ok (.iaload, 1) := by decide +kernel
theorem dL_law_306 : decode cL_law 306 = .ok (.aload_n 0, 1) := by decide +kernel
theorem dL_law_307 : decode cL_law 307 = .ok (.iload 4, 2) := by decide +kernel
theorem dL_law_309 : decode cL_law 309 = .ok (.iconst 3, 1) := by decide +kernel
theorem dL_law_310 : decode cL_law 310 = .ok (.iadd, 1) := by decide +kernel
theorem dL_law_311 : decode cL_law 311 = .ok (.iaload, 1) := by decide +kernel
theorem dL_law_312 : decode cL_law 312 = .ok (.invokevirtual 39, 3) := by decide +kernel
theorem dL_law_315 : decode cL_law 315 = .ok (.if_icmp .eq 819, 3) := by decide +kernel
theorem dL_law_318 : decode cL_law 318 = .ok (.iconst 0, 1) := by decide +kernel
theorem dL_law_319 : decode cL_law 319 = .ok (.ireturn, 1) := by decide +kernel
theorem dL_law_320 : decode cL_law 320 = .ok (.aload_n 1, 1) := by decide +kernel
theorem dL_law_321 : decode cL_law 321 = .ok (.aload_n 0, 1) := by decide +kernel
theorem dL_law_322 : decode cL_law 322 = .ok (.iload 4, 2) := by decide +kernel
theorem dL_law_324 : decode cL_law 324 = .ok (.iconst 1, 1) := by decide +kernel
theorem dL_law_325 : decode cL_law 325 = .ok (.iadd, 1) := by decide +kernel
theorem dL_law_326 : decode cL_law 326 = .ok (.iaload, 1) := by decide +kernel
theorem dL_law_327 : decode cL_law 327 = .ok (.invokevirtual 40, 3) := by decide +kernel
theorem dL_law_330 : decode cL_law 330 = .ok (.aload_n 2, 1) := by decide +kernel
theorem dL_law_331 : decode cL_law 331 = .ok (.aload_n 0, 1) := by decide +kernel
theorem dL_law_332 : decode cL_law 332 = .ok (.iload 4, 2) := by decide +kernel
theorem dL_law_334 : decode cL_law 334 = .ok (.iconst 1, 1) := by decide +kernel
theorem dL_law_335 : decode cL_law 335 = .ok (.iadd, 1) := by decide +kernel
theorem dL_law_336 : decode cL_law 336 = .ok (.iaload, 1) := by decide +kernel
theorem dL_law_337 : decode cL_law 337 = .ok (.invokevirtual 44, 3) := by decide +kernel
theorem dL_law_340 : decode cL_law 340 = .ok (.if_icmp .eq 794, 3) := by decide +kernel
theorem dL_law_343 : decode cL_law 343 = .ok (.iconst 0, 1) := by decide +kernel
theorem dL_law_344 : decode cL_law 344 = .ok (.ireturn, 1) := by decide +kernel
theorem dL_law_345 : decode cL_law 345 = .ok (.aload_n 1, 1) := by decide +kernel
theorem dL_law_346 : decode cL_law 346 = .ok (.aload_n 0, 1) := by decide +kernel
theorem dL_law_347 : decode cL_law 347 = .ok (.iload 4, 2) := by decide +kernel
theorem dL_law_349 : decode cL_law 349 = .ok (.iconst 1, 1) := by decide +kernel
theorem dL_law_350 : decode cL_law 350 = .ok (.iadd, 1) := by decide +kernel
theorem dL_law_351 : decode cL_law 351 = .ok (.iaload, 1) := by decide +kernel
theorem dL_law_352 : decode cL_law 352 = .ok (.aload_n 0, 1) := by decide +kernel
theorem dL_law_353 : decode cL_law 353 = .ok (.iload 4, 2) := by decide +kernel
theorem dL_law_355 : decode cL_law 355 = .ok (.iconst 2, 1) := by decide +kernel
theorem dL_law_356 : decode cL_law 356 = .ok (.iadd, 1) := by decide +kernel
theorem dL_law_357 : decode cL_law 357 = .ok (.iaload, 1) := by decide +kernel
theorem dL_law_358 : decode cL_law 358 = .ok (.aload_n 0, 1) := by decide +kernel
theorem dL_law_359 : decode cL_law 359 = .ok (.iload 4, 2) := by decide +kernel
theorem dL_law_361 : decode cL_law 361 = .ok (.iconst 3, 1) := by decide +kernel
theorem dL_law_362 : decode cL_law 362 = .ok (.iadd, 1) := by decide +kernel
theorem dL_law_363 : decode cL_law 363 = .ok (.iaload, 1) := by decide +kernel
theorem dL_law_364 : decode cL_law 364 = .ok (.aload_n 0, 1) := by decide +kernel
theorem dL_law_365 : decode cL_law 365 = .ok (.iload 4, 2) := by decide +kernel
theorem dL_law_367 : decode cL_law 367 = .ok (.iconst 4, 1) := by decide +kernel
theorem dL_law_368 : decode cL_law 368 = .ok (.iadd, 1) := by decide +kernel
theorem dL_law_369 : decode cL_law 369 = .ok (.iaload, 1) := by decide +kernel
theorem dL_law_370 : decode cL_law 370 = .ok (.invokevirtual 45, 3) := by decide +kernel
theorem dL_law_373 : decode cL_law 373 = .ok (.aload_n 2, 1) := by decide +kernel
theorem dL_law_374 : decode cL_law 374 = .ok (.aload_n 0, 1) := by decide +kernel
theorem dL_law_375 : decode cL_law 375 = .ok (.iload 4, 2) := by decide +kernel
theorem dL_law_377 : decode cL_law 377 = .ok (.iconst 1, 1) := by decide +kernel
theorem dL_law_378 : decode cL_law 378 = .ok (.iadd, 1) := by decide +kernel
theorem dL_law_379 : decode cL_law 379 = .ok (.iaload, 1) := by decide +kernel
theorem dL_law_380 : decode cL_law 380 = .ok (.aload_n 0, 1) := by decide +kernel
theorem dL_law_381 : decode cL_law 381 = .ok (.iload 4, 2) := by decide +kernel
theorem dL_law_383 : decode cL_law 383 = .ok (.iconst 2, 1) := by decide +kernel
theorem dL_law_384 : decode cL_law 384 = .ok (.iadd, 1) := by decide +kernel
theorem dL_law_385 : decode cL_law 385 = .ok (.iaload, 1) := by decide +kernel
theorem dL_law_386 : decode cL_law 386 = .ok (.aload_n 0, 1) := by decide +kernel
theorem dL_law_387 : decode cL_law 387 = .ok (.iload 4, 2) := by decide +kernel
theorem dL_law_389 : decode cL_law 389 = .ok (.iconst 3, 1) := by decide +kernel
theorem dL_law_390 : decode cL_law 390 = .ok (.iadd, 1) := by decide +kernel
theorem dL_law_391 : decode cL_law 391 = .ok (.iaload, 1) := by decide +kernel
theorem dL_law_392 : decode cL_law 392 = .ok (.aload_n 0, 1) := by decide +kernel
theorem dL_law_393 : decode cL_law 393 = .ok (.iload 4, 2) := by decide +kernel
theorem dL_law_395 : decode cL_law 395 = .ok (.iconst 4, 1) := by decide +kernel
theorem dL_law_396 : decode cL_law 396 = .ok (.iadd, 1) := by decide +kernel
theorem dL_law_397 : decode cL_law 397 = .ok (.iaload, 1) := by decide +kernel
theorem dL_law_398 : decode cL_law 398 = .ok (.invokevirtual 49, 3) := by decide +kernel
theorem dL_law_401 : decode cL_law 401 = .ok (.if_icmp .eq 733, 3) := by decide +kernel
theorem dL_law_404 : decode cL_law 404 = .ok (.iconst 0, 1) := by decide +kernel
theorem dL_law_405 : decode cL_law 405 = .ok (.ireturn, 1) := by decide +kernel
theorem dL_law_406 : decode cL_law 406 = .ok (.aload_n 1, 1) := by decide +kernel
theorem dL_law_407 : decode cL_law 407 = .ok (.aload_n 0, 1) := by decide +kernel
theorem dL_law_408 : decode cL_law 408 = .ok (.iload 4, 2) := by decide +kernel
theorem dL_law_410 : decode cL_law 410 = .ok (.iconst 1, 1) := by decide +kernel
theorem dL_law_411 : decode cL_law 411 = .ok (.iadd, 1) := by decide +kernel
theorem dL_law_412 : decode cL_law 412 = .ok (.iaload, 1) := by decide +kernel
theorem dL_law_413 : decode cL_law 413 = .ok (.aload_n 0, 1) := by decide +kernel
theorem dL_law_414 : decode cL_law 414 = .ok (.iload 4, 2) := by decide +kernel
theorem dL_law_416 : decode cL_law 416 = .ok (.iconst 2, 1) := by decide +kernel
theorem dL_law_417 : decode cL_law 417 = .ok (.iadd, 1) := by decide +kernel
theorem dL_law_418 : decode cL_law 418 = .ok (.iaload, 1) := by decide +kernel
theorem dL_law_419 : decode cL_law 419 = .ok (.invokevirtual 50, 3) := by decide +kernel
theorem dL_law_422 : decode cL_law 422 = .ok (.aload_n 2, 1) := by decide +kernel
theorem dL_law_423 : decode cL_law 423 = .ok (.aload_n 0, 1) := by decide +kernel
theorem dL_law_424 : decode cL_law 424 = .ok (.iload 4, 2) := by decide +kernel
theorem dL_law_426 : decode cL_law 426 = .ok (.iconst 1, 1) := by decide +kernel
theorem dL_law_427 : decode cL_law 427 = .ok (.iadd, 1) := by decide +kernel
theorem dL_law_428 : decode cL_law 428 = .ok (.iaload, 1) := by decide +kernel
theorem dL_law_429 : decode cL_law 429 = .ok (.aload_n 0, 1) := by decide +kernel
theorem dL_law_430 : decode cL_law 430 = .ok (.iload 4, 2) := by decide +kernel
theorem dL_law_432 : decode cL_law 432 = .ok (.iconst 2, 1) := by decide +kernel
theorem dL_law_433 : decode cL_law 433 = .ok (.iadd, 1) := by decide +kernel
theorem dL_law_434 : decode cL_law 434 = .ok (.iaload, 1) := by decide +kernel
theorem dL_law_435 : decode cL_law 435 = .ok (.invokevirtual 53, 3) := by decide +kernel
theorem dL_law_438 : decode cL_law 438 = .ok (.if_icmp .eq 696, 3) := by decide +kernel
theorem dL_law_441 : decode cL_law 441 = .ok (.iconst 0, 1) := by decide +kernel
theorem dL_law_442 : decode cL_law 442 = .ok (.ireturn, 1) := by decide +kernel
theorem dL_law_443 : decode cL_law 443 = .ok (.aload_n 1, 1) := by decide +kernel
theorem dL_law_444 : decode cL_law 444 = .ok (.invokevirtual 54, 3) := by decide +kernel
theorem dL_law_447 : decode cL_law 447 = .ok (.aload_n 2, 1) := by decide +kernel
theorem dL_law_448 : decode cL_law 448 = .ok (.invokevirtual 58, 3) := by decide +kernel
theorem dL_law_451 : decode cL_law 451 = .ok (.if_icmp .eq 683, 3) := by decide +kernel
theorem dL_law_454 : decode cL_law 454 = .ok (.iconst 0, 1) := by decide +kernel
theorem dL_law_455 : decode cL_law 455 = .ok (.ireturn, 1) := by decide +kernel
theorem dL_law_456 : decode cL_law 456 = .ok (.aload_n 1, 1) := by decide +kernel
theorem dL_law_457 : decode cL_law 457 = .ok (.aload_n 0, 1) := by decide +kernel
theorem dL_law_458 : decode cL_law 458 = .ok (.iload 4, 2) := by decide +kernel
theorem dL_law_460 : decode cL_law 460 = .ok (.iconst 1, 1) := by decide +kernel
theorem dL_law_461 : decode cL_law 461 = .ok (.iadd, 1) := by decide +kernel
theorem dL_law_462 : decode cL_law 462 = .ok (.iaload, 1) := by decide +kernel
theorem dL_law_463 : decode cL_law 463 = .ok (.invokevirtual 59, 3) := by decide +kernel
theorem dL_law_466 : decode cL_law 466 = .ok (.aload_n 2, 1) := by decide +kernel
theorem dL_law_467 : decode cL_law 467 = .ok (.aload_n 0, 1) := by decide +kernel
theorem dL_law_468 : decode cL_law 468 = .ok (.iload 4, 2) := by decide +kernel
theorem dL_law_470 : decode cL_law 470 = .ok (.iconst 1, 1) := by decide +kernel
theorem dL_law_471 : decode cL_law 471 = .ok (.iadd, 1) := by decide +kernel
theorem dL_law_472 : decode cL_law 472 = .ok (.iaload, 1) := by decide +kernel
theorem dL_law_473 : decode cL_law 473 = .ok (.invokevirtual 62, 3) := by decide +kernel
theorem dL_law_476 : decode cL_law 476 = .ok (.if_icmp .eq 658, 3) := by decide +kernel
theorem dL_law_479 : decode cL_law 479 = .ok (.iconst 0, 1) := by decide +kernel
theorem dL_law_480 : decode cL_law 480 = .ok (.ireturn, 1) := by decide +kernel
theorem dL_law_481 : decode cL_law 481 = .ok (.aload_n 1, 1) := by decide +kernel
theorem dL_law_482 : decode cL_law 482 = .ok (.aload_n 0, 1) := by decide +kernel
theorem dL_law_483 : decode cL_law 483 = .ok (.iload 4, 2) := by decide +kernel
theorem dL_law_485 : decode cL_law 485 = .ok (.iconst 1, 1) := by decide +kernel
theorem dL_law_486 : decode cL_law 486 = .ok (.iadd, 1) := by decide +kernel
theorem dL_law_487 : decode cL_law 487 = .ok (.iaload, 1) := by decide +kernel
theorem dL_law_488 : decode cL_law 488 = .ok (.aload_n 0, 1) := by decide +kernel
theorem dL_law_489 : decode cL_law 489 = .ok (.iload 4, 2) := by decide +kernel
theorem dL_law_491 : decode cL_law 491 = .ok (.iconst 2, 1) := by decide +kernel
theorem dL_law_492 : decode cL_law 492 = .ok (.iadd, 1) := by decide +kernel
theorem dL_law_493 : decode cL_law 493 = .ok (.iaload, 1) := by decide +kernel
theorem dL_law_494 : decode cL_law 494 = .ok (.invokevirtual 63, 3) := by decide +kernel
theorem dL_law_497 : decode cL_law 497 = .ok (.aload_n 2, 1) := by decide +kernel
theorem dL_law_498 : decode cL_law 498 = .ok (.aload_n 0, 1) := by decide +kernel
theorem dL_law_499 : decode cL_law 499 = .ok (.iload 4, 2) := by decide +kernel
theorem dL_law_501 : decode cL_law 501 = .ok (.iconst 1, 1) := by decide +kernel
theorem dL_law_502 : decode cL_law 502 = .ok (.iadd, 1) := by decide +kernel
theorem dL_law_503 : decode cL_law 503 = .ok (.iaload, 1) := by decide +kernel
theorem dL_law_504 : decode cL_law 504 = .ok (.aload_n 0, 1) := by decide +kernel
theorem dL_law_505 : decode cL_law 505 = .ok (.iload 4, 2) := by decide +kernel
theorem dL_law_507 : decode cL_law 507 = .ok (.iconst 2, 1) := by decide +kernel
theorem dL_law_508 : decode cL_law 508 = .ok (.iadd, 1) := by decide +kernel
theorem dL_law_509 : decode cL_law 509 = .ok (.iaload, 1) := by decide +kernel
theorem dL_law_510 : decode cL_law 510 = .ok (.invokevirtual 66, 3) := by decide +kernel
theorem dL_law_513 : decode cL_law 513 = .ok (.if_icmp .eq 621, 3) := by decide +kernel
theorem dL_law_516 : decode cL_law 516 = .ok (.iconst 0, 1) := by decide +kernel
theorem dL_law_517 : decode cL_law 517 = .ok (.ireturn, 1) := by decide +kernel
theorem dL_law_518 : decode cL_law 518 = .ok (.aload_n 1, 1) := by decide +kernel
theorem dL_law_519 : decode cL_law 519 = .ok (.aload_n 0, 1) := by decide +kernel
theorem dL_law_520 : decode cL_law 520 = .ok (.iload 4, 2) := by decide +kernel
theorem dL_law_522 : decode cL_law 522 = .ok (.iconst 1, 1) := by decide +kernel
theorem dL_law_523 : decode cL_law 523 = .ok (.iadd, 1) := by decide +kernel
theorem dL_law_524 : decode cL_law 524 = .ok (.iaload, 1) := by decide +kernel
theorem dL_law_525 : decode cL_law 525 = .ok (.aload_n 0, 1) := by decide +kernel
theorem dL_law_526 : decode cL_law 526 = .ok (.iload 4, 2) := by decide +kernel
theorem dL_law_528 : decode cL_law 528 = .ok (.iconst 2, 1) := by decide +kernel
theorem dL_law_529 : decode cL_law 529 = .ok (.iadd, 1) := by decide +kernel
theorem dL_law_530 : decode cL_law 530 = .ok (.iaload, 1) := by decide +kernel
theorem dL_law_531 : decode cL_law 531 = .ok (.aload_n 0, 1) := by decide +kernel
theorem dL_law_532 : decode cL_law 532 = .ok (.iload 4, 2) := by decide +kernel
theorem dL_law_534 : decode cL_law 534 = .ok (.iconst 3, 1) := by decide +kernel
theorem dL_law_535 : decode cL_law 535 = .ok (.iadd, 1) := by decide +kernel
theorem dL_law_536 : decode cL_law 536 = .ok (.iaload, 1) := by decide +kernel
theorem dL_law_537 : decode cL_law 537 = .ok (.aload_n 3, 1) := by decide +kernel
theorem dL_law_538 : decode cL_law 538 = .ok (.invokestatic 67, 3) := by decide +kernel
theorem dL_law_541 : decode cL_law 541 = .ok (.istore 5, 2) := by decide +kernel
theorem dL_law_543 : decode cL_law 543 = .ok (.aload_n 2, 1) := by decide +kernel
theorem dL_law_544 : decode cL_law 544 = .ok (.aload_n 0, 1) := by decide +kernel
theorem dL_law_545 : decode cL_law 545 = .ok (.iload 4, 2) := by decide +kernel
theorem dL_law_547 : decode cL_law 547 = .ok (.iconst 1, 1) := by decide +kernel
theorem dL_law_548 : decode cL_law 548 = .ok (.iadd, 1) := by decide +kernel
theorem dL_law_549 : decode cL_law 549 = .ok (.iaload, 1) := by decide +kernel
theorem dL_law_550 : decode cL_law 550 = .ok (.aload_n 0, 1) := by decide +kernel
theorem dL_law_551 : decode cL_law 551 = .ok (.iload 4, 2) := by decide +kernel
theorem dL_law_553 : decode cL_law 553 = .ok (.iconst 2, 1) := by decide +kernel
theorem dL_law_554 : decode cL_law 554 = .ok (.iadd, 1) := by decide +kernel
theorem dL_law_555 : decode cL_law 555 = .ok (.iaload, 1) := by decide +kernel
theorem dL_law_556 : decode cL_law 556 = .ok (.aload_n 0, 1) := by decide +kernel
theorem dL_law_557 : decode cL_law 557 = .ok (.iload 4, 2) := by decide +kernel
theorem dL_law_559 : decode cL_law 559 = .ok (.iconst 3, 1) := by decide +kernel
theorem dL_law_560 : decode cL_law 560 = .ok (.iadd, 1) := by decide +kernel
theorem dL_law_561 : decode cL_law 561 = .ok (.iaload, 1) := by decide +kernel
theorem dL_law_562 : decode cL_law 562 = .ok (.invokevirtual 72, 3) := by decide +kernel
theorem dL_law_565 : decode cL_law 565 = .ok (.istore 6, 2) := by decide +kernel
theorem dL_law_567 : decode cL_law 567 = .ok (.aload_n 2, 1) := by decide +kernel
theorem dL_law_568 : decode cL_law 568 = .ok (.invokevirtual 73, 3) := by decide +kernel
theorem dL_law_571 : decode cL_law 571 = .ok (.iload 5, 2) := by decide +kernel
theorem dL_law_573 : decode cL_law 573 = .ok (.if_icmp .eq 5, 3) := by decide +kernel
theorem dL_law_576 : decode cL_law 576 = .ok (.iconst 0, 1) := by decide +kernel
theorem dL_law_577 : decode cL_law 577 = .ok (.ireturn, 1) := by decide +kernel
theorem dL_law_578 : decode cL_law 578 = .ok (.iload 5, 2) := by decide +kernel
theorem dL_law_580 : decode cL_law 580 = .ok (.ifCond .ne 15, 3) := by decide +kernel
theorem dL_law_583 : decode cL_law 583 = .ok (.aload_n 3, 1) := by decide +kernel
theorem dL_law_584 : decode cL_law 584 = .ok (.iconst 0, 1) := by decide +kernel
theorem dL_law_585 : decode cL_law 585 = .ok (.laload, 1) := by decide +kernel
theorem dL_law_586 : decode cL_law 586 = .ok (.iload 6, 2) := by decide +kernel
theorem dL_law_588 : decode cL_law 588 = .ok (.i2l, 1) := by decide +kernel
theorem dL_law_589 : decode cL_law 589 = .ok (.lcmp, 1) := by decide +kernel
theorem dL_law_590 : decode cL_law 590 = .ok (.ifCond .eq 5, 3) := by decide +kernel
theorem dL_law_593 : decode cL_law 593 = .ok (.iconst 0, 1) := by decide +kernel
theorem dL_law_594 : decode cL_law 594 = .ok (.ireturn, 1) := by decide +kernel
theorem dL_law_595 : decode cL_law 595 = .ok (.goto 539, 3) := by decide +kernel
theorem dL_law_598 : decode cL_law 598 = .ok (.aload_n 1, 1) := by decide +kernel
theorem dL_law_599 : decode cL_law 599 = .ok (.aload_n 0, 1) := by decide +kernel
theorem dL_law_600 : decode cL_law 600 = .ok (.iload 4, 2) := by decide +kernel
theorem dL_law_602 : decode cL_law 602 = .ok (.iconst 1, 1) := by decide +kernel
theorem dL_law_603 : decode cL_law 603 = .ok (.iadd, 1) := by decide +kernel
theorem dL_law_604 : decode cL_law 604 = .ok (.iaload, 1) := by decide +kernel
theorem dL_law_605 : decode cL_law 605 = .ok (.aload_n 0, 1) := by decide +kernel
theorem dL_law_606 : decode cL_law 606 = .ok (.iload 4, 2) := by decide +kernel
theorem dL_law_608 : decode cL_law 608 = .ok (.iconst 2, 1) := by decide +kernel
theorem dL_law_609 : decode cL_law 609 = .ok (.iadd, 1) := by decide +kernel
theorem dL_law_610 : decode cL_law 610 = .ok (.iaload, 1) := by decide +kernel
theorem dL_law_611 : decode cL_law 611 = .ok (.invokevirtual 76, 3) := by decide +kernel
theorem dL_law_614 : decode cL_law 614 = .ok (.aload_n 2, 1) := by decide +kernel
theorem dL_law_615 : decode cL_law 615 = .ok (.aload_n 0, 1) := by decide +kernel
theorem dL_law_616 : decode cL_law 616 = .ok (.iload 4, 2) := by decide +kernel
theorem dL_law_618 : decode cL_law 618 = .ok (.iconst 1, 1) := by decide +kernel
theorem dL_law_619 : decode cL_law 619 = .ok (.iadd, 1) := by decide +kernel
theorem dL_law_620 : decode cL_law 620 = .ok (.iaload, 1) := by decide +kernel
theorem dL_law_621 : decode cL_law 621 = .ok (.aload_n 0, 1) := by decide +kernel
theorem dL_law_622 : decode cL_law 622 = .ok (.iload 4, 2) := by decide +kernel
theorem dL_law_624 : decode cL_law 624 = .ok (.iconst 2, 1) := by decide +kernel
theorem dL_law_625 : decode cL_law 625 = .ok (.iadd, 1) := by decide +kernel
theorem dL_law_626 : decode cL_law 626 = .ok (.iaload, 1) := by decide +kernel
theorem dL_law_627 : decode cL_law 627 = .ok (.invokevirtual 79, 3) := by decide +kernel
theorem dL_law_630 : decode cL_law 630 = .ok (.if_icmp .eq 504, 3) := by decide +kernel
theorem dL_law_633 : decode cL_law 633 = .ok (.iconst 0, 1) := by decide +kernel
theorem dL_law_634 : decode cL_law 634 = .ok (.ireturn, 1) := by decide +kernel
theorem dL_law_635 : decode cL_law 635 = .ok (.aload_n 1, 1) := by decide +kernel
theorem dL_law_636 : decode cL_law 636 = .ok (.aload_n 0, 1) := by decide +kernel
theorem dL_law_637 : decode cL_law 637 = .ok (.iload 4, 2) := by decide +kernel
theorem dL_law_639 : decode cL_law 639 = .ok (.iconst 1, 1) := by decide +kernel
theorem dL_law_640 : decode cL_law 640 = .ok (.iadd, 1) := by decide +kernel
theorem dL_law_641 : decode cL_law 641 = .ok (.iaload, 1) := by decide +kernel
theorem dL_law_642 : decode cL_law 642 = .ok (.aload_n 0, 1) := by decide +kernel
theorem dL_law_643 : decode cL_law 643 = .ok (.iload 4, 2) := by decide +kernel
theorem dL_law_645 : decode cL_law 645 = .ok (.iconst 2, 1) := by decide +kernel
theorem dL_law_646 : decode cL_law 646 = .ok (.iadd, 1) := by decide +kernel
theorem dL_law_647 : decode cL_law 647 = .ok (.iaload, 1) := by decide +kernel
theorem dL_law_648 : decode cL_law 648 = .ok (.invokevirtual 80, 3) := by decide +kernel
theorem dL_law_651 : decode cL_law 651 = .ok (.aload_n 2, 1) := by decide +kernel
theorem dL_law_652 : decode cL_law 652 = .ok (.aload_n 0, 1) := by decide +kernel
theorem dL_law_653 : decode cL_law 653 = .ok (.iload 4, 2) := by decide +kernel
theorem dL_law_655 : decode cL_law 655 = .ok (.iconst 1, 1) := by decide +kernel
theorem dL_law_656 : decode cL_law 656 = .ok (.iadd, 1) := by decide +kernel
theorem dL_law_657 : decode cL_law 657 = .ok (.iaload, 1) := by decide +kernel
theorem dL_law_658 : decode cL_law 658 = .ok (.aload_n 0, 1) := by decide +kernel
theorem dL_law_659 : decode cL_law 659 = .ok (.iload 4, 2) := by decide +kernel
theorem dL_law_661 : decode cL_law 661 = .ok (.iconst 2, 1) := by decide +kernel
theorem dL_law_662 : decode cL_law 662 = .ok (.iadd, 1) := by decide +kernel
theorem dL_law_663 : decode cL_law 663 = .ok (.iaload, 1) := by decide +kernel
theorem dL_law_664 : decode cL_law 664 = .ok (.invokevirtual 83, 3) := by decide +kernel
theorem dL_law_667 : decode cL_law 667 = .ok (.if_icmp .eq 467, 3) := by decide +kernel
theorem dL_law_670 : decode cL_law 670 = .ok (.iconst 0, 1) := by decide +kernel
theorem dL_law_671 : decode cL_law 671 = .ok (.ireturn, 1) := by decide +kernel
theorem dL_law_672 : decode cL_law 672 = .ok (.aload_n 1, 1) := by decide +kernel
theorem dL_law_673 : decode cL_law 673 = .ok (.aload_n 0, 1) := by decide +kernel
theorem dL_law_674 : decode cL_law 674 = .ok (.iload 4, 2) := by decide +kernel
theorem dL_law_676 : decode cL_law 676 = .ok (.iconst 1, 1) := by decide +kernel
theorem dL_law_677 : decode cL_law 677 = .ok (.iadd, 1) := by decide +kernel
theorem dL_law_678 : decode cL_law 678 = .ok (.iaload, 1) := by decide +kernel
theorem dL_law_679 : decode cL_law 679 = .ok (.aload_n 0, 1) := by decide +kernel
theorem dL_law_680 : decode cL_law 680 = .ok (.iload 4, 2) := by decide +kernel
theorem dL_law_682 : decode cL_law 682 = .ok (.iconst 2, 1) := by decide +kernel
theorem dL_law_683 : decode cL_law 683 = .ok (.iadd, 1) := by decide +kernel
theorem dL_law_684 : decode cL_law 684 = .ok (.iaload, 1) := by decide +kernel
theorem dL_law_685 : decode cL_law 685 = .ok (.invokevirtual 84, 3) := by decide +kernel
theorem dL_law_688 : decode cL_law 688 = .ok (.aload_n 2, 1) := by decide +kernel
theorem dL_law_689 : decode cL_law 689 = .ok (.aload_n 0, 1) := by decide +kernel
theorem dL_law_690 : decode cL_law 690 = .ok (.iload 4, 2) := by decide +kernel
theorem dL_law_692 : decode cL_law 692 = .ok (.iconst 1, 1) := by decide +kernel
theorem dL_law_693 : decode cL_law 693 = .ok (.iadd, 1) := by decide +kernel
theorem dL_law_694 : decode cL_law 694 = .ok (.iaload, 1) := by decide +kernel
theorem dL_law_695 : decode cL_law 695 = .ok (.aload_n 0, 1) := by decide +kernel
theorem dL_law_696 : decode cL_law 696 = .ok (.iload 4, 2) := by decide +kernel
theorem dL_law_698 : decode cL_law 698 = .ok (.iconst 2, 1) := by decide +kernel
theorem dL_law_699 : decode cL_law 699 = .ok (.iadd, 1) := by decide +kernel
theorem dL_law_700 : decode cL_law 700 = .ok (.iaload, 1) := by decide +kernel
theorem dL_law_701 : decode cL_law 701 = .ok (.invokevirtual 87, 3) := by decide +kernel
theorem dL_law_704 : decode cL_law 704 = .ok (.if_icmp .eq 430, 3) := by decide +kernel
theorem dL_law_707 : decode cL_law 707 = .ok (.iconst 0, 1) := by decide +kernel
theorem dL_law_708 : decode cL_law 708 = .ok (.ireturn, 1) := by decide +kernel
theorem dL_law_709 : decode cL_law 709 = .ok (.aload_n 1, 1) := by decide +kernel
theorem dL_law_710 : decode cL_law 710 = .ok (.aload_n 0, 1) := by decide +kernel
theorem dL_law_711 : decode cL_law 711 = .ok (.iload 4, 2) := by decide +kernel
theorem dL_law_713 : decode cL_law 713 = .ok (.iconst 1, 1) := by decide +kernel
theorem dL_law_714 : decode cL_law 714 = .ok (.iadd, 1) := by decide +kernel
theorem dL_law_715 : decode cL_law 715 = .ok (.iaload, 1) := by decide +kernel
theorem dL_law_716 : decode cL_law 716 = .ok (.aload_n 0, 1) := by decide +kernel
theorem dL_law_717 : decode cL_law 717 = .ok (.iload 4, 2) := by decide +kernel
theorem dL_law_719 : decode cL_law 719 = .ok (.iconst 2, 1) := by decide +kernel
theorem dL_law_720 : decode cL_law 720 = .ok (.iadd, 1) := by decide +kernel
theorem dL_law_721 : decode cL_law 721 = .ok (.iaload, 1) := by decide +kernel
theorem dL_law_722 : decode cL_law 722 = .ok (.aload_n 0, 1) := by decide +kernel
theorem dL_law_723 : decode cL_law 723 = .ok (.iload 4, 2) := by decide +kernel
theorem dL_law_725 : decode cL_law 725 = .ok (.iconst 3, 1) := by decide +kernel
theorem dL_law_726 : decode cL_law 726 = .ok (.iadd, 1) := by decide +kernel
theorem dL_law_727 : decode cL_law 727 = .ok (.iaload, 1) := by decide +kernel
theorem dL_law_728 : decode cL_law 728 = .ok (.invokevirtual 88, 3) := by decide +kernel
theorem dL_law_731 : decode cL_law 731 = .ok (.aload_n 2, 1) := by decide +kernel
theorem dL_law_732 : decode cL_law 732 = .ok (.aload_n 0, 1) := by decide +kernel
theorem dL_law_733 : decode cL_law 733 = .ok (.iload 4, 2) := by decide +kernel
theorem dL_law_735 : decode cL_law 735 = .ok (.iconst 1, 1) := by decide +kernel
theorem dL_law_736 : decode cL_law 736 = .ok (.iadd, 1) := by decide +kernel
theorem dL_law_737 : decode cL_law 737 = .ok (.iaload, 1) := by decide +kernel
theorem dL_law_738 : decode cL_law 738 = .ok (.aload_n 0, 1) := by decide +kernel
theorem dL_law_739 : decode cL_law 739 = .ok (.iload 4, 2) := by decide +kernel
theorem dL_law_741 : decode cL_law 741 = .ok (.iconst 2, 1) := by decide +kernel
theorem dL_law_742 : decode cL_law 742 = .ok (.iadd, 1) := by decide +kernel
theorem dL_law_743 : decode cL_law 743 = .ok (.iaload, 1) := by decide +kernel
theorem dL_law_744 : decode cL_law 744 = .ok (.aload_n 0, 1) := by decide +kernel
theorem dL_law_745 : decode cL_law 745 = .ok (.iload 4, 2) := by decide +kernel
theorem dL_law_747 : decode cL_law 747 = .ok (.iconst 3, 1) := by decide +kernel
theorem dL_law_748 : decode cL_law 748 = .ok (.iadd, 1) := by decide +kernel
theorem dL_law_749 : decode cL_law 749 = .ok (.iaload, 1) := by decide +kernel
theorem dL_law_750 : decode cL_law 750 = .ok (.invokevirtual 91, 3) := by decide +kernel
theorem dL_law_753 : decode cL_law 753 = .ok (.if_icmp .eq 381, 3) := by decide +kernel
theorem dL_law_756 : decode cL_law 756 = .ok (.iconst 0, 1) := by decide +kernel
theorem dL_law_757 : decode cL_law 757 = .ok (.ireturn, 1) := by decide +kernel
theorem dL_law_758 : decode cL_law 758 = .ok (.aload_n 1, 1) := by decide +kernel
theorem dL_law_759 : decode cL_law 759 = .ok (.aload_n 0, 1) := by decide +kernel
theorem dL_law_760 : decode cL_law 760 = .ok (.iload 4, 2) := by decide +kernel
theorem dL_law_762 : decode cL_law 762 = .ok (.iconst 1, 1) := by decide +kernel
theorem dL_law_763 : decode cL_law 763 = .ok (.iadd, 1) := by decide +kernel
theorem dL_law_764 : decode cL_law 764 = .ok (.iaload, 1) := by decide +kernel
theorem dL_law_765 : decode cL_law 765 = .ok (.aload_n 0, 1) := by decide +kernel
theorem dL_law_766 : decode cL_law 766 = .ok (.iload 4, 2) := by decide +kernel
theorem dL_law_768 : decode cL_law 768 = .ok (.iconst 2, 1) := by decide +kernel
theorem dL_law_769 : decode cL_law 769 = .ok (.iadd, 1) := by decide +kernel
theorem dL_law_770 : decode cL_law 770 = .ok (.iaload, 1) := by decide +kernel
theorem dL_law_771 : decode cL_law 771 = .ok (.invokevirtual 92, 3) := by decide +kernel
theorem dL_law_774 : decode cL_law 774 = .ok (.aload_n 2, 1) := by decide +kernel
theorem dL_law_775 : decode cL_law 775 = .ok (.aload_n 0, 1) := by decide +kernel
theorem dL_law_776 : decode cL_law 776 = .ok (.iload 4, 2) := by decide +kernel
theorem dL_law_778 : decode cL_law 778 = .ok (.iconst 1, 1) := by decide +kernel
theorem dL_law_779 : decode cL_law 779 = .ok (.iadd, 1) := by decide +kernel
theorem dL_law_780 : decode cL_law 780 = .ok (.iaload, 1) := by decide +kernel
theorem dL_law_781 : decode cL_law 781 = .ok (.aload_n 0, 1) := by decide +kernel
theorem dL_law_782 : decode cL_law 782 = .ok (.iload 4, 2) := by decide +kernel
theorem dL_law_784 : decode cL_law 784 = .ok (.iconst 2, 1) := by decide +kernel
theorem dL_law_785 : decode cL_law 785 = .ok (.iadd, 1) := by decide +kernel
theorem dL_law_786 : decode cL_law 786 = .ok (.iaload, 1) := by decide +kernel
theorem dL_law_787 : decode cL_law 787 = .ok (.invokevirtual 95, 3) := by decide +kernel
theorem dL_law_790 : decode cL_law 790 = .ok (.if_icmp .eq 344, 3) := by decide +kernel
theorem dL_law_793 : decode cL_law 793 = .ok (.iconst 0, 1) := by decide +kernel
theorem dL_law_794 : decode cL_law 794 = .ok (.ireturn, 1) := by decide +kernel
theorem dL_law_795 : decode cL_law 795 = .ok (.aload_n 1, 1) := by decide +kernel
theorem dL_law_796 : decode cL_law 796 = .ok (.aload_n 0, 1) := by decide +kernel
theorem dL_law_797 : decode cL_law 797 = .ok (.iload 4, 2) := by decide +kernel
theorem dL_law_799 : decode cL_law 799 = .ok (.iconst 1, 1) := by decide +kernel
theorem dL_law_800 : decode cL_law 800 = .ok (.iadd, 1) := by decide +kernel
theorem dL_law_801 : decode cL_law 801 = .ok (.iaload, 1) := by decide +kernel
theorem dL_law_802 : decode cL_law 802 = .ok (.aload_n 0, 1) := by decide +kernel
theorem dL_law_803 : decode cL_law 803 = .ok (.iload 4, 2) := by decide +kernel
theorem dL_law_805 : decode cL_law 805 = .ok (.iconst 2, 1) := by decide +kernel
theorem dL_law_806 : decode cL_law 806 = .ok (.iadd, 1) := by decide +kernel
theorem dL_law_807 : decode cL_law 807 = .ok (.iaload, 1) := by decide +kernel
theorem dL_law_808 : decode cL_law 808 = .ok (.aload_n 3, 1) := by decide +kernel
theorem dL_law_809 : decode cL_law 809 = .ok (.invokestatic 96, 3) := by decide +kernel
theorem dL_law_812 : decode cL_law 812 = .ok (.istore 5, 2) := by decide +kernel
theorem dL_law_814 : decode cL_law 814 = .ok (.aload_n 2, 1) := by decide +kernel
theorem dL_law_815 : decode cL_law 815 = .ok (.aload_n 0, 1) := by decide +kernel
theorem dL_law_816 : decode cL_law 816 = .ok (.iload 4, 2) := by decide +kernel
theorem dL_law_818 : decode cL_law 818 = .ok (.iconst 1, 1) := by decide +kernel
theorem dL_law_819 : decode cL_law 819 = .ok (.iadd, 1) := by decide +kernel
theorem dL_law_820 : decode cL_law 820 = .ok (.iaload, 1) := by decide +kernel
theorem dL_law_821 : decode cL_law 821 = .ok (.aload_n 0, 1) := by decide +kernel
theorem dL_law_822 : decode cL_law 822 = .ok (.iload 4, 2) := by decide +kernel
theorem dL_law_824 : decode cL_law 824 = .ok (.iconst 2, 1) := by decide +kernel
theorem dL_law_825 : decode cL_law 825 = .ok (.iadd, 1) := by decide +kernel
theorem dL_law_826 : decode cL_law 826 = .ok (.iaload, 1) := by decide +kernel
theorem dL_law_827 : decode cL_law 827 = .ok (.invokevirtual 99, 3) := by decide +kernel
theorem dL_law_830 : decode cL_law 830 = .ok (.istore 6, 2) := by decide +kernel
theorem dL_law_832 : decode cL_law 832 = .ok (.aload_n 2, 1) := by decide +kernel
theorem dL_law_833 : decode cL_law 833 = .ok (.invokevirtual 73, 3) := by decide +kernel
theorem dL_law_836 : decode cL_law 836 = .ok (.iload 5, 2) := by decide +kernel
theorem dL_law_838 : decode cL_law 838 = .ok (.if_icmp .eq 5, 3) := by decide +kernel
theorem dL_law_841 : decode cL_law 841 = .ok (.iconst 0, 1) := by decide +kernel
theorem dL_law_842 : decode cL_law 842 = .ok (.ireturn, 1) := by decide +kernel
theorem dL_law_843 : decode cL_law 843 = .ok (.iload 5, 2) := by decide +kernel
theorem dL_law_845 : decode cL_law 845 = .ok (.ifCond .ne 15, 3) := by decide +kernel
theorem dL_law_848 : decode cL_law 848 = .ok (.aload_n 3, 1) := by decide +kernel
theorem dL_law_849 : decode cL_law 849 = .ok (.iconst 0, 1) := by decide +kernel
theorem dL_law_850 : decode cL_law 850 = .ok (.laload, 1) := by decide +kernel
theorem dL_law_851 : decode cL_law 851 = .ok (.iload 6, 2) := by decide +kernel
theorem dL_law_853 : decode cL_law 853 = .ok (.i2l, 1) := by decide +kernel
theorem dL_law_854 : decode cL_law 854 = .ok (.lcmp, 1) := by decide +kernel
theorem dL_law_855 : decode cL_law 855 = .ok (.ifCond .eq 5, 3) := by decide +kernel
theorem dL_law_858 : decode cL_law 858 = .ok (.iconst 0, 1) := by decide +kernel
theorem dL_law_859 : decode cL_law 859 = .ok (.ireturn, 1) := by decide +kernel
theorem dL_law_860 : decode cL_law 860 = .ok (.goto 274, 3) := by decide +kernel
theorem dL_law_863 : decode cL_law 863 = .ok (.aload_n 1, 1) := by decide +kernel
theorem dL_law_864 : decode cL_law 864 = .ok (.aload_n 0, 1) := by decide +kernel
theorem dL_law_865 : decode cL_law 865 = .ok (.iload 4, 2) := by decide +kernel
theorem dL_law_867 : decode cL_law 867 = .ok (.iconst 1, 1) := by decide +kernel
theorem dL_law_868 : decode cL_law 868 = .ok (.iadd, 1) := by decide +kernel
theorem dL_law_869 : decode cL_law 869 = .ok (.iaload, 1) := by decide +kernel
theorem dL_law_870 : decode cL_law 870 = .ok (.aload_n 0, 1) := by decide +kernel
theorem dL_law_871 : decode cL_law 871 = .ok (.iload 4, 2) := by decide +kernel
theorem dL_law_873 : decode cL_law 873 = .ok (.iconst 2, 1) := by decide +kernel
theorem dL_law_874 : decode cL_law 874 = .ok (.iadd, 1) := by decide +kernel
theorem dL_law_875 : decode cL_law 875 = .ok (.iaload, 1) := by decide +kernel
theorem dL_law_876 : decode cL_law 876 = .ok (.invokevirtual 100, 3) := by decide +kernel
theorem dL_law_879 : decode cL_law 879 = .ok (.aload_n 2, 1) := by decide +kernel
theorem dL_law_880 : decode cL_law 880 = .ok (.aload_n 0, 1) := by decide +kernel
theorem dL_law_881 : decode cL_law 881 = .ok (.iload 4, 2) := by decide +kernel
theorem dL_law_883 : decode cL_law 883 = .ok (.iconst 1, 1) := by decide +kernel
theorem dL_law_884 : decode cL_law 884 = .ok (.iadd, 1) := by decide +kernel
theorem dL_law_885 : decode cL_law 885 = .ok (.iaload, 1) := by decide +kernel
theorem dL_law_886 : decode cL_law 886 = .ok (.aload_n 0, 1) := by decide +kernel
theorem dL_law_887 : decode cL_law 887 = .ok (.iload 4, 2) := by decide +kernel
theorem dL_law_889 : decode cL_law 889 = .ok (.iconst 2, 1) := by decide +kernel
theorem dL_law_890 : decode cL_law 890 = .ok (.iadd, 1) := by decide +kernel
theorem dL_law_891 : decode cL_law 891 = .ok (.iaload, 1) := by decide +kernel
theorem dL_law_892 : decode cL_law 892 = .ok (.invokevirtual 103, 3) := by decide +kernel
theorem dL_law_895 : decode cL_law 895 = .ok (.if_icmp .eq 239, 3) := by decide +kernel
theorem dL_law_898 : decode cL_law 898 = .ok (.iconst 0, 1) := by decide +kernel
theorem dL_law_899 : decode cL_law 899 = .ok (.ireturn, 1) := by decide +kernel
theorem dL_law_900 : decode cL_law 900 = .ok (.aload_n 1, 1) := by decide +kernel
theorem dL_law_901 : decode cL_law 901 = .ok (.aload_n 0, 1) := by decide +kernel
theorem dL_law_902 : decode cL_law 902 = .ok (.iload 4, 2) := by decide +kernel
theorem dL_law_904 : decode cL_law 904 = .ok (.iconst 1, 1) := by decide +kernel
theorem dL_law_905 : decode cL_law 905 = .ok (.iadd, 1) := by decide +kernel
theorem dL_law_906 : decode cL_law 906 = .ok (.iaload, 1) := by decide +kernel
theorem dL_law_907 : decode cL_law 907 = .ok (.aload_n 0, 1) := by decide +kernel
theorem dL_law_908 : decode cL_law 908 = .ok (.iload 4, 2) := by decide +kernel
theorem dL_law_910 : decode cL_law 910 = .ok (.iconst 2, 1) := by decide +kernel
theorem dL_law_911 : decode cL_law 911 = .ok (.iadd, 1) := by decide +kernel
theorem dL_law_912 : decode cL_law 912 = .ok (.iaload, 1) := by decide +kernel
theorem dL_law_913 : decode cL_law 913 = .ok (.invokevirtual 104, 3) := by decide +kernel
theorem dL_law_916 : decode cL_law 916 = .ok (.aload_n 2, 1) := by decide +kernel
theorem dL_law_917 : decode cL_law 917 = .ok (.aload_n 0, 1) := by decide +kernel
theorem dL_law_918 : decode cL_law 918 = .ok (.iload 4, 2) := by decide +kernel
theorem dL_law_920 : decode cL_law 920 = .ok (.iconst 1, 1) := by decide +kernel
theorem dL_law_921 : decode cL_law 921 = .ok (.iadd, 1) := by decide +kernel
theorem dL_law_922 : decode cL_law 922 = .ok (.iaload, 1) := by decide +kernel
theorem dL_law_923 : decode cL_law 923 = .ok (.aload_n 0, 1) := by decide +kernel
theorem dL_law_924 : decode cL_law 924 = .ok (.iload 4, 2) := by decide +kernel
theorem dL_law_926 : decode cL_law 926 = .ok (.iconst 2, 1) := by decide +kernel
theorem dL_law_927 : decode cL_law 927 = .ok (.iadd, 1) := by decide +kernel
theorem dL_law_928 : decode cL_law 928 = .ok (.iaload, 1) := by decide +kernel
theorem dL_law_929 : decode cL_law 929 = .ok (.invokevirtual 107, 3) := by decide +kernel
theorem dL_law_932 : decode cL_law 932 = .ok (.if_icmp .eq 202, 3) := by decide +kernel
theorem dL_law_935 : decode cL_law 935 = .ok (.iconst 0, 1) := by decide +kernel
theorem dL_law_936 : decode cL_law 936 = .ok (.ireturn, 1) := by decide +kernel
theorem dL_law_937 : decode cL_law 937 = .ok (.aload_n 1, 1) := by decide +kernel
theorem dL_law_938 : decode cL_law 938 = .ok (.aload_n 0, 1) := by decide +kernel
theorem dL_law_939 : decode cL_law 939 = .ok (.iload 4, 2) := by decide +kernel
theorem dL_law_941 : decode cL_law 941 = .ok (.iconst 1, 1) := by decide +kernel
theorem dL_law_942 : decode cL_law 942 = .ok (.iadd, 1) := by decide +kernel
theorem dL_law_943 : decode cL_law 943 = .ok (.iaload, 1) := by decide +kernel
theorem dL_law_944 : decode cL_law 944 = .ok (.aload_n 0, 1) := by decide +kernel
theorem dL_law_945 : decode cL_law 945 = .ok (.iload 4, 2) := by decide +kernel
theorem dL_law_947 : decode cL_law 947 = .ok (.iconst 2, 1) := by decide +kernel
theorem dL_law_948 : decode cL_law 948 = .ok (.iadd, 1) := by decide +kernel
theorem dL_law_949 : decode cL_law 949 = .ok (.iaload, 1) := by decide +kernel
theorem dL_law_950 : decode cL_law 950 = .ok (.invokevirtual 108, 3) := by decide +kernel
theorem dL_law_953 : decode cL_law 953 = .ok (.aload_n 2, 1) := by decide +kernel
theorem dL_law_954 : decode cL_law 954 = .ok (.aload_n 0, 1) := by decide +kernel
theorem dL_law_955 : decode cL_law 955 = .ok (.iload 4, 2) := by decide +kernel
theorem dL_law_957 : decode cL_law 957 = .ok (.iconst 1, 1) := by decide +kernel
theorem dL_law_958 : decode cL_law 958 = .ok (.iadd, 1) := by decide +kernel
theorem dL_law_959 : decode cL_law 959 = .ok (.iaload, 1) := by decide +kernel
theorem dL_law_960 : decode cL_law 960 = .ok (.aload_n 0, 1) := by decide +kernel
theorem dL_law_961 : decode cL_law 961 = .ok (.iload 4, 2) := by decide +kernel
theorem dL_law_963 : decode cL_law 963 = .ok (.iconst 2, 1) := by decide +kernel
theorem dL_law_964 : decode cL_law 964 = .ok (.iadd, 1) := by decide +kernel
theorem dL_law_965 : decode cL_law 965 = .ok (.iaload, 1) := by decide +kernel
theorem dL_law_966 : decode cL_law 966 = .ok (.invokevirtual 111, 3) := by decide +kernel
theorem dL_law_969 : decode cL_law 969 = .ok (.if_icmp .eq 165, 3) := by decide +kernel
theorem dL_law_972 : decode cL_law 972 = .ok (.iconst 0, 1) := by decide +kernel
theorem dL_law_973 : decode cL_law 973 = .ok (.ireturn, 1) := by decide +kernel
theorem dL_law_974 : decode cL_law 974 = .ok (.aload_n 1, 1) := by decide +kernel
theorem dL_law_975 : decode cL_law 975 = .ok (.aload_n 0, 1) := by decide +kernel
theorem dL_law_976 : decode cL_law 976 = .ok (.iload 4, 2) := by decide +kernel
theorem dL_law_978 : decode cL_law 978 = .ok (.iconst 1, 1) := by decide +kernel
theorem dL_law_979 : decode cL_law 979 = .ok (.iadd, 1) := by decide +kernel
theorem dL_law_980 : decode cL_law 980 = .ok (.iaload, 1) := by decide +kernel
theorem dL_law_981 : decode cL_law 981 = .ok (.aload_n 0, 1) := by decide +kernel
theorem dL_law_982 : decode cL_law 982 = .ok (.iload 4, 2) := by decide +kernel
theorem dL_law_984 : decode cL_law 984 = .ok (.iconst 2, 1) := by decide +kernel
theorem dL_law_985 : decode cL_law 985 = .ok (.iadd, 1) := by decide +kernel
theorem dL_law_986 : decode cL_law 986 = .ok (.iaload, 1) := by decide +kernel
theorem dL_law_987 : decode cL_law 987 = .ok (.aload_n 0, 1) := by decide +kernel
theorem dL_law_988 : decode cL_law 988 = .ok (.iload 4, 2) := by decide +kernel
theorem dL_law_990 : decode cL_law 990 = .ok (.iconst 3, 1) := by decide +kernel
theorem dL_law_991 : decode cL_law 991 = .ok (.iadd, 1) := by decide +kernel
theorem dL_law_992 : decode cL_law 992 = .ok (.iaload, 1) := by decide +kernel
theorem dL_law_993 : decode cL_law 993 = .ok (.invokevirtual 112, 3) := by decide +kernel
theorem dL_law_996 : decode cL_law 996 = .ok (.aload_n 2, 1) := by decide +kernel
theorem dL_law_997 : decode cL_law 997 = .ok (.aload_n 0, 1) := by decide +kernel
theorem dL_law_998 : decode cL_law 998 = .ok (.iload 4, 2) := by decide +kernel
theorem dL_law_1000 : decode cL_law 1000 = .ok (.iconst 1, 1) := by decide +kernel
theorem dL_law_1001 : decode cL_law 1001 = .ok (.iadd, 1) := by decide +kernel
theorem dL_law_1002 : decode cL_law 1002 = .ok (.iaload, 1) := by decide +kernel
theorem dL_law_1003 : decode cL_law 1003 = .ok (.aload_n 0, 1) := by decide +kernel
theorem dL_law_1004 : decode cL_law 1004 = .ok (.iload 4, 2) := by decide +kernel
theorem dL_law_1006 : decode cL_law 1006 = .ok (.iconst 2, 1) := by decide +kernel
theorem dL_law_1007 : decode cL_law 1007 = .ok (.iadd, 1) := by decide +kernel
theorem dL_law_1008 : decode cL_law 1008 = .ok (.iaload, 1) := by decide +kernel
theorem dL_law_1009 : decode cL_law 1009 = .ok (.aload_n 0, 1) := by decide +kernel
theorem dL_law_1010 : decode cL_law 1010 = .ok (.iload 4, 2) := by decide +kernel
theorem dL_law_1012 : decode cL_law 1012 = .ok (.iconst 3, 1) := by decide +kernel
theorem dL_law_1013 : decode cL_law 1013 = .ok (.iadd, 1) := by decide +kernel
theorem dL_law_1014 : decode cL_law 1014 = .ok (.iaload, 1) := by decide +kernel
theorem dL_law_1015 : decode cL_law 1015 = .ok (.invokevirtual 115, 3) := by decide +kernel
theorem dL_law_1018 : decode cL_law 1018 = .ok (.if_icmp .eq 116, 3) := by decide +kernel
theorem dL_law_1021 : decode cL_law 1021 = .ok (.iconst 0, 1) := by decide +kernel
theorem dL_law_1022 : decode cL_law 1022 = .ok (.ireturn, 1) := by decide +kernel
theorem dL_law_1023 : decode cL_law 1023 = .ok (.aload_n 1, 1) := by decide +kernel
theorem dL_law_1024 : decode cL_law 1024 = .ok (.aload_n 0, 1) := by decide +kernel
theorem dL_law_1025 : decode cL_law 1025 = .ok (.iload 4, 2) := by decide +kernel
theorem dL_law_1027 : decode cL_law 1027 = .ok (.iconst 1, 1) := by decide +kernel
theorem dL_law_1028 : decode cL_law 1028 = .ok (.iadd, 1) := by decide +kernel
theorem dL_law_1029 : decode cL_law 1029 = .ok (.iaload, 1) := by decide +kernel
theorem dL_law_1030 : decode cL_law 1030 = .ok (.aload_n 0, 1) := by decide +kernel
theorem dL_law_1031 : decode cL_law 1031 = .ok (.iload 4, 2) := by decide +kernel
theorem dL_law_1033 : decode cL_law 1033 = .ok (.iconst 2, 1) := by decide +kernel
theorem dL_law_1034 : decode cL_law 1034 = .ok (.iadd, 1) := by decide +kernel
theorem dL_law_1035 : decode cL_law 1035 = .ok (.iaload, 1) := by decide +kernel
theorem dL_law_1036 : decode cL_law 1036 = .ok (.aload_n 0, 1) := by decide +kernel
theorem dL_law_1037 : decode cL_law 1037 = .ok (.iload 4, 2) := by decide +kernel
theorem dL_law_1039 : decode cL_law 1039 = .ok (.iconst 3, 1) := by decide +kernel
theorem dL_law_1040 : decode cL_law 1040 = .ok (.iadd, 1) := by decide +kernel
theorem dL_law_1041 : decode cL_law 1041 = .ok (.iaload, 1) := by decide +kernel
theorem dL_law_1042 : decode cL_law 1042 = .ok (.invokevirtual 116, 3) := by decide +kernel
theorem dL_law_1045 : decode cL_law 1045 = .ok (.aload_n 2, 1) := by decide +kernel
theorem dL_law_1046 : decode cL_law 1046 = .ok (.aload_n 0, 1) := by decide +kernel
theorem dL_law_1047 : decode cL_law 1047 = .ok (.iload 4, 2) := by decide +kernel
theorem dL_law_1049 : decode cL_law 1049 = .ok (.iconst 1, 1) := by decide +kernel
theorem dL_law_1050 : decode cL_law 1050 = .ok (.iadd, 1) := by decide +kernel
theorem dL_law_1051 : decode cL_law 1051 = .ok (.iaload, 1) := by decide +kernel
theorem dL_law_1052 : decode cL_law 1052 = .ok (.aload_n 0, 1) := by decide +kernel
theorem dL_law_1053 : decode cL_law 1053 = .ok (.iload 4, 2) := by decide +kernel
theorem dL_law_1055 : decode cL_law 1055 = .ok (.iconst 2, 1) := by decide +kernel
theorem dL_law_1056 : decode cL_law 1056 = .ok (.iadd, 1) := by decide +kernel
theorem dL_law_1057 : decode cL_law 1057 = .ok (.iaload, 1) := by decide +kernel
theorem dL_law_1058 : decode cL_law 1058 = .ok (.aload_n 0, 1) := by decide +kernel
theorem dL_law_1059 : decode cL_law 1059 = .ok (.iload 4, 2) := by decide +kernel
theorem dL_law_1061 : decode cL_law 1061 = .ok (.iconst 3, 1) := by decide +kernel
theorem dL_law_1062 : decode cL_law 1062 = .ok (.iadd, 1) := by decide +kernel
theorem dL_law_1063 : decode cL_law 1063 = .ok (.iaload, 1) := by decide +kernel
theorem dL_law_1064 : decode cL_law 1064 = .ok (.invokevirtual 119, 3) := by decide +kernel
theorem dL_law_1067 : decode cL_law 1067 = .ok (.if_icmp .eq 67, 3) := by decide +kernel
theorem dL_law_1070 : decode cL_law 1070 = .ok (.iconst 0, 1) := by decide +kernel
theorem dL_law_1071 : decode cL_law 1071 = .ok (.ireturn, 1) := by decide +kernel
theorem dL_law_1072 : decode cL_law 1072 = .ok (.aload_n 1, 1) := by decide +kernel
theorem dL_law_1073 : decode cL_law 1073 = .ok (.aload_n 0, 1) := by decide +kernel
theorem dL_law_1074 : decode cL_law 1074 = .ok (.iload 4, 2) := by decide +kernel
theorem dL_law_1076 : decode cL_law 1076 = .ok (.iconst 1, 1) := by decide +kernel
theorem dL_law_1077 : decode cL_law 1077 = .ok (.iadd, 1) := by decide +kernel
theorem dL_law_1078 : decode cL_law 1078 = .ok (.iaload, 1) := by decide +kernel
theorem dL_law_1079 : decode cL_law 1079 = .ok (.aload_n 0, 1) := by decide +kernel
theorem dL_law_1080 : decode cL_law 1080 = .ok (.iload 4, 2) := by decide +kernel
theorem dL_law_1082 : decode cL_law 1082 = .ok (.iconst 2, 1) := by decide +kernel
theorem dL_law_1083 : decode cL_law 1083 = .ok (.iadd, 1) := by decide +kernel
theorem dL_law_1084 : decode cL_law 1084 = .ok (.iaload, 1) := by decide +kernel
theorem dL_law_1085 : decode cL_law 1085 = .ok (.invokevirtual 120, 3) := by decide +kernel
theorem dL_law_1088 : decode cL_law 1088 = .ok (.aload_n 2, 1) := by decide +kernel
theorem dL_law_1089 : decode cL_law 1089 = .ok (.aload_n 0, 1) := by decide +kernel
theorem dL_law_1090 : decode cL_law 1090 = .ok (.iload 4, 2) := by decide +kernel
theorem dL_law_1092 : decode cL_law 1092 = .ok (.iconst 1, 1) := by decide +kernel
theorem dL_law_1093 : decode cL_law 1093 = .ok (.iadd, 1) := by decide +kernel
theorem dL_law_1094 : decode cL_law 1094 = .ok (.iaload, 1) := by decide +kernel
theorem dL_law_1095 : decode cL_law 1095 = .ok (.aload_n 0, 1) := by decide +kernel
theorem dL_law_1096 : decode cL_law 1096 = .ok (.iload 4, 2) := by decide +kernel
theorem dL_law_1098 : decode cL_law 1098 = .ok (.iconst 2, 1) := by decide +kernel
theorem dL_law_1099 : decode cL_law 1099 = .ok (.iadd, 1) := by decide +kernel
theorem dL_law_1100 : decode cL_law 1100 = .ok (.iaload, 1) := by decide +kernel
theorem dL_law_1101 : decode cL_law 1101 = .ok (.invokevirtual 123, 3) := by decide +kernel
theorem dL_law_1104 : decode cL_law 1104 = .ok (.if_icmp .eq 30, 3) := by decide +kernel
theorem dL_law_1107 : decode cL_law 1107 = .ok (.iconst 0, 1) := by decide +kernel
theorem dL_law_1108 : decode cL_law 1108 = .ok (.ireturn, 1) := by decide +kernel
theorem dL_law_1109 : decode cL_law 1109 = .ok (.aload_n 1, 1) := by decide +kernel
theorem dL_law_1110 : decode cL_law 1110 = .ok (.aload_n 0, 1) := by decide +kernel
theorem dL_law_1111 : decode cL_law 1111 = .ok (.iload 4, 2) := by decide +kernel
theorem dL_law_1113 : decode cL_law 1113 = .ok (.iconst 1, 1) := by decide +kernel
theorem dL_law_1114 : decode cL_law 1114 = .ok (.iadd, 1) := by decide +kernel
theorem dL_law_1115 : decode cL_law 1115 = .ok (.iaload, 1) := by decide +kernel
theorem dL_law_1116 : decode cL_law 1116 = .ok (.invokevirtual 124, 3) := by decide +kernel
theorem dL_law_1119 : decode cL_law 1119 = .ok (.aload_n 2, 1) := by decide +kernel
theorem dL_law_1120 : decode cL_law 1120 = .ok (.aload_n 0, 1) := by decide +kernel
theorem dL_law_1121 : decode cL_law 1121 = .ok (.iload 4, 2) := by decide +kernel
theorem dL_law_1123 : decode cL_law 1123 = .ok (.iconst 1, 1) := by decide +kernel
theorem dL_law_1124 : decode cL_law 1124 = .ok (.iadd, 1) := by decide +kernel
theorem dL_law_1125 : decode cL_law 1125 = .ok (.iaload, 1) := by decide +kernel
theorem dL_law_1126 : decode cL_law 1126 = .ok (.invokevirtual 127, 3) := by decide +kernel
theorem dL_law_1129 : decode cL_law 1129 = .ok (.if_icmp .eq 5, 3) := by decide +kernel
theorem dL_law_1132 : decode cL_law 1132 = .ok (.iconst 0, 1) := by decide +kernel
theorem dL_law_1133 : decode cL_law 1133 = .ok (.ireturn, 1) := by decide +kernel
theorem dL_law_1134 : decode cL_law 1134 = .ok (.iinc 4 5, 3) := by decide +kernel
theorem dL_law_1137 : decode cL_law 1137 = .ok (.goto (-1114), 3) := by decide +kernel
theorem dL_law_1140 : decode cL_law 1140 = .ok (.iconst 1, 1) := by decide +kernel
theorem dL_law_1141 : decode cL_law 1141 = .ok (.ireturn, 1) := by decide +kernel
end
section
-- ===== 02a: pure states over the fixed cells =====
abbrev Sg : Type := Nat → Nat → Int32
abbrev PV : Type := Int32 ⊕ Nat
/-- the state with one number changed: place p, index k -/
def s2 (σ : Sg) (p k : Nat) (v : Int32) : Sg := fun q => if q = p then upd (σ p) k v else σ q
/-- the state with one row changed -/
def sR (σ : Sg) (p : Nat) (f : Nat → Int32) : Sg := fun q => if q = p then f else σ q
theorem s2_eq (σ : Sg) (p k : Nat) (v : Int32) : s2 σ p k v = sR σ p (upd (σ p) k v) := rfl
theorem sR_at (σ : Sg) (p : Nat) (f : Nat → Int32) : sR σ p f p = f := if_pos rfl
theorem sR_ne {σ : Sg} {p q : Nat} {f : Nat → Int32} (h : q ≠ p) : sR σ p f q = σ q := if_neg h
/-- what a place is: an object (its class, its fields: a number, or a place), or a row (its kind, its length) -/
abbrev Shp : Type := (Nat × List (Option Nat)) ⊕ (Nat × Nat)
def layF (b : Nat) : Nat → Shp
  | 0 => .inl (1, [none, none, some (b + 1), some (b + 2), some (b + 3), some (b + 4), some (b + 5), some (b + 6), none])
  | 1 => .inr (0, 13)
  | 2 => .inr (0, 12)
  | 3 => .inr (0, 12)
  | 4 => .inr (0, 13)
  | 5 => .inr (0, 48)
  | _ => .inr (0, 6)
def layX : Nat → Shp
  | 0 => .inl (2, [some 1, some 11, some 43, none, none, none, none, some 12, none, some 13, none, some 14])
  | 1 => .inl (0, [none, some 2, some 3, some 4, some 5, some 6, some 7, some 8, some 9, some 10])
  | 2 => .inr (0, 48)
  | 3 => .inr (0, 16)
  | 4 => .inr (0, 16)
  | 5 => .inr (0, 256)
  | 6 => .inr (0, 16)
  | 7 => .inr (0, 256)
  | 8 => .inr (0, 64)
  | 9 => .inr (0, 4)
  | 10 => .inr (0, 4)
  | 11 => .inr (2, 4)
  | 12 => .inr (0, 12)
  | 13 => .inr (0, 4096)
  | _ => .inr (1, 4096)
def layM : Nat → Shp
  | 0 => .inl (3, [none, none, some 51, some 52, some 53, some 54, none, some 55, some 56, some 57, some 58, none, some 59, some 60, none, none, some 61, some 62, some 63, none, none, some 64, none, none, some 65, some 66])
  | 1 => .inr (0, 16)
  | 2 => .inr (0, 256)
  | 3 => .inr (0, 16)
  | 4 => .inr (0, 256)
  | 5 => .inr (0, 4)
  | 6 => .inr (0, 48)
  | 7 => .inr (0, 48)
  | 8 => .inr (0, 48)
  | 9 => .inr (0, 24)
  | 10 => .inr (0, 4)
  | 11 => .inr (0, 64)
  | 12 => .inr (0, 4)
  | 13 => .inr (0, 4)
  | 14 => .inr (0, 13)
  | 15 => .inr (0, 4096)
  | 16 => .inr (0, 12)
  | _ => .inr (3, 1)
def lay (p : Nat) : Shp := if p < 15 then layX p else if p < 50 then layF (15 + (p - 15) / 7 * 7) ((p - 15) % 7) else layM (p - 50)
/-- a FUNCTION's place -/
def FnP (p : Nat) : Prop := ∃ i, i < 5 ∧ p = 15 + 7 * i
theorem lay_fn {p j : Nat} (h : FnP p) (hj : j < 7) : lay (p + j) = layF p j := by
  obtain ⟨i, hi, rfl⟩ := h
  unfold lay
  rw [if_neg (by omega), if_pos (by omega)]
  have h1 : (15 + 7 * i + j - 15) / 7 = i := by omega
  have h2 : (15 + 7 * i + j - 15) % 7 = j := by omega
  rw [h1, h2, Nat.mul_comm]
theorem lf0 {p : Nat} (h : FnP p) : lay p = .inl (1, [none, none, some (p + 1), some (p + 2), some (p + 3), some (p + 4), some (p + 5), some (p + 6), none]) := lay_fn (j := 0) h (by decide)
theorem lf1 {p : Nat} (h : FnP p) : lay (p + 1) = .inr (0, 13) := lay_fn h (by decide)
theorem lf2 {p : Nat} (h : FnP p) : lay (p + 2) = .inr (0, 12) := lay_fn h (by decide)
theorem lf3 {p : Nat} (h : FnP p) : lay (p + 3) = .inr (0, 12) := lay_fn h (by decide)
theorem lf4 {p : Nat} (h : FnP p) : lay (p + 4) = .inr (0, 13) := lay_fn h (by decide)
theorem lf5 {p : Nat} (h : FnP p) : lay (p + 5) = .inr (0, 48) := lay_fn h (by decide)
theorem lf6 {p : Nat} (h : FnP p) : lay (p + 6) = .inr (0, 6) := lay_fn h (by decide)
theorem FnP.lt {p j : Nat} (h : FnP p) (hj : j < 7) : p + j < 68 := by
  obtain ⟨i, hi, rfl⟩ := h
  omega
theorem FnP.lt0 {p : Nat} (h : FnP p) : p < 68 := h.lt (j := 0) (by decide)
theorem FnP.of {i : Nat} (h : i < 4) : FnP (15 + 7 * i) := ⟨i, by omega, rfl⟩
theorem FnP.trial : FnP 43 := ⟨4, by decide, rfl⟩
-- the cells
abbrev CK : Type := ClassId × ClassId × ClassId × ClassId
def tysK (K : CK) : List (ClassId × FieldType) := [(K.1, .int), (K.2.1, .boolean), (K.2.2.1, .object RX1), (K.2.2.2, .long)]
def fv (ad : Nat → Nat) (σ : Sg) (p : Nat) : Nat → List (Option Nat) → List Value
  | _, [] => []
  | k, none :: r => .int (σ p k) :: fv ad σ p (k + 1) r
  | k, some q :: r => .ref (ad q) :: fv ad σ p (k + 1) r
def celS (K : CK) (ad : Nat → Nat) (σ : Sg) (p : Nat) (sh : Shp) : va_E := match sh with
  | .inl (ci, fs) => .inr (ci, fv ad σ p 0 fs)
  | .inr (0, n) => .inl (K.1, n, .inl (σ p))
  | .inr (1, n) => .inl (K.2.1, n, .inl (σ p))
  | .inr (2, n) => .inl (K.2.2.1, n, .inr (.inr (.inr (.inr (fun j => some (ad (15 + 7 * j)))))))
  | .inr (_, n) => .inl (K.2.2.2, n, .inr (.inl (fun j => (σ p j).toInt64)))
def cel (K : CK) (ad : Nat → Nat) (σ : Sg) (p : Nat) : va_E := celS K ad σ p (lay p)
def wld (K : CK) (ad : Nat → Nat) (σ : Sg) : va_W := (List.range 68).map (fun p => (ad p, cel K ad σ p))
theorem wld_get {K : CK} {ad : Nat → Nat} {σ : Sg} {p : Nat} (hp : p < 68) : (wld K ad σ)[p]? = some (ad p, cel K ad σ p) := by
  simp [wld, hp]
theorem wld_len (K : CK) (ad : Nat → Nat) (σ : Sg) : (wld K ad σ).length = 68 := by simp [wld]
theorem fv_int {ad : Nat → Nat} {σ : Sg} {p : Nat} : ∀ {fs : List (Option Nat)} {b k : Nat}, fs[k]? = some none → (fv ad σ p b fs)[k]? = some (.int (σ p (b + k)))
  | [], _, _, h => by simp at h
  | none :: r, b, 0, _ => by simp [fv]
  | some q :: r, b, 0, h => by simp at h
  | none :: r, b, k + 1, h => by
    have h2 := fv_int (ad := ad) (σ := σ) (p := p) (fs := r) (b := b + 1) (k := k) (by simpa using h)
    simp only [fv, List.getElem?_cons_succ, h2]
    rw [show b + 1 + k = b + (k + 1) by omega]
  | some q :: r, b, k + 1, h => by
    have h2 := fv_int (ad := ad) (σ := σ) (p := p) (fs := r) (b := b + 1) (k := k) (by simpa using h)
    simp only [fv, List.getElem?_cons_succ, h2]
    rw [show b + 1 + k = b + (k + 1) by omega]
theorem fv_ref {ad : Nat → Nat} {σ : Sg} {p q : Nat} : ∀ {fs : List (Option Nat)} {b k : Nat}, fs[k]? = some (some q) → (fv ad σ p b fs)[k]? = some (.ref (ad q))
  | [], _, _, h => by simp at h
  | none :: r, b, 0, h => by simp at h
  | some q' :: r, b, 0, h => by simp at h; simp [fv, h]
  | none :: r, b, k + 1, h => by
    have h2 := fv_ref (ad := ad) (σ := σ) (p := p) (fs := r) (b := b + 1) (k := k) (by simpa using h)
    simp only [fv, List.getElem?_cons_succ, h2]
  | some q' :: r, b, k + 1, h => by
    have h2 := fv_ref (ad := ad) (σ := σ) (p := p) (fs := r) (b := b + 1) (k := k) (by simpa using h)
    simp only [fv, List.getElem?_cons_succ, h2]
theorem fv_len {ad : Nat → Nat} {σ : Sg} {p : Nat} : ∀ {fs : List (Option Nat)} {b : Nat}, (fv ad σ p b fs).length = fs.length
  | [], _ => rfl
  | none :: r, b => by simp [fv, fv_len (fs := r)]
  | some q :: r, b => by simp [fv, fv_len (fs := r)]
theorem fv_cong {ad : Nat → Nat} {σ σ' : Sg} {p : Nat} : ∀ {fs : List (Option Nat)} {b : Nat}, (∀ j, fs[j]? = some none → σ p (b + j) = σ' p (b + j)) → fv ad σ p b fs = fv ad σ' p b fs
  | [], _, _ => rfl
  | none :: r, b, h => by
    have h0 := h 0 (by simp)
    have h2 := fv_cong (ad := ad) (σ := σ) (σ' := σ') (p := p) (fs := r) (b := b + 1) (fun j hj => by
      have h3 := h (j + 1) (by simpa using hj)
      rw [show b + 1 + j = b + (j + 1) by omega]
      exact h3)
    simp only [fv, h2]
    rw [show σ p b = σ' p b from h0]
  | some q :: r, b, h => by
    have h2 := fv_cong (ad := ad) (σ := σ) (σ' := σ') (p := p) (fs := r) (b := b + 1) (fun j hj => by
      have h3 := h (j + 1) (by simpa using hj)
      rw [show b + 1 + j = b + (j + 1) by omega]
      exact h3)
    simp only [fv, h2]
theorem fv_set {ad : Nat → Nat} {σ : Sg} {p k : Nat} {v : Int32} {fs : List (Option Nat)} (hk : fs[k]? = some none) : (fv ad σ p 0 fs).set k (.int v) = fv ad (s2 σ p k v) p 0 fs := by
  apply List.ext_getElem?
  intro j
  have hl : k < fs.length := (List.getElem?_eq_some_iff.mp hk).1
  by_cases hj : j = k
  · subst hj
    rw [List.getElem?_set_self (by rw [fv_len]; exact hl), fv_int hk]
    simp [s2, upd]
  · rw [List.getElem?_set_ne (Ne.symm hj)]
    cases hf : fs[j]? with
    | none =>
      have h1 : fs.length ≤ j := List.getElem?_eq_none_iff.mp hf
      rw [List.getElem?_eq_none_iff.mpr (by rw [fv_len]; exact h1), List.getElem?_eq_none_iff.mpr (by rw [fv_len]; exact h1)]
    | some o =>
      cases o with
      | none =>
        rw [fv_int hf, fv_int hf]
        simp [s2, upd, hj]
      | some q => rw [fv_ref hf, fv_ref hf]
theorem cel_obj {K : CK} {ad : Nat → Nat} {σ : Sg} {p ci : Nat} {fs : List (Option Nat)} (h : lay p = .inl (ci, fs)) : cel K ad σ p = .inr (ci, fv ad σ p 0 fs) := by unfold cel; rw [h]; rfl
theorem cel_int {K : CK} {ad : Nat → Nat} {σ : Sg} {p n : Nat} (h : lay p = .inr (0, n)) : cel K ad σ p = .inl (K.1, n, .inl (σ p)) := by unfold cel; rw [h]; rfl
theorem cel_bool {K : CK} {ad : Nat → Nat} {σ : Sg} {p n : Nat} (h : lay p = .inr (1, n)) : cel K ad σ p = .inl (K.2.1, n, .inl (σ p)) := by unfold cel; rw [h]; rfl
theorem cel_refs {K : CK} {ad : Nat → Nat} {σ : Sg} {p n : Nat} (h : lay p = .inr (2, n)) : cel K ad σ p = .inl (K.2.2.1, n, .inr (.inr (.inr (.inr (fun j => some (ad (15 + 7 * j))))))) := by unfold cel; rw [h]; rfl
theorem cel_long {K : CK} {ad : Nat → Nat} {σ : Sg} {p n : Nat} (h : lay p = .inr (3, n)) : cel K ad σ p = .inl (K.2.2.2, n, .inr (.inl (fun j => (σ p j).toInt64))) := by unfold cel; rw [h]; rfl
theorem cel_cong {K : CK} {ad : Nat → Nat} {σ σ' : Sg} {p : Nat} (h : σ p = σ' p) : cel K ad σ p = cel K ad σ' p := by
  unfold cel celS
  split <;> simp [h]
  exact fv_cong (fun j _ => by rw [h])
theorem wld_set {K : CK} {ad : Nat → Nat} {σ σ' : Sg} {p : Nat} {e : va_E} (he : e = cel K ad σ' p) (hq : ∀ q, q ≠ p → σ q = σ' q) : (wld K ad σ).set p (ad p, e) = wld K ad σ' := by
  apply List.ext_getElem?
  intro j
  by_cases hj : j < 68
  · rw [wld_get hj]
    by_cases hjp : j = p
    · subst hjp
      rw [List.getElem?_set_self (by rw [wld_len]; exact hj), he]
    · rw [List.getElem?_set_ne (Ne.symm hjp), wld_get hj, cel_cong (hq j hjp)]
  · rw [List.getElem?_eq_none_iff.mpr (by rw [List.length_set, wld_len]; omega), List.getElem?_eq_none_iff.mpr (by rw [wld_len]; omega)]
-- addresses
def adInj (ad : Nat → Nat) : Prop := ∀ i j, i < 68 → j < 68 → ad i = ad j → i = j
def adS (ad : Nat → Nat) : Nat → Prop := fun q => ∃ i, i < 68 ∧ q = ad i
theorem wld_D {K : CK} {ad : Nat → Nat} {σ : Sg} {A : Nat → Prop} (hi : adInj ad) (hA : ∀ i, i < 68 → A (ad i)) : va_D A (wld K ad σ) := by
  have key : ∀ (k : Nat) (q : Nat × va_E), (wld K ad σ)[k]? = some q → k < 68 ∧ q.1 = ad k := by
    intro k q hk
    have hl := (List.getElem?_eq_some_iff.mp hk).1
    rw [wld_len] at hl
    rw [wld_get hl] at hk
    cases hk
    exact ⟨hl, rfl⟩
  refine ⟨fun i j x y h1 h2 h3 => ?_, fun k q hk => ?_⟩
  · obtain ⟨a1, b1⟩ := key i x h1
    obtain ⟨a2, b2⟩ := key j y h2
    exact hi i j a1 a2 (by rw [← b1, ← b2]; exact h3)
  · obtain ⟨a1, b1⟩ := key k q hk
    rw [b1]
    exact hA k a1
-- values, locals
def lvv (ad : Nat → Nat) : PV → Value
  | .inl x => .int x
  | .inr q => .ref (ad q)
theorem lvv_cat (ad : Nat → Nat) (v : PV) : (lvv ad v).category = 1 := by cases v <;> rfl
def lvl (ad : Nat → Nat) : Nat → List (Option PV) → List (Nat × Value)
  | _, [] => []
  | i, none :: r => lvl ad (i + 1) r
  | i, some v :: r => (i, lvv ad v) :: lvl ad (i + 1) r
theorem lvl_mem {ad : Nat → Nat} {v : PV} : ∀ {L : List (Option PV)} {b j : Nat}, L[j]? = some (some v) → (b + j, lvv ad v) ∈ lvl ad b L
  | [], _, _, h => by simp at h
  | none :: r, b, 0, h => by simp at h
  | some w :: r, b, 0, h => by simp at h; simp [lvl, h]
  | none :: r, b, j + 1, h => by
    have := lvl_mem (ad := ad) (L := r) (b := b + 1) (j := j) (by simpa using h)
    simp only [lvl]
    rw [show b + (j + 1) = b + 1 + j by omega]
    exact this
  | some w :: r, b, j + 1, h => by
    have := lvl_mem (ad := ad) (L := r) (b := b + 1) (j := j) (by simpa using h)
    simp only [lvl]
    rw [show b + (j + 1) = b + 1 + j by omega]
    exact List.mem_cons_of_mem _ this
theorem lvl_of {ad : Nat → Nat} {q : Nat × Value} : ∀ {L : List (Option PV)} {b : Nat}, q ∈ lvl ad b L → ∃ j v, q = (b + j, lvv ad v) ∧ L[j]? = some (some v)
  | [], _, h => by simp [lvl] at h
  | none :: r, b, h => by
    obtain ⟨j, v, h1, h2⟩ := lvl_of (L := r) (b := b + 1) h
    exact ⟨j + 1, v, by rw [h1, show b + 1 + j = b + (j + 1) by omega], by simpa using h2⟩
  | some w :: r, b, h => by
    rcases List.mem_cons.mp h with h | h
    · exact ⟨0, w, h, rfl⟩
    · obtain ⟨j, v, h1, h2⟩ := lvl_of (L := r) (b := b + 1) h
      exact ⟨j + 1, v, by rw [h1, show b + 1 + j = b + (j + 1) by omega], by simpa using h2⟩
theorem lvl_at {ad : Nat → Nat} {ls : Array Slot} {nL : Nat} {L : List (Option PV)} {i : Nat} {v : PV} (h : lv_has ls nL (lvl ad 0 L)) (hk : L[i]? = some (some v)) : ls[i]? = some (.val (lvv ad v)) := by
  have h1 := lvl_mem (ad := ad) (b := 0) hk
  rw [Nat.zero_add] at h1
  exact h.2.2 _ h1
theorem lvl_store {ad : Nat → Nat} {ls : Array Slot} {nL i : Nat} {L : List (Option PV)} {v : PV} (h : lv_has ls nL ((i, lvv ad v) :: (lvl ad 0 L).filter (fun q => !(q.1 == i) && !(q.1 + 1 == i && q.2.category == 2)))) : lv_has ls nL (lvl ad 0 (L.set i (some v))) := by
  refine ⟨h.1, h.2.1, fun q hq => h.2.2 q ?_⟩
  obtain ⟨j, w, rfl, h2⟩ := lvl_of hq
  rw [Nat.zero_add]
  by_cases hj : j = i
  · subst hj
    have hl : j < (L.set j (some v)).length := (List.getElem?_eq_some_iff.mp h2).1
    rw [List.length_set] at hl
    rw [List.getElem?_set_self hl] at h2
    cases h2
    exact List.mem_cons_self
  · rw [List.getElem?_set_ne (Ne.symm hj)] at h2
    have h3 := lvl_mem (ad := ad) (b := 0) h2
    rw [Nat.zero_add] at h3
    refine List.mem_cons_of_mem _ (List.mem_filter.mpr ⟨h3, ?_⟩)
    simp [hj, lvv_cat]
theorem lvl_none {ad : Nat → Nat} : ∀ (k b : Nat), lvl ad b (List.replicate k none) = []
  | 0, _ => rfl
  | k + 1, b => by rw [List.replicate_succ]; exact lvl_none k (b + 1)
theorem lvl_args {ad : Nat → Nat} {k : Nat} : ∀ (as : List PV) (b : Nat), lv_args b (as.map (lvv ad)) = lvl ad b (as.map some ++ List.replicate k none)
  | [], b => by simp [lv_args, lvl_none]
  | v :: r, b => by
    have h := lvl_args (ad := ad) (k := k) r (b + 1)
    simp only [List.map_cons, List.cons_append, lvl, lv_args]
    rw [if_neg (by rw [lvv_cat]; decide), h]
theorem lg_sl_len {ad : Nat → Nat} : ∀ (as : List PV), (lg_sl (as.map (lvv ad))).length = as.length
  | [] => rfl
  | v :: r => by
    have h := lg_sl_len (ad := ad) r
    unfold lg_sl at h ⊢
    simp only [List.map_cons, List.flatMap_cons, List.length_append, h, List.length_cons]
    rw [if_neg (by rw [lvv_cat]; decide)]
    simp only [List.length_cons, List.length_nil]
    omega
theorem cat_sum {ad : Nat → Nat} : ∀ (r : List PV), ((r.map (lvv ad)).map fun v => v.category).sum = r.length
  | [] => rfl
  | v :: r => by
    have h := cat_sum (ad := ad) r
    simp only [List.map_cons, List.sum_cons, h, lvv_cat, List.length_cons]
    omega
-- the words
def TT : List Cond := lw_tbl.filter goodWord
theorem TT_in {w : Cond} (h : w ∈ lw_tbl) (g : goodWord w = true) : w ∈ TT := List.mem_filter.mpr ⟨h, g⟩
theorem TT_good {big ws : List Cond} (h : ∀ w ∈ ws, w ∈ TT) (hb : ∀ w ∈ TT, w ∈ big) : GoodIn big ws := fun w hw => ⟨hb w (h w hw), good_of_word (List.mem_filter.mp (h w hw)).2⟩
end
section
-- ===== 02b: the judgement over pure states, a rule an instruction =====
def nestF : List (String × Nat × String × String × String × String) := [("TupleMethods", 57, "TupleMethods$Classes", "size", "I", "TupleMethods"), ("TupleMethods$Function", 44, "TupleMethods$Classes", "size", "I", "TupleMethods"), ("TupleMethods", 243, "TupleMethods$Classes", "parents", "[I", "TupleMethods"), ("TupleMethods", 240, "TupleMethods$Classes", "parentCounts", "[I", "TupleMethods"), ("TupleMethods", 90, "TupleMethods$Classes", "all", "[I", "TupleMethods"), ("TupleMethods", 83, "TupleMethods$Classes", "lists", "[I", "TupleMethods"), ("TupleMethods", 80, "TupleMethods$Classes", "lengths", "[I", "TupleMethods"), ("TupleMethods", 234, "TupleMethods$Classes", "ranks", "[I", "TupleMethods"), ("TupleMethods", 93, "TupleMethods$Function", "places", "I", "TupleMethods"), ("TupleMethods", 126, "TupleMethods$Function", "used", "I", "TupleMethods"), ("TupleMethods", 174, "TupleMethods$Function", "targets", "[I", "TupleMethods"), ("TupleMethods", 110, "TupleMethods$Function", "kinds", "[I", "TupleMethods"), ("TupleMethods", 113, "TupleMethods$Function", "values", "[I", "TupleMethods"), ("TupleMethods", 203, "TupleMethods$Function", "keptCalls", "[I", "TupleMethods"), ("TupleMethods", 135, "TupleMethods$Function", "keptCount", "I", "TupleMethods")]
def nestM : List (String × Nat × MethodName × String) := [("TupleMethods", 22, ⟨"TupleMethods$Function", "<init>", "()V"⟩, "TupleMethods"), ("TupleMethods$Function", 40, ⟨"TupleMethods", "classAt", "(II)I"⟩, "TupleMethods"), ("TupleMethods$Classes", 47, ⟨"TupleMethods", "classAt", "(II)I"⟩, "TupleMethods")]
def Nst (U : State) : Prop := (∀ t ∈ nestF, va_Nw (.fieldLinkNest t.1 t.2.1 t.2.2.1 t.2.2.2.1 t.2.2.2.2.1 t.2.2.2.2.2) U) ∧ ∀ t ∈ nestM, va_Nw (.methodLinkNest t.1 t.2.1 t.2.2.1 t.2.2.2) U
theorem Nst.same {u U : State} (h : u.vm = U.vm) (hN : Nst u) : Nst U := ⟨fun t ht => va_Nw.same rfl h (hN.1 t ht), fun t ht => va_Nw.same rfl h (hN.2 t ht)⟩
theorem Nst.warm {s U : State} (hW : s.WarmedH U.vm) (hN : Nst s) : Nst U := ⟨fun t ht => va_Nw.warmF hW (hN.1 t ht), fun t ht => va_Nw.warmM hW (hN.2 t ht)⟩
def Kx (D : va_G) (K : CK) (ad : Nat → Nat) (U : State) : Prop := va_K D vwCl (tysK K) U ∧ Nst U ∧ adInj ad
abbrev Gm : Type := Program × Launch × Env × Room × State × MethodId × Array Value × List Frame × Method × Code × va_G × CK × (Nat → Nat) × (Nat → Prop) × Nat × Nat × Nat × (State → Prop)
/-- the machine at pc, with the locals L, the stack st, the cells as σ says, comes to an end as Γ wants it -/
def J (Γ : Gm) (pc : Nat) (L : List (Option PV)) (st : List PV) (σ : Sg) : Prop := match Γ with
  | (p, l, e, R, s, m, args, below, meth, c, D, K, ad, A, nL, cells, slots, Q) => L.length = nL → ∀ (H : Heap) (locs : List Loc) (ls : Array Slot), va_P D vwCl (wld K ad σ) H → va_S A s.heap H locs → lv_has ls nL (lvl ad 0 L) → W p l e R s m args below meth c H locs cells slots Q (F0 m pc ls (st.map (lvv ad)))
def Cx (Γ : Gm) (own : String) (cc : ByteArray) (d : Nat) : Prop := match Γ with
  | (p, _, _, R, s, m, args, _, _, c, D, K, ad, A, nL, cells, slots, _) => p.tables.exec = Jvm.exec ∧ c.code = cc ∧ c.maxLocals = nL ∧ s.vm.findClass own = some m.cls ∧ (∀ w ∈ TT, w.before args s = true) ∧ Kx D K ad s ∧ (∀ i, i < 68 → A (ad i)) ∧ d ≤ R.frames ∧ 38 * d ≤ R.locals ∧ cells ≤ R.cells ∧ slots ≤ R.slots
def Qp (D : va_G) (K : CK) (ad : Nat → Nat) (post : Option PV → Sg → Prop) : Array Value → State → Outcome → State → Prop := fun _ st oc t => (∃ (r : Option PV) (σ' : Sg), oc = .returned (r.map (lvv ad)) ∧ post r σ' ∧ va_P D vwCl (wld K ad σ') t.heap) ∧ va_F (adS ad) st t
def Rt (Γ : Gm) (rt : Option FieldType) (post : Option PV → Sg → Prop) : Prop := match Γ with
  | (_, _, _, _, s, _, args, below, meth, _, D, K, ad, A, _, cells, slots, Q) => meth.sig.returnType = rt ∧ meth.locks = false ∧ A = adS ad ∧ cells = 0 ∧ slots = 0 ∧ Q = MQ below (Qp D K ad post) args s 0 0 (adS ad)
/-- a method's contract: at the arguments as, in the state σ, at most d frames deep, it comes back with 'post answer σ' -/
def Sp (y : MethodName) (cc : ByteArray) (nL : Nat) (rt : Option FieldType) (d : Nat) (as : List PV) (σ : Sg) (post : Option PV → Sg → Prop) : Prop :=
  ∀ (l : Launch) (D : va_G) (K : CK) (ad : Nat → Nat), Met l y (.code y cc nL rt :: TT) ({ frames := d, cells := 0, slots := 0, locals := 38 * d }) (va_Pc (as.map (lvv ad)) (fun U => va_P D vwCl (wld K ad σ) U.heap ∧ Kx D K ad U)) (Qp D K ad post) 0 0 (adS ad)
theorem Sp.intro {y : MethodName} {cc : ByteArray} {nL : Nat} {rt : Option FieldType} {d : Nat} {as : List PV} {σ : Sg} {post : Option PV → Sg → Prop} (hy : plainName y.cls = true) (hn : as.length ≤ nL)
    (body : ∀ Γ : Gm, Cx Γ y.cls cc d → Rt Γ rt post → J Γ 0 (as.map some ++ List.replicate (nL - as.length) none) [] σ) : Sp y cc nL rt d as σ post := by
  intro l D K ad
  refine Met.ofW (cc := cc) (maxL := nL) (ret := rt) hy rfl ?_
  intro p e s m args below meth c s₁ B hml hv
  obtain ⟨rfl, hP, hKx⟩ := hv
  have hts := atoms_spec (ws := .code y cc nL rt :: TT) B.pre
  have J0 := body (p, l, e, (headSpec (.code y cc nL rt :: TT) ({ frames := d, cells := 0, slots := 0, locals := 38 * d })).room, s, m, (as.map (lvv ad)).toArray, below, meth, c, D, K, ad, adS ad, nL, 0, 0, MQ below (Qp D K ad post) (as.map (lvv ad)).toArray s 0 0 (adS ad))
    ⟨B.exec, B.bytes, hml, findClass_of_methodNamed B.named, fun w hw => hts w (List.mem_cons_of_mem _ hw), hKx, fun i hi => ⟨i, hi, rfl⟩, Nat.le_refl _, Nat.le_refl _, Nat.zero_le _, Nat.zero_le _⟩
    ⟨B.returns, B.notSynchronized, rfl, rfl, rfl, rfl⟩
  have hl := lv_entry (as.map (lvv ad)) (n := nL) (by rw [lg_sl_len]; exact hn)
  rw [lvl_args (k := nL - as.length)] at hl
  rw [lg_entry_eq]
  exact J0 (by simp; omega) s.heap [] _ hP va_S.rf hl
theorem J.len {Γ : Gm} {pc : Nat} {L : List (Option PV)} {st : List PV} {σ : Sg} (h : L.length = Γ.2.2.2.2.2.2.2.2.2.2.2.2.2.2.1 → J Γ pc L st σ) : J Γ pc L st σ := by
  obtain ⟨p, l, e, R, s, m, args, below, meth, c, D, K, ad, A, nL, cells, slots, Q⟩ := Γ
  intro hL
  exact h hL hL
section Rules
variable {Γ : Gm} {own : String} {cc : ByteArray} {d pc : Nat} {L : List (Option PV)} {st : List PV} {σ : Sg}
theorem j_iconst (hc : Cx Γ own cc d) {n : Int} (v : Int32) (hd : decode cc pc = .ok (.iconst n, 1)) (hv : Int32.ofInt n = v) (n1 : J Γ (pc + 1) L (.inl v :: st) σ) : J Γ pc L st σ := by
  obtain ⟨p, l, e, R, s, m, args, below, meth, c, D, K, ad, A, nL, cells, slots, Q⟩ := Γ
  obtain ⟨hx, hb, hml, hown, hts, hK, hA, hfr, hlo, hce, hsl⟩ := hc
  intro hL H locs ls hP hS hl
  exact lv_iconst hx hb hd hv (n1 hL H locs ls hP hS hl)
theorem j_bipush (hc : Cx Γ own cc d) {n : Int} (v : Int32) (hd : decode cc pc = .ok (.bipush n, 2)) (hv : (Int8.ofInt n).toInt32 = v) (n1 : J Γ (pc + 2) L (.inl v :: st) σ) : J Γ pc L st σ := by
  obtain ⟨p, l, e, R, s, m, args, below, meth, c, D, K, ad, A, nL, cells, slots, Q⟩ := Γ
  obtain ⟨hx, hb, hml, hown, hts, hK, hA, hfr, hlo, hce, hsl⟩ := hc
  intro hL H locs ls hP hS hl
  exact lv_bipush hx hb hd hv (n1 hL H locs ls hP hS hl)
theorem j_sipush (hc : Cx Γ own cc d) {n : Int} (v : Int32) (hd : decode cc pc = .ok (.sipush n, 3)) (hv : (Int16.ofInt n).toInt32 = v) (n1 : J Γ (pc + 3) L (.inl v :: st) σ) : J Γ pc L st σ := by
  obtain ⟨p, l, e, R, s, m, args, below, meth, c, D, K, ad, A, nL, cells, slots, Q⟩ := Γ
  obtain ⟨hx, hb, hml, hown, hts, hK, hA, hfr, hlo, hce, hsl⟩ := hc
  intro hL H locs ls hP hS hl
  exact lv_sipush hx hb hd hv (n1 hL H locs ls hP hS hl)
theorem j_ldcw (hc : Cx Γ own cc d) {index : Nat} (v : Int32) (hw : Cond.constant own index v ∈ TT) (hd : decode cc pc = .ok (.ldc_w index, 3)) (n1 : J Γ (pc + 3) L (.inl v :: st) σ) : J Γ pc L st σ := by
  obtain ⟨p, l, e, R, s, m, args, below, meth, c, D, K, ad, A, nL, cells, slots, Q⟩ := Γ
  obtain ⟨hx, hb, hml, hown, hts, hK, hA, hfr, hlo, hce, hsl⟩ := hc
  intro hL H locs ls hP hS hl
  exact lv_ldcw hx hb hown (hts _ hw) hd (n1 hL H locs ls hP hS hl)
theorem j_iload_n (hc : Cx Γ own cc d) {k : Fin 4} {x : Int32} (hd : decode cc pc = .ok (.iload_n k, 1)) (hk : L[(k : Nat)]? = some (some (.inl x))) (n1 : J Γ (pc + 1) L (.inl x :: st) σ) : J Γ pc L st σ := by
  obtain ⟨p, l, e, R, s, m, args, below, meth, c, D, K, ad, A, nL, cells, slots, Q⟩ := Γ
  obtain ⟨hx, hb, hml, hown, hts, hK, hA, hfr, hlo, hce, hsl⟩ := hc
  intro hL H locs ls hP hS hl
  exact lv_iload_n hx hb hd rfl (lvl_at hl hk) (n1 hL H locs ls hP hS hl)
theorem j_iload (hc : Cx Γ own cc d) {k : Nat} {x : Int32} (hd : decode cc pc = .ok (.iload k, 2)) (hk : L[k]? = some (some (.inl x))) (n1 : J Γ (pc + 2) L (.inl x :: st) σ) : J Γ pc L st σ := by
  obtain ⟨p, l, e, R, s, m, args, below, meth, c, D, K, ad, A, nL, cells, slots, Q⟩ := Γ
  obtain ⟨hx, hb, hml, hown, hts, hK, hA, hfr, hlo, hce, hsl⟩ := hc
  intro hL H locs ls hP hS hl
  exact lv_iload hx hb hd (lvl_at hl hk) (n1 hL H locs ls hP hS hl)
theorem j_aload_n (hc : Cx Γ own cc d) {k : Fin 4} {x : Nat} (hd : decode cc pc = .ok (.aload_n k, 1)) (hk : L[(k : Nat)]? = some (some (.inr x))) (n1 : J Γ (pc + 1) L (.inr x :: st) σ) : J Γ pc L st σ := by
  obtain ⟨p, l, e, R, s, m, args, below, meth, c, D, K, ad, A, nL, cells, slots, Q⟩ := Γ
  obtain ⟨hx, hb, hml, hown, hts, hK, hA, hfr, hlo, hce, hsl⟩ := hc
  intro hL H locs ls hP hS hl
  exact lv_aload_n hx hb hd rfl (lvl_at hl hk) (n1 hL H locs ls hP hS hl)
theorem j_aload (hc : Cx Γ own cc d) {k : Nat} {x : Nat} (hd : decode cc pc = .ok (.aload k, 2)) (hk : L[k]? = some (some (.inr x))) (n1 : J Γ (pc + 2) L (.inr x :: st) σ) : J Γ pc L st σ := by
  obtain ⟨p, l, e, R, s, m, args, below, meth, c, D, K, ad, A, nL, cells, slots, Q⟩ := Γ
  obtain ⟨hx, hb, hml, hown, hts, hK, hA, hfr, hlo, hce, hsl⟩ := hc
  intro hL H locs ls hP hS hl
  exact lv_aload hx hb hd (lvl_at hl hk) (n1 hL H locs ls hP hS hl)
theorem j_istore_n (hc : Cx Γ own cc d) {k : Fin 4} {x : Int32} {L1 : List (Option PV)} (hd : decode cc pc = .ok (.istore_n k, 1)) (hk : (k : Nat) < L.length) (h1 : L.set (k : Nat) (some (.inl x)) = L1) (n1 : J Γ (pc + 1) L1 st σ) : J Γ pc L (.inl x :: st) σ := by
  obtain ⟨p, l, e, R, s, m, args, below, meth, c, D, K, ad, A, nL, cells, slots, Q⟩ := Γ
  obtain ⟨hx, hb, hml, hown, hts, hK, hA, hfr, hlo, hce, hsl⟩ := hc
  intro hL H locs ls hP hS hl
  subst h1
  exact lv_istore_n hx hb hd rfl hl (by rw [← hL]; exact hk) rfl (fun ls' h' => n1 (by rw [List.length_set]; exact hL) H locs ls' hP hS (lvl_store (v := .inl x) h'))
theorem j_istore (hc : Cx Γ own cc d) {k : Nat} {x : Int32} {L1 : List (Option PV)} (hd : decode cc pc = .ok (.istore k, 2)) (hk : k < L.length) (h1 : L.set k (some (.inl x)) = L1) (n1 : J Γ (pc + 2) L1 st σ) : J Γ pc L (.inl x :: st) σ := by
  obtain ⟨p, l, e, R, s, m, args, below, meth, c, D, K, ad, A, nL, cells, slots, Q⟩ := Γ
  obtain ⟨hx, hb, hml, hown, hts, hK, hA, hfr, hlo, hce, hsl⟩ := hc
  intro hL H locs ls hP hS hl
  subst h1
  exact lv_istore hx hb hd hl (by rw [← hL]; exact hk) rfl (fun ls' h' => n1 (by rw [List.length_set]; exact hL) H locs ls' hP hS (lvl_store (v := .inl x) h'))
theorem j_astore_n (hc : Cx Γ own cc d) {k : Fin 4} {x : Nat} {L1 : List (Option PV)} (hd : decode cc pc = .ok (.astore_n k, 1)) (hk : (k : Nat) < L.length) (h1 : L.set (k : Nat) (some (.inr x)) = L1) (n1 : J Γ (pc + 1) L1 st σ) : J Γ pc L (.inr x :: st) σ := by
  obtain ⟨p, l, e, R, s, m, args, below, meth, c, D, K, ad, A, nL, cells, slots, Q⟩ := Γ
  obtain ⟨hx, hb, hml, hown, hts, hK, hA, hfr, hlo, hce, hsl⟩ := hc
  intro hL H locs ls hP hS hl
  subst h1
  exact lv_astore_n hx hb hd rfl hl (by rw [← hL]; exact hk) rfl (fun ls' h' => n1 (by rw [List.length_set]; exact hL) H locs ls' hP hS (lvl_store (v := .inr x) h'))
theorem j_astore (hc : Cx Γ own cc d) {k : Nat} {x : Nat} {L1 : List (Option PV)} (hd : decode cc pc = .ok (.astore k, 2)) (hk : k < L.length) (h1 : L.set k (some (.inr x)) = L1) (n1 : J Γ (pc + 2) L1 st σ) : J Γ pc L (.inr x :: st) σ := by
  obtain ⟨p, l, e, R, s, m, args, below, meth, c, D, K, ad, A, nL, cells, slots, Q⟩ := Γ
  obtain ⟨hx, hb, hml, hown, hts, hK, hA, hfr, hlo, hce, hsl⟩ := hc
  intro hL H locs ls hP hS hl
  subst h1
  exact lv_astore hx hb hd hl (by rw [← hL]; exact hk) rfl (fun ls' h' => n1 (by rw [List.length_set]; exact hL) H locs ls' hP hS (lvl_store (v := .inr x) h'))
theorem j_iinc (hc : Cx Γ own cc d) {k : Nat} {n : Int} {x : Int32} {L1 : List (Option PV)} (v : Int32) (hd : decode cc pc = .ok (.iinc k n, 3)) (hk : L[k]? = some (some (.inl x))) (hv : x + Int32.ofInt n = v) (h1 : L.set k (some (.inl v)) = L1) (n1 : J Γ (pc + 3) L1 st σ) : J Γ pc L st σ := by
  obtain ⟨p, l, e, R, s, m, args, below, meth, c, D, K, ad, A, nL, cells, slots, Q⟩ := Γ
  obtain ⟨hx, hb, hml, hown, hts, hK, hA, hfr, hlo, hce, hsl⟩ := hc
  intro hL H locs ls hP hS hl
  subst h1
  have hkl : k < L.length := (List.getElem?_eq_some_iff.mp hk).1
  have hm := lvl_mem (ad := ad) (b := 0) hk
  rw [Nat.zero_add] at hm
  obtain ⟨i, hi⟩ := List.getElem?_of_mem hm
  exact lv_iinc hx hb hd hl hi hv (by rw [← hL]; exact hkl) rfl (fun ls' h' => n1 (by rw [List.length_set]; exact hL) H locs ls' hP hS (lvl_store (v := .inl v) h'))
theorem j_iadd (hc : Cx Γ own cc d) {x y : Int32} (v : Int32) (hd : decode cc pc = .ok (.iadd, 1)) (hv : x + y = v) (n1 : J Γ (pc + 1) L (.inl v :: st) σ) : J Γ pc L (.inl y :: .inl x :: st) σ := by
  obtain ⟨p, l, e, R, s, m, args, below, meth, c, D, K, ad, A, nL, cells, slots, Q⟩ := Γ
  obtain ⟨hx, hb, hml, hown, hts, hK, hA, hfr, hlo, hce, hsl⟩ := hc
  intro hL H locs ls hP hS hl
  subst hv
  exact lv_iadd hx hb hd (n1 hL H locs ls hP hS hl)
theorem j_isub (hc : Cx Γ own cc d) {x y : Int32} (v : Int32) (hd : decode cc pc = .ok (.isub, 1)) (hv : x - y = v) (n1 : J Γ (pc + 1) L (.inl v :: st) σ) : J Γ pc L (.inl y :: .inl x :: st) σ := by
  obtain ⟨p, l, e, R, s, m, args, below, meth, c, D, K, ad, A, nL, cells, slots, Q⟩ := Γ
  obtain ⟨hx, hb, hml, hown, hts, hK, hA, hfr, hlo, hce, hsl⟩ := hc
  intro hL H locs ls hP hS hl
  subst hv
  exact lv_isub hx hb hd (n1 hL H locs ls hP hS hl)
theorem j_imul (hc : Cx Γ own cc d) {x y : Int32} (v : Int32) (hd : decode cc pc = .ok (.imul, 1)) (hv : x * y = v) (n1 : J Γ (pc + 1) L (.inl v :: st) σ) : J Γ pc L (.inl y :: .inl x :: st) σ := by
  obtain ⟨p, l, e, R, s, m, args, below, meth, c, D, K, ad, A, nL, cells, slots, Q⟩ := Γ
  obtain ⟨hx, hb, hml, hown, hts, hK, hA, hfr, hlo, hce, hsl⟩ := hc
  intro hL H locs ls hP hS hl
  subst hv
  exact lv_imul hx hb hd (n1 hL H locs ls hP hS hl)
theorem j_iand (hc : Cx Γ own cc d) {x y : Int32} (v : Int32) (hd : decode cc pc = .ok (.iand, 1)) (hv : x &&& y = v) (n1 : J Γ (pc + 1) L (.inl v :: st) σ) : J Γ pc L (.inl y :: .inl x :: st) σ := by
  obtain ⟨p, l, e, R, s, m, args, below, meth, c, D, K, ad, A, nL, cells, slots, Q⟩ := Γ
  obtain ⟨hx, hb, hml, hown, hts, hK, hA, hfr, hlo, hce, hsl⟩ := hc
  intro hL H locs ls hP hS hl
  subst hv
  exact lv_iand hx hb hd (n1 hL H locs ls hP hS hl)
theorem j_ior (hc : Cx Γ own cc d) {x y : Int32} (v : Int32) (hd : decode cc pc = .ok (.ior, 1)) (hv : x ||| y = v) (n1 : J Γ (pc + 1) L (.inl v :: st) σ) : J Γ pc L (.inl y :: .inl x :: st) σ := by
  obtain ⟨p, l, e, R, s, m, args, below, meth, c, D, K, ad, A, nL, cells, slots, Q⟩ := Γ
  obtain ⟨hx, hb, hml, hown, hts, hK, hA, hfr, hlo, hce, hsl⟩ := hc
  intro hL H locs ls hP hS hl
  subst hv
  exact lv_ior hx hb hd (n1 hL H locs ls hP hS hl)
theorem j_ixor (hc : Cx Γ own cc d) {x y : Int32} (v : Int32) (hd : decode cc pc = .ok (.ixor, 1)) (hv : x ^^^ y = v) (n1 : J Γ (pc + 1) L (.inl v :: st) σ) : J Γ pc L (.inl y :: .inl x :: st) σ := by
  obtain ⟨p, l, e, R, s, m, args, below, meth, c, D, K, ad, A, nL, cells, slots, Q⟩ := Γ
  obtain ⟨hx, hb, hml, hown, hts, hK, hA, hfr, hlo, hce, hsl⟩ := hc
  intro hL H locs ls hP hS hl
  subst hv
  exact lv_ixor hx hb hd (n1 hL H locs ls hP hS hl)
theorem j_ishl (hc : Cx Γ own cc d) {x y : Int32} (v : Int32) (hd : decode cc pc = .ok (.ishl, 1)) (hv : x <<< (y &&& 31) = v) (n1 : J Γ (pc + 1) L (.inl v :: st) σ) : J Γ pc L (.inl y :: .inl x :: st) σ := by
  obtain ⟨p, l, e, R, s, m, args, below, meth, c, D, K, ad, A, nL, cells, slots, Q⟩ := Γ
  obtain ⟨hx, hb, hml, hown, hts, hK, hA, hfr, hlo, hce, hsl⟩ := hc
  intro hL H locs ls hP hS hl
  subst hv
  exact lv_ishl hx hb hd (n1 hL H locs ls hP hS hl)
theorem j_ishr (hc : Cx Γ own cc d) {x y : Int32} (v : Int32) (hd : decode cc pc = .ok (.ishr, 1)) (hv : x >>> (y &&& 31) = v) (n1 : J Γ (pc + 1) L (.inl v :: st) σ) : J Γ pc L (.inl y :: .inl x :: st) σ := by
  obtain ⟨p, l, e, R, s, m, args, below, meth, c, D, K, ad, A, nL, cells, slots, Q⟩ := Γ
  obtain ⟨hx, hb, hml, hown, hts, hK, hA, hfr, hlo, hce, hsl⟩ := hc
  intro hL H locs ls hP hS hl
  subst hv
  exact lv_ishr hx hb hd (n1 hL H locs ls hP hS hl)
theorem j_iushr (hc : Cx Γ own cc d) {x y : Int32} (v : Int32) (hd : decode cc pc = .ok (.iushr, 1)) (hv : (x.toUInt32 >>> (y.toUInt32 &&& Int32.toUInt32 31)).toInt32 = v) (n1 : J Γ (pc + 1) L (.inl v :: st) σ) : J Γ pc L (.inl y :: .inl x :: st) σ := by
  obtain ⟨p, l, e, R, s, m, args, below, meth, c, D, K, ad, A, nL, cells, slots, Q⟩ := Γ
  obtain ⟨hx, hb, hml, hown, hts, hK, hA, hfr, hlo, hce, hsl⟩ := hc
  intro hL H locs ls hP hS hl
  exact lv_iushr hx hb hd hv (n1 hL H locs ls hP hS hl)
theorem j_dup (hc : Cx Γ own cc d) {x : PV} (hd : decode cc pc = .ok (.dup, 1)) (n1 : J Γ (pc + 1) L (x :: x :: st) σ) : J Γ pc L (x :: st) σ := by
  obtain ⟨p, l, e, R, s, m, args, below, meth, c, D, K, ad, A, nL, cells, slots, Q⟩ := Γ
  obtain ⟨hx, hb, hml, hown, hts, hK, hA, hfr, hlo, hce, hsl⟩ := hc
  intro hL H locs ls hP hS hl
  exact lv_dup hx hb hd (lvv_cat ad x) (n1 hL H locs ls hP hS hl)
theorem j_dup2 (hc : Cx Γ own cc d) {x y : PV} (hd : decode cc pc = .ok (.dup2, 1)) (n1 : J Γ (pc + 1) L (x :: y :: x :: y :: st) σ) : J Γ pc L (x :: y :: st) σ := by
  obtain ⟨p, l, e, R, s, m, args, below, meth, c, D, K, ad, A, nL, cells, slots, Q⟩ := Γ
  obtain ⟨hx, hb, hml, hown, hts, hK, hA, hfr, hlo, hce, hsl⟩ := hc
  intro hL H locs ls hP hS hl
  exact lv_dup2_11 hx hb hd (lvv_cat ad x) (lvv_cat ad y) (n1 hL H locs ls hP hS hl)
theorem j_pop (hc : Cx Γ own cc d) {x : PV} (hd : decode cc pc = .ok (.pop, 1)) (n1 : J Γ (pc + 1) L st σ) : J Γ pc L (x :: st) σ := by
  obtain ⟨p, l, e, R, s, m, args, below, meth, c, D, K, ad, A, nL, cells, slots, Q⟩ := Γ
  obtain ⟨hx, hb, hml, hown, hts, hK, hA, hfr, hlo, hce, hsl⟩ := hc
  intro hL H locs ls hP hS hl
  exact lv_pop hx hb hd (lvv_cat ad x) (n1 hL H locs ls hP hS hl)
theorem j_goto (hc : Cx Γ own cc d) {off : Int} (tgt : Nat) (hd : decode cc pc = .ok (.goto off, 3)) (ht : (pc : Int) + off = (tgt : Int)) (n1 : J Γ tgt L st σ) : J Γ pc L st σ := by
  obtain ⟨p, l, e, R, s, m, args, below, meth, c, D, K, ad, A, nL, cells, slots, Q⟩ := Γ
  obtain ⟨hx, hb, hml, hown, hts, hK, hA, hfr, hlo, hce, hsl⟩ := hc
  intro hL H locs ls hP hS hl
  exact lv_goto hx hb hd ht (n1 hL H locs ls hP hS hl)
theorem j_if_eq (hc : Cx Γ own cc d) {x : Int32} {off : Int} (tgt : Nat) (hd : decode cc pc = .ok (.ifCond .eq off, 3)) (ht : (pc : Int) + off = (tgt : Int)) (kt : x = 0 → J Γ tgt L st σ) (kf : ¬ x = 0 → J Γ (pc + 3) L st σ) : J Γ pc L (.inl x :: st) σ := by
  obtain ⟨p, l, e, R, s, m, args, below, meth, c, D, K, ad, A, nL, cells, slots, Q⟩ := Γ
  obtain ⟨hx, hb, hml, hown, hts, hK, hA, hfr, hlo, hce, hsl⟩ := hc
  intro hL H locs ls hP hS hl
  exact lv_if_eq hx hb hd ht (fun h => kt h hL H locs ls hP hS hl) (fun h => kf h hL H locs ls hP hS hl)
theorem j_icmp_eq (hc : Cx Γ own cc d) {x y : Int32} {off : Int} (tgt : Nat) (hd : decode cc pc = .ok (.if_icmp .eq off, 3)) (ht : (pc : Int) + off = (tgt : Int)) (kt : x = y → J Γ tgt L st σ) (kf : ¬ x = y → J Γ (pc + 3) L st σ) : J Γ pc L (.inl y :: .inl x :: st) σ := by
  obtain ⟨p, l, e, R, s, m, args, below, meth, c, D, K, ad, A, nL, cells, slots, Q⟩ := Γ
  obtain ⟨hx, hb, hml, hown, hts, hK, hA, hfr, hlo, hce, hsl⟩ := hc
  intro hL H locs ls hP hS hl
  exact lv_icmp_eq hx hb hd ht (fun h => kt h hL H locs ls hP hS hl) (fun h => kf h hL H locs ls hP hS hl)
theorem j_if_ne (hc : Cx Γ own cc d) {x : Int32} {off : Int} (tgt : Nat) (hd : decode cc pc = .ok (.ifCond .ne off, 3)) (ht : (pc : Int) + off = (tgt : Int)) (kt : ¬ x = 0 → J Γ tgt L st σ) (kf : x = 0 → J Γ (pc + 3) L st σ) : J Γ pc L (.inl x :: st) σ := by
  obtain ⟨p, l, e, R, s, m, args, below, meth, c, D, K, ad, A, nL, cells, slots, Q⟩ := Γ
  obtain ⟨hx, hb, hml, hown, hts, hK, hA, hfr, hlo, hce, hsl⟩ := hc
  intro hL H locs ls hP hS hl
  exact lv_if_ne hx hb hd ht (fun h => kt h hL H locs ls hP hS hl) (fun h => kf h hL H locs ls hP hS hl)
theorem j_icmp_ne (hc : Cx Γ own cc d) {x y : Int32} {off : Int} (tgt : Nat) (hd : decode cc pc = .ok (.if_icmp .ne off, 3)) (ht : (pc : Int) + off = (tgt : Int)) (kt : ¬ x = y → J Γ tgt L st σ) (kf : x = y → J Γ (pc + 3) L st σ) : J Γ pc L (.inl y :: .inl x :: st) σ := by
  obtain ⟨p, l, e, R, s, m, args, below, meth, c, D, K, ad, A, nL, cells, slots, Q⟩ := Γ
  obtain ⟨hx, hb, hml, hown, hts, hK, hA, hfr, hlo, hce, hsl⟩ := hc
  intro hL H locs ls hP hS hl
  exact lv_icmp_ne hx hb hd ht (fun h => kt h hL H locs ls hP hS hl) (fun h => kf h hL H locs ls hP hS hl)
theorem j_if_lt (hc : Cx Γ own cc d) {x : Int32} {off : Int} (tgt : Nat) (hd : decode cc pc = .ok (.ifCond .lt off, 3)) (ht : (pc : Int) + off = (tgt : Int)) (kt : x < 0 → J Γ tgt L st σ) (kf : ¬ x < 0 → J Γ (pc + 3) L st σ) : J Γ pc L (.inl x :: st) σ := by
  obtain ⟨p, l, e, R, s, m, args, below, meth, c, D, K, ad, A, nL, cells, slots, Q⟩ := Γ
  obtain ⟨hx, hb, hml, hown, hts, hK, hA, hfr, hlo, hce, hsl⟩ := hc
  intro hL H locs ls hP hS hl
  exact lv_if_lt hx hb hd ht (fun h => kt h hL H locs ls hP hS hl) (fun h => kf h hL H locs ls hP hS hl)
theorem j_icmp_lt (hc : Cx Γ own cc d) {x y : Int32} {off : Int} (tgt : Nat) (hd : decode cc pc = .ok (.if_icmp .lt off, 3)) (ht : (pc : Int) + off = (tgt : Int)) (kt : x < y → J Γ tgt L st σ) (kf : ¬ x < y → J Γ (pc + 3) L st σ) : J Γ pc L (.inl y :: .inl x :: st) σ := by
  obtain ⟨p, l, e, R, s, m, args, below, meth, c, D, K, ad, A, nL, cells, slots, Q⟩ := Γ
  obtain ⟨hx, hb, hml, hown, hts, hK, hA, hfr, hlo, hce, hsl⟩ := hc
  intro hL H locs ls hP hS hl
  exact lv_icmp_lt hx hb hd ht (fun h => kt h hL H locs ls hP hS hl) (fun h => kf h hL H locs ls hP hS hl)
theorem j_if_ge (hc : Cx Γ own cc d) {x : Int32} {off : Int} (tgt : Nat) (hd : decode cc pc = .ok (.ifCond .ge off, 3)) (ht : (pc : Int) + off = (tgt : Int)) (kt : 0 ≤ x → J Γ tgt L st σ) (kf : ¬ 0 ≤ x → J Γ (pc + 3) L st σ) : J Γ pc L (.inl x :: st) σ := by
  obtain ⟨p, l, e, R, s, m, args, below, meth, c, D, K, ad, A, nL, cells, slots, Q⟩ := Γ
  obtain ⟨hx, hb, hml, hown, hts, hK, hA, hfr, hlo, hce, hsl⟩ := hc
  intro hL H locs ls hP hS hl
  exact lv_if_ge hx hb hd ht (fun h => kt h hL H locs ls hP hS hl) (fun h => kf h hL H locs ls hP hS hl)
theorem j_icmp_ge (hc : Cx Γ own cc d) {x y : Int32} {off : Int} (tgt : Nat) (hd : decode cc pc = .ok (.if_icmp .ge off, 3)) (ht : (pc : Int) + off = (tgt : Int)) (kt : y ≤ x → J Γ tgt L st σ) (kf : ¬ y ≤ x → J Γ (pc + 3) L st σ) : J Γ pc L (.inl y :: .inl x :: st) σ := by
  obtain ⟨p, l, e, R, s, m, args, below, meth, c, D, K, ad, A, nL, cells, slots, Q⟩ := Γ
  obtain ⟨hx, hb, hml, hown, hts, hK, hA, hfr, hlo, hce, hsl⟩ := hc
  intro hL H locs ls hP hS hl
  exact lv_icmp_ge hx hb hd ht (fun h => kt h hL H locs ls hP hS hl) (fun h => kf h hL H locs ls hP hS hl)
theorem j_if_gt (hc : Cx Γ own cc d) {x : Int32} {off : Int} (tgt : Nat) (hd : decode cc pc = .ok (.ifCond .gt off, 3)) (ht : (pc : Int) + off = (tgt : Int)) (kt : 0 < x → J Γ tgt L st σ) (kf : ¬ 0 < x → J Γ (pc + 3) L st σ) : J Γ pc L (.inl x :: st) σ := by
  obtain ⟨p, l, e, R, s, m, args, below, meth, c, D, K, ad, A, nL, cells, slots, Q⟩ := Γ
  obtain ⟨hx, hb, hml, hown, hts, hK, hA, hfr, hlo, hce, hsl⟩ := hc
  intro hL H locs ls hP hS hl
  exact lv_if_gt hx hb hd ht (fun h => kt h hL H locs ls hP hS hl) (fun h => kf h hL H locs ls hP hS hl)
theorem j_icmp_gt (hc : Cx Γ own cc d) {x y : Int32} {off : Int} (tgt : Nat) (hd : decode cc pc = .ok (.if_icmp .gt off, 3)) (ht : (pc : Int) + off = (tgt : Int)) (kt : y < x → J Γ tgt L st σ) (kf : ¬ y < x → J Γ (pc + 3) L st σ) : J Γ pc L (.inl y :: .inl x :: st) σ := by
  obtain ⟨p, l, e, R, s, m, args, below, meth, c, D, K, ad, A, nL, cells, slots, Q⟩ := Γ
  obtain ⟨hx, hb, hml, hown, hts, hK, hA, hfr, hlo, hce, hsl⟩ := hc
  intro hL H locs ls hP hS hl
  exact lv_icmp_gt hx hb hd ht (fun h => kt h hL H locs ls hP hS hl) (fun h => kf h hL H locs ls hP hS hl)
theorem j_if_le (hc : Cx Γ own cc d) {x : Int32} {off : Int} (tgt : Nat) (hd : decode cc pc = .ok (.ifCond .le off, 3)) (ht : (pc : Int) + off = (tgt : Int)) (kt : x ≤ 0 → J Γ tgt L st σ) (kf : ¬ x ≤ 0 → J Γ (pc + 3) L st σ) : J Γ pc L (.inl x :: st) σ := by
  obtain ⟨p, l, e, R, s, m, args, below, meth, c, D, K, ad, A, nL, cells, slots, Q⟩ := Γ
  obtain ⟨hx, hb, hml, hown, hts, hK, hA, hfr, hlo, hce, hsl⟩ := hc
  intro hL H locs ls hP hS hl
  exact lv_if_le hx hb hd ht (fun h => kt h hL H locs ls hP hS hl) (fun h => kf h hL H locs ls hP hS hl)
theorem j_icmp_le (hc : Cx Γ own cc d) {x y : Int32} {off : Int} (tgt : Nat) (hd : decode cc pc = .ok (.if_icmp .le off, 3)) (ht : (pc : Int) + off = (tgt : Int)) (kt : x ≤ y → J Γ tgt L st σ) (kf : ¬ x ≤ y → J Γ (pc + 3) L st σ) : J Γ pc L (.inl y :: .inl x :: st) σ := by
  obtain ⟨p, l, e, R, s, m, args, below, meth, c, D, K, ad, A, nL, cells, slots, Q⟩ := Γ
  obtain ⟨hx, hb, hml, hown, hts, hK, hA, hfr, hlo, hce, hsl⟩ := hc
  intro hL H locs ls hP hS hl
  exact lv_icmp_le hx hb hd ht (fun h => kt h hL H locs ls hP hS hl) (fun h => kf h hL H locs ls hP hS hl)
theorem j_tableIn (hc : Cx Γ own cc d) {dflt lo hi : Int} {offs : Array Int} {len : Nat} {x : Int32} {off : Int} (tgt : Nat) (hd : decode cc pc = .ok (.tableswitch dflt lo hi offs, len)) (h1 : ¬ x.toInt < lo) (h2 : ¬ hi < x.toInt) (ho : offs[(x.toInt - lo).toNat]? = some off) (ht : (pc : Int) + off = (tgt : Int)) (n1 : J Γ tgt L st σ) : J Γ pc L (.inl x :: st) σ := by
  obtain ⟨p, l, e, R, s, m, args, below, meth, c, D, K, ad, A, nL, cells, slots, Q⟩ := Γ
  obtain ⟨hx, hb, hml, hown, hts, hK, hA, hfr, hlo, hce, hsl⟩ := hc
  intro hL H locs ls hP hS hl
  exact lv_tableIn hx hb hd h1 h2 ho ht (n1 hL H locs ls hP hS hl)
theorem j_tableOut (hc : Cx Γ own cc d) {dflt lo hi : Int} {offs : Array Int} {len : Nat} {x : Int32} (tgt : Nat) (hd : decode cc pc = .ok (.tableswitch dflt lo hi offs, len)) (h : x.toInt < lo ∨ hi < x.toInt) (ht : (pc : Int) + dflt = (tgt : Int)) (n1 : J Γ tgt L st σ) : J Γ pc L (.inl x :: st) σ := by
  obtain ⟨p, l, e, R, s, m, args, below, meth, c, D, K, ad, A, nL, cells, slots, Q⟩ := Γ
  obtain ⟨hx, hb, hml, hown, hts, hK, hA, hfr, hlo, hce, hsl⟩ := hc
  intro hL H locs ls hP hS hl
  exact lv_tableOut hx hb hd h ht (n1 hL H locs ls hP hS hl)
def Fld (own : String) (index ci k : Nat) (fin : Bool) (ty : FieldType) : Prop := ∃ (C : String) (T : u_T) (N : Nat) (tyX : Nat → FieldType), vwCl[ci]? = some (C, T, N) ∧ k < N ∧ (∀ w ∈ u_ws C T N, w ∈ TT) ∧ (∀ k, k < N → parseFieldDescriptor (T k).2.2.1 = some (tyX k)) ∧ (∀ a, a < N → ∀ b, b < N → a ≠ b → (T a).2.1 ≠ (T b).2.1) ∧ (T k).1 = C ∧ (Cond.fieldLink own index C (T k).2.1 (T k).2.2.1 ∈ TT ∨ ∃ host, (own, index, C, (T k).2.1, (T k).2.2.1, host) ∈ nestF) ∧ (T k).2.2.2 = fin ∧ tyX k = ty
theorem j_getI (hc : Cx Γ own cc d) {q ci k index : Nat} {fin : Bool} {ty : FieldType} {fs : List (Option Nat)} (hf : Fld own index ci k fin ty) (hd : decode cc pc = .ok (.getfield index, 3)) (hq : q < 68) (hy : lay q = .inl (ci, fs)) (hk : fs[k]? = some none) (n1 : J Γ (pc + 3) L (.inl (σ q k) :: st) σ) : J Γ pc L (.inr q :: st) σ := by
  obtain ⟨p, l, e, R, s, m, args, below, meth, c, D, K, ad, A, nL, cells, slots, Q⟩ := Γ
  obtain ⟨hx, hb, hml, hown, hts, hK, hA, hfr, hlo, hce, hsl⟩ := hc
  intro hL H locs ls hP hS hl
  obtain ⟨C, T, N, tyX, f1, f2, f3, f4, f5, f6, f7, -, -⟩ := hf
  have hw : (wld K ad σ)[q]? = some (ad q, .inr (ci, fv ad σ q 0 fs)) := by rw [wld_get hq, cel_obj hy]
  rcases f7 with f7 | ⟨host, f7⟩
  · exact va_get (v := .int (σ q k)) hx hb hts f3 hown hK.1 hP q hw f1 k f2 (hts _ f7) (fun x h => by rw [f6] at h; exact h) (by have h := fv_int (ad := ad) (σ := σ) (p := q) (b := 0) hk; rw [Nat.zero_add] at h; exact h) hd (n1 hL H locs ls hP hS hl)
  · exact va_getN (v := .int (σ q k)) hx hb hts f3 hown hK.1 hP q hw f1 k f2 (va_Nw.use rfl (hK.2.1.1 _ f7)) (fun x h => by rw [f6] at h; exact h) (by have h := fv_int (ad := ad) (σ := σ) (p := q) (b := 0) hk; rw [Nat.zero_add] at h; exact h) hd (n1 hL H locs ls hP hS hl)
theorem j_getR (hc : Cx Γ own cc d) {q ci k index : Nat} {fin : Bool} {ty : FieldType} {fs : List (Option Nat)} {r : Nat} (hf : Fld own index ci k fin ty) (hd : decode cc pc = .ok (.getfield index, 3)) (hq : q < 68) (hy : lay q = .inl (ci, fs)) (hk : fs[k]? = some (some r)) (n1 : J Γ (pc + 3) L (.inr r :: st) σ) : J Γ pc L (.inr q :: st) σ := by
  obtain ⟨p, l, e, R, s, m, args, below, meth, c, D, K, ad, A, nL, cells, slots, Q⟩ := Γ
  obtain ⟨hx, hb, hml, hown, hts, hK, hA, hfr, hlo, hce, hsl⟩ := hc
  intro hL H locs ls hP hS hl
  obtain ⟨C, T, N, tyX, f1, f2, f3, f4, f5, f6, f7, -, -⟩ := hf
  have hw : (wld K ad σ)[q]? = some (ad q, .inr (ci, fv ad σ q 0 fs)) := by rw [wld_get hq, cel_obj hy]
  rcases f7 with f7 | ⟨host, f7⟩
  · exact va_get (v := .ref (ad r)) hx hb hts f3 hown hK.1 hP q hw f1 k f2 (hts _ f7) (fun x h => by rw [f6] at h; exact h) (fv_ref hk) hd (n1 hL H locs ls hP hS hl)
  · exact va_getN (v := .ref (ad r)) hx hb hts f3 hown hK.1 hP q hw f1 k f2 (va_Nw.use rfl (hK.2.1.1 _ f7)) (fun x h => by rw [f6] at h; exact h) (fv_ref hk) hd (n1 hL H locs ls hP hS hl)
theorem j_putI (hc : Cx Γ own cc d) {q ci k index : Nat} {v : Int32} {fs : List (Option Nat)} (hf : Fld own index ci k false .int) (hd : decode cc pc = .ok (.putfield index, 3)) (hq : q < 68) (hy : lay q = .inl (ci, fs)) (hk : fs[k]? = some none) (n1 : J Γ (pc + 3) L st (s2 σ q k v)) : J Γ pc L (.inl v :: .inr q :: st) σ := by
  obtain ⟨p, l, e, R, s, m, args, below, meth, c, D, K, ad, A, nL, cells, slots, Q⟩ := Γ
  obtain ⟨hx, hb, hml, hown, hts, hK, hA, hfr, hlo, hce, hsl⟩ := hc
  intro hL H locs ls hP hS hl
  obtain ⟨C, T, N, tyX, f1, f2, f3, f4, f5, f6, f7, f8, f9⟩ := hf
  have hw : (wld K ad σ)[q]? = some (ad q, .inr (ci, fv ad σ q 0 fs)) := by rw [wld_get hq, cel_obj hy]
  have hD : va_D A (wld K ad σ) := wld_D hK.2.2 hA
  have hlk : k < (fv ad σ q 0 fs).length := by rw [fv_len]; exact (List.getElem?_eq_some_iff.mp hk).1
  have he : (wld K ad σ).set q (ad q, .inr (ci, (fv ad σ q 0 fs).set k (.int v))) = wld K ad (s2 σ q k v) := wld_set (by rw [cel_obj hy, fv_set hk]) (fun j hj => by simp [s2, hj])
  have hty : parseFieldDescriptor (T k).2.2.1 = some .int := by rw [f4 k f2, f9]
  rcases f7 with f7 | ⟨host, f7⟩
  · exact va_put (v := .int v) (ty := .int) hx hb hts f3 tyX f4 f5 hown hK.1 hP hD hS q hw f1 k f2 (hts _ f7) (fun x h => by rw [f6] at h; exact h) f8 hty rfl rfl hlk hd (fun H1 locs1 hP1 _ hS1 => n1 hL H1 locs1 ls (by rw [he] at hP1; exact hP1) hS1 hl)
  · exact va_putN (v := .int v) (ty := .int) hx hb hts f3 tyX f4 f5 hown hK.1 hP hD hS q hw f1 k f2 (va_Nw.use rfl (hK.2.1.1 _ f7)) (fun x h => by rw [f6] at h; exact h) f8 hty rfl rfl hlk hd (fun H1 locs1 hP1 _ hS1 => n1 hL H1 locs1 ls (by rw [he] at hP1; exact hP1) hS1 hl)
theorem j_iald (hc : Cx Γ own cc d) {q n k : Nat} {i : Int32} (hd : decode cc pc = .ok (.iaload, 1)) (hq : q < 68) (hy : lay q = .inr (0, n)) (hi : i = nI k) (hk : k < n) (hn : n < 2 ^ 31) (n1 : J Γ (pc + 1) L (.inl (σ q k) :: st) σ) : J Γ pc L (.inl i :: .inr q :: st) σ := by
  obtain ⟨p, l, e, R, s, m, args, below, meth, c, D, K, ad, A, nL, cells, slots, Q⟩ := Γ
  obtain ⟨hx, hb, hml, hown, hts, hK, hA, hfr, hlo, hce, hsl⟩ := hc
  intro hL H locs ls hP hS hl
  subst hi
  have hw : (wld K ad σ)[q]? = some (ad q, .inl (K.1, n, .inl (σ q))) := by rw [wld_get hq, cel_int hy]
  have h := n1 hL H locs ls hP hS hl
  rw [← nI_clamp (n := k) (by omega)] at h
  exact va_iald hx hb hK.1 hP q 0 hw rfl (vp_in_nI hk hn) hd h
theorem j_bald (hc : Cx Γ own cc d) {q n k : Nat} {i : Int32} (hd : decode cc pc = .ok (.baload, 1)) (hq : q < 68) (hy : lay q = .inr (1, n)) (hi : i = nI k) (hk : k < n) (hn : n < 2 ^ 31) (n1 : J Γ (pc + 1) L (.inl (σ q k) :: st) σ) : J Γ pc L (.inl i :: .inr q :: st) σ := by
  obtain ⟨p, l, e, R, s, m, args, below, meth, c, D, K, ad, A, nL, cells, slots, Q⟩ := Γ
  obtain ⟨hx, hb, hml, hown, hts, hK, hA, hfr, hlo, hce, hsl⟩ := hc
  intro hL H locs ls hP hS hl
  subst hi
  have hw : (wld K ad σ)[q]? = some (ad q, .inl (K.2.1, n, .inl (σ q))) := by rw [wld_get hq, cel_bool hy]
  have h := n1 hL H locs ls hP hS hl
  rw [← nI_clamp (n := k) (by omega)] at h
  exact va_zald hx hb hK.1 hP q 1 hw rfl (vp_in_nI hk hn) hd h
theorem j_aald (hc : Cx Γ own cc d) {q n k : Nat} {i : Int32} (hd : decode cc pc = .ok (.aaload, 1)) (hq : q < 68) (hy : lay q = .inr (2, n)) (hi : i = nI k) (hk : k < n) (hn : n < 2 ^ 31) (n1 : J Γ (pc + 1) L (.inr (15 + 7 * k) :: st) σ) : J Γ pc L (.inl i :: .inr q :: st) σ := by
  obtain ⟨p, l, e, R, s, m, args, below, meth, c, D, K, ad, A, nL, cells, slots, Q⟩ := Γ
  obtain ⟨hx, hb, hml, hown, hts, hK, hA, hfr, hlo, hce, hsl⟩ := hc
  intro hL H locs ls hP hS hl
  subst hi
  have hw : (wld K ad σ)[q]? = some (ad q, .inl (K.2.2.1, n, .inr (.inr (.inr (.inr (fun j => some (ad (15 + 7 * j)))))))) := by rw [wld_get hq, cel_refs hy]
  have h := n1 hL H locs ls hP hS hl
  rw [← nI_clamp (n := k) (by omega)] at h
  exact va_aldq hx hb hK.1 hP q 2 hw rfl (vp_in_nI hk hn) hd h
theorem j_iast (hc : Cx Γ own cc d) {q n k : Nat} {i v : Int32} (hd : decode cc pc = .ok (.iastore, 1)) (hq : q < 68) (hy : lay q = .inr (0, n)) (hi : i = nI k) (hk : k < n) (hn : n < 2 ^ 31) (n1 : J Γ (pc + 1) L st (s2 σ q k v)) : J Γ pc L (.inl v :: .inl i :: .inr q :: st) σ := by
  obtain ⟨p, l, e, R, s, m, args, below, meth, c, D, K, ad, A, nL, cells, slots, Q⟩ := Γ
  obtain ⟨hx, hb, hml, hown, hts, hK, hA, hfr, hlo, hce, hsl⟩ := hc
  intro hL H locs ls hP hS hl
  subst hi
  have hw : (wld K ad σ)[q]? = some (ad q, .inl (K.1, n, .inl (σ q))) := by rw [wld_get hq, cel_int hy]
  have hD : va_D A (wld K ad σ) := wld_D hK.2.2 hA
  have he : (wld K ad σ).set q (ad q, .inl (K.1, n, .inl (upd (σ q) (nI k).toNatClampNeg v))) = wld K ad (s2 σ q k v) := wld_set (by rw [cel_int hy, nI_clamp (n := k) (by omega)]; simp [s2]) (fun j hj => by simp [s2, hj])
  exact va_iast hx hb hK.1 hP hD hS q 0 hw rfl (vp_in_nI hk hn) hd (fun H1 locs1 hP1 _ hS1 => n1 hL H1 locs1 ls (by rw [he] at hP1; exact hP1) hS1 hl)
theorem j_bast (hc : Cx Γ own cc d) {q n k : Nat} {i v : Int32} (hd : decode cc pc = .ok (.bastore, 1)) (hq : q < 68) (hy : lay q = .inr (1, n)) (hi : i = nI k) (hk : k < n) (hn : n < 2 ^ 31) (hv : vp_nar .boolean v = v) (n1 : J Γ (pc + 1) L st (s2 σ q k v)) : J Γ pc L (.inl v :: .inl i :: .inr q :: st) σ := by
  obtain ⟨p, l, e, R, s, m, args, below, meth, c, D, K, ad, A, nL, cells, slots, Q⟩ := Γ
  obtain ⟨hx, hb, hml, hown, hts, hK, hA, hfr, hlo, hce, hsl⟩ := hc
  intro hL H locs ls hP hS hl
  subst hi
  have hw : (wld K ad σ)[q]? = some (ad q, .inl (K.2.1, n, .inl (σ q))) := by rw [wld_get hq, cel_bool hy]
  have hD : va_D A (wld K ad σ) := wld_D hK.2.2 hA
  have he : (wld K ad σ).set q (ad q, .inl (K.2.1, n, .inl (upd (σ q) (nI k).toNatClampNeg (vp_nar .boolean v)))) = wld K ad (s2 σ q k v) := wld_set (by rw [cel_bool hy, nI_clamp (n := k) (by omega), hv]; simp [s2]) (fun j hj => by simp [s2, hj])
  exact va_zast hx hb hK.1 hP hD hS q 1 hw rfl (vp_in_nI hk hn) hd (fun H1 locs1 hP1 _ hS1 => n1 hL H1 locs1 ls (by rw [he] at hP1; exact hP1) hS1 hl)
theorem j_alen (hc : Cx Γ own cc d) {q n : Nat} (hd : decode cc pc = .ok (.arraylength, 1)) (hq : q < 68) (hy : lay q = .inr (0, n)) (n1 : J Γ (pc + 1) L (.inl (nI n) :: st) σ) : J Γ pc L (.inr q :: st) σ := by
  obtain ⟨p, l, e, R, s, m, args, below, meth, c, D, K, ad, A, nL, cells, slots, Q⟩ := Γ
  obtain ⟨hx, hb, hml, hown, hts, hK, hA, hfr, hlo, hce, hsl⟩ := hc
  intro hL H locs ls hP hS hl
  have hw : (wld K ad σ)[q]? = some (ad q, .inl (K.1, n, .inl (σ q))) := by rw [wld_get hq, cel_int hy]
  exact va_alen hx hb hK.1 hP q 0 hw (ty := .int) rfl rfl hd (n1 hL H locs ls hP hS hl)
/-- System.arraycopy of ints -/
theorem j_copy (hc : Cx Γ own cc d) {q0 q1 k0 k1 sp dp n index : Nat} {isp idp inn : Int32} (hw1 : Cond.methodLink own index arraycopyName ∈ TT) (hw2 : Cond.native arraycopyName ∈ TT) (hw3 : Cond.static arraycopyName ∈ TT) (hw4 : Cond.initialized "java/lang/System" ∈ TT) (hd : decode cc pc = .ok (.invokestatic index, 3)) (hq0 : q0 < 68) (hq1 : q1 < 68) (hy0 : lay q0 = .inr (0, k0)) (hy1 : lay q1 = .inr (0, k1)) (h1 : isp = nI sp) (h2 : idp = nI dp) (h3 : inn = nI n) (h4 : sp + n ≤ k0) (h5 : dp + n ≤ k1) (hk0 : k0 < 2 ^ 31) (hk1 : k1 < 2 ^ 31) (hst : st.length ≤ 8) (hdd : 1 ≤ d) (n1 : J Γ (pc + 3) L st (sR σ q1 (va_cpy (σ q0) (σ q1) sp dp n))) : J Γ pc L (.inl inn :: .inl idp :: .inr q1 :: .inl isp :: .inr q0 :: st) σ := by
  obtain ⟨p, l, e, R, s, m, args, below, meth, c, D, K, ad, A, nL, cells, slots, Q⟩ := Γ
  obtain ⟨hx, hb, hml, hown, hts, hK, hA, hfr, hlo, hce, hsl⟩ := hc
  intro hL H locs ls hP hS hl
  subst h1; subst h2; subst h3
  have hw0 : (wld K ad σ)[q0]? = some (ad q0, .inl (K.1, k0, .inl (σ q0))) := by rw [wld_get hq0, cel_int hy0]
  have hwA : (wld K ad σ)[q1]? = some (ad q1, .inl (K.1, k1, .inl (σ q1))) := by rw [wld_get hq1, cel_int hy1]
  have hD : va_D A (wld K ad σ) := wld_D hK.2.2 hA
  have e1 := nI_clamp (n := sp) (by omega)
  have e2 := nI_clamp (n := dp) (by omega)
  have e3 := nI_clamp (n := n) (by omega)
  have he : (wld K ad σ).set q1 (ad q1, .inl (K.1, k1, .inl (va_cpy (σ q0) (σ q1) (nI sp).toNatClampNeg (nI dp).toNatClampNeg (nI n).toNatClampNeg))) = wld K ad (sR σ q1 (va_cpy (σ q0) (σ q1) sp dp n)) := wld_set (by rw [cel_int hy1, e1, e2, e3]; simp [sR]) (fun j hj => by simp [sR, hj])
  have hnf : nativeFrameWords "java/lang/System" "arraycopy" 5 + 11 ≤ 30 := by decide +kernel
  exact va_copyi hx hb (by rw [hml]; exact hl.1.symm) hown (hts _ hw1) (hts _ hw2) (hts _ hw3) (hts _ hw4) hK.1 hP hD hS q0 q1 0 0 hw0 hwA rfl rfl rfl (nI_pos (n := sp) (by omega)) (nI_pos (n := dp) (by omega)) (nI_pos (n := n) (by omega)) (by rw [e1, e3]; exact h4) (by rw [e2, e3]; exact h5) (fun i _ => rfl) (by omega) (by rw [cat_sum]; omega) hd (fun H1 locs1 hP1 _ hS1 => n1 hL H1 locs1 ls (by rw [he] at hP1; exact hP1) hS1 hl)
/-- Math.max -/
theorem j_max (hc : Cx Γ own cc d) {index : Nat} {x y : Int32} (hw1 : Cond.methodLink own index Lib.Math.max.name ∈ TT) (hw2 : Cond.static Lib.Math.max.name ∈ TT) (hw3 : Cond.initialized "java/lang/Math" ∈ TT) (hw4 : Cond.code Lib.Math.max.name Lib.Math.max.code 2 (some .int) ∈ TT) (hd : decode cc pc = .ok (.invokestatic index, 3)) (hst : st.length ≤ 8) (hdd : 1 ≤ d) (n1 : J Γ (pc + 3) L (.inl (if x < y then y else x) :: st) σ) : J Γ pc L (.inl y :: .inl x :: st) σ := by
  obtain ⟨p, l, e, R, s, m, args, below, meth, c, D, K, ad, A, nL, cells, slots, Q⟩ := Γ
  obtain ⟨hx, hb, hml, hown, hts, hK, hA, hfr, hlo, hce, hsl⟩ := hc
  intro hL H locs ls hP hS hl
  exact va_mmax hx hb (by rw [hml]; exact hl.1.symm) hown (hts _ hw1) (hts _ hw2) (hts _ hw3) (hts _ hw4) (by omega) (by rw [cat_sum]; omega) hce hsl hd (n1 hL H locs ls hP hS hl)
theorem j_iret {rt : FieldType} {post : Option PV → Sg → Prop} {v : Int32} (hc : Cx Γ own cc d) (hr : Rt Γ (some rt) post) (hd : decode cc pc = .ok (.ireturn, 1)) (hn : narrow rt (.int v) = .int v) (hp : post (some (.inl v)) σ) : J Γ pc L [.inl v] σ := by
  obtain ⟨p, l, e, R, s, m, args, below, meth, c, D, K, ad, A, nL, cells, slots, Q⟩ := Γ
  obtain ⟨hx, hb, hml, hown, hts, hK, hA, hfr, hlo, hce, hsl⟩ := hc
  intro hL H locs ls hP hS hl
  obtain ⟨r1, r2, rfl, rfl, rfl, rfl⟩ := hr
  exact W.zret hx hb r1 hn (fun t ht hW => ⟨⟨some (.inl v), σ, rfl, hp, by rw [ht]; exact hP⟩, hS.F ht⟩) hS.2.2 hd r2
theorem j_ret {post : Option PV → Sg → Prop} (hc : Cx Γ own cc d) (hr : Rt Γ none post) (hd : decode cc pc = .ok (.return_, 1)) (hp : post none σ) : J Γ pc L [] σ := by
  obtain ⟨p, l, e, R, s, m, args, below, meth, c, D, K, ad, A, nL, cells, slots, Q⟩ := Γ
  obtain ⟨hx, hb, hml, hown, hts, hK, hA, hfr, hlo, hce, hsl⟩ := hc
  intro hL H locs ls hP hS hl
  obtain ⟨r1, r2, rfl, rfl, rfl, rfl⟩ := hr
  exact W.vret hx hb r1 (fun t ht hW => ⟨⟨none, σ, rfl, hp, by rw [ht]; exact hP⟩, hS.F ht⟩) hS.2.2 hd r2
end Rules
/-- behind a call -/
theorem jw_call {p : Program} {l : Launch} {e : Env} {R : Room} {s : State} {m : MethodId} {args : Array Value} {below : List Frame} {meth : Method} {c : Code} {H : Heap} {locs : List Loc} {cells slots : Nat} {Q : State → Prop} {D : va_G} {K : CK} {ad : Nat → Nat} {A : Nat → Prop} {post : Option PV → Sg → Prop} {a : Array Value} {pc : Nat} {ls : Array Slot} {st0 : List Value} {rest : List PV}
    (hr : va_Run p l e R s m args below meth c H locs cells slots 0 0 (F0 m pc ls st0) (rest.map (lvv ad)) (Qp D K ad post a) (adS ad)) (hS : va_S A s.heap H locs) (hA : ∀ i, i < 68 → A (ad i))
    (kk : ∀ (r : Option PV) (σ' : Sg), post r σ' → ∀ (H1 : Heap) (locs1 : List Loc), va_P D vwCl (wld K ad σ') H1 → va_S A s.heap H1 locs1 → W p l e R s m args below meth c H1 locs1 cells slots Q (F0 m (pc + 3) ls ((r.toList ++ rest).map (lvv ad)))) : W p l e R s m args below meth c H locs cells slots Q (F0 m pc ls st0) := by
  intro T hT X
  obtain ⟨v, st₀, t, T', Lx, h0, X', hL, e1, e2, ⟨⟨r, σ', hv, hp, hb⟩, hz, hk⟩, stp⟩ := hr T hT X
  cases hv
  rw [h0] at hz hk
  have hAS : ∀ q, adS ad q → A q := fun q hq => by obtain ⟨i, hi, rfl⟩ := hq; exact hA i hi
  obtain ⟨t2, a1, b1⟩ := kk r σ' hp T'.heap (locs ++ Lx) (by rw [e1]; exact hb)
    ⟨Nat.le_trans hS.1 (by rw [e1]; exact hz), fun q h1 h2 => by rw [e1, hk q (Nat.lt_of_lt_of_le h1 hS.1) (fun z => h2 (hAS q z))]; exact hS.2.1 q h1 h2, fun q hq => by
      rcases List.mem_append.mp hq with h | h
      · exact hS.2.2 q h
      · exact hAS _ (hL q h)⟩ T' rfl X'
  refine ⟨t2, stp t2 ?_, b1⟩
  have hst : (Option.map (lvv ad) r).toList ++ rest.map (lvv ad) = (r.toList ++ rest).map (lvv ad) := by cases r <;> simp
  show Steps _ _ _ (T'.setTop { F0 m pc ls st0 with pc := pc + 3, stack := (Option.map (lvv ad) r).toList ++ rest.map (lvv ad) }) _
  rw [hst]
  exact a1
theorem Kx.blind {D : va_G} {K : CK} {ad : Nat → Nat} {σ : Sg} {av : List Value} : FrameBlind (va_Pc av (fun U => va_P D vwCl (wld K ad σ) U.heap ∧ Kx D K ad U)) := fun _ U g mk q => by
  obtain ⟨q0, qP, qK, qN, qI⟩ := q
  exact ⟨q0, qP, va_K.moved (u := U) (Vm.Alike.refl U.vm) qK, Nst.same (u := U) rfl qN, qI⟩
theorem Kx.warm {D : va_G} {K : CK} {ad : Nat → Nat} {s U : State} (hW : s.WarmedH U.vm) (h : Kx D K ad s) : Kx D K ad U := ⟨va_K.moved hW.alike h.1, h.2.1.warm hW, h.2.2⟩
/-- what a call instruction is: kind 0 virtual, 1 static, 2 a nest mate's static; its link, its method -/
def Cw (kind : Nat) (own : String) (index : Nat) (y : MethodName) (bytes : ByteArray) (maxL : Nat) (ret : Option FieldType) (n : Nat) : Prop :=
  (match kind with
    | 0 => Cond.methodLink own index y ∈ TT ∧ Cond.instanceMethod y ∈ TT ∧ Cond.selects y.cls y y ∈ TT
    | 1 => Cond.methodLink own index y ∈ TT ∧ Cond.static y ∈ TT
    | _ => (∃ host, (own, index, y, host) ∈ nestM) ∧ Cond.static y ∈ TT) ∧
  Cond.initialized y.cls ∈ TT ∧ Cond.code y bytes maxL ret ∈ TT ∧ (y.cls ≠ "java/lang/invoke/MethodHandle" ∧ y.cls ≠ "java/lang/invoke/VarHandle" ∧ (parseMethodDescriptor y.desc).map (fun d => d.parameters.length) = some n) ∧ maxL ≤ 19
section Calls1
variable {Γ : Gm} {own : String} {cc : ByteArray} {d pc : Nat} {L : List (Option PV)} {σ : Sg}
theorem j_callV (hc : Cx Γ own cc d) {y : MethodName} {bytes : ByteArray} {maxL n index d' q ci : Nat} {ret : Option FieldType} {as rest st : List PV} {post : Option PV → Sg → Prop} {fs : List (Option Nat)} {T : u_T} {N : Nat} (hw : Cw 0 own index y bytes maxL ret n) (hM : Sp y bytes maxL ret d' (.inr q :: as) σ post) (hd : decode cc pc = .ok (.invokevirtual index, 3)) (hst : st = as.reverse ++ .inr q :: rest) (hn : as.length = n) (hdd : d' + 1 ≤ d) (hrl : rest.length ≤ 8) (hq : q < 68) (hy : lay q = .inl (ci, fs)) (hci : vwCl[ci]? = some (y.cls, T, N)) (n1 : ∀ r σ', post r σ' → J Γ (pc + 3) L (r.toList ++ rest) σ') : J Γ pc L st σ := by
  obtain ⟨⟨w0, w1, w2⟩, w4, w3, w5, w6⟩ := hw
  obtain ⟨p, l, e, R, s, m, args, below, meth, c, D, K, ad, A, nL, cells, slots, Q⟩ := Γ
  obtain ⟨hx, hb, hml, hown, hts, hK, hA, hfr, hlo, hce, hsl⟩ := hc
  intro hL H locs ls hP hS hl
  have hgood : GoodIn TT (Cond.code y bytes maxL ret :: TT) := TT_good (fun w hw => by
    rcases List.mem_cons.mp hw with rfl | h
    · exact w3
    · exact h) (fun w h => h)
  have hroom : d' + 1 ≤ R.frames ∧ 8 + (maxL + 11) + 38 * d' ≤ R.locals := ⟨by omega, by omega⟩
  subst hst
  have hwq : (wld K ad σ)[q]? = some (ad q, .inr (ci, fv ad σ q 0 fs)) := by rw [wld_get hq, cel_obj hy]
  have hrun := va_runV (C := y.cls) (As := as.map (lvv ad)) (rest := rest.map (lvv ad)) (b := ad q) (g := F0 m pc ls ((as.reverse ++ .inr q :: rest).map (lvv ad))) (H := H) (locs := locs) (cells := cells) (slots := slots) (below := below) (meth := meth) (e := e) ⟨hx, hb, hml, hown, hts⟩ (hM l D K ad) ⟨callB_of n hts hgood rfl rfl rfl (hts _ w4) (hts _ w0) w5 hroom, hts _ w1, hts _ w2⟩
    ⟨Kx.blind, va_recv hK.1 hP hci hwq, fun U hU hW => ⟨rfl, by rw [hU]; exact hP, hK.warm hW⟩⟩ rfl (by rw [List.length_map]; exact hn) hl.1 (by simp [lvv]) (lv_room (by rw [cat_sum]; exact hrl)) hd ⟨hce, hsl⟩
  exact jw_call hrun hS hA (fun r σ' hp H1 locs1 hP1 hS1 => n1 r σ' hp hL H1 locs1 ls hP1 hS1 hl)
theorem j_callS (hc : Cx Γ own cc d) {y : MethodName} {bytes : ByteArray} {maxL n index d' : Nat} {ret : Option FieldType} {as rest st : List PV} {post : Option PV → Sg → Prop} (hw : Cw 1 own index y bytes maxL ret n) (hM : Sp y bytes maxL ret d' as σ post) (hd : decode cc pc = .ok (.invokestatic index, 3)) (hst : st = as.reverse ++ rest) (hn : as.length = n) (hdd : d' + 1 ≤ d) (hrl : rest.length ≤ 8) (n1 : ∀ r σ', post r σ' → J Γ (pc + 3) L (r.toList ++ rest) σ') : J Γ pc L st σ := by
  obtain ⟨⟨w0, w1⟩, w4, w3, w5, w6⟩ := hw
  obtain ⟨p, l, e, R, s, m, args, below, meth, c, D, K, ad, A, nL, cells, slots, Q⟩ := Γ
  obtain ⟨hx, hb, hml, hown, hts, hK, hA, hfr, hlo, hce, hsl⟩ := hc
  intro hL H locs ls hP hS hl
  have hgood : GoodIn TT (Cond.code y bytes maxL ret :: TT) := TT_good (fun w hw => by
    rcases List.mem_cons.mp hw with rfl | h
    · exact w3
    · exact h) (fun w h => h)
  have hroom : d' + 1 ≤ R.frames ∧ 8 + (maxL + 11) + 38 * d' ≤ R.locals := ⟨by omega, by omega⟩
  subst hst
  have hrun := va_runS (As := as.map (lvv ad)) (rest := rest.map (lvv ad)) (g := F0 m pc ls ((as.reverse ++ rest).map (lvv ad))) (H := H) (locs := locs) (cells := cells) (slots := slots) (below := below) (meth := meth) (e := e) ⟨hx, hb, hml, hown, hts⟩ (hM l D K ad) ⟨callB_of n hts hgood rfl rfl rfl (hts _ w4) (hts _ w0) w5 hroom, hts _ w1⟩
    ⟨Kx.blind, fun U hU hW => ⟨rfl, by rw [hU]; exact hP, hK.warm hW⟩⟩ rfl (by rw [List.length_map]; exact hn) hl.1 (by simp) (lv_room (by rw [cat_sum]; exact hrl)) hd ⟨hce, hsl⟩
  exact jw_call hrun hS hA (fun r σ' hp H1 locs1 hP1 hS1 => n1 r σ' hp hL H1 locs1 ls hP1 hS1 hl)
theorem j_callSN (hc : Cx Γ own cc d) {y : MethodName} {bytes : ByteArray} {maxL n index d' : Nat} {ret : Option FieldType} {as rest st : List PV} {post : Option PV → Sg → Prop} (hw : Cw 2 own index y bytes maxL ret n) (hM : Sp y bytes maxL ret d' as σ post) (hd : decode cc pc = .ok (.invokestatic index, 3)) (hst : st = as.reverse ++ rest) (hn : as.length = n) (hdd : d' + 1 ≤ d) (hrl : rest.length ≤ 8) (n1 : ∀ r σ', post r σ' → J Γ (pc + 3) L (r.toList ++ rest) σ') : J Γ pc L st σ := by
  obtain ⟨⟨⟨host, w0⟩, w1⟩, w4, w3, w5, w6⟩ := hw
  obtain ⟨p, l, e, R, s, m, args, below, meth, c, D, K, ad, A, nL, cells, slots, Q⟩ := Γ
  obtain ⟨hx, hb, hml, hown, hts, hK, hA, hfr, hlo, hce, hsl⟩ := hc
  intro hL H locs ls hP hS hl
  have hgood : GoodIn TT (Cond.code y bytes maxL ret :: TT) := TT_good (fun w hw => by
    rcases List.mem_cons.mp hw with rfl | h
    · exact w3
    · exact h) (fun w h => h)
  have hroom : d' + 1 ≤ R.frames ∧ 8 + (maxL + 11) + 38 * d' ≤ R.locals := ⟨by omega, by omega⟩
  subst hst
  have hrun := va_runSN (As := as.map (lvv ad)) (rest := rest.map (lvv ad)) (g := F0 m pc ls ((as.reverse ++ rest).map (lvv ad))) (H := H) (locs := locs) (cells := cells) (slots := slots) (below := below) (meth := meth) (e := e) ⟨hx, hb, hml, hown, hts⟩ (hM l D K ad) ⟨va_cnB n hts hgood rfl rfl rfl (hK.2.1.2 _ w0) (hts _ w4) w5 hroom, hts _ w1, trivial⟩
    ⟨Kx.blind, fun U hU hW => ⟨rfl, by rw [hU]; exact hP, hK.warm hW⟩⟩ rfl (by rw [List.length_map]; exact hn) hl.1 (by simp) (lv_room (by rw [cat_sum]; exact hrl)) hd ⟨hce, hsl⟩
  exact jw_call hrun hS hA (fun r σ' hp H1 locs1 hP1 hS1 => n1 r σ' hp hL H1 locs1 ls hP1 hS1 hl)
end Calls1
end
section
-- ===== 03: words of the tables, links of fields and calls =====
theorem inT0 : ∀ w ∈ u_ws RX0 TX0 10, w ∈ TT := fun w hw => (fun h => TT_in h.1 h.2) ((by decide +kernel : ∀ w ∈ u_ws RX0 TX0 10, w ∈ lw_tbl ∧ goodWord w = true) w hw)
theorem inT1 : ∀ w ∈ u_ws RX1 TX1 9, w ∈ TT := fun w hw => (fun h => TT_in h.1 h.2) ((by decide +kernel : ∀ w ∈ u_ws RX1 TX1 9, w ∈ lw_tbl ∧ goodWord w = true) w hw)
theorem inT2 : ∀ w ∈ u_ws RX2 TX2 12, w ∈ TT := fun w hw => (fun h => TT_in h.1 h.2) ((by decide +kernel : ∀ w ∈ u_ws RX2 TX2 12, w ∈ lw_tbl ∧ goodWord w = true) w hw)
theorem inT3 : ∀ w ∈ u_ws RX3 TX3 26, w ∈ TT := fun w hw => (fun h => TT_in h.1 h.2) ((by decide +kernel : ∀ w ∈ u_ws RX3 TX3 26, w ∈ lw_tbl ∧ goodWord w = true) w hw)
theorem m_87 : (Jvm.Cond.fieldLink "TupleMethods$Classes" (9 : Nat) "TupleMethods$Classes" "size" "I") ∈ TT := TT_in (List.mem_of_getElem? (i := 87) (by decide +kernel)) (by decide +kernel)
theorem fl_X0_9 : Fld RX0 9 0 0 false .int := ⟨RX0, TX0, 10, tyX0, rfl, by decide, inT0, tyX0_ok, nmX0, rfl, Or.inl m_87, rfl, rfl⟩
theorem fl_X2_57 : Fld RX2 57 0 0 false .int := ⟨RX0, TX0, 10, tyX0, rfl, by decide, inT0, tyX0_ok, nmX0, rfl, Or.inr ⟨"TupleMethods", by decide +kernel⟩, rfl, rfl⟩
theorem fl_X1_44 : Fld RX1 44 0 0 false .int := ⟨RX0, TX0, 10, tyX0, rfl, by decide, inT0, tyX0_ok, nmX0, rfl, Or.inr ⟨"TupleMethods", by decide +kernel⟩, rfl, rfl⟩
theorem m_90 : (Jvm.Cond.fieldLink "TupleMethods$Classes" (15 : Nat) "TupleMethods$Classes" "parents" "[I") ∈ TT := TT_in (List.mem_of_getElem? (i := 90) (by decide +kernel)) (by decide +kernel)
theorem fl_X0_15 : Fld RX0 15 0 1 true (.array .int) := ⟨RX0, TX0, 10, tyX0, rfl, by decide, inT0, tyX0_ok, nmX0, rfl, Or.inl m_90, rfl, rfl⟩
theorem fl_X2_243 : Fld RX2 243 0 1 true (.array .int) := ⟨RX0, TX0, 10, tyX0, rfl, by decide, inT0, tyX0_ok, nmX0, rfl, Or.inr ⟨"TupleMethods", by decide +kernel⟩, rfl, rfl⟩
theorem m_92 : (Jvm.Cond.fieldLink "TupleMethods$Classes" (19 : Nat) "TupleMethods$Classes" "parentCounts" "[I") ∈ TT := TT_in (List.mem_of_getElem? (i := 92) (by decide +kernel)) (by decide +kernel)
theorem fl_X0_19 : Fld RX0 19 0 2 true (.array .int) := ⟨RX0, TX0, 10, tyX0, rfl, by decide, inT0, tyX0_ok, nmX0, rfl, Or.inl m_92, rfl, rfl⟩
theorem fl_X2_240 : Fld RX2 240 0 2 true (.array .int) := ⟨RX0, TX0, 10, tyX0, rfl, by decide, inT0, tyX0_ok, nmX0, rfl, Or.inr ⟨"TupleMethods", by decide +kernel⟩, rfl, rfl⟩
theorem m_94 : (Jvm.Cond.fieldLink "TupleMethods$Classes" (22 : Nat) "TupleMethods$Classes" "all" "[I") ∈ TT := TT_in (List.mem_of_getElem? (i := 94) (by decide +kernel)) (by decide +kernel)
theorem fl_X0_22 : Fld RX0 22 0 3 true (.array .int) := ⟨RX0, TX0, 10, tyX0, rfl, by decide, inT0, tyX0_ok, nmX0, rfl, Or.inl m_94, rfl, rfl⟩
theorem fl_X2_90 : Fld RX2 90 0 3 true (.array .int) := ⟨RX0, TX0, 10, tyX0, rfl, by decide, inT0, tyX0_ok, nmX0, rfl, Or.inr ⟨"TupleMethods", by decide +kernel⟩, rfl, rfl⟩
theorem m_96 : (Jvm.Cond.fieldLink "TupleMethods$Classes" (25 : Nat) "TupleMethods$Classes" "lists" "[I") ∈ TT := TT_in (List.mem_of_getElem? (i := 96) (by decide +kernel)) (by decide +kernel)
theorem fl_X0_25 : Fld RX0 25 0 4 true (.array .int) := ⟨RX0, TX0, 10, tyX0, rfl, by decide, inT0, tyX0_ok, nmX0, rfl, Or.inl m_96, rfl, rfl⟩
theorem fl_X2_83 : Fld RX2 83 0 4 true (.array .int) := ⟨RX0, TX0, 10, tyX0, rfl, by decide, inT0, tyX0_ok, nmX0, rfl, Or.inr ⟨"TupleMethods", by decide +kernel⟩, rfl, rfl⟩
theorem m_98 : (Jvm.Cond.fieldLink "TupleMethods$Classes" (28 : Nat) "TupleMethods$Classes" "lengths" "[I") ∈ TT := TT_in (List.mem_of_getElem? (i := 98) (by decide +kernel)) (by decide +kernel)
theorem fl_X0_28 : Fld RX0 28 0 5 true (.array .int) := ⟨RX0, TX0, 10, tyX0, rfl, by decide, inT0, tyX0_ok, nmX0, rfl, Or.inl m_98, rfl, rfl⟩
theorem fl_X2_80 : Fld RX2 80 0 5 true (.array .int) := ⟨RX0, TX0, 10, tyX0, rfl, by decide, inT0, tyX0_ok, nmX0, rfl, Or.inr ⟨"TupleMethods", by decide +kernel⟩, rfl, rfl⟩
theorem m_100 : (Jvm.Cond.fieldLink "TupleMethods$Classes" (31 : Nat) "TupleMethods$Classes" "ranks" "[I") ∈ TT := TT_in (List.mem_of_getElem? (i := 100) (by decide +kernel)) (by decide +kernel)
theorem fl_X0_31 : Fld RX0 31 0 6 true (.array .int) := ⟨RX0, TX0, 10, tyX0, rfl, by decide, inT0, tyX0_ok, nmX0, rfl, Or.inl m_100, rfl, rfl⟩
theorem fl_X2_234 : Fld RX2 234 0 6 true (.array .int) := ⟨RX0, TX0, 10, tyX0, rfl, by decide, inT0, tyX0_ok, nmX0, rfl, Or.inr ⟨"TupleMethods", by decide +kernel⟩, rfl, rfl⟩
theorem m_102 : (Jvm.Cond.fieldLink "TupleMethods$Classes" (34 : Nat) "TupleMethods$Classes" "rows" "[I") ∈ TT := TT_in (List.mem_of_getElem? (i := 102) (by decide +kernel)) (by decide +kernel)
theorem fl_X0_34 : Fld RX0 34 0 7 true (.array .int) := ⟨RX0, TX0, 10, tyX0, rfl, by decide, inT0, tyX0_ok, nmX0, rfl, Or.inl m_102, rfl, rfl⟩
theorem m_103 : (Jvm.Cond.fieldLink "TupleMethods$Classes" (37 : Nat) "TupleMethods$Classes" "begins" "[I") ∈ TT := TT_in (List.mem_of_getElem? (i := 103) (by decide +kernel)) (by decide +kernel)
theorem fl_X0_37 : Fld RX0 37 0 8 true (.array .int) := ⟨RX0, TX0, 10, tyX0, rfl, by decide, inT0, tyX0_ok, nmX0, rfl, Or.inl m_103, rfl, rfl⟩
theorem m_104 : (Jvm.Cond.fieldLink "TupleMethods$Classes" (40 : Nat) "TupleMethods$Classes" "ends" "[I") ∈ TT := TT_in (List.mem_of_getElem? (i := 104) (by decide +kernel)) (by decide +kernel)
theorem fl_X0_40 : Fld RX0 40 0 9 true (.array .int) := ⟨RX0, TX0, 10, tyX0, rfl, by decide, inT0, tyX0_ok, nmX0, rfl, Or.inl m_104, rfl, rfl⟩
theorem m_134 : (Jvm.Cond.fieldLink "TupleMethods$Function" (9 : Nat) "TupleMethods$Function" "places" "I") ∈ TT := TT_in (List.mem_of_getElem? (i := 134) (by decide +kernel)) (by decide +kernel)
theorem fl_X1_9 : Fld RX1 9 1 0 false .int := ⟨RX1, TX1, 9, tyX1, rfl, by decide, inT1, tyX1_ok, nmX1, rfl, Or.inl m_134, rfl, rfl⟩
theorem fl_X2_93 : Fld RX2 93 1 0 false .int := ⟨RX1, TX1, 9, tyX1, rfl, by decide, inT1, tyX1_ok, nmX1, rfl, Or.inr ⟨"TupleMethods", by decide +kernel⟩, rfl, rfl⟩
theorem m_136 : (Jvm.Cond.fieldLink "TupleMethods$Function" (15 : Nat) "TupleMethods$Function" "used" "I") ∈ TT := TT_in (List.mem_of_getElem? (i := 136) (by decide +kernel)) (by decide +kernel)
theorem fl_X1_15 : Fld RX1 15 1 1 false .int := ⟨RX1, TX1, 9, tyX1, rfl, by decide, inT1, tyX1_ok, nmX1, rfl, Or.inl m_136, rfl, rfl⟩
theorem fl_X2_126 : Fld RX2 126 1 1 false .int := ⟨RX1, TX1, 9, tyX1, rfl, by decide, inT1, tyX1_ok, nmX1, rfl, Or.inr ⟨"TupleMethods", by decide +kernel⟩, rfl, rfl⟩
theorem m_138 : (Jvm.Cond.fieldLink "TupleMethods$Function" (18 : Nat) "TupleMethods$Function" "targets" "[I") ∈ TT := TT_in (List.mem_of_getElem? (i := 138) (by decide +kernel)) (by decide +kernel)
theorem fl_X1_18 : Fld RX1 18 1 2 true (.array .int) := ⟨RX1, TX1, 9, tyX1, rfl, by decide, inT1, tyX1_ok, nmX1, rfl, Or.inl m_138, rfl, rfl⟩
theorem fl_X2_174 : Fld RX2 174 1 2 true (.array .int) := ⟨RX1, TX1, 9, tyX1, rfl, by decide, inT1, tyX1_ok, nmX1, rfl, Or.inr ⟨"TupleMethods", by decide +kernel⟩, rfl, rfl⟩
theorem m_140 : (Jvm.Cond.fieldLink "TupleMethods$Function" (22 : Nat) "TupleMethods$Function" "kinds" "[I") ∈ TT := TT_in (List.mem_of_getElem? (i := 140) (by decide +kernel)) (by decide +kernel)
theorem fl_X1_22 : Fld RX1 22 1 3 true (.array .int) := ⟨RX1, TX1, 9, tyX1, rfl, by decide, inT1, tyX1_ok, nmX1, rfl, Or.inl m_140, rfl, rfl⟩
theorem fl_X2_110 : Fld RX2 110 1 3 true (.array .int) := ⟨RX1, TX1, 9, tyX1, rfl, by decide, inT1, tyX1_ok, nmX1, rfl, Or.inr ⟨"TupleMethods", by decide +kernel⟩, rfl, rfl⟩
theorem m_142 : (Jvm.Cond.fieldLink "TupleMethods$Function" (25 : Nat) "TupleMethods$Function" "values" "[I") ∈ TT := TT_in (List.mem_of_getElem? (i := 142) (by decide +kernel)) (by decide +kernel)
theorem fl_X1_25 : Fld RX1 25 1 4 true (.array .int) := ⟨RX1, TX1, 9, tyX1, rfl, by decide, inT1, tyX1_ok, nmX1, rfl, Or.inl m_142, rfl, rfl⟩
theorem fl_X2_113 : Fld RX2 113 1 4 true (.array .int) := ⟨RX1, TX1, 9, tyX1, rfl, by decide, inT1, tyX1_ok, nmX1, rfl, Or.inr ⟨"TupleMethods", by decide +kernel⟩, rfl, rfl⟩
theorem m_144 : (Jvm.Cond.fieldLink "TupleMethods$Function" (28 : Nat) "TupleMethods$Function" "above" "[I") ∈ TT := TT_in (List.mem_of_getElem? (i := 144) (by decide +kernel)) (by decide +kernel)
theorem fl_X1_28 : Fld RX1 28 1 5 true (.array .int) := ⟨RX1, TX1, 9, tyX1, rfl, by decide, inT1, tyX1_ok, nmX1, rfl, Or.inl m_144, rfl, rfl⟩
theorem m_145 : (Jvm.Cond.fieldLink "TupleMethods$Function" (31 : Nat) "TupleMethods$Function" "fitting" "[I") ∈ TT := TT_in (List.mem_of_getElem? (i := 145) (by decide +kernel)) (by decide +kernel)
theorem fl_X1_31 : Fld RX1 31 1 6 true (.array .int) := ⟨RX1, TX1, 9, tyX1, rfl, by decide, inT1, tyX1_ok, nmX1, rfl, Or.inl m_145, rfl, rfl⟩
theorem m_146 : (Jvm.Cond.fieldLink "TupleMethods$Function" (34 : Nat) "TupleMethods$Function" "keptCalls" "[I") ∈ TT := TT_in (List.mem_of_getElem? (i := 146) (by decide +kernel)) (by decide +kernel)
theorem fl_X1_34 : Fld RX1 34 1 7 true (.array .int) := ⟨RX1, TX1, 9, tyX1, rfl, by decide, inT1, tyX1_ok, nmX1, rfl, Or.inl m_146, rfl, rfl⟩
theorem fl_X2_203 : Fld RX2 203 1 7 true (.array .int) := ⟨RX1, TX1, 9, tyX1, rfl, by decide, inT1, tyX1_ok, nmX1, rfl, Or.inr ⟨"TupleMethods", by decide +kernel⟩, rfl, rfl⟩
theorem m_148 : (Jvm.Cond.fieldLink "TupleMethods$Function" (37 : Nat) "TupleMethods$Function" "keptCount" "I") ∈ TT := TT_in (List.mem_of_getElem? (i := 148) (by decide +kernel)) (by decide +kernel)
theorem fl_X1_37 : Fld RX1 37 1 8 false .int := ⟨RX1, TX1, 9, tyX1, rfl, by decide, inT1, tyX1_ok, nmX1, rfl, Or.inl m_148, rfl, rfl⟩
theorem fl_X2_135 : Fld RX2 135 1 8 false .int := ⟨RX1, TX1, 9, tyX1, rfl, by decide, inT1, tyX1_ok, nmX1, rfl, Or.inr ⟨"TupleMethods", by decide +kernel⟩, rfl, rfl⟩
theorem m_169 : (Jvm.Cond.fieldLink "TupleMethods" (12 : Nat) "TupleMethods" "classes" "LTupleMethods$Classes;") ∈ TT := TT_in (List.mem_of_getElem? (i := 169) (by decide +kernel)) (by decide +kernel)
theorem fl_X2_12 : Fld RX2 12 2 0 true (.object "TupleMethods$Classes") := ⟨RX2, TX2, 12, tyX2, rfl, by decide, inT2, tyX2_ok, nmX2, rfl, Or.inl m_169, rfl, rfl⟩
theorem m_170 : (Jvm.Cond.fieldLink "TupleMethods" (18 : Nat) "TupleMethods" "functions" "[LTupleMethods$Function;") ∈ TT := TT_in (List.mem_of_getElem? (i := 170) (by decide +kernel)) (by decide +kernel)
theorem fl_X2_18 : Fld RX2 18 2 1 true (.array (.object "TupleMethods$Function")) := ⟨RX2, TX2, 12, tyX2, rfl, by decide, inT2, tyX2_ok, nmX2, rfl, Or.inl m_170, rfl, rfl⟩
theorem m_171 : (Jvm.Cond.fieldLink "TupleMethods" (23 : Nat) "TupleMethods" "trial" "LTupleMethods$Function;") ∈ TT := TT_in (List.mem_of_getElem? (i := 171) (by decide +kernel)) (by decide +kernel)
theorem fl_X2_23 : Fld RX2 23 2 2 true (.object "TupleMethods$Function") := ⟨RX2, TX2, 12, tyX2, rfl, by decide, inT2, tyX2_ok, nmX2, rfl, Or.inl m_171, rfl, rfl⟩
theorem m_172 : (Jvm.Cond.fieldLink "TupleMethods" (27 : Nat) "TupleMethods" "functionCount" "I") ∈ TT := TT_in (List.mem_of_getElem? (i := 172) (by decide +kernel)) (by decide +kernel)
theorem fl_X2_27 : Fld RX2 27 2 3 false .int := ⟨RX2, TX2, 12, tyX2, rfl, by decide, inT2, tyX2_ok, nmX2, rfl, Or.inl m_172, rfl, rfl⟩
theorem m_173 : (Jvm.Cond.fieldLink "TupleMethods" (31 : Nat) "TupleMethods" "ruleNow" "I") ∈ TT := TT_in (List.mem_of_getElem? (i := 173) (by decide +kernel)) (by decide +kernel)
theorem fl_X2_31 : Fld RX2 31 2 4 false .int := ⟨RX2, TX2, 12, tyX2, rfl, by decide, inT2, tyX2_ok, nmX2, rfl, Or.inl m_173, rfl, rfl⟩
theorem m_174 : (Jvm.Cond.fieldLink "TupleMethods" (34 : Nat) "TupleMethods" "hits" "I") ∈ TT := TT_in (List.mem_of_getElem? (i := 174) (by decide +kernel)) (by decide +kernel)
theorem fl_X2_34 : Fld RX2 34 2 5 false .int := ⟨RX2, TX2, 12, tyX2, rfl, by decide, inT2, tyX2_ok, nmX2, rfl, Or.inl m_174, rfl, rfl⟩
theorem m_175 : (Jvm.Cond.fieldLink "TupleMethods" (37 : Nat) "TupleMethods" "misses" "I") ∈ TT := TT_in (List.mem_of_getElem? (i := 175) (by decide +kernel)) (by decide +kernel)
theorem fl_X2_37 : Fld RX2 37 2 6 false .int := ⟨RX2, TX2, 12, tyX2, rfl, by decide, inT2, tyX2_ok, nmX2, rfl, Or.inl m_175, rfl, rfl⟩
theorem m_176 : (Jvm.Cond.fieldLink "TupleMethods" (40 : Nat) "TupleMethods" "links" "[I") ∈ TT := TT_in (List.mem_of_getElem? (i := 176) (by decide +kernel)) (by decide +kernel)
theorem fl_X2_40 : Fld RX2 40 2 7 true (.array .int) := ⟨RX2, TX2, 12, tyX2, rfl, by decide, inT2, tyX2_ok, nmX2, rfl, Or.inl m_176, rfl, rfl⟩
theorem m_177 : (Jvm.Cond.fieldLink "TupleMethods" (44 : Nat) "TupleMethods" "linkCount" "I") ∈ TT := TT_in (List.mem_of_getElem? (i := 177) (by decide +kernel)) (by decide +kernel)
theorem fl_X2_44 : Fld RX2 44 2 8 false .int := ⟨RX2, TX2, 12, tyX2, rfl, by decide, inT2, tyX2_ok, nmX2, rfl, Or.inl m_177, rfl, rfl⟩
theorem m_178 : (Jvm.Cond.fieldLink "TupleMethods" (47 : Nat) "TupleMethods" "answers" "[I") ∈ TT := TT_in (List.mem_of_getElem? (i := 178) (by decide +kernel)) (by decide +kernel)
theorem fl_X2_47 : Fld RX2 47 2 9 true (.array .int) := ⟨RX2, TX2, 12, tyX2, rfl, by decide, inT2, tyX2_ok, nmX2, rfl, Or.inl m_178, rfl, rfl⟩
theorem m_179 : (Jvm.Cond.fieldLink "TupleMethods" (50 : Nat) "TupleMethods" "answersOf" "I") ∈ TT := TT_in (List.mem_of_getElem? (i := 179) (by decide +kernel)) (by decide +kernel)
theorem fl_X2_50 : Fld RX2 50 2 10 false .int := ⟨RX2, TX2, 12, tyX2, rfl, by decide, inT2, tyX2_ok, nmX2, rfl, Or.inl m_179, rfl, rfl⟩
theorem m_180 : (Jvm.Cond.fieldLink "TupleMethods" (53 : Nat) "TupleMethods" "covered" "[Z") ∈ TT := TT_in (List.mem_of_getElem? (i := 180) (by decide +kernel)) (by decide +kernel)
theorem fl_X2_53 : Fld RX2 53 2 11 true (.array .boolean) := ⟨RX2, TX2, 12, tyX2, rfl, by decide, inT2, tyX2_ok, nmX2, rfl, Or.inl m_180, rfl, rfl⟩
theorem m_591 : (Jvm.Cond.fieldLink "TupleMethodsModel" (65 : Nat) "TupleMethodsModel" "raised" "I") ∈ TT := TT_in (List.mem_of_getElem? (i := 591) (by decide +kernel)) (by decide +kernel)
theorem fl_X3_65 : Fld RX3 65 3 0 false .int := ⟨RX3, TX3, 26, tyX3, rfl, by decide, inT3, tyX3_ok, nmX3, rfl, Or.inl m_591, rfl, rfl⟩
theorem m_592 : (Jvm.Cond.fieldLink "TupleMethodsModel" (62 : Nat) "TupleMethodsModel" "classes" "I") ∈ TT := TT_in (List.mem_of_getElem? (i := 592) (by decide +kernel)) (by decide +kernel)
theorem fl_X3_62 : Fld RX3 62 3 1 false .int := ⟨RX3, TX3, 26, tyX3, rfl, by decide, inT3, tyX3_ok, nmX3, rfl, Or.inl m_592, rfl, rfl⟩
theorem m_593 : (Jvm.Cond.fieldLink "TupleMethodsModel" (7 : Nat) "TupleMethodsModel" "is" "[I") ∈ TT := TT_in (List.mem_of_getElem? (i := 593) (by decide +kernel)) (by decide +kernel)
theorem fl_X3_7 : Fld RX3 7 3 2 true (.array .int) := ⟨RX3, TX3, 26, tyX3, rfl, by decide, inT3, tyX3_ok, nmX3, rfl, Or.inl m_593, rfl, rfl⟩
theorem m_594 : (Jvm.Cond.fieldLink "TupleMethodsModel" (13 : Nat) "TupleMethodsModel" "list" "[I") ∈ TT := TT_in (List.mem_of_getElem? (i := 594) (by decide +kernel)) (by decide +kernel)
theorem fl_X3_13 : Fld RX3 13 3 3 true (.array .int) := ⟨RX3, TX3, 26, tyX3, rfl, by decide, inT3, tyX3_ok, nmX3, rfl, Or.inl m_594, rfl, rfl⟩
theorem m_595 : (Jvm.Cond.fieldLink "TupleMethodsModel" (16 : Nat) "TupleMethodsModel" "listMany" "[I") ∈ TT := TT_in (List.mem_of_getElem? (i := 595) (by decide +kernel)) (by decide +kernel)
theorem fl_X3_16 : Fld RX3 16 3 4 true (.array .int) := ⟨RX3, TX3, 26, tyX3, rfl, by decide, inT3, tyX3_ok, nmX3, rfl, Or.inl m_595, rfl, rfl⟩
theorem m_596 : (Jvm.Cond.fieldLink "TupleMethodsModel" (19 : Nat) "TupleMethodsModel" "placeIn" "[I") ∈ TT := TT_in (List.mem_of_getElem? (i := 596) (by decide +kernel)) (by decide +kernel)
theorem fl_X3_19 : Fld RX3 19 3 5 true (.array .int) := ⟨RX3, TX3, 26, tyX3, rfl, by decide, inT3, tyX3_ok, nmX3, rfl, Or.inl m_596, rfl, rfl⟩
theorem m_597 : (Jvm.Cond.fieldLink "TupleMethodsModel" (72 : Nat) "TupleMethodsModel" "functions" "I") ∈ TT := TT_in (List.mem_of_getElem? (i := 597) (by decide +kernel)) (by decide +kernel)
theorem fl_X3_72 : Fld RX3 72 3 6 false .int := ⟨RX3, TX3, 26, tyX3, rfl, by decide, inT3, tyX3_ok, nmX3, rfl, Or.inl m_597, rfl, rfl⟩
theorem m_598 : (Jvm.Cond.fieldLink "TupleMethodsModel" (22 : Nat) "TupleMethodsModel" "places" "[I") ∈ TT := TT_in (List.mem_of_getElem? (i := 598) (by decide +kernel)) (by decide +kernel)
theorem fl_X3_22 : Fld RX3 22 3 7 true (.array .int) := ⟨RX3, TX3, 26, tyX3, rfl, by decide, inT3, tyX3_ok, nmX3, rfl, Or.inl m_598, rfl, rfl⟩
theorem m_599 : (Jvm.Cond.fieldLink "TupleMethodsModel" (25 : Nat) "TupleMethodsModel" "forWhat" "[I") ∈ TT := TT_in (List.mem_of_getElem? (i := 599) (by decide +kernel)) (by decide +kernel)
theorem fl_X3_25 : Fld RX3 25 3 8 true (.array .int) := ⟨RX3, TX3, 26, tyX3, rfl, by decide, inT3, tyX3_ok, nmX3, rfl, Or.inl m_599, rfl, rfl⟩
theorem m_600 : (Jvm.Cond.fieldLink "TupleMethodsModel" (28 : Nat) "TupleMethodsModel" "kind" "[I") ∈ TT := TT_in (List.mem_of_getElem? (i := 600) (by decide +kernel)) (by decide +kernel)
theorem fl_X3_28 : Fld RX3 28 3 9 true (.array .int) := ⟨RX3, TX3, 26, tyX3, rfl, by decide, inT3, tyX3_ok, nmX3, rfl, Or.inl m_600, rfl, rfl⟩
theorem m_601 : (Jvm.Cond.fieldLink "TupleMethodsModel" (31 : Nat) "TupleMethodsModel" "value" "[I") ∈ TT := TT_in (List.mem_of_getElem? (i := 601) (by decide +kernel)) (by decide +kernel)
theorem fl_X3_31 : Fld RX3 31 3 10 true (.array .int) := ⟨RX3, TX3, 26, tyX3, rfl, by decide, inT3, tyX3_ok, nmX3, rfl, Or.inl m_601, rfl, rfl⟩
theorem m_602 : (Jvm.Cond.fieldLink "TupleMethodsModel" (133 : Nat) "TupleMethodsModel" "rule" "I") ∈ TT := TT_in (List.mem_of_getElem? (i := 602) (by decide +kernel)) (by decide +kernel)
theorem fl_X3_133 : Fld RX3 133 3 11 false .int := ⟨RX3, TX3, 26, tyX3, rfl, by decide, inT3, tyX3_ok, nmX3, rfl, Or.inl m_602, rfl, rfl⟩
theorem m_603 : (Jvm.Cond.fieldLink "TupleMethodsModel" (34 : Nat) "TupleMethodsModel" "kept" "[I") ∈ TT := TT_in (List.mem_of_getElem? (i := 603) (by decide +kernel)) (by decide +kernel)
theorem fl_X3_34 : Fld RX3 34 3 12 true (.array .int) := ⟨RX3, TX3, 26, tyX3, rfl, by decide, inT3, tyX3_ok, nmX3, rfl, Or.inl m_603, rfl, rfl⟩
theorem m_604 : (Jvm.Cond.fieldLink "TupleMethodsModel" (37 : Nat) "TupleMethodsModel" "keptMany" "[I") ∈ TT := TT_in (List.mem_of_getElem? (i := 604) (by decide +kernel)) (by decide +kernel)
theorem fl_X3_37 : Fld RX3 37 3 13 true (.array .int) := ⟨RX3, TX3, 26, tyX3, rfl, by decide, inT3, tyX3_ok, nmX3, rfl, Or.inl m_604, rfl, rfl⟩
theorem m_605 : (Jvm.Cond.fieldLink "TupleMethodsModel" (136 : Nat) "TupleMethodsModel" "hits" "I") ∈ TT := TT_in (List.mem_of_getElem? (i := 605) (by decide +kernel)) (by decide +kernel)
theorem fl_X3_136 : Fld RX3 136 3 14 false .int := ⟨RX3, TX3, 26, tyX3, rfl, by decide, inT3, tyX3_ok, nmX3, rfl, Or.inl m_605, rfl, rfl⟩
theorem m_606 : (Jvm.Cond.fieldLink "TupleMethodsModel" (139 : Nat) "TupleMethodsModel" "misses" "I") ∈ TT := TT_in (List.mem_of_getElem? (i := 606) (by decide +kernel)) (by decide +kernel)
theorem fl_X3_139 : Fld RX3 139 3 15 false .int := ⟨RX3, TX3, 26, tyX3, rfl, by decide, inT3, tyX3_ok, nmX3, rfl, Or.inl m_606, rfl, rfl⟩
theorem m_607 : (Jvm.Cond.fieldLink "TupleMethodsModel" (40 : Nat) "TupleMethodsModel" "rows" "[I") ∈ TT := TT_in (List.mem_of_getElem? (i := 607) (by decide +kernel)) (by decide +kernel)
theorem fl_X3_40 : Fld RX3 40 3 16 true (.array .int) := ⟨RX3, TX3, 26, tyX3, rfl, by decide, inT3, tyX3_ok, nmX3, rfl, Or.inl m_607, rfl, rfl⟩
theorem m_608 : (Jvm.Cond.fieldLink "TupleMethodsModel" (43 : Nat) "TupleMethodsModel" "rowFrom" "[I") ∈ TT := TT_in (List.mem_of_getElem? (i := 608) (by decide +kernel)) (by decide +kernel)
theorem fl_X3_43 : Fld RX3 43 3 17 true (.array .int) := ⟨RX3, TX3, 26, tyX3, rfl, by decide, inT3, tyX3_ok, nmX3, rfl, Or.inl m_608, rfl, rfl⟩
theorem m_609 : (Jvm.Cond.fieldLink "TupleMethodsModel" (46 : Nat) "TupleMethodsModel" "rowTo" "[I") ∈ TT := TT_in (List.mem_of_getElem? (i := 609) (by decide +kernel)) (by decide +kernel)
theorem fl_X3_46 : Fld RX3 46 3 18 true (.array .int) := ⟨RX3, TX3, 26, tyX3, rfl, by decide, inT3, tyX3_ok, nmX3, rfl, Or.inl m_609, rfl, rfl⟩
theorem m_610 : (Jvm.Cond.fieldLink "TupleMethodsModel" (49 : Nat) "TupleMethodsModel" "moreFor" "I") ∈ TT := TT_in (List.mem_of_getElem? (i := 610) (by decide +kernel)) (by decide +kernel)
theorem fl_X3_49 : Fld RX3 49 3 19 false .int := ⟨RX3, TX3, 26, tyX3, rfl, by decide, inT3, tyX3_ok, nmX3, rfl, Or.inl m_610, rfl, rfl⟩
theorem m_611 : (Jvm.Cond.fieldLink "TupleMethodsModel" (142 : Nat) "TupleMethodsModel" "moreNumber" "I") ∈ TT := TT_in (List.mem_of_getElem? (i := 611) (by decide +kernel)) (by decide +kernel)
theorem fl_X3_142 : Fld RX3 142 3 20 false .int := ⟨RX3, TX3, 26, tyX3, rfl, by decide, inT3, tyX3_ok, nmX3, rfl, Or.inl m_611, rfl, rfl⟩
theorem m_612 : (Jvm.Cond.fieldLink "TupleMethodsModel" (53 : Nat) "TupleMethodsModel" "chain" "[I") ∈ TT := TT_in (List.mem_of_getElem? (i := 612) (by decide +kernel)) (by decide +kernel)
theorem fl_X3_53 : Fld RX3 53 3 21 true (.array .int) := ⟨RX3, TX3, 26, tyX3, rfl, by decide, inT3, tyX3_ok, nmX3, rfl, Or.inl m_612, rfl, rfl⟩
theorem m_613 : (Jvm.Cond.fieldLink "TupleMethodsModel" (166 : Nat) "TupleMethodsModel" "chainMany" "I") ∈ TT := TT_in (List.mem_of_getElem? (i := 613) (by decide +kernel)) (by decide +kernel)
theorem fl_X3_166 : Fld RX3 166 3 22 false .int := ⟨RX3, TX3, 26, tyX3, rfl, by decide, inT3, tyX3_ok, nmX3, rfl, Or.inl m_613, rfl, rfl⟩
theorem m_614 : (Jvm.Cond.fieldLink "TupleMethodsModel" (163 : Nat) "TupleMethodsModel" "left" "I") ∈ TT := TT_in (List.mem_of_getElem? (i := 614) (by decide +kernel)) (by decide +kernel)
theorem fl_X3_163 : Fld RX3 163 3 23 false .int := ⟨RX3, TX3, 26, tyX3, rfl, by decide, inT3, tyX3_ok, nmX3, rfl, Or.inl m_614, rfl, rfl⟩
theorem m_615 : (Jvm.Cond.fieldLink "TupleMethodsModel" (56 : Nat) "TupleMethodsModel" "answers" "[I") ∈ TT := TT_in (List.mem_of_getElem? (i := 615) (by decide +kernel)) (by decide +kernel)
theorem fl_X3_56 : Fld RX3 56 3 24 true (.array .int) := ⟨RX3, TX3, 26, tyX3, rfl, by decide, inT3, tyX3_ok, nmX3, rfl, Or.inl m_615, rfl, rfl⟩
theorem m_616 : (Jvm.Cond.fieldLink "TupleMethodsModel" (59 : Nat) "TupleMethodsModel" "wasFor" "[I") ∈ TT := TT_in (List.mem_of_getElem? (i := 616) (by decide +kernel)) (by decide +kernel)
theorem fl_X3_59 : Fld RX3 59 3 25 true (.array .int) := ⟨RX3, TX3, 26, tyX3, rfl, by decide, inT3, tyX3_ok, nmX3, rfl, Or.inl m_616, rfl, rfl⟩
theorem m_210 : (Jvm.Cond.code ({ cls := "TupleMethods", name := "kind", desc := "(III)I" } : Jvm.MethodName) prog_1_method_2_code (6 : Nat) (Option.some Jvm.ClassFile.FieldType.int)) ∈ TT := TT_in (List.mem_of_getElem? (i := 210) (by decide +kernel)) (by decide +kernel)
theorem m_62 : (Jvm.Cond.initialized "TupleMethods") ∈ TT := TT_in (List.mem_of_getElem? (i := 62) (by decide +kernel)) (by decide +kernel)
theorem m_209 : (Jvm.Cond.selects "TupleMethods" ({ cls := "TupleMethods", name := "kind", desc := "(III)I" } : Jvm.MethodName) ({ cls := "TupleMethods", name := "kind", desc := "(III)I" } : Jvm.MethodName)) ∈ TT := TT_in (List.mem_of_getElem? (i := 209) (by decide +kernel)) (by decide +kernel)
theorem m_207 : (Jvm.Cond.methodLink "TupleMethodsLaw" (23 : Nat) ({ cls := "TupleMethods", name := "kind", desc := "(III)I" } : Jvm.MethodName)) ∈ TT := TT_in (List.mem_of_getElem? (i := 207) (by decide +kernel)) (by decide +kernel)
theorem m_208 : (Jvm.Cond.instanceMethod ({ cls := "TupleMethods", name := "kind", desc := "(III)I" } : Jvm.MethodName)) ∈ TT := TT_in (List.mem_of_getElem? (i := 208) (by decide +kernel)) (by decide +kernel)
theorem kw_L_23 : Cw 0 RL 23 yX2_kind cX2_kind 6 (some .int) 3 := ⟨⟨m_207, m_208, m_209⟩, m_62, m_210, by decide +kernel, by decide⟩
theorem m_214 : (Jvm.Cond.code ({ cls := "TupleMethods$Classes", name := "canBeParents", desc := "(III)Z" } : Jvm.MethodName) prog_2_method_6_code (4 : Nat) (Option.some Jvm.ClassFile.FieldType.boolean)) ∈ TT := TT_in (List.mem_of_getElem? (i := 214) (by decide +kernel)) (by decide +kernel)
theorem m_63 : (Jvm.Cond.initialized "TupleMethods$Classes") ∈ TT := TT_in (List.mem_of_getElem? (i := 63) (by decide +kernel)) (by decide +kernel)
theorem m_213 : (Jvm.Cond.selects "TupleMethods$Classes" ({ cls := "TupleMethods$Classes", name := "canBeParents", desc := "(III)Z" } : Jvm.MethodName) ({ cls := "TupleMethods$Classes", name := "canBeParents", desc := "(III)Z" } : Jvm.MethodName)) ∈ TT := TT_in (List.mem_of_getElem? (i := 213) (by decide +kernel)) (by decide +kernel)
theorem m_211 : (Jvm.Cond.methodLink "TupleMethods" (60 : Nat) ({ cls := "TupleMethods$Classes", name := "canBeParents", desc := "(III)Z" } : Jvm.MethodName)) ∈ TT := TT_in (List.mem_of_getElem? (i := 211) (by decide +kernel)) (by decide +kernel)
theorem m_212 : (Jvm.Cond.instanceMethod ({ cls := "TupleMethods$Classes", name := "canBeParents", desc := "(III)Z" } : Jvm.MethodName)) ∈ TT := TT_in (List.mem_of_getElem? (i := 212) (by decide +kernel)) (by decide +kernel)
theorem kw_X2_60 : Cw 0 RX2 60 yX0_canBeParents cX0_canBeParents 4 (some .boolean) 3 := ⟨⟨m_211, m_212, m_213⟩, m_63, m_214, by decide +kernel, by decide⟩
theorem m_218 : (Jvm.Cond.code ({ cls := "TupleMethods$Classes", name := "has", desc := "(I)Z" } : Jvm.MethodName) prog_2_method_2_code (2 : Nat) (Option.some Jvm.ClassFile.FieldType.boolean)) ∈ TT := TT_in (List.mem_of_getElem? (i := 218) (by decide +kernel)) (by decide +kernel)
theorem m_217 : (Jvm.Cond.selects "TupleMethods$Classes" ({ cls := "TupleMethods$Classes", name := "has", desc := "(I)Z" } : Jvm.MethodName) ({ cls := "TupleMethods$Classes", name := "has", desc := "(I)Z" } : Jvm.MethodName)) ∈ TT := TT_in (List.mem_of_getElem? (i := 217) (by decide +kernel)) (by decide +kernel)
theorem m_215 : (Jvm.Cond.methodLink "TupleMethods$Classes" (51 : Nat) ({ cls := "TupleMethods$Classes", name := "has", desc := "(I)Z" } : Jvm.MethodName)) ∈ TT := TT_in (List.mem_of_getElem? (i := 215) (by decide +kernel)) (by decide +kernel)
theorem m_216 : (Jvm.Cond.instanceMethod ({ cls := "TupleMethods$Classes", name := "has", desc := "(I)Z" } : Jvm.MethodName)) ∈ TT := TT_in (List.mem_of_getElem? (i := 216) (by decide +kernel)) (by decide +kernel)
theorem kw_X0_51 : Cw 0 RX0 51 yX0_has cX0_has 2 (some .boolean) 1 := ⟨⟨m_215, m_216, m_217⟩, m_63, m_218, by decide +kernel, by decide⟩
theorem m_222 : (Jvm.Cond.code ({ cls := "TupleMethods$Classes", name := "add", desc := "(III)I" } : Jvm.MethodName) prog_2_method_7_code (8 : Nat) (Option.some Jvm.ClassFile.FieldType.int)) ∈ TT := TT_in (List.mem_of_getElem? (i := 222) (by decide +kernel)) (by decide +kernel)
theorem m_221 : (Jvm.Cond.selects "TupleMethods$Classes" ({ cls := "TupleMethods$Classes", name := "add", desc := "(III)I" } : Jvm.MethodName) ({ cls := "TupleMethods$Classes", name := "add", desc := "(III)I" } : Jvm.MethodName)) ∈ TT := TT_in (List.mem_of_getElem? (i := 221) (by decide +kernel)) (by decide +kernel)
theorem m_219 : (Jvm.Cond.methodLink "TupleMethods" (64 : Nat) ({ cls := "TupleMethods$Classes", name := "add", desc := "(III)I" } : Jvm.MethodName)) ∈ TT := TT_in (List.mem_of_getElem? (i := 219) (by decide +kernel)) (by decide +kernel)
theorem m_220 : (Jvm.Cond.instanceMethod ({ cls := "TupleMethods$Classes", name := "add", desc := "(III)I" } : Jvm.MethodName)) ∈ TT := TT_in (List.mem_of_getElem? (i := 220) (by decide +kernel)) (by decide +kernel)
theorem kw_X2_64 : Cw 0 RX2 64 yX0_add cX0_add 8 (some .int) 3 := ⟨⟨m_219, m_220, m_221⟩, m_63, m_222, by decide +kernel, by decide⟩
theorem m_226 : (Jvm.Cond.code ({ cls := "TupleMethods$Classes", name := "layRows", desc := "(II)V" } : Jvm.MethodName) prog_2_method_8_code (5 : Nat) (Option.none : Option Jvm.ClassFile.FieldType)) ∈ TT := TT_in (List.mem_of_getElem? (i := 226) (by decide +kernel)) (by decide +kernel)
theorem m_0 : (Jvm.Cond.selects "TupleMethods$Classes" ({ cls := "TupleMethods$Classes", name := "layRows", desc := "(II)V" } : Jvm.MethodName) ({ cls := "TupleMethods$Classes", name := "layRows", desc := "(II)V" } : Jvm.MethodName)) ∈ TT := TT_in (List.mem_of_getElem? (i := 0) (by decide +kernel)) (by decide +kernel)
theorem m_223 : (Jvm.Cond.methodLink "TupleMethods$Classes" (55 : Nat) ({ cls := "TupleMethods$Classes", name := "layRows", desc := "(II)V" } : Jvm.MethodName)) ∈ TT := TT_in (List.mem_of_getElem? (i := 223) (by decide +kernel)) (by decide +kernel)
theorem m_225 : (Jvm.Cond.instanceMethod ({ cls := "TupleMethods$Classes", name := "layRows", desc := "(II)V" } : Jvm.MethodName)) ∈ TT := TT_in (List.mem_of_getElem? (i := 225) (by decide +kernel)) (by decide +kernel)
theorem kw_X0_55 : Cw 0 RX0 55 yX0_layRows cX0_layRows 5 none 2 := ⟨⟨m_223, m_225, m_0⟩, m_63, m_226, by decide +kernel, by decide⟩
theorem m_233 : (Jvm.Cond.code ({ cls := "TupleMethods$Classes", name := "mergeRows", desc := "(II)Z" } : Jvm.MethodName) prog_2_method_9_code (5 : Nat) (Option.some Jvm.ClassFile.FieldType.boolean)) ∈ TT := TT_in (List.mem_of_getElem? (i := 233) (by decide +kernel)) (by decide +kernel)
theorem m_1 : (Jvm.Cond.selects "TupleMethods$Classes" ({ cls := "TupleMethods$Classes", name := "mergeRows", desc := "(II)Z" } : Jvm.MethodName) ({ cls := "TupleMethods$Classes", name := "mergeRows", desc := "(II)Z" } : Jvm.MethodName)) ∈ TT := TT_in (List.mem_of_getElem? (i := 1) (by decide +kernel)) (by decide +kernel)
theorem m_230 : (Jvm.Cond.methodLink "TupleMethods$Classes" (59 : Nat) ({ cls := "TupleMethods$Classes", name := "mergeRows", desc := "(II)Z" } : Jvm.MethodName)) ∈ TT := TT_in (List.mem_of_getElem? (i := 230) (by decide +kernel)) (by decide +kernel)
theorem m_232 : (Jvm.Cond.instanceMethod ({ cls := "TupleMethods$Classes", name := "mergeRows", desc := "(II)Z" } : Jvm.MethodName)) ∈ TT := TT_in (List.mem_of_getElem? (i := 232) (by decide +kernel)) (by decide +kernel)
theorem kw_X0_59 : Cw 0 RX0 59 yX0_mergeRows cX0_mergeRows 5 (some .boolean) 2 := ⟨⟨m_230, m_232, m_1⟩, m_63, m_233, by decide +kernel, by decide⟩
theorem m_237 : (Jvm.Cond.code ({ cls := "TupleMethods$Classes", name := "nextOfRows", desc := "(I)I" } : Jvm.MethodName) prog_2_method_10_code (4 : Nat) (Option.some Jvm.ClassFile.FieldType.int)) ∈ TT := TT_in (List.mem_of_getElem? (i := 237) (by decide +kernel)) (by decide +kernel)
theorem m_2 : (Jvm.Cond.selects "TupleMethods$Classes" ({ cls := "TupleMethods$Classes", name := "nextOfRows", desc := "(I)I" } : Jvm.MethodName) ({ cls := "TupleMethods$Classes", name := "nextOfRows", desc := "(I)I" } : Jvm.MethodName)) ∈ TT := TT_in (List.mem_of_getElem? (i := 2) (by decide +kernel)) (by decide +kernel)
theorem m_234 : (Jvm.Cond.methodLink "TupleMethods$Classes" (68 : Nat) ({ cls := "TupleMethods$Classes", name := "nextOfRows", desc := "(I)I" } : Jvm.MethodName)) ∈ TT := TT_in (List.mem_of_getElem? (i := 234) (by decide +kernel)) (by decide +kernel)
theorem m_236 : (Jvm.Cond.instanceMethod ({ cls := "TupleMethods$Classes", name := "nextOfRows", desc := "(I)I" } : Jvm.MethodName)) ∈ TT := TT_in (List.mem_of_getElem? (i := 236) (by decide +kernel)) (by decide +kernel)
theorem kw_X0_68 : Cw 0 RX0 68 yX0_nextOfRows cX0_nextOfRows 4 (some .int) 1 := ⟨⟨m_234, m_236, m_2⟩, m_63, m_237, by decide +kernel, by decide⟩
theorem m_241 : (Jvm.Cond.code ({ cls := "TupleMethods$Classes", name := "standsBehindBegin", desc := "(II)Z" } : Jvm.MethodName) prog_2_method_11_code (5 : Nat) (Option.some Jvm.ClassFile.FieldType.boolean)) ∈ TT := TT_in (List.mem_of_getElem? (i := 241) (by decide +kernel)) (by decide +kernel)
theorem m_3 : (Jvm.Cond.selects "TupleMethods$Classes" ({ cls := "TupleMethods$Classes", name := "standsBehindBegin", desc := "(II)Z" } : Jvm.MethodName) ({ cls := "TupleMethods$Classes", name := "standsBehindBegin", desc := "(II)Z" } : Jvm.MethodName)) ∈ TT := TT_in (List.mem_of_getElem? (i := 3) (by decide +kernel)) (by decide +kernel)
theorem m_238 : (Jvm.Cond.methodLink "TupleMethods$Classes" (75 : Nat) ({ cls := "TupleMethods$Classes", name := "standsBehindBegin", desc := "(II)Z" } : Jvm.MethodName)) ∈ TT := TT_in (List.mem_of_getElem? (i := 238) (by decide +kernel)) (by decide +kernel)
theorem m_240 : (Jvm.Cond.instanceMethod ({ cls := "TupleMethods$Classes", name := "standsBehindBegin", desc := "(II)Z" } : Jvm.MethodName)) ∈ TT := TT_in (List.mem_of_getElem? (i := 240) (by decide +kernel)) (by decide +kernel)
theorem kw_X0_75 : Cw 0 RX0 75 yX0_standsBehindBegin cX0_standsBehindBegin 5 (some .boolean) 2 := ⟨⟨m_238, m_240, m_3⟩, m_63, m_241, by decide +kernel, by decide⟩
theorem m_245 : (Jvm.Cond.code ({ cls := "TupleMethods$Classes", name := "takeOut", desc := "(II)V" } : Jvm.MethodName) prog_2_method_12_code (4 : Nat) (Option.none : Option Jvm.ClassFile.FieldType)) ∈ TT := TT_in (List.mem_of_getElem? (i := 245) (by decide +kernel)) (by decide +kernel)
theorem m_4 : (Jvm.Cond.selects "TupleMethods$Classes" ({ cls := "TupleMethods$Classes", name := "takeOut", desc := "(II)V" } : Jvm.MethodName) ({ cls := "TupleMethods$Classes", name := "takeOut", desc := "(II)V" } : Jvm.MethodName)) ∈ TT := TT_in (List.mem_of_getElem? (i := 4) (by decide +kernel)) (by decide +kernel)
theorem m_242 : (Jvm.Cond.methodLink "TupleMethods$Classes" (72 : Nat) ({ cls := "TupleMethods$Classes", name := "takeOut", desc := "(II)V" } : Jvm.MethodName)) ∈ TT := TT_in (List.mem_of_getElem? (i := 242) (by decide +kernel)) (by decide +kernel)
theorem m_244 : (Jvm.Cond.instanceMethod ({ cls := "TupleMethods$Classes", name := "takeOut", desc := "(II)V" } : Jvm.MethodName)) ∈ TT := TT_in (List.mem_of_getElem? (i := 244) (by decide +kernel)) (by decide +kernel)
theorem kw_X0_72 : Cw 0 RX0 72 yX0_takeOut cX0_takeOut 4 none 2 := ⟨⟨m_242, m_244, m_4⟩, m_63, m_245, by decide +kernel, by decide⟩
theorem m_249 : (Jvm.Cond.code ({ cls := "TupleMethods$Function", name := "fitClass", desc := "(ILTupleMethods$Classes;)V" } : Jvm.MethodName) prog_3_method_10_code (6 : Nat) (Option.none : Option Jvm.ClassFile.FieldType)) ∈ TT := TT_in (List.mem_of_getElem? (i := 249) (by decide +kernel)) (by decide +kernel)
theorem m_64 : (Jvm.Cond.initialized "TupleMethods$Function") ∈ TT := TT_in (List.mem_of_getElem? (i := 64) (by decide +kernel)) (by decide +kernel)
theorem m_248 : (Jvm.Cond.selects "TupleMethods$Function" ({ cls := "TupleMethods$Function", name := "fitClass", desc := "(ILTupleMethods$Classes;)V" } : Jvm.MethodName) ({ cls := "TupleMethods$Function", name := "fitClass", desc := "(ILTupleMethods$Classes;)V" } : Jvm.MethodName)) ∈ TT := TT_in (List.mem_of_getElem? (i := 248) (by decide +kernel)) (by decide +kernel)
theorem m_246 : (Jvm.Cond.methodLink "TupleMethods" (68 : Nat) ({ cls := "TupleMethods$Function", name := "fitClass", desc := "(ILTupleMethods$Classes;)V" } : Jvm.MethodName)) ∈ TT := TT_in (List.mem_of_getElem? (i := 246) (by decide +kernel)) (by decide +kernel)
theorem m_247 : (Jvm.Cond.instanceMethod ({ cls := "TupleMethods$Function", name := "fitClass", desc := "(ILTupleMethods$Classes;)V" } : Jvm.MethodName)) ∈ TT := TT_in (List.mem_of_getElem? (i := 247) (by decide +kernel)) (by decide +kernel)
theorem kw_X2_68 : Cw 0 RX2 68 yX1_fitClass cX1_fitClass 6 none 2 := ⟨⟨m_246, m_247, m_248⟩, m_64, m_249, by decide +kernel, by decide⟩
theorem m_252 : (Jvm.Cond.code ({ cls := "TupleMethods", name := "classAt", desc := "(II)I" } : Jvm.MethodName) prog_1_method_29_code (2 : Nat) (Option.some Jvm.ClassFile.FieldType.int)) ∈ TT := TT_in (List.mem_of_getElem? (i := 252) (by decide +kernel)) (by decide +kernel)
theorem m_251 : (Jvm.Cond.static ({ cls := "TupleMethods", name := "classAt", desc := "(II)I" } : Jvm.MethodName)) ∈ TT := TT_in (List.mem_of_getElem? (i := 251) (by decide +kernel)) (by decide +kernel)
theorem kw_X1_40 : Cw 2 RX1 40 yX2_classAt cX2_classAt 2 (some .int) 2 := ⟨⟨⟨"TupleMethods", by decide +kernel⟩, m_251⟩, m_62, m_252, by decide +kernel, by decide⟩
theorem m_256 : (Jvm.Cond.code ({ cls := "TupleMethods$Classes", name := "isOne", desc := "(II)Z" } : Jvm.MethodName) prog_2_method_3_code (3 : Nat) (Option.some Jvm.ClassFile.FieldType.boolean)) ∈ TT := TT_in (List.mem_of_getElem? (i := 256) (by decide +kernel)) (by decide +kernel)
theorem m_255 : (Jvm.Cond.selects "TupleMethods$Classes" ({ cls := "TupleMethods$Classes", name := "isOne", desc := "(II)Z" } : Jvm.MethodName) ({ cls := "TupleMethods$Classes", name := "isOne", desc := "(II)Z" } : Jvm.MethodName)) ∈ TT := TT_in (List.mem_of_getElem? (i := 255) (by decide +kernel)) (by decide +kernel)
theorem m_253 : (Jvm.Cond.methodLink "TupleMethods$Function" (49 : Nat) ({ cls := "TupleMethods$Classes", name := "isOne", desc := "(II)Z" } : Jvm.MethodName)) ∈ TT := TT_in (List.mem_of_getElem? (i := 253) (by decide +kernel)) (by decide +kernel)
theorem m_254 : (Jvm.Cond.instanceMethod ({ cls := "TupleMethods$Classes", name := "isOne", desc := "(II)Z" } : Jvm.MethodName)) ∈ TT := TT_in (List.mem_of_getElem? (i := 254) (by decide +kernel)) (by decide +kernel)
theorem kw_X1_49 : Cw 0 RX1 49 yX0_isOne cX0_isOne 3 (some .boolean) 2 := ⟨⟨m_253, m_254, m_255⟩, m_63, m_256, by decide +kernel, by decide⟩
theorem m_260 : (Jvm.Cond.code ({ cls := "TupleMethods", name := "is", desc := "(II)Z" } : Jvm.MethodName) prog_1_method_3_code (3 : Nat) (Option.some Jvm.ClassFile.FieldType.boolean)) ∈ TT := TT_in (List.mem_of_getElem? (i := 260) (by decide +kernel)) (by decide +kernel)
theorem m_259 : (Jvm.Cond.selects "TupleMethods" ({ cls := "TupleMethods", name := "is", desc := "(II)Z" } : Jvm.MethodName) ({ cls := "TupleMethods", name := "is", desc := "(II)Z" } : Jvm.MethodName)) ∈ TT := TT_in (List.mem_of_getElem? (i := 259) (by decide +kernel)) (by decide +kernel)
theorem m_257 : (Jvm.Cond.methodLink "TupleMethodsLaw" (27 : Nat) ({ cls := "TupleMethods", name := "is", desc := "(II)Z" } : Jvm.MethodName)) ∈ TT := TT_in (List.mem_of_getElem? (i := 257) (by decide +kernel)) (by decide +kernel)
theorem m_258 : (Jvm.Cond.instanceMethod ({ cls := "TupleMethods", name := "is", desc := "(II)Z" } : Jvm.MethodName)) ∈ TT := TT_in (List.mem_of_getElem? (i := 258) (by decide +kernel)) (by decide +kernel)
theorem kw_L_27 : Cw 0 RL 27 yX2_is cX2_is 3 (some .boolean) 2 := ⟨⟨m_257, m_258, m_259⟩, m_62, m_260, by decide +kernel, by decide⟩
theorem m_261 : (Jvm.Cond.methodLink "TupleMethods" (72 : Nat) ({ cls := "TupleMethods$Classes", name := "has", desc := "(I)Z" } : Jvm.MethodName)) ∈ TT := TT_in (List.mem_of_getElem? (i := 261) (by decide +kernel)) (by decide +kernel)
theorem kw_X2_72 : Cw 0 RX2 72 yX0_has cX0_has 2 (some .boolean) 1 := ⟨⟨m_261, m_216, m_217⟩, m_63, m_218, by decide +kernel, by decide⟩
theorem m_262 : (Jvm.Cond.methodLink "TupleMethods" (76 : Nat) ({ cls := "TupleMethods$Classes", name := "isOne", desc := "(II)Z" } : Jvm.MethodName)) ∈ TT := TT_in (List.mem_of_getElem? (i := 262) (by decide +kernel)) (by decide +kernel)
theorem kw_X2_76 : Cw 0 RX2 76 yX0_isOne cX0_isOne 3 (some .boolean) 2 := ⟨⟨m_262, m_254, m_255⟩, m_63, m_256, by decide +kernel, by decide⟩
theorem m_266 : (Jvm.Cond.code ({ cls := "TupleMethods", name := "list", desc := "(II)I" } : Jvm.MethodName) prog_1_method_4_code (4 : Nat) (Option.some Jvm.ClassFile.FieldType.int)) ∈ TT := TT_in (List.mem_of_getElem? (i := 266) (by decide +kernel)) (by decide +kernel)
theorem m_265 : (Jvm.Cond.selects "TupleMethods" ({ cls := "TupleMethods", name := "list", desc := "(II)I" } : Jvm.MethodName) ({ cls := "TupleMethods", name := "list", desc := "(II)I" } : Jvm.MethodName)) ∈ TT := TT_in (List.mem_of_getElem? (i := 265) (by decide +kernel)) (by decide +kernel)
theorem m_263 : (Jvm.Cond.methodLink "TupleMethodsLaw" (32 : Nat) ({ cls := "TupleMethods", name := "list", desc := "(II)I" } : Jvm.MethodName)) ∈ TT := TT_in (List.mem_of_getElem? (i := 263) (by decide +kernel)) (by decide +kernel)
theorem m_264 : (Jvm.Cond.instanceMethod ({ cls := "TupleMethods", name := "list", desc := "(II)I" } : Jvm.MethodName)) ∈ TT := TT_in (List.mem_of_getElem? (i := 264) (by decide +kernel)) (by decide +kernel)
theorem kw_L_32 : Cw 0 RL 32 yX2_list cX2_list 4 (some .int) 2 := ⟨⟨m_263, m_264, m_265⟩, m_62, m_266, by decide +kernel, by decide⟩
theorem m_270 : (Jvm.Cond.code ({ cls := "TupleMethods", name := "meet", desc := "(III)I" } : Jvm.MethodName) prog_1_method_5_code (7 : Nat) (Option.some Jvm.ClassFile.FieldType.int)) ∈ TT := TT_in (List.mem_of_getElem? (i := 270) (by decide +kernel)) (by decide +kernel)
theorem m_269 : (Jvm.Cond.selects "TupleMethods" ({ cls := "TupleMethods", name := "meet", desc := "(III)I" } : Jvm.MethodName) ({ cls := "TupleMethods", name := "meet", desc := "(III)I" } : Jvm.MethodName)) ∈ TT := TT_in (List.mem_of_getElem? (i := 269) (by decide +kernel)) (by decide +kernel)
theorem m_267 : (Jvm.Cond.methodLink "TupleMethodsLaw" (36 : Nat) ({ cls := "TupleMethods", name := "meet", desc := "(III)I" } : Jvm.MethodName)) ∈ TT := TT_in (List.mem_of_getElem? (i := 267) (by decide +kernel)) (by decide +kernel)
theorem m_268 : (Jvm.Cond.instanceMethod ({ cls := "TupleMethods", name := "meet", desc := "(III)I" } : Jvm.MethodName)) ∈ TT := TT_in (List.mem_of_getElem? (i := 268) (by decide +kernel)) (by decide +kernel)
theorem kw_L_36 : Cw 0 RL 36 yX2_meet cX2_meet 7 (some .int) 3 := ⟨⟨m_267, m_268, m_269⟩, m_62, m_270, by decide +kernel, by decide⟩
theorem m_274 : (Jvm.Cond.code ({ cls := "TupleMethods$Classes", name := "thatAreBoth", desc := "(II)I" } : Jvm.MethodName) prog_2_method_4_code (5 : Nat) (Option.some Jvm.ClassFile.FieldType.int)) ∈ TT := TT_in (List.mem_of_getElem? (i := 274) (by decide +kernel)) (by decide +kernel)
theorem m_273 : (Jvm.Cond.selects "TupleMethods$Classes" ({ cls := "TupleMethods$Classes", name := "thatAreBoth", desc := "(II)I" } : Jvm.MethodName) ({ cls := "TupleMethods$Classes", name := "thatAreBoth", desc := "(II)I" } : Jvm.MethodName)) ∈ TT := TT_in (List.mem_of_getElem? (i := 273) (by decide +kernel)) (by decide +kernel)
theorem m_271 : (Jvm.Cond.methodLink "TupleMethods" (86 : Nat) ({ cls := "TupleMethods$Classes", name := "thatAreBoth", desc := "(II)I" } : Jvm.MethodName)) ∈ TT := TT_in (List.mem_of_getElem? (i := 271) (by decide +kernel)) (by decide +kernel)
theorem m_272 : (Jvm.Cond.instanceMethod ({ cls := "TupleMethods$Classes", name := "thatAreBoth", desc := "(II)I" } : Jvm.MethodName)) ∈ TT := TT_in (List.mem_of_getElem? (i := 272) (by decide +kernel)) (by decide +kernel)
theorem kw_X2_86 : Cw 0 RX2 86 yX0_thatAreBoth cX0_thatAreBoth 5 (some .int) 2 := ⟨⟨m_271, m_272, m_273⟩, m_63, m_274, by decide +kernel, by decide⟩
theorem m_275 : (Jvm.Cond.methodLink "TupleMethods$Classes" (43 : Nat) ({ cls := "TupleMethods$Classes", name := "isOne", desc := "(II)Z" } : Jvm.MethodName)) ∈ TT := TT_in (List.mem_of_getElem? (i := 275) (by decide +kernel)) (by decide +kernel)
theorem kw_X0_43 : Cw 0 RX0 43 yX0_isOne cX0_isOne 3 (some .boolean) 2 := ⟨⟨m_275, m_254, m_255⟩, m_63, m_256, by decide +kernel, by decide⟩
theorem m_279 : (Jvm.Cond.code ({ cls := "TupleMethods", name := "function", desc := "(I)I" } : Jvm.MethodName) prog_1_method_6_code (2 : Nat) (Option.some Jvm.ClassFile.FieldType.int)) ∈ TT := TT_in (List.mem_of_getElem? (i := 279) (by decide +kernel)) (by decide +kernel)
theorem m_278 : (Jvm.Cond.selects "TupleMethods" ({ cls := "TupleMethods", name := "function", desc := "(I)I" } : Jvm.MethodName) ({ cls := "TupleMethods", name := "function", desc := "(I)I" } : Jvm.MethodName)) ∈ TT := TT_in (List.mem_of_getElem? (i := 278) (by decide +kernel)) (by decide +kernel)
theorem m_276 : (Jvm.Cond.methodLink "TupleMethodsLaw" (40 : Nat) ({ cls := "TupleMethods", name := "function", desc := "(I)I" } : Jvm.MethodName)) ∈ TT := TT_in (List.mem_of_getElem? (i := 276) (by decide +kernel)) (by decide +kernel)
theorem m_277 : (Jvm.Cond.instanceMethod ({ cls := "TupleMethods", name := "function", desc := "(I)I" } : Jvm.MethodName)) ∈ TT := TT_in (List.mem_of_getElem? (i := 277) (by decide +kernel)) (by decide +kernel)
theorem kw_L_40 : Cw 0 RL 40 yX2_function cX2_function 2 (some .int) 1 := ⟨⟨m_276, m_277, m_278⟩, m_62, m_279, by decide +kernel, by decide⟩
theorem m_283 : (Jvm.Cond.code ({ cls := "TupleMethods", name := "method", desc := "(IIII)I" } : Jvm.MethodName) prog_1_method_7_code (7 : Nat) (Option.some Jvm.ClassFile.FieldType.int)) ∈ TT := TT_in (List.mem_of_getElem? (i := 283) (by decide +kernel)) (by decide +kernel)
theorem m_282 : (Jvm.Cond.selects "TupleMethods" ({ cls := "TupleMethods", name := "method", desc := "(IIII)I" } : Jvm.MethodName) ({ cls := "TupleMethods", name := "method", desc := "(IIII)I" } : Jvm.MethodName)) ∈ TT := TT_in (List.mem_of_getElem? (i := 282) (by decide +kernel)) (by decide +kernel)
theorem m_280 : (Jvm.Cond.methodLink "TupleMethodsLaw" (45 : Nat) ({ cls := "TupleMethods", name := "method", desc := "(IIII)I" } : Jvm.MethodName)) ∈ TT := TT_in (List.mem_of_getElem? (i := 280) (by decide +kernel)) (by decide +kernel)
theorem m_281 : (Jvm.Cond.instanceMethod ({ cls := "TupleMethods", name := "method", desc := "(IIII)I" } : Jvm.MethodName)) ∈ TT := TT_in (List.mem_of_getElem? (i := 281) (by decide +kernel)) (by decide +kernel)
theorem kw_L_45 : Cw 0 RL 45 yX2_method cX2_method 7 (some .int) 4 := ⟨⟨m_280, m_281, m_282⟩, m_62, m_283, by decide +kernel, by decide⟩
theorem m_287 : (Jvm.Cond.code ({ cls := "TupleMethods", name := "hasCall", desc := "(II)Z" } : Jvm.MethodName) prog_1_method_28_code (3 : Nat) (Option.some Jvm.ClassFile.FieldType.boolean)) ∈ TT := TT_in (List.mem_of_getElem? (i := 287) (by decide +kernel)) (by decide +kernel)
theorem m_5 : (Jvm.Cond.selects "TupleMethods" ({ cls := "TupleMethods", name := "hasCall", desc := "(II)Z" } : Jvm.MethodName) ({ cls := "TupleMethods", name := "hasCall", desc := "(II)Z" } : Jvm.MethodName)) ∈ TT := TT_in (List.mem_of_getElem? (i := 5) (by decide +kernel)) (by decide +kernel)
theorem m_284 : (Jvm.Cond.methodLink "TupleMethods" (96 : Nat) ({ cls := "TupleMethods", name := "hasCall", desc := "(II)Z" } : Jvm.MethodName)) ∈ TT := TT_in (List.mem_of_getElem? (i := 284) (by decide +kernel)) (by decide +kernel)
theorem m_286 : (Jvm.Cond.instanceMethod ({ cls := "TupleMethods", name := "hasCall", desc := "(II)Z" } : Jvm.MethodName)) ∈ TT := TT_in (List.mem_of_getElem? (i := 286) (by decide +kernel)) (by decide +kernel)
theorem kw_X2_96 : Cw 0 RX2 96 yX2_hasCall cX2_hasCall 3 (some .boolean) 2 := ⟨⟨m_284, m_286, m_5⟩, m_62, m_287, by decide +kernel, by decide⟩
theorem m_291 : (Jvm.Cond.code ({ cls := "TupleMethods", name := "hasFunction", desc := "(I)Z" } : Jvm.MethodName) prog_1_method_26_code (2 : Nat) (Option.some Jvm.ClassFile.FieldType.boolean)) ∈ TT := TT_in (List.mem_of_getElem? (i := 291) (by decide +kernel)) (by decide +kernel)
theorem m_6 : (Jvm.Cond.selects "TupleMethods" ({ cls := "TupleMethods", name := "hasFunction", desc := "(I)Z" } : Jvm.MethodName) ({ cls := "TupleMethods", name := "hasFunction", desc := "(I)Z" } : Jvm.MethodName)) ∈ TT := TT_in (List.mem_of_getElem? (i := 6) (by decide +kernel)) (by decide +kernel)
theorem m_288 : (Jvm.Cond.methodLink "TupleMethods" (144 : Nat) ({ cls := "TupleMethods", name := "hasFunction", desc := "(I)Z" } : Jvm.MethodName)) ∈ TT := TT_in (List.mem_of_getElem? (i := 288) (by decide +kernel)) (by decide +kernel)
theorem m_290 : (Jvm.Cond.instanceMethod ({ cls := "TupleMethods", name := "hasFunction", desc := "(I)Z" } : Jvm.MethodName)) ∈ TT := TT_in (List.mem_of_getElem? (i := 290) (by decide +kernel)) (by decide +kernel)
theorem kw_X2_144 : Cw 0 RX2 144 yX2_hasFunction cX2_hasFunction 2 (some .boolean) 1 := ⟨⟨m_288, m_290, m_6⟩, m_62, m_291, by decide +kernel, by decide⟩
theorem m_292 : (Jvm.Cond.methodLink "TupleMethods" (225 : Nat) ({ cls := "TupleMethods", name := "classAt", desc := "(II)I" } : Jvm.MethodName)) ∈ TT := TT_in (List.mem_of_getElem? (i := 292) (by decide +kernel)) (by decide +kernel)
theorem kw_X2_225 : Cw 1 RX2 225 yX2_classAt cX2_classAt 2 (some .int) 2 := ⟨⟨m_292, m_251⟩, m_62, m_252, by decide +kernel, by decide⟩
theorem m_296 : (Jvm.Cond.code ({ cls := "TupleMethods$Function", name := "leastFree", desc := "()I" } : Jvm.MethodName) prog_3_method_6_code (2 : Nat) (Option.some Jvm.ClassFile.FieldType.int)) ∈ TT := TT_in (List.mem_of_getElem? (i := 296) (by decide +kernel)) (by decide +kernel)
theorem m_295 : (Jvm.Cond.selects "TupleMethods$Function" ({ cls := "TupleMethods$Function", name := "leastFree", desc := "()I" } : Jvm.MethodName) ({ cls := "TupleMethods$Function", name := "leastFree", desc := "()I" } : Jvm.MethodName)) ∈ TT := TT_in (List.mem_of_getElem? (i := 295) (by decide +kernel)) (by decide +kernel)
theorem m_293 : (Jvm.Cond.methodLink "TupleMethods" (99 : Nat) ({ cls := "TupleMethods$Function", name := "leastFree", desc := "()I" } : Jvm.MethodName)) ∈ TT := TT_in (List.mem_of_getElem? (i := 293) (by decide +kernel)) (by decide +kernel)
theorem m_294 : (Jvm.Cond.instanceMethod ({ cls := "TupleMethods$Function", name := "leastFree", desc := "()I" } : Jvm.MethodName)) ∈ TT := TT_in (List.mem_of_getElem? (i := 294) (by decide +kernel)) (by decide +kernel)
theorem kw_X2_99 : Cw 0 RX2 99 yX1_leastFree cX1_leastFree 2 (some .int) 0 := ⟨⟨m_293, m_294, m_295⟩, m_64, m_296, by decide +kernel, by decide⟩
theorem m_300 : (Jvm.Cond.code ({ cls := "TupleMethods$Function", name := "hasMethodFor", desc := "(I)Z" } : Jvm.MethodName) prog_3_method_5_code (3 : Nat) (Option.some Jvm.ClassFile.FieldType.boolean)) ∈ TT := TT_in (List.mem_of_getElem? (i := 300) (by decide +kernel)) (by decide +kernel)
theorem m_299 : (Jvm.Cond.selects "TupleMethods$Function" ({ cls := "TupleMethods$Function", name := "hasMethodFor", desc := "(I)Z" } : Jvm.MethodName) ({ cls := "TupleMethods$Function", name := "hasMethodFor", desc := "(I)Z" } : Jvm.MethodName)) ∈ TT := TT_in (List.mem_of_getElem? (i := 299) (by decide +kernel)) (by decide +kernel)
theorem m_297 : (Jvm.Cond.methodLink "TupleMethods" (103 : Nat) ({ cls := "TupleMethods$Function", name := "hasMethodFor", desc := "(I)Z" } : Jvm.MethodName)) ∈ TT := TT_in (List.mem_of_getElem? (i := 297) (by decide +kernel)) (by decide +kernel)
theorem m_298 : (Jvm.Cond.instanceMethod ({ cls := "TupleMethods$Function", name := "hasMethodFor", desc := "(I)Z" } : Jvm.MethodName)) ∈ TT := TT_in (List.mem_of_getElem? (i := 298) (by decide +kernel)) (by decide +kernel)
theorem kw_X2_103 : Cw 0 RX2 103 yX1_hasMethodFor cX1_hasMethodFor 3 (some .boolean) 1 := ⟨⟨m_297, m_298, m_299⟩, m_64, m_300, by decide +kernel, by decide⟩
theorem m_304 : (Jvm.Cond.code ({ cls := "TupleMethods$Function", name := "put", desc := "(IILTupleMethods$Classes;)V" } : Jvm.MethodName) prog_3_method_7_code (6 : Nat) (Option.none : Option Jvm.ClassFile.FieldType)) ∈ TT := TT_in (List.mem_of_getElem? (i := 304) (by decide +kernel)) (by decide +kernel)
theorem m_303 : (Jvm.Cond.selects "TupleMethods$Function" ({ cls := "TupleMethods$Function", name := "put", desc := "(IILTupleMethods$Classes;)V" } : Jvm.MethodName) ({ cls := "TupleMethods$Function", name := "put", desc := "(IILTupleMethods$Classes;)V" } : Jvm.MethodName)) ∈ TT := TT_in (List.mem_of_getElem? (i := 303) (by decide +kernel)) (by decide +kernel)
theorem m_301 : (Jvm.Cond.methodLink "TupleMethods" (106 : Nat) ({ cls := "TupleMethods$Function", name := "put", desc := "(IILTupleMethods$Classes;)V" } : Jvm.MethodName)) ∈ TT := TT_in (List.mem_of_getElem? (i := 301) (by decide +kernel)) (by decide +kernel)
theorem m_302 : (Jvm.Cond.instanceMethod ({ cls := "TupleMethods$Function", name := "put", desc := "(IILTupleMethods$Classes;)V" } : Jvm.MethodName)) ∈ TT := TT_in (List.mem_of_getElem? (i := 302) (by decide +kernel)) (by decide +kernel)
theorem kw_X2_106 : Cw 0 RX2 106 yX1_put cX1_put 6 none 3 := ⟨⟨m_301, m_302, m_303⟩, m_64, m_304, by decide +kernel, by decide⟩
theorem m_308 : (Jvm.Cond.code ({ cls := "TupleMethods$Function", name := "orderMethods", desc := "()V" } : Jvm.MethodName) prog_3_method_9_code (2 : Nat) (Option.none : Option Jvm.ClassFile.FieldType)) ∈ TT := TT_in (List.mem_of_getElem? (i := 308) (by decide +kernel)) (by decide +kernel)
theorem m_7 : (Jvm.Cond.selects "TupleMethods$Function" ({ cls := "TupleMethods$Function", name := "orderMethods", desc := "()V" } : Jvm.MethodName) ({ cls := "TupleMethods$Function", name := "orderMethods", desc := "()V" } : Jvm.MethodName)) ∈ TT := TT_in (List.mem_of_getElem? (i := 7) (by decide +kernel)) (by decide +kernel)
theorem m_305 : (Jvm.Cond.methodLink "TupleMethods$Function" (53 : Nat) ({ cls := "TupleMethods$Function", name := "orderMethods", desc := "()V" } : Jvm.MethodName)) ∈ TT := TT_in (List.mem_of_getElem? (i := 305) (by decide +kernel)) (by decide +kernel)
theorem m_307 : (Jvm.Cond.instanceMethod ({ cls := "TupleMethods$Function", name := "orderMethods", desc := "()V" } : Jvm.MethodName)) ∈ TT := TT_in (List.mem_of_getElem? (i := 307) (by decide +kernel)) (by decide +kernel)
theorem kw_X1_53 : Cw 0 RX1 53 yX1_orderMethods cX1_orderMethods 2 none 0 := ⟨⟨m_305, m_307, m_7⟩, m_64, m_308, by decide +kernel, by decide⟩
theorem m_312 : (Jvm.Cond.code ({ cls := "TupleMethods$Function", name := "thatApply", desc := "(I)I" } : Jvm.MethodName) prog_3_method_2_code (2 : Nat) (Option.some Jvm.ClassFile.FieldType.int)) ∈ TT := TT_in (List.mem_of_getElem? (i := 312) (by decide +kernel)) (by decide +kernel)
theorem m_311 : (Jvm.Cond.selects "TupleMethods$Function" ({ cls := "TupleMethods$Function", name := "thatApply", desc := "(I)I" } : Jvm.MethodName) ({ cls := "TupleMethods$Function", name := "thatApply", desc := "(I)I" } : Jvm.MethodName)) ∈ TT := TT_in (List.mem_of_getElem? (i := 311) (by decide +kernel)) (by decide +kernel)
theorem m_309 : (Jvm.Cond.methodLink "TupleMethods$Function" (56 : Nat) ({ cls := "TupleMethods$Function", name := "thatApply", desc := "(I)I" } : Jvm.MethodName)) ∈ TT := TT_in (List.mem_of_getElem? (i := 309) (by decide +kernel)) (by decide +kernel)
theorem m_310 : (Jvm.Cond.instanceMethod ({ cls := "TupleMethods$Function", name := "thatApply", desc := "(I)I" } : Jvm.MethodName)) ∈ TT := TT_in (List.mem_of_getElem? (i := 310) (by decide +kernel)) (by decide +kernel)
theorem kw_X1_56 : Cw 0 RX1 56 yX1_thatApply cX1_thatApply 2 (some .int) 1 := ⟨⟨m_309, m_310, m_311⟩, m_64, m_312, by decide +kernel, by decide⟩
theorem m_316 : (Jvm.Cond.code ({ cls := "TupleMethods$Function", name := "forget", desc := "(I)V" } : Jvm.MethodName) prog_3_method_16_code (4 : Nat) (Option.none : Option Jvm.ClassFile.FieldType)) ∈ TT := TT_in (List.mem_of_getElem? (i := 316) (by decide +kernel)) (by decide +kernel)
theorem m_315 : (Jvm.Cond.selects "TupleMethods$Function" ({ cls := "TupleMethods$Function", name := "forget", desc := "(I)V" } : Jvm.MethodName) ({ cls := "TupleMethods$Function", name := "forget", desc := "(I)V" } : Jvm.MethodName)) ∈ TT := TT_in (List.mem_of_getElem? (i := 315) (by decide +kernel)) (by decide +kernel)
theorem m_313 : (Jvm.Cond.methodLink "TupleMethods" (116 : Nat) ({ cls := "TupleMethods$Function", name := "forget", desc := "(I)V" } : Jvm.MethodName)) ∈ TT := TT_in (List.mem_of_getElem? (i := 313) (by decide +kernel)) (by decide +kernel)
theorem m_314 : (Jvm.Cond.instanceMethod ({ cls := "TupleMethods$Function", name := "forget", desc := "(I)V" } : Jvm.MethodName)) ∈ TT := TT_in (List.mem_of_getElem? (i := 314) (by decide +kernel)) (by decide +kernel)
theorem kw_X2_116 : Cw 0 RX2 116 yX1_forget cX1_forget 4 none 1 := ⟨⟨m_313, m_314, m_315⟩, m_64, m_316, by decide +kernel, by decide⟩
theorem m_320 : (Jvm.Cond.code ({ cls := "TupleMethods", name := "drop", desc := "(II)I" } : Jvm.MethodName) prog_1_method_8_code (4 : Nat) (Option.some Jvm.ClassFile.FieldType.int)) ∈ TT := TT_in (List.mem_of_getElem? (i := 320) (by decide +kernel)) (by decide +kernel)
theorem m_319 : (Jvm.Cond.selects "TupleMethods" ({ cls := "TupleMethods", name := "drop", desc := "(II)I" } : Jvm.MethodName) ({ cls := "TupleMethods", name := "drop", desc := "(II)I" } : Jvm.MethodName)) ∈ TT := TT_in (List.mem_of_getElem? (i := 319) (by decide +kernel)) (by decide +kernel)
theorem m_317 : (Jvm.Cond.methodLink "TupleMethodsLaw" (50 : Nat) ({ cls := "TupleMethods", name := "drop", desc := "(II)I" } : Jvm.MethodName)) ∈ TT := TT_in (List.mem_of_getElem? (i := 317) (by decide +kernel)) (by decide +kernel)
theorem m_318 : (Jvm.Cond.instanceMethod ({ cls := "TupleMethods", name := "drop", desc := "(II)I" } : Jvm.MethodName)) ∈ TT := TT_in (List.mem_of_getElem? (i := 318) (by decide +kernel)) (by decide +kernel)
theorem kw_L_50 : Cw 0 RL 50 yX2_drop cX2_drop 4 (some .int) 2 := ⟨⟨m_317, m_318, m_319⟩, m_62, m_320, by decide +kernel, by decide⟩
theorem m_324 : (Jvm.Cond.code ({ cls := "TupleMethods", name := "hasMethod", desc := "(II)Z" } : Jvm.MethodName) prog_1_method_27_code (3 : Nat) (Option.some Jvm.ClassFile.FieldType.boolean)) ∈ TT := TT_in (List.mem_of_getElem? (i := 324) (by decide +kernel)) (by decide +kernel)
theorem m_8 : (Jvm.Cond.selects "TupleMethods" ({ cls := "TupleMethods", name := "hasMethod", desc := "(II)Z" } : Jvm.MethodName) ({ cls := "TupleMethods", name := "hasMethod", desc := "(II)Z" } : Jvm.MethodName)) ∈ TT := TT_in (List.mem_of_getElem? (i := 8) (by decide +kernel)) (by decide +kernel)
theorem m_321 : (Jvm.Cond.methodLink "TupleMethods" (120 : Nat) ({ cls := "TupleMethods", name := "hasMethod", desc := "(II)Z" } : Jvm.MethodName)) ∈ TT := TT_in (List.mem_of_getElem? (i := 321) (by decide +kernel)) (by decide +kernel)
theorem m_323 : (Jvm.Cond.instanceMethod ({ cls := "TupleMethods", name := "hasMethod", desc := "(II)Z" } : Jvm.MethodName)) ∈ TT := TT_in (List.mem_of_getElem? (i := 323) (by decide +kernel)) (by decide +kernel)
theorem kw_X2_120 : Cw 0 RX2 120 yX2_hasMethod cX2_hasMethod 3 (some .boolean) 2 := ⟨⟨m_321, m_323, m_8⟩, m_62, m_324, by decide +kernel, by decide⟩
theorem m_328 : (Jvm.Cond.code ({ cls := "TupleMethods$Function", name := "remove", desc := "(I)V" } : Jvm.MethodName) prog_3_method_8_code (3 : Nat) (Option.none : Option Jvm.ClassFile.FieldType)) ∈ TT := TT_in (List.mem_of_getElem? (i := 328) (by decide +kernel)) (by decide +kernel)
theorem m_327 : (Jvm.Cond.selects "TupleMethods$Function" ({ cls := "TupleMethods$Function", name := "remove", desc := "(I)V" } : Jvm.MethodName) ({ cls := "TupleMethods$Function", name := "remove", desc := "(I)V" } : Jvm.MethodName)) ∈ TT := TT_in (List.mem_of_getElem? (i := 327) (by decide +kernel)) (by decide +kernel)
theorem m_325 : (Jvm.Cond.methodLink "TupleMethods" (123 : Nat) ({ cls := "TupleMethods$Function", name := "remove", desc := "(I)V" } : Jvm.MethodName)) ∈ TT := TT_in (List.mem_of_getElem? (i := 325) (by decide +kernel)) (by decide +kernel)
theorem m_326 : (Jvm.Cond.instanceMethod ({ cls := "TupleMethods$Function", name := "remove", desc := "(I)V" } : Jvm.MethodName)) ∈ TT := TT_in (List.mem_of_getElem? (i := 326) (by decide +kernel)) (by decide +kernel)
theorem kw_X2_123 : Cw 0 RX2 123 yX1_remove cX1_remove 3 none 1 := ⟨⟨m_325, m_326, m_327⟩, m_64, m_328, by decide +kernel, by decide⟩
theorem m_331 : (Jvm.Cond.code ({ cls := "java/lang/Integer", name := "bitCount", desc := "(I)I" } : Jvm.MethodName) prog_8_method_49_code (1 : Nat) (Option.some Jvm.ClassFile.FieldType.int)) ∈ TT := TT_in (List.mem_of_getElem? (i := 331) (by decide +kernel)) (by decide +kernel)
theorem m_67 : (Jvm.Cond.initialized "java/lang/Integer") ∈ TT := TT_in (List.mem_of_getElem? (i := 67) (by decide +kernel)) (by decide +kernel)
theorem m_330 : (Jvm.Cond.static ({ cls := "java/lang/Integer", name := "bitCount", desc := "(I)I" } : Jvm.MethodName)) ∈ TT := TT_in (List.mem_of_getElem? (i := 330) (by decide +kernel)) (by decide +kernel)
theorem m_329 : (Jvm.Cond.methodLink "TupleMethods" (129 : Nat) ({ cls := "java/lang/Integer", name := "bitCount", desc := "(I)I" } : Jvm.MethodName)) ∈ TT := TT_in (List.mem_of_getElem? (i := 329) (by decide +kernel)) (by decide +kernel)
theorem kw_X2_129 : Cw 1 RX2 129 yJ6_bitCount_0f7a4 cJ6_bitCount_0f7a4 1 (some .int) 1 := ⟨⟨m_329, m_330⟩, m_67, m_331, by decide +kernel, by decide⟩
theorem m_338 : (Jvm.Cond.code ({ cls := "TupleMethods", name := "rule", desc := "()I" } : Jvm.MethodName) prog_1_method_9_code (2 : Nat) (Option.some Jvm.ClassFile.FieldType.int)) ∈ TT := TT_in (List.mem_of_getElem? (i := 338) (by decide +kernel)) (by decide +kernel)
theorem m_337 : (Jvm.Cond.selects "TupleMethods" ({ cls := "TupleMethods", name := "rule", desc := "()I" } : Jvm.MethodName) ({ cls := "TupleMethods", name := "rule", desc := "()I" } : Jvm.MethodName)) ∈ TT := TT_in (List.mem_of_getElem? (i := 337) (by decide +kernel)) (by decide +kernel)
theorem m_335 : (Jvm.Cond.methodLink "TupleMethodsLaw" (54 : Nat) ({ cls := "TupleMethods", name := "rule", desc := "()I" } : Jvm.MethodName)) ∈ TT := TT_in (List.mem_of_getElem? (i := 335) (by decide +kernel)) (by decide +kernel)
theorem m_336 : (Jvm.Cond.instanceMethod ({ cls := "TupleMethods", name := "rule", desc := "()I" } : Jvm.MethodName)) ∈ TT := TT_in (List.mem_of_getElem? (i := 336) (by decide +kernel)) (by decide +kernel)
theorem kw_L_54 : Cw 0 RL 54 yX2_rule cX2_rule 2 (some .int) 0 := ⟨⟨m_335, m_336, m_337⟩, m_62, m_338, by decide +kernel, by decide⟩
theorem m_342 : (Jvm.Cond.code ({ cls := "TupleMethods", name := "count", desc := "(I)I" } : Jvm.MethodName) prog_1_method_10_code (2 : Nat) (Option.some Jvm.ClassFile.FieldType.int)) ∈ TT := TT_in (List.mem_of_getElem? (i := 342) (by decide +kernel)) (by decide +kernel)
theorem m_341 : (Jvm.Cond.selects "TupleMethods" ({ cls := "TupleMethods", name := "count", desc := "(I)I" } : Jvm.MethodName) ({ cls := "TupleMethods", name := "count", desc := "(I)I" } : Jvm.MethodName)) ∈ TT := TT_in (List.mem_of_getElem? (i := 341) (by decide +kernel)) (by decide +kernel)
theorem m_339 : (Jvm.Cond.methodLink "TupleMethodsLaw" (59 : Nat) ({ cls := "TupleMethods", name := "count", desc := "(I)I" } : Jvm.MethodName)) ∈ TT := TT_in (List.mem_of_getElem? (i := 339) (by decide +kernel)) (by decide +kernel)
theorem m_340 : (Jvm.Cond.instanceMethod ({ cls := "TupleMethods", name := "count", desc := "(I)I" } : Jvm.MethodName)) ∈ TT := TT_in (List.mem_of_getElem? (i := 340) (by decide +kernel)) (by decide +kernel)
theorem kw_L_59 : Cw 0 RL 59 yX2_count cX2_count 2 (some .int) 1 := ⟨⟨m_339, m_340, m_341⟩, m_62, m_342, by decide +kernel, by decide⟩
theorem m_346 : (Jvm.Cond.code ({ cls := "TupleMethods", name := "methodsOfAll", desc := "()I" } : Jvm.MethodName) prog_1_method_30_code (3 : Nat) (Option.some Jvm.ClassFile.FieldType.int)) ∈ TT := TT_in (List.mem_of_getElem? (i := 346) (by decide +kernel)) (by decide +kernel)
theorem m_9 : (Jvm.Cond.selects "TupleMethods" ({ cls := "TupleMethods", name := "methodsOfAll", desc := "()I" } : Jvm.MethodName) ({ cls := "TupleMethods", name := "methodsOfAll", desc := "()I" } : Jvm.MethodName)) ∈ TT := TT_in (List.mem_of_getElem? (i := 9) (by decide +kernel)) (by decide +kernel)
theorem m_343 : (Jvm.Cond.methodLink "TupleMethods" (138 : Nat) ({ cls := "TupleMethods", name := "methodsOfAll", desc := "()I" } : Jvm.MethodName)) ∈ TT := TT_in (List.mem_of_getElem? (i := 343) (by decide +kernel)) (by decide +kernel)
theorem m_345 : (Jvm.Cond.instanceMethod ({ cls := "TupleMethods", name := "methodsOfAll", desc := "()I" } : Jvm.MethodName)) ∈ TT := TT_in (List.mem_of_getElem? (i := 345) (by decide +kernel)) (by decide +kernel)
theorem kw_X2_138 : Cw 0 RX2 138 yX2_methodsOfAll cX2_methodsOfAll 3 (some .int) 0 := ⟨⟨m_343, m_345, m_9⟩, m_62, m_346, by decide +kernel, by decide⟩
theorem m_350 : (Jvm.Cond.code ({ cls := "TupleMethods", name := "keptOfAll", desc := "()I" } : Jvm.MethodName) prog_1_method_31_code (3 : Nat) (Option.some Jvm.ClassFile.FieldType.int)) ∈ TT := TT_in (List.mem_of_getElem? (i := 350) (by decide +kernel)) (by decide +kernel)
theorem m_10 : (Jvm.Cond.selects "TupleMethods" ({ cls := "TupleMethods", name := "keptOfAll", desc := "()I" } : Jvm.MethodName) ({ cls := "TupleMethods", name := "keptOfAll", desc := "()I" } : Jvm.MethodName)) ∈ TT := TT_in (List.mem_of_getElem? (i := 10) (by decide +kernel)) (by decide +kernel)
theorem m_347 : (Jvm.Cond.methodLink "TupleMethods" (141 : Nat) ({ cls := "TupleMethods", name := "keptOfAll", desc := "()I" } : Jvm.MethodName)) ∈ TT := TT_in (List.mem_of_getElem? (i := 347) (by decide +kernel)) (by decide +kernel)
theorem m_349 : (Jvm.Cond.instanceMethod ({ cls := "TupleMethods", name := "keptOfAll", desc := "()I" } : Jvm.MethodName)) ∈ TT := TT_in (List.mem_of_getElem? (i := 349) (by decide +kernel)) (by decide +kernel)
theorem kw_X2_141 : Cw 0 RX2 141 yX2_keptOfAll cX2_keptOfAll 3 (some .int) 0 := ⟨⟨m_347, m_349, m_10⟩, m_62, m_350, by decide +kernel, by decide⟩
theorem m_354 : (Jvm.Cond.code ({ cls := "TupleMethods", name := "of", desc := "(II)I" } : Jvm.MethodName) prog_1_method_11_code (4 : Nat) (Option.some Jvm.ClassFile.FieldType.int)) ∈ TT := TT_in (List.mem_of_getElem? (i := 354) (by decide +kernel)) (by decide +kernel)
theorem m_353 : (Jvm.Cond.selects "TupleMethods" ({ cls := "TupleMethods", name := "of", desc := "(II)I" } : Jvm.MethodName) ({ cls := "TupleMethods", name := "of", desc := "(II)I" } : Jvm.MethodName)) ∈ TT := TT_in (List.mem_of_getElem? (i := 353) (by decide +kernel)) (by decide +kernel)
theorem m_351 : (Jvm.Cond.methodLink "TupleMethodsLaw" (63 : Nat) ({ cls := "TupleMethods", name := "of", desc := "(II)I" } : Jvm.MethodName)) ∈ TT := TT_in (List.mem_of_getElem? (i := 351) (by decide +kernel)) (by decide +kernel)
theorem m_352 : (Jvm.Cond.instanceMethod ({ cls := "TupleMethods", name := "of", desc := "(II)I" } : Jvm.MethodName)) ∈ TT := TT_in (List.mem_of_getElem? (i := 352) (by decide +kernel)) (by decide +kernel)
theorem kw_L_63 : Cw 0 RL 63 yX2_of cX2_of 4 (some .int) 2 := ⟨⟨m_351, m_352, m_353⟩, m_62, m_354, by decide +kernel, by decide⟩
theorem m_358 : (Jvm.Cond.code ({ cls := "TupleMethods", name := "callCount", desc := "(LTupleMethods$Function;)I" } : Jvm.MethodName) prog_1_method_36_code (4 : Nat) (Option.some Jvm.ClassFile.FieldType.int)) ∈ TT := TT_in (List.mem_of_getElem? (i := 358) (by decide +kernel)) (by decide +kernel)
theorem m_11 : (Jvm.Cond.selects "TupleMethods" ({ cls := "TupleMethods", name := "callCount", desc := "(LTupleMethods$Function;)I" } : Jvm.MethodName) ({ cls := "TupleMethods", name := "callCount", desc := "(LTupleMethods$Function;)I" } : Jvm.MethodName)) ∈ TT := TT_in (List.mem_of_getElem? (i := 11) (by decide +kernel)) (by decide +kernel)
theorem m_355 : (Jvm.Cond.methodLink "TupleMethods" (147 : Nat) ({ cls := "TupleMethods", name := "callCount", desc := "(LTupleMethods$Function;)I" } : Jvm.MethodName)) ∈ TT := TT_in (List.mem_of_getElem? (i := 355) (by decide +kernel)) (by decide +kernel)
theorem m_357 : (Jvm.Cond.instanceMethod ({ cls := "TupleMethods", name := "callCount", desc := "(LTupleMethods$Function;)I" } : Jvm.MethodName)) ∈ TT := TT_in (List.mem_of_getElem? (i := 357) (by decide +kernel)) (by decide +kernel)
theorem kw_X2_147 : Cw 0 RX2 147 yX2_callCount cX2_callCount 4 (some .int) 1 := ⟨⟨m_355, m_357, m_11⟩, m_62, m_358, by decide +kernel, by decide⟩
theorem m_362 : (Jvm.Cond.code ({ cls := "TupleMethods", name := "callsAnswered", desc := "(II)I" } : Jvm.MethodName) prog_1_method_38_code (7 : Nat) (Option.some Jvm.ClassFile.FieldType.int)) ∈ TT := TT_in (List.mem_of_getElem? (i := 362) (by decide +kernel)) (by decide +kernel)
theorem m_12 : (Jvm.Cond.selects "TupleMethods" ({ cls := "TupleMethods", name := "callsAnswered", desc := "(II)I" } : Jvm.MethodName) ({ cls := "TupleMethods", name := "callsAnswered", desc := "(II)I" } : Jvm.MethodName)) ∈ TT := TT_in (List.mem_of_getElem? (i := 12) (by decide +kernel)) (by decide +kernel)
theorem m_359 : (Jvm.Cond.methodLink "TupleMethods" (151 : Nat) ({ cls := "TupleMethods", name := "callsAnswered", desc := "(II)I" } : Jvm.MethodName)) ∈ TT := TT_in (List.mem_of_getElem? (i := 359) (by decide +kernel)) (by decide +kernel)
theorem m_361 : (Jvm.Cond.instanceMethod ({ cls := "TupleMethods", name := "callsAnswered", desc := "(II)I" } : Jvm.MethodName)) ∈ TT := TT_in (List.mem_of_getElem? (i := 361) (by decide +kernel)) (by decide +kernel)
theorem kw_X2_151 : Cw 0 RX2 151 yX2_callsAnswered cX2_callsAnswered 7 (some .int) 2 := ⟨⟨m_359, m_361, m_12⟩, m_62, m_362, by decide +kernel, by decide⟩
theorem m_366 : (Jvm.Cond.code ({ cls := "TupleMethods", name := "fillAnswers", desc := "(I)V" } : Jvm.MethodName) prog_1_method_37_code (6 : Nat) (Option.none : Option Jvm.ClassFile.FieldType)) ∈ TT := TT_in (List.mem_of_getElem? (i := 366) (by decide +kernel)) (by decide +kernel)
theorem m_13 : (Jvm.Cond.selects "TupleMethods" ({ cls := "TupleMethods", name := "fillAnswers", desc := "(I)V" } : Jvm.MethodName) ({ cls := "TupleMethods", name := "fillAnswers", desc := "(I)V" } : Jvm.MethodName)) ∈ TT := TT_in (List.mem_of_getElem? (i := 13) (by decide +kernel)) (by decide +kernel)
theorem m_363 : (Jvm.Cond.methodLink "TupleMethods" (212 : Nat) ({ cls := "TupleMethods", name := "fillAnswers", desc := "(I)V" } : Jvm.MethodName)) ∈ TT := TT_in (List.mem_of_getElem? (i := 363) (by decide +kernel)) (by decide +kernel)
theorem m_365 : (Jvm.Cond.instanceMethod ({ cls := "TupleMethods", name := "fillAnswers", desc := "(I)V" } : Jvm.MethodName)) ∈ TT := TT_in (List.mem_of_getElem? (i := 365) (by decide +kernel)) (by decide +kernel)
theorem kw_X2_212 : Cw 0 RX2 212 yX2_fillAnswers cX2_fillAnswers 6 none 1 := ⟨⟨m_363, m_365, m_13⟩, m_62, m_366, by decide +kernel, by decide⟩
theorem m_367 : (Jvm.Cond.methodLink "TupleMethods" (186 : Nat) ({ cls := "TupleMethods$Function", name := "thatApply", desc := "(I)I" } : Jvm.MethodName)) ∈ TT := TT_in (List.mem_of_getElem? (i := 367) (by decide +kernel)) (by decide +kernel)
theorem kw_X2_186 : Cw 0 RX2 186 yX1_thatApply cX1_thatApply 2 (some .int) 1 := ⟨⟨m_367, m_310, m_311⟩, m_64, m_312, by decide +kernel, by decide⟩
theorem m_371 : (Jvm.Cond.code ({ cls := "TupleMethods", name := "firstOf", desc := "(LTupleMethods$Function;II)I" } : Jvm.MethodName) prog_1_method_32_code (4 : Nat) (Option.some Jvm.ClassFile.FieldType.int)) ∈ TT := TT_in (List.mem_of_getElem? (i := 371) (by decide +kernel)) (by decide +kernel)
theorem m_14 : (Jvm.Cond.selects "TupleMethods" ({ cls := "TupleMethods", name := "firstOf", desc := "(LTupleMethods$Function;II)I" } : Jvm.MethodName) ({ cls := "TupleMethods", name := "firstOf", desc := "(LTupleMethods$Function;II)I" } : Jvm.MethodName)) ∈ TT := TT_in (List.mem_of_getElem? (i := 14) (by decide +kernel)) (by decide +kernel)
theorem m_368 : (Jvm.Cond.methodLink "TupleMethods" (189 : Nat) ({ cls := "TupleMethods", name := "firstOf", desc := "(LTupleMethods$Function;II)I" } : Jvm.MethodName)) ∈ TT := TT_in (List.mem_of_getElem? (i := 368) (by decide +kernel)) (by decide +kernel)
theorem m_370 : (Jvm.Cond.instanceMethod ({ cls := "TupleMethods", name := "firstOf", desc := "(LTupleMethods$Function;II)I" } : Jvm.MethodName)) ∈ TT := TT_in (List.mem_of_getElem? (i := 370) (by decide +kernel)) (by decide +kernel)
theorem kw_X2_189 : Cw 0 RX2 189 yX2_firstOf cX2_firstOf 4 (some .int) 3 := ⟨⟨m_368, m_370, m_14⟩, m_62, m_371, by decide +kernel, by decide⟩
theorem m_375 : (Jvm.Cond.code ({ cls := "TupleMethods$Function", name := "leastOf", desc := "(I)I" } : Jvm.MethodName) prog_3_method_3_code (3 : Nat) (Option.some Jvm.ClassFile.FieldType.int)) ∈ TT := TT_in (List.mem_of_getElem? (i := 375) (by decide +kernel)) (by decide +kernel)
theorem m_374 : (Jvm.Cond.selects "TupleMethods$Function" ({ cls := "TupleMethods$Function", name := "leastOf", desc := "(I)I" } : Jvm.MethodName) ({ cls := "TupleMethods$Function", name := "leastOf", desc := "(I)I" } : Jvm.MethodName)) ∈ TT := TT_in (List.mem_of_getElem? (i := 374) (by decide +kernel)) (by decide +kernel)
theorem m_372 : (Jvm.Cond.methodLink "TupleMethods" (222 : Nat) ({ cls := "TupleMethods$Function", name := "leastOf", desc := "(I)I" } : Jvm.MethodName)) ∈ TT := TT_in (List.mem_of_getElem? (i := 372) (by decide +kernel)) (by decide +kernel)
theorem m_373 : (Jvm.Cond.instanceMethod ({ cls := "TupleMethods$Function", name := "leastOf", desc := "(I)I" } : Jvm.MethodName)) ∈ TT := TT_in (List.mem_of_getElem? (i := 373) (by decide +kernel)) (by decide +kernel)
theorem kw_X2_222 : Cw 0 RX2 222 yX1_leastOf cX1_leastOf 3 (some .int) 1 := ⟨⟨m_372, m_373, m_374⟩, m_64, m_375, by decide +kernel, by decide⟩
theorem m_379 : (Jvm.Cond.code ({ cls := "TupleMethods", name := "foremostOf", desc := "(LTupleMethods$Function;II)I" } : Jvm.MethodName) prog_1_method_33_code (6 : Nat) (Option.some Jvm.ClassFile.FieldType.int)) ∈ TT := TT_in (List.mem_of_getElem? (i := 379) (by decide +kernel)) (by decide +kernel)
theorem m_15 : (Jvm.Cond.selects "TupleMethods" ({ cls := "TupleMethods", name := "foremostOf", desc := "(LTupleMethods$Function;II)I" } : Jvm.MethodName) ({ cls := "TupleMethods", name := "foremostOf", desc := "(LTupleMethods$Function;II)I" } : Jvm.MethodName)) ∈ TT := TT_in (List.mem_of_getElem? (i := 15) (by decide +kernel)) (by decide +kernel)
theorem m_376 : (Jvm.Cond.methodLink "TupleMethods" (228 : Nat) ({ cls := "TupleMethods", name := "foremostOf", desc := "(LTupleMethods$Function;II)I" } : Jvm.MethodName)) ∈ TT := TT_in (List.mem_of_getElem? (i := 376) (by decide +kernel)) (by decide +kernel)
theorem m_378 : (Jvm.Cond.instanceMethod ({ cls := "TupleMethods", name := "foremostOf", desc := "(LTupleMethods$Function;II)I" } : Jvm.MethodName)) ∈ TT := TT_in (List.mem_of_getElem? (i := 378) (by decide +kernel)) (by decide +kernel)
theorem kw_X2_228 : Cw 0 RX2 228 yX2_foremostOf cX2_foremostOf 6 (some .int) 3 := ⟨⟨m_376, m_378, m_15⟩, m_62, m_379, by decide +kernel, by decide⟩
theorem m_383 : (Jvm.Cond.code ({ cls := "TupleMethods", name := "comesAhead", desc := "(III)Z" } : Jvm.MethodName) prog_1_method_34_code (6 : Nat) (Option.some Jvm.ClassFile.FieldType.boolean)) ∈ TT := TT_in (List.mem_of_getElem? (i := 383) (by decide +kernel)) (by decide +kernel)
theorem m_16 : (Jvm.Cond.selects "TupleMethods" ({ cls := "TupleMethods", name := "comesAhead", desc := "(III)Z" } : Jvm.MethodName) ({ cls := "TupleMethods", name := "comesAhead", desc := "(III)Z" } : Jvm.MethodName)) ∈ TT := TT_in (List.mem_of_getElem? (i := 16) (by decide +kernel)) (by decide +kernel)
theorem m_380 : (Jvm.Cond.methodLink "TupleMethods" (231 : Nat) ({ cls := "TupleMethods", name := "comesAhead", desc := "(III)Z" } : Jvm.MethodName)) ∈ TT := TT_in (List.mem_of_getElem? (i := 380) (by decide +kernel)) (by decide +kernel)
theorem m_382 : (Jvm.Cond.instanceMethod ({ cls := "TupleMethods", name := "comesAhead", desc := "(III)Z" } : Jvm.MethodName)) ∈ TT := TT_in (List.mem_of_getElem? (i := 382) (by decide +kernel)) (by decide +kernel)
theorem kw_X2_231 : Cw 0 RX2 231 yX2_comesAhead cX2_comesAhead 6 (some .boolean) 3 := ⟨⟨m_380, m_382, m_16⟩, m_62, m_383, by decide +kernel, by decide⟩
theorem m_387 : (Jvm.Cond.code ({ cls := "TupleMethods$Classes", name := "callAfter", desc := "(I)I" } : Jvm.MethodName) prog_2_method_5_code (2 : Nat) (Option.some Jvm.ClassFile.FieldType.int)) ∈ TT := TT_in (List.mem_of_getElem? (i := 387) (by decide +kernel)) (by decide +kernel)
theorem m_386 : (Jvm.Cond.selects "TupleMethods$Classes" ({ cls := "TupleMethods$Classes", name := "callAfter", desc := "(I)I" } : Jvm.MethodName) ({ cls := "TupleMethods$Classes", name := "callAfter", desc := "(I)I" } : Jvm.MethodName)) ∈ TT := TT_in (List.mem_of_getElem? (i := 386) (by decide +kernel)) (by decide +kernel)
theorem m_384 : (Jvm.Cond.methodLink "TupleMethods" (209 : Nat) ({ cls := "TupleMethods$Classes", name := "callAfter", desc := "(I)I" } : Jvm.MethodName)) ∈ TT := TT_in (List.mem_of_getElem? (i := 384) (by decide +kernel)) (by decide +kernel)
theorem m_385 : (Jvm.Cond.instanceMethod ({ cls := "TupleMethods$Classes", name := "callAfter", desc := "(I)I" } : Jvm.MethodName)) ∈ TT := TT_in (List.mem_of_getElem? (i := 385) (by decide +kernel)) (by decide +kernel)
theorem kw_X2_209 : Cw 0 RX2 209 yX0_callAfter cX0_callAfter 2 (some .int) 1 := ⟨⟨m_384, m_385, m_386⟩, m_63, m_387, by decide +kernel, by decide⟩
theorem kw_X0_47 : Cw 2 RX0 47 yX2_classAt cX2_classAt 2 (some .int) 2 := ⟨⟨⟨"TupleMethods", by decide +kernel⟩, m_251⟩, m_62, m_252, by decide +kernel, by decide⟩
theorem m_392 : (Jvm.Cond.code ({ cls := "TupleMethods", name := "ambiguousCalls", desc := "(LTupleMethods$Function;)I" } : Jvm.MethodName) prog_1_method_40_code (6 : Nat) (Option.some Jvm.ClassFile.FieldType.int)) ∈ TT := TT_in (List.mem_of_getElem? (i := 392) (by decide +kernel)) (by decide +kernel)
theorem m_17 : (Jvm.Cond.selects "TupleMethods" ({ cls := "TupleMethods", name := "ambiguousCalls", desc := "(LTupleMethods$Function;)I" } : Jvm.MethodName) ({ cls := "TupleMethods", name := "ambiguousCalls", desc := "(LTupleMethods$Function;)I" } : Jvm.MethodName)) ∈ TT := TT_in (List.mem_of_getElem? (i := 17) (by decide +kernel)) (by decide +kernel)
theorem m_389 : (Jvm.Cond.methodLink "TupleMethods" (154 : Nat) ({ cls := "TupleMethods", name := "ambiguousCalls", desc := "(LTupleMethods$Function;)I" } : Jvm.MethodName)) ∈ TT := TT_in (List.mem_of_getElem? (i := 389) (by decide +kernel)) (by decide +kernel)
theorem m_391 : (Jvm.Cond.instanceMethod ({ cls := "TupleMethods", name := "ambiguousCalls", desc := "(LTupleMethods$Function;)I" } : Jvm.MethodName)) ∈ TT := TT_in (List.mem_of_getElem? (i := 391) (by decide +kernel)) (by decide +kernel)
theorem kw_X2_154 : Cw 0 RX2 154 yX2_ambiguousCalls cX2_ambiguousCalls 6 (some .int) 1 := ⟨⟨m_389, m_391, m_17⟩, m_62, m_392, by decide +kernel, by decide⟩
theorem m_396 : (Jvm.Cond.code ({ cls := "TupleMethods", name := "greatestMarked", desc := "(LTupleMethods$Function;ZI)I" } : Jvm.MethodName) prog_1_method_42_code (10 : Nat) (Option.some Jvm.ClassFile.FieldType.int)) ∈ TT := TT_in (List.mem_of_getElem? (i := 396) (by decide +kernel)) (by decide +kernel)
theorem m_18 : (Jvm.Cond.selects "TupleMethods" ({ cls := "TupleMethods", name := "greatestMarked", desc := "(LTupleMethods$Function;ZI)I" } : Jvm.MethodName) ({ cls := "TupleMethods", name := "greatestMarked", desc := "(LTupleMethods$Function;ZI)I" } : Jvm.MethodName)) ∈ TT := TT_in (List.mem_of_getElem? (i := 18) (by decide +kernel)) (by decide +kernel)
theorem m_393 : (Jvm.Cond.methodLink "TupleMethods" (157 : Nat) ({ cls := "TupleMethods", name := "greatestMarked", desc := "(LTupleMethods$Function;ZI)I" } : Jvm.MethodName)) ∈ TT := TT_in (List.mem_of_getElem? (i := 393) (by decide +kernel)) (by decide +kernel)
theorem m_395 : (Jvm.Cond.instanceMethod ({ cls := "TupleMethods", name := "greatestMarked", desc := "(LTupleMethods$Function;ZI)I" } : Jvm.MethodName)) ∈ TT := TT_in (List.mem_of_getElem? (i := 395) (by decide +kernel)) (by decide +kernel)
theorem kw_X2_157 : Cw 0 RX2 157 yX2_greatestMarked cX2_greatestMarked 10 (some .int) 3 := ⟨⟨m_393, m_395, m_18⟩, m_62, m_396, by decide +kernel, by decide⟩
theorem m_400 : (Jvm.Cond.code ({ cls := "TupleMethods", name := "isBelowCovered", desc := "(I)Z" } : Jvm.MethodName) prog_1_method_43_code (6 : Nat) (Option.some Jvm.ClassFile.FieldType.boolean)) ∈ TT := TT_in (List.mem_of_getElem? (i := 400) (by decide +kernel)) (by decide +kernel)
theorem m_19 : (Jvm.Cond.selects "TupleMethods" ({ cls := "TupleMethods", name := "isBelowCovered", desc := "(I)Z" } : Jvm.MethodName) ({ cls := "TupleMethods", name := "isBelowCovered", desc := "(I)Z" } : Jvm.MethodName)) ∈ TT := TT_in (List.mem_of_getElem? (i := 19) (by decide +kernel)) (by decide +kernel)
theorem m_397 : (Jvm.Cond.methodLink "TupleMethods" (237 : Nat) ({ cls := "TupleMethods", name := "isBelowCovered", desc := "(I)Z" } : Jvm.MethodName)) ∈ TT := TT_in (List.mem_of_getElem? (i := 397) (by decide +kernel)) (by decide +kernel)
theorem m_399 : (Jvm.Cond.instanceMethod ({ cls := "TupleMethods", name := "isBelowCovered", desc := "(I)Z" } : Jvm.MethodName)) ∈ TT := TT_in (List.mem_of_getElem? (i := 399) (by decide +kernel)) (by decide +kernel)
theorem kw_X2_237 : Cw 0 RX2 237 yX2_isBelowCovered cX2_isBelowCovered 6 (some .boolean) 1 := ⟨⟨m_397, m_399, m_19⟩, m_62, m_400, by decide +kernel, by decide⟩
theorem m_404 : (Jvm.Cond.code ({ cls := "TupleMethods", name := "tableSize", desc := "(I)I" } : Jvm.MethodName) prog_1_method_44_code (7 : Nat) (Option.some Jvm.ClassFile.FieldType.int)) ∈ TT := TT_in (List.mem_of_getElem? (i := 404) (by decide +kernel)) (by decide +kernel)
theorem m_20 : (Jvm.Cond.selects "TupleMethods" ({ cls := "TupleMethods", name := "tableSize", desc := "(I)I" } : Jvm.MethodName) ({ cls := "TupleMethods", name := "tableSize", desc := "(I)I" } : Jvm.MethodName)) ∈ TT := TT_in (List.mem_of_getElem? (i := 20) (by decide +kernel)) (by decide +kernel)
theorem m_401 : (Jvm.Cond.methodLink "TupleMethods" (161 : Nat) ({ cls := "TupleMethods", name := "tableSize", desc := "(I)I" } : Jvm.MethodName)) ∈ TT := TT_in (List.mem_of_getElem? (i := 401) (by decide +kernel)) (by decide +kernel)
theorem m_403 : (Jvm.Cond.instanceMethod ({ cls := "TupleMethods", name := "tableSize", desc := "(I)I" } : Jvm.MethodName)) ∈ TT := TT_in (List.mem_of_getElem? (i := 403) (by decide +kernel)) (by decide +kernel)
theorem kw_X2_161 : Cw 0 RX2 161 yX2_tableSize cX2_tableSize 7 (some .int) 1 := ⟨⟨m_401, m_403, m_20⟩, m_62, m_404, by decide +kernel, by decide⟩
theorem m_408 : (Jvm.Cond.code ({ cls := "TupleMethods", name := "leastAlike", desc := "(LTupleMethods$Function;II)I" } : Jvm.MethodName) prog_1_method_45_code (5 : Nat) (Option.some Jvm.ClassFile.FieldType.int)) ∈ TT := TT_in (List.mem_of_getElem? (i := 408) (by decide +kernel)) (by decide +kernel)
theorem m_21 : (Jvm.Cond.selects "TupleMethods" ({ cls := "TupleMethods", name := "leastAlike", desc := "(LTupleMethods$Function;II)I" } : Jvm.MethodName) ({ cls := "TupleMethods", name := "leastAlike", desc := "(LTupleMethods$Function;II)I" } : Jvm.MethodName)) ∈ TT := TT_in (List.mem_of_getElem? (i := 21) (by decide +kernel)) (by decide +kernel)
theorem m_405 : (Jvm.Cond.methodLink "TupleMethods" (215 : Nat) ({ cls := "TupleMethods", name := "leastAlike", desc := "(LTupleMethods$Function;II)I" } : Jvm.MethodName)) ∈ TT := TT_in (List.mem_of_getElem? (i := 405) (by decide +kernel)) (by decide +kernel)
theorem m_407 : (Jvm.Cond.instanceMethod ({ cls := "TupleMethods", name := "leastAlike", desc := "(LTupleMethods$Function;II)I" } : Jvm.MethodName)) ∈ TT := TT_in (List.mem_of_getElem? (i := 407) (by decide +kernel)) (by decide +kernel)
theorem kw_X2_215 : Cw 0 RX2 215 yX2_leastAlike cX2_leastAlike 5 (some .int) 3 := ⟨⟨m_405, m_407, m_21⟩, m_62, m_408, by decide +kernel, by decide⟩
theorem m_412 : (Jvm.Cond.code ({ cls := "TupleMethods", name := "areAlike", desc := "(LTupleMethods$Function;III)Z" } : Jvm.MethodName) prog_1_method_46_code (12 : Nat) (Option.some Jvm.ClassFile.FieldType.boolean)) ∈ TT := TT_in (List.mem_of_getElem? (i := 412) (by decide +kernel)) (by decide +kernel)
theorem m_22 : (Jvm.Cond.selects "TupleMethods" ({ cls := "TupleMethods", name := "areAlike", desc := "(LTupleMethods$Function;III)Z" } : Jvm.MethodName) ({ cls := "TupleMethods", name := "areAlike", desc := "(LTupleMethods$Function;III)Z" } : Jvm.MethodName)) ∈ TT := TT_in (List.mem_of_getElem? (i := 22) (by decide +kernel)) (by decide +kernel)
theorem m_409 : (Jvm.Cond.methodLink "TupleMethods" (246 : Nat) ({ cls := "TupleMethods", name := "areAlike", desc := "(LTupleMethods$Function;III)Z" } : Jvm.MethodName)) ∈ TT := TT_in (List.mem_of_getElem? (i := 409) (by decide +kernel)) (by decide +kernel)
theorem m_411 : (Jvm.Cond.instanceMethod ({ cls := "TupleMethods", name := "areAlike", desc := "(LTupleMethods$Function;III)Z" } : Jvm.MethodName)) ∈ TT := TT_in (List.mem_of_getElem? (i := 411) (by decide +kernel)) (by decide +kernel)
theorem kw_X2_246 : Cw 0 RX2 246 yX2_areAlike cX2_areAlike 12 (some .boolean) 4 := ⟨⟨m_409, m_411, m_22⟩, m_62, m_412, by decide +kernel, by decide⟩
theorem m_416 : (Jvm.Cond.code ({ cls := "TupleMethods", name := "idleMethods", desc := "(I)I" } : Jvm.MethodName) prog_1_method_41_code (7 : Nat) (Option.some Jvm.ClassFile.FieldType.int)) ∈ TT := TT_in (List.mem_of_getElem? (i := 416) (by decide +kernel)) (by decide +kernel)
theorem m_23 : (Jvm.Cond.selects "TupleMethods" ({ cls := "TupleMethods", name := "idleMethods", desc := "(I)I" } : Jvm.MethodName) ({ cls := "TupleMethods", name := "idleMethods", desc := "(I)I" } : Jvm.MethodName)) ∈ TT := TT_in (List.mem_of_getElem? (i := 23) (by decide +kernel)) (by decide +kernel)
theorem m_413 : (Jvm.Cond.methodLink "TupleMethods" (164 : Nat) ({ cls := "TupleMethods", name := "idleMethods", desc := "(I)I" } : Jvm.MethodName)) ∈ TT := TT_in (List.mem_of_getElem? (i := 413) (by decide +kernel)) (by decide +kernel)
theorem m_415 : (Jvm.Cond.instanceMethod ({ cls := "TupleMethods", name := "idleMethods", desc := "(I)I" } : Jvm.MethodName)) ∈ TT := TT_in (List.mem_of_getElem? (i := 415) (by decide +kernel)) (by decide +kernel)
theorem kw_X2_164 : Cw 0 RX2 164 yX2_idleMethods cX2_idleMethods 7 (some .int) 1 := ⟨⟨m_413, m_415, m_23⟩, m_62, m_416, by decide +kernel, by decide⟩
theorem m_420 : (Jvm.Cond.code ({ cls := "TupleMethods", name := "call", desc := "(II)I" } : Jvm.MethodName) prog_1_method_13_code (4 : Nat) (Option.some Jvm.ClassFile.FieldType.int)) ∈ TT := TT_in (List.mem_of_getElem? (i := 420) (by decide +kernel)) (by decide +kernel)
theorem m_419 : (Jvm.Cond.selects "TupleMethods" ({ cls := "TupleMethods", name := "call", desc := "(II)I" } : Jvm.MethodName) ({ cls := "TupleMethods", name := "call", desc := "(II)I" } : Jvm.MethodName)) ∈ TT := TT_in (List.mem_of_getElem? (i := 419) (by decide +kernel)) (by decide +kernel)
theorem m_417 : (Jvm.Cond.methodLink "TupleMethodsLaw" (76 : Nat) ({ cls := "TupleMethods", name := "call", desc := "(II)I" } : Jvm.MethodName)) ∈ TT := TT_in (List.mem_of_getElem? (i := 417) (by decide +kernel)) (by decide +kernel)
theorem m_418 : (Jvm.Cond.instanceMethod ({ cls := "TupleMethods", name := "call", desc := "(II)I" } : Jvm.MethodName)) ∈ TT := TT_in (List.mem_of_getElem? (i := 418) (by decide +kernel)) (by decide +kernel)
theorem kw_L_76 : Cw 0 RL 76 yX2_call cX2_call 4 (some .int) 2 := ⟨⟨m_417, m_418, m_419⟩, m_62, m_420, by decide +kernel, by decide⟩
theorem m_424 : (Jvm.Cond.code ({ cls := "TupleMethods$Function", name := "ask", desc := "(I)Z" } : Jvm.MethodName) prog_3_method_13_code (3 : Nat) (Option.some Jvm.ClassFile.FieldType.boolean)) ∈ TT := TT_in (List.mem_of_getElem? (i := 424) (by decide +kernel)) (by decide +kernel)
theorem m_423 : (Jvm.Cond.selects "TupleMethods$Function" ({ cls := "TupleMethods$Function", name := "ask", desc := "(I)Z" } : Jvm.MethodName) ({ cls := "TupleMethods$Function", name := "ask", desc := "(I)Z" } : Jvm.MethodName)) ∈ TT := TT_in (List.mem_of_getElem? (i := 423) (by decide +kernel)) (by decide +kernel)
theorem m_421 : (Jvm.Cond.methodLink "TupleMethods" (183 : Nat) ({ cls := "TupleMethods$Function", name := "ask", desc := "(I)Z" } : Jvm.MethodName)) ∈ TT := TT_in (List.mem_of_getElem? (i := 421) (by decide +kernel)) (by decide +kernel)
theorem m_422 : (Jvm.Cond.instanceMethod ({ cls := "TupleMethods$Function", name := "ask", desc := "(I)Z" } : Jvm.MethodName)) ∈ TT := TT_in (List.mem_of_getElem? (i := 422) (by decide +kernel)) (by decide +kernel)
theorem kw_X2_183 : Cw 0 RX2 183 yX1_ask cX1_ask 3 (some .boolean) 1 := ⟨⟨m_421, m_422, m_423⟩, m_64, m_424, by decide +kernel, by decide⟩
theorem m_428 : (Jvm.Cond.code ({ cls := "TupleMethods$Function", name := "removeKept", desc := "(I)V" } : Jvm.MethodName) prog_3_method_14_code (3 : Nat) (Option.none : Option Jvm.ClassFile.FieldType)) ∈ TT := TT_in (List.mem_of_getElem? (i := 428) (by decide +kernel)) (by decide +kernel)
theorem m_24 : (Jvm.Cond.selects "TupleMethods$Function" ({ cls := "TupleMethods$Function", name := "removeKept", desc := "(I)V" } : Jvm.MethodName) ({ cls := "TupleMethods$Function", name := "removeKept", desc := "(I)V" } : Jvm.MethodName)) ∈ TT := TT_in (List.mem_of_getElem? (i := 24) (by decide +kernel)) (by decide +kernel)
theorem m_425 : (Jvm.Cond.methodLink "TupleMethods$Function" (71 : Nat) ({ cls := "TupleMethods$Function", name := "removeKept", desc := "(I)V" } : Jvm.MethodName)) ∈ TT := TT_in (List.mem_of_getElem? (i := 425) (by decide +kernel)) (by decide +kernel)
theorem m_427 : (Jvm.Cond.instanceMethod ({ cls := "TupleMethods$Function", name := "removeKept", desc := "(I)V" } : Jvm.MethodName)) ∈ TT := TT_in (List.mem_of_getElem? (i := 427) (by decide +kernel)) (by decide +kernel)
theorem kw_X1_71 : Cw 0 RX1 71 yX1_removeKept cX1_removeKept 3 none 1 := ⟨⟨m_425, m_427, m_24⟩, m_64, m_428, by decide +kernel, by decide⟩
theorem m_432 : (Jvm.Cond.code ({ cls := "TupleMethods$Function", name := "addKept", desc := "(I)V" } : Jvm.MethodName) prog_3_method_15_code (2 : Nat) (Option.none : Option Jvm.ClassFile.FieldType)) ∈ TT := TT_in (List.mem_of_getElem? (i := 432) (by decide +kernel)) (by decide +kernel)
theorem m_25 : (Jvm.Cond.selects "TupleMethods$Function" ({ cls := "TupleMethods$Function", name := "addKept", desc := "(I)V" } : Jvm.MethodName) ({ cls := "TupleMethods$Function", name := "addKept", desc := "(I)V" } : Jvm.MethodName)) ∈ TT := TT_in (List.mem_of_getElem? (i := 25) (by decide +kernel)) (by decide +kernel)
theorem m_429 : (Jvm.Cond.methodLink "TupleMethods$Function" (75 : Nat) ({ cls := "TupleMethods$Function", name := "addKept", desc := "(I)V" } : Jvm.MethodName)) ∈ TT := TT_in (List.mem_of_getElem? (i := 429) (by decide +kernel)) (by decide +kernel)
theorem m_431 : (Jvm.Cond.instanceMethod ({ cls := "TupleMethods$Function", name := "addKept", desc := "(I)V" } : Jvm.MethodName)) ∈ TT := TT_in (List.mem_of_getElem? (i := 431) (by decide +kernel)) (by decide +kernel)
theorem kw_X1_75 : Cw 0 RX1 75 yX1_addKept cX1_addKept 2 none 1 := ⟨⟨m_429, m_431, m_25⟩, m_64, m_432, by decide +kernel, by decide⟩
theorem m_436 : (Jvm.Cond.code ({ cls := "TupleMethods", name := "answer", desc := "(II)I" } : Jvm.MethodName) prog_1_method_14_code (4 : Nat) (Option.some Jvm.ClassFile.FieldType.int)) ∈ TT := TT_in (List.mem_of_getElem? (i := 436) (by decide +kernel)) (by decide +kernel)
theorem m_435 : (Jvm.Cond.selects "TupleMethods" ({ cls := "TupleMethods", name := "answer", desc := "(II)I" } : Jvm.MethodName) ({ cls := "TupleMethods", name := "answer", desc := "(II)I" } : Jvm.MethodName)) ∈ TT := TT_in (List.mem_of_getElem? (i := 435) (by decide +kernel)) (by decide +kernel)
theorem m_433 : (Jvm.Cond.methodLink "TupleMethodsLaw" (80 : Nat) ({ cls := "TupleMethods", name := "answer", desc := "(II)I" } : Jvm.MethodName)) ∈ TT := TT_in (List.mem_of_getElem? (i := 433) (by decide +kernel)) (by decide +kernel)
theorem m_434 : (Jvm.Cond.instanceMethod ({ cls := "TupleMethods", name := "answer", desc := "(II)I" } : Jvm.MethodName)) ∈ TT := TT_in (List.mem_of_getElem? (i := 434) (by decide +kernel)) (by decide +kernel)
theorem kw_L_80 : Cw 0 RL 80 yX2_answer cX2_answer 4 (some .int) 2 := ⟨⟨m_433, m_434, m_435⟩, m_62, m_436, by decide +kernel, by decide⟩
theorem m_440 : (Jvm.Cond.code ({ cls := "TupleMethods", name := "applicable", desc := "(II)I" } : Jvm.MethodName) prog_1_method_15_code (3 : Nat) (Option.some Jvm.ClassFile.FieldType.int)) ∈ TT := TT_in (List.mem_of_getElem? (i := 440) (by decide +kernel)) (by decide +kernel)
theorem m_439 : (Jvm.Cond.selects "TupleMethods" ({ cls := "TupleMethods", name := "applicable", desc := "(II)I" } : Jvm.MethodName) ({ cls := "TupleMethods", name := "applicable", desc := "(II)I" } : Jvm.MethodName)) ∈ TT := TT_in (List.mem_of_getElem? (i := 439) (by decide +kernel)) (by decide +kernel)
theorem m_437 : (Jvm.Cond.methodLink "TupleMethodsLaw" (84 : Nat) ({ cls := "TupleMethods", name := "applicable", desc := "(II)I" } : Jvm.MethodName)) ∈ TT := TT_in (List.mem_of_getElem? (i := 437) (by decide +kernel)) (by decide +kernel)
theorem m_438 : (Jvm.Cond.instanceMethod ({ cls := "TupleMethods", name := "applicable", desc := "(II)I" } : Jvm.MethodName)) ∈ TT := TT_in (List.mem_of_getElem? (i := 438) (by decide +kernel)) (by decide +kernel)
theorem kw_L_84 : Cw 0 RL 84 yX2_applicable cX2_applicable 3 (some .int) 2 := ⟨⟨m_437, m_438, m_439⟩, m_62, m_440, by decide +kernel, by decide⟩
theorem m_444 : (Jvm.Cond.code ({ cls := "TupleMethods", name := "chain", desc := "(III)I" } : Jvm.MethodName) prog_1_method_16_code (4 : Nat) (Option.some Jvm.ClassFile.FieldType.int)) ∈ TT := TT_in (List.mem_of_getElem? (i := 444) (by decide +kernel)) (by decide +kernel)
theorem m_443 : (Jvm.Cond.selects "TupleMethods" ({ cls := "TupleMethods", name := "chain", desc := "(III)I" } : Jvm.MethodName) ({ cls := "TupleMethods", name := "chain", desc := "(III)I" } : Jvm.MethodName)) ∈ TT := TT_in (List.mem_of_getElem? (i := 443) (by decide +kernel)) (by decide +kernel)
theorem m_441 : (Jvm.Cond.methodLink "TupleMethodsLaw" (88 : Nat) ({ cls := "TupleMethods", name := "chain", desc := "(III)I" } : Jvm.MethodName)) ∈ TT := TT_in (List.mem_of_getElem? (i := 441) (by decide +kernel)) (by decide +kernel)
theorem m_442 : (Jvm.Cond.instanceMethod ({ cls := "TupleMethods", name := "chain", desc := "(III)I" } : Jvm.MethodName)) ∈ TT := TT_in (List.mem_of_getElem? (i := 442) (by decide +kernel)) (by decide +kernel)
theorem kw_L_88 : Cw 0 RL 88 yX2_chain cX2_chain 4 (some .int) 3 := ⟨⟨m_441, m_442, m_443⟩, m_62, m_444, by decide +kernel, by decide⟩
theorem m_448 : (Jvm.Cond.code ({ cls := "TupleMethods", name := "layChain", desc := "(LTupleMethods$Function;I)I" } : Jvm.MethodName) prog_1_method_35_code (6 : Nat) (Option.some Jvm.ClassFile.FieldType.int)) ∈ TT := TT_in (List.mem_of_getElem? (i := 448) (by decide +kernel)) (by decide +kernel)
theorem m_26 : (Jvm.Cond.selects "TupleMethods" ({ cls := "TupleMethods", name := "layChain", desc := "(LTupleMethods$Function;I)I" } : Jvm.MethodName) ({ cls := "TupleMethods", name := "layChain", desc := "(LTupleMethods$Function;I)I" } : Jvm.MethodName)) ∈ TT := TT_in (List.mem_of_getElem? (i := 26) (by decide +kernel)) (by decide +kernel)
theorem m_445 : (Jvm.Cond.methodLink "TupleMethods" (193 : Nat) ({ cls := "TupleMethods", name := "layChain", desc := "(LTupleMethods$Function;I)I" } : Jvm.MethodName)) ∈ TT := TT_in (List.mem_of_getElem? (i := 445) (by decide +kernel)) (by decide +kernel)
theorem m_447 : (Jvm.Cond.instanceMethod ({ cls := "TupleMethods", name := "layChain", desc := "(LTupleMethods$Function;I)I" } : Jvm.MethodName)) ∈ TT := TT_in (List.mem_of_getElem? (i := 447) (by decide +kernel)) (by decide +kernel)
theorem kw_X2_193 : Cw 0 RX2 193 yX2_layChain cX2_layChain 6 (some .int) 2 := ⟨⟨m_445, m_447, m_26⟩, m_62, m_448, by decide +kernel, by decide⟩
theorem m_452 : (Jvm.Cond.code ({ cls := "TupleMethods", name := "broken", desc := "(II)I" } : Jvm.MethodName) prog_1_method_17_code (3 : Nat) (Option.some Jvm.ClassFile.FieldType.int)) ∈ TT := TT_in (List.mem_of_getElem? (i := 452) (by decide +kernel)) (by decide +kernel)
theorem m_451 : (Jvm.Cond.selects "TupleMethods" ({ cls := "TupleMethods", name := "broken", desc := "(II)I" } : Jvm.MethodName) ({ cls := "TupleMethods", name := "broken", desc := "(II)I" } : Jvm.MethodName)) ∈ TT := TT_in (List.mem_of_getElem? (i := 451) (by decide +kernel)) (by decide +kernel)
theorem m_449 : (Jvm.Cond.methodLink "TupleMethodsLaw" (92 : Nat) ({ cls := "TupleMethods", name := "broken", desc := "(II)I" } : Jvm.MethodName)) ∈ TT := TT_in (List.mem_of_getElem? (i := 449) (by decide +kernel)) (by decide +kernel)
theorem m_450 : (Jvm.Cond.instanceMethod ({ cls := "TupleMethods", name := "broken", desc := "(II)I" } : Jvm.MethodName)) ∈ TT := TT_in (List.mem_of_getElem? (i := 450) (by decide +kernel)) (by decide +kernel)
theorem kw_L_92 : Cw 0 RL 92 yX2_broken cX2_broken 3 (some .int) 2 := ⟨⟨m_449, m_450, m_451⟩, m_62, m_452, by decide +kernel, by decide⟩
theorem m_456 : (Jvm.Cond.code ({ cls := "TupleMethods", name := "kept", desc := "(II)I" } : Jvm.MethodName) prog_1_method_19_code (3 : Nat) (Option.some Jvm.ClassFile.FieldType.int)) ∈ TT := TT_in (List.mem_of_getElem? (i := 456) (by decide +kernel)) (by decide +kernel)
theorem m_455 : (Jvm.Cond.selects "TupleMethods" ({ cls := "TupleMethods", name := "kept", desc := "(II)I" } : Jvm.MethodName) ({ cls := "TupleMethods", name := "kept", desc := "(II)I" } : Jvm.MethodName)) ∈ TT := TT_in (List.mem_of_getElem? (i := 455) (by decide +kernel)) (by decide +kernel)
theorem m_453 : (Jvm.Cond.methodLink "TupleMethodsLaw" (100 : Nat) ({ cls := "TupleMethods", name := "kept", desc := "(II)I" } : Jvm.MethodName)) ∈ TT := TT_in (List.mem_of_getElem? (i := 453) (by decide +kernel)) (by decide +kernel)
theorem m_454 : (Jvm.Cond.instanceMethod ({ cls := "TupleMethods", name := "kept", desc := "(II)I" } : Jvm.MethodName)) ∈ TT := TT_in (List.mem_of_getElem? (i := 454) (by decide +kernel)) (by decide +kernel)
theorem kw_L_100 : Cw 0 RL 100 yX2_kept cX2_kept 3 (some .int) 2 := ⟨⟨m_453, m_454, m_455⟩, m_62, m_456, by decide +kernel, by decide⟩
theorem m_460 : (Jvm.Cond.code ({ cls := "TupleMethods", name := "clash", desc := "(II)I" } : Jvm.MethodName) prog_1_method_20_code (3 : Nat) (Option.some Jvm.ClassFile.FieldType.int)) ∈ TT := TT_in (List.mem_of_getElem? (i := 460) (by decide +kernel)) (by decide +kernel)
theorem m_459 : (Jvm.Cond.selects "TupleMethods" ({ cls := "TupleMethods", name := "clash", desc := "(II)I" } : Jvm.MethodName) ({ cls := "TupleMethods", name := "clash", desc := "(II)I" } : Jvm.MethodName)) ∈ TT := TT_in (List.mem_of_getElem? (i := 459) (by decide +kernel)) (by decide +kernel)
theorem m_457 : (Jvm.Cond.methodLink "TupleMethodsLaw" (104 : Nat) ({ cls := "TupleMethods", name := "clash", desc := "(II)I" } : Jvm.MethodName)) ∈ TT := TT_in (List.mem_of_getElem? (i := 457) (by decide +kernel)) (by decide +kernel)
theorem m_458 : (Jvm.Cond.instanceMethod ({ cls := "TupleMethods", name := "clash", desc := "(II)I" } : Jvm.MethodName)) ∈ TT := TT_in (List.mem_of_getElem? (i := 458) (by decide +kernel)) (by decide +kernel)
theorem kw_L_104 : Cw 0 RL 104 yX2_clash cX2_clash 3 (some .int) 2 := ⟨⟨m_457, m_458, m_459⟩, m_62, m_460, by decide +kernel, by decide⟩
theorem m_464 : (Jvm.Cond.code ({ cls := "TupleMethods", name := "gap", desc := "(II)I" } : Jvm.MethodName) prog_1_method_21_code (3 : Nat) (Option.some Jvm.ClassFile.FieldType.int)) ∈ TT := TT_in (List.mem_of_getElem? (i := 464) (by decide +kernel)) (by decide +kernel)
theorem m_463 : (Jvm.Cond.selects "TupleMethods" ({ cls := "TupleMethods", name := "gap", desc := "(II)I" } : Jvm.MethodName) ({ cls := "TupleMethods", name := "gap", desc := "(II)I" } : Jvm.MethodName)) ∈ TT := TT_in (List.mem_of_getElem? (i := 463) (by decide +kernel)) (by decide +kernel)
theorem m_461 : (Jvm.Cond.methodLink "TupleMethodsLaw" (108 : Nat) ({ cls := "TupleMethods", name := "gap", desc := "(II)I" } : Jvm.MethodName)) ∈ TT := TT_in (List.mem_of_getElem? (i := 461) (by decide +kernel)) (by decide +kernel)
theorem m_462 : (Jvm.Cond.instanceMethod ({ cls := "TupleMethods", name := "gap", desc := "(II)I" } : Jvm.MethodName)) ∈ TT := TT_in (List.mem_of_getElem? (i := 462) (by decide +kernel)) (by decide +kernel)
theorem kw_L_108 : Cw 0 RL 108 yX2_gap cX2_gap 3 (some .int) 2 := ⟨⟨m_461, m_462, m_463⟩, m_62, m_464, by decide +kernel, by decide⟩
theorem m_468 : (Jvm.Cond.code ({ cls := "TupleMethods", name := "fight", desc := "(III)I" } : Jvm.MethodName) prog_1_method_22_code (11 : Nat) (Option.some Jvm.ClassFile.FieldType.int)) ∈ TT := TT_in (List.mem_of_getElem? (i := 468) (by decide +kernel)) (by decide +kernel)
theorem m_467 : (Jvm.Cond.selects "TupleMethods" ({ cls := "TupleMethods", name := "fight", desc := "(III)I" } : Jvm.MethodName) ({ cls := "TupleMethods", name := "fight", desc := "(III)I" } : Jvm.MethodName)) ∈ TT := TT_in (List.mem_of_getElem? (i := 467) (by decide +kernel)) (by decide +kernel)
theorem m_465 : (Jvm.Cond.methodLink "TupleMethodsLaw" (112 : Nat) ({ cls := "TupleMethods", name := "fight", desc := "(III)I" } : Jvm.MethodName)) ∈ TT := TT_in (List.mem_of_getElem? (i := 465) (by decide +kernel)) (by decide +kernel)
theorem m_466 : (Jvm.Cond.instanceMethod ({ cls := "TupleMethods", name := "fight", desc := "(III)I" } : Jvm.MethodName)) ∈ TT := TT_in (List.mem_of_getElem? (i := 466) (by decide +kernel)) (by decide +kernel)
theorem kw_L_112 : Cw 0 RL 112 yX2_fight cX2_fight 11 (some .int) 3 := ⟨⟨m_465, m_466, m_467⟩, m_62, m_468, by decide +kernel, by decide⟩
theorem m_472 : (Jvm.Cond.code ({ cls := "TupleMethods$Function", name := "atMostAllOf", desc := "(I)I" } : Jvm.MethodName) prog_3_method_4_code (4 : Nat) (Option.some Jvm.ClassFile.FieldType.int)) ∈ TT := TT_in (List.mem_of_getElem? (i := 472) (by decide +kernel)) (by decide +kernel)
theorem m_471 : (Jvm.Cond.selects "TupleMethods$Function" ({ cls := "TupleMethods$Function", name := "atMostAllOf", desc := "(I)I" } : Jvm.MethodName) ({ cls := "TupleMethods$Function", name := "atMostAllOf", desc := "(I)I" } : Jvm.MethodName)) ∈ TT := TT_in (List.mem_of_getElem? (i := 471) (by decide +kernel)) (by decide +kernel)
theorem m_469 : (Jvm.Cond.methodLink "TupleMethods" (206 : Nat) ({ cls := "TupleMethods$Function", name := "atMostAllOf", desc := "(I)I" } : Jvm.MethodName)) ∈ TT := TT_in (List.mem_of_getElem? (i := 469) (by decide +kernel)) (by decide +kernel)
theorem m_470 : (Jvm.Cond.instanceMethod ({ cls := "TupleMethods$Function", name := "atMostAllOf", desc := "(I)I" } : Jvm.MethodName)) ∈ TT := TT_in (List.mem_of_getElem? (i := 470) (by decide +kernel)) (by decide +kernel)
theorem kw_X2_206 : Cw 0 RX2 206 yX1_atMostAllOf cX1_atMostAllOf 4 (some .int) 1 := ⟨⟨m_469, m_470, m_471⟩, m_64, m_472, by decide +kernel, by decide⟩
theorem m_476 : (Jvm.Cond.code ({ cls := "TupleMethods", name := "pole", desc := "(III)I" } : Jvm.MethodName) prog_1_method_23_code (4 : Nat) (Option.some Jvm.ClassFile.FieldType.int)) ∈ TT := TT_in (List.mem_of_getElem? (i := 476) (by decide +kernel)) (by decide +kernel)
theorem m_475 : (Jvm.Cond.selects "TupleMethods" ({ cls := "TupleMethods", name := "pole", desc := "(III)I" } : Jvm.MethodName) ({ cls := "TupleMethods", name := "pole", desc := "(III)I" } : Jvm.MethodName)) ∈ TT := TT_in (List.mem_of_getElem? (i := 475) (by decide +kernel)) (by decide +kernel)
theorem m_473 : (Jvm.Cond.methodLink "TupleMethodsLaw" (116 : Nat) ({ cls := "TupleMethods", name := "pole", desc := "(III)I" } : Jvm.MethodName)) ∈ TT := TT_in (List.mem_of_getElem? (i := 473) (by decide +kernel)) (by decide +kernel)
theorem m_474 : (Jvm.Cond.instanceMethod ({ cls := "TupleMethods", name := "pole", desc := "(III)I" } : Jvm.MethodName)) ∈ TT := TT_in (List.mem_of_getElem? (i := 474) (by decide +kernel)) (by decide +kernel)
theorem kw_L_116 : Cw 0 RL 116 yX2_pole cX2_pole 4 (some .int) 3 := ⟨⟨m_473, m_474, m_475⟩, m_62, m_476, by decide +kernel, by decide⟩
theorem m_480 : (Jvm.Cond.code ({ cls := "TupleMethods", name := "change", desc := "(II)I" } : Jvm.MethodName) prog_1_method_24_code (9 : Nat) (Option.some Jvm.ClassFile.FieldType.int)) ∈ TT := TT_in (List.mem_of_getElem? (i := 480) (by decide +kernel)) (by decide +kernel)
theorem m_479 : (Jvm.Cond.selects "TupleMethods" ({ cls := "TupleMethods", name := "change", desc := "(II)I" } : Jvm.MethodName) ({ cls := "TupleMethods", name := "change", desc := "(II)I" } : Jvm.MethodName)) ∈ TT := TT_in (List.mem_of_getElem? (i := 479) (by decide +kernel)) (by decide +kernel)
theorem m_477 : (Jvm.Cond.methodLink "TupleMethodsLaw" (120 : Nat) ({ cls := "TupleMethods", name := "change", desc := "(II)I" } : Jvm.MethodName)) ∈ TT := TT_in (List.mem_of_getElem? (i := 477) (by decide +kernel)) (by decide +kernel)
theorem m_478 : (Jvm.Cond.instanceMethod ({ cls := "TupleMethods", name := "change", desc := "(II)I" } : Jvm.MethodName)) ∈ TT := TT_in (List.mem_of_getElem? (i := 478) (by decide +kernel)) (by decide +kernel)
theorem kw_L_120 : Cw 0 RL 120 yX2_change cX2_change 9 (some .int) 2 := ⟨⟨m_477, m_478, m_479⟩, m_62, m_480, by decide +kernel, by decide⟩
theorem m_484 : (Jvm.Cond.code ({ cls := "TupleMethods$Function", name := "copyMethods", desc := "(LTupleMethods$Function;)V" } : Jvm.MethodName) prog_3_method_11_code (2 : Nat) (Option.none : Option Jvm.ClassFile.FieldType)) ∈ TT := TT_in (List.mem_of_getElem? (i := 484) (by decide +kernel)) (by decide +kernel)
theorem m_483 : (Jvm.Cond.selects "TupleMethods$Function" ({ cls := "TupleMethods$Function", name := "copyMethods", desc := "(LTupleMethods$Function;)V" } : Jvm.MethodName) ({ cls := "TupleMethods$Function", name := "copyMethods", desc := "(LTupleMethods$Function;)V" } : Jvm.MethodName)) ∈ TT := TT_in (List.mem_of_getElem? (i := 483) (by decide +kernel)) (by decide +kernel)
theorem m_481 : (Jvm.Cond.methodLink "TupleMethods" (218 : Nat) ({ cls := "TupleMethods$Function", name := "copyMethods", desc := "(LTupleMethods$Function;)V" } : Jvm.MethodName)) ∈ TT := TT_in (List.mem_of_getElem? (i := 481) (by decide +kernel)) (by decide +kernel)
theorem m_482 : (Jvm.Cond.instanceMethod ({ cls := "TupleMethods$Function", name := "copyMethods", desc := "(LTupleMethods$Function;)V" } : Jvm.MethodName)) ∈ TT := TT_in (List.mem_of_getElem? (i := 482) (by decide +kernel)) (by decide +kernel)
theorem kw_X2_218 : Cw 0 RX2 218 yX1_copyMethods cX1_copyMethods 2 none 1 := ⟨⟨m_481, m_482, m_483⟩, m_64, m_484, by decide +kernel, by decide⟩
theorem m_489 : (Jvm.Cond.code ({ cls := "TupleMethods", name := "settle", desc := "(I)I" } : Jvm.MethodName) prog_1_method_25_code (7 : Nat) (Option.some Jvm.ClassFile.FieldType.int)) ∈ TT := TT_in (List.mem_of_getElem? (i := 489) (by decide +kernel)) (by decide +kernel)
theorem m_488 : (Jvm.Cond.selects "TupleMethods" ({ cls := "TupleMethods", name := "settle", desc := "(I)I" } : Jvm.MethodName) ({ cls := "TupleMethods", name := "settle", desc := "(I)I" } : Jvm.MethodName)) ∈ TT := TT_in (List.mem_of_getElem? (i := 488) (by decide +kernel)) (by decide +kernel)
theorem m_486 : (Jvm.Cond.methodLink "TupleMethodsLaw" (124 : Nat) ({ cls := "TupleMethods", name := "settle", desc := "(I)I" } : Jvm.MethodName)) ∈ TT := TT_in (List.mem_of_getElem? (i := 486) (by decide +kernel)) (by decide +kernel)
theorem m_487 : (Jvm.Cond.instanceMethod ({ cls := "TupleMethods", name := "settle", desc := "(I)I" } : Jvm.MethodName)) ∈ TT := TT_in (List.mem_of_getElem? (i := 487) (by decide +kernel)) (by decide +kernel)
theorem kw_L_124 : Cw 0 RL 124 yX2_settle cX2_settle 7 (some .int) 1 := ⟨⟨m_486, m_487, m_488⟩, m_62, m_489, by decide +kernel, by decide⟩
theorem m_497 : (Jvm.Cond.code ({ cls := "TupleMethods", name := "at", desc := "(III)I" } : Jvm.MethodName) prog_1_method_12_code (5 : Nat) (Option.some Jvm.ClassFile.FieldType.int)) ∈ TT := TT_in (List.mem_of_getElem? (i := 497) (by decide +kernel)) (by decide +kernel)
theorem m_496 : (Jvm.Cond.selects "TupleMethods" ({ cls := "TupleMethods", name := "at", desc := "(III)I" } : Jvm.MethodName) ({ cls := "TupleMethods", name := "at", desc := "(III)I" } : Jvm.MethodName)) ∈ TT := TT_in (List.mem_of_getElem? (i := 496) (by decide +kernel)) (by decide +kernel)
theorem m_494 : (Jvm.Cond.methodLink "TupleMethodsLaw" (7 : Nat) ({ cls := "TupleMethods", name := "at", desc := "(III)I" } : Jvm.MethodName)) ∈ TT := TT_in (List.mem_of_getElem? (i := 494) (by decide +kernel)) (by decide +kernel)
theorem m_495 : (Jvm.Cond.instanceMethod ({ cls := "TupleMethods", name := "at", desc := "(III)I" } : Jvm.MethodName)) ∈ TT := TT_in (List.mem_of_getElem? (i := 495) (by decide +kernel)) (by decide +kernel)
theorem kw_L_7 : Cw 0 RL 7 yX2_at cX2_at 5 (some .int) 3 := ⟨⟨m_494, m_495, m_496⟩, m_62, m_497, by decide +kernel, by decide⟩
theorem m_567 : (Jvm.Cond.code ({ cls := "TupleMethods", name := "callsTaken", desc := "(LTupleMethods$Function;I)I" } : Jvm.MethodName) prog_1_method_39_code (7 : Nat) (Option.some Jvm.ClassFile.FieldType.int)) ∈ TT := TT_in (List.mem_of_getElem? (i := 567) (by decide +kernel)) (by decide +kernel)
theorem m_28 : (Jvm.Cond.selects "TupleMethods" ({ cls := "TupleMethods", name := "callsTaken", desc := "(LTupleMethods$Function;I)I" } : Jvm.MethodName) ({ cls := "TupleMethods", name := "callsTaken", desc := "(LTupleMethods$Function;I)I" } : Jvm.MethodName)) ∈ TT := TT_in (List.mem_of_getElem? (i := 28) (by decide +kernel)) (by decide +kernel)
theorem m_564 : (Jvm.Cond.methodLink "TupleMethods" (177 : Nat) ({ cls := "TupleMethods", name := "callsTaken", desc := "(LTupleMethods$Function;I)I" } : Jvm.MethodName)) ∈ TT := TT_in (List.mem_of_getElem? (i := 564) (by decide +kernel)) (by decide +kernel)
theorem m_566 : (Jvm.Cond.instanceMethod ({ cls := "TupleMethods", name := "callsTaken", desc := "(LTupleMethods$Function;I)I" } : Jvm.MethodName)) ∈ TT := TT_in (List.mem_of_getElem? (i := 566) (by decide +kernel)) (by decide +kernel)
theorem kw_X2_177 : Cw 0 RX2 177 yX2_callsTaken cX2_callsTaken 7 (some .int) 2 := ⟨⟨m_564, m_566, m_28⟩, m_62, m_567, by decide +kernel, by decide⟩
theorem m_575 : (Jvm.Cond.code ({ cls := "TupleMethods", name := "work", desc := "(II)I" } : Jvm.MethodName) prog_1_method_18_code (6 : Nat) (Option.some Jvm.ClassFile.FieldType.int)) ∈ TT := TT_in (List.mem_of_getElem? (i := 575) (by decide +kernel)) (by decide +kernel)
theorem m_574 : (Jvm.Cond.selects "TupleMethods" ({ cls := "TupleMethods", name := "work", desc := "(II)I" } : Jvm.MethodName) ({ cls := "TupleMethods", name := "work", desc := "(II)I" } : Jvm.MethodName)) ∈ TT := TT_in (List.mem_of_getElem? (i := 574) (by decide +kernel)) (by decide +kernel)
theorem m_572 : (Jvm.Cond.methodLink "TupleMethodsLaw" (15 : Nat) ({ cls := "TupleMethods", name := "work", desc := "(II)I" } : Jvm.MethodName)) ∈ TT := TT_in (List.mem_of_getElem? (i := 572) (by decide +kernel)) (by decide +kernel)
theorem m_573 : (Jvm.Cond.instanceMethod ({ cls := "TupleMethods", name := "work", desc := "(II)I" } : Jvm.MethodName)) ∈ TT := TT_in (List.mem_of_getElem? (i := 573) (by decide +kernel)) (by decide +kernel)
theorem kw_L_15 : Cw 0 RL 15 yX2_work cX2_work 6 (some .int) 2 := ⟨⟨m_572, m_573, m_574⟩, m_62, m_575, by decide +kernel, by decide⟩
theorem m_581 : (Jvm.Cond.code ({ cls := "TupleMethods$Function", name := "workOut", desc := "(II)I" } : Jvm.MethodName) prog_3_method_12_code (4 : Nat) (Option.some Jvm.ClassFile.FieldType.int)) ∈ TT := TT_in (List.mem_of_getElem? (i := 581) (by decide +kernel)) (by decide +kernel)
theorem m_580 : (Jvm.Cond.selects "TupleMethods$Function" ({ cls := "TupleMethods$Function", name := "workOut", desc := "(II)I" } : Jvm.MethodName) ({ cls := "TupleMethods$Function", name := "workOut", desc := "(II)I" } : Jvm.MethodName)) ∈ TT := TT_in (List.mem_of_getElem? (i := 580) (by decide +kernel)) (by decide +kernel)
theorem m_578 : (Jvm.Cond.methodLink "TupleMethods" (200 : Nat) ({ cls := "TupleMethods$Function", name := "workOut", desc := "(II)I" } : Jvm.MethodName)) ∈ TT := TT_in (List.mem_of_getElem? (i := 578) (by decide +kernel)) (by decide +kernel)
theorem m_579 : (Jvm.Cond.instanceMethod ({ cls := "TupleMethods$Function", name := "workOut", desc := "(II)I" } : Jvm.MethodName)) ∈ TT := TT_in (List.mem_of_getElem? (i := 579) (by decide +kernel)) (by decide +kernel)
theorem kw_X2_200 : Cw 0 RX2 200 yX1_workOut cX1_workOut 4 (some .int) 2 := ⟨⟨m_578, m_579, m_580⟩, m_64, m_581, by decide +kernel, by decide⟩
theorem m_584 : (Jvm.Cond.code ({ cls := "java/lang/Math", name := "max", desc := "(II)I" } : Jvm.MethodName) prog_9_method_65_code (2 : Nat) (Option.some Jvm.ClassFile.FieldType.int)) ∈ TT := TT_in (List.mem_of_getElem? (i := 584) (by decide +kernel)) (by decide +kernel)
theorem m_72 : (Jvm.Cond.initialized "java/lang/Math") ∈ TT := TT_in (List.mem_of_getElem? (i := 72) (by decide +kernel)) (by decide +kernel)
theorem m_583 : (Jvm.Cond.static ({ cls := "java/lang/Math", name := "max", desc := "(II)I" } : Jvm.MethodName)) ∈ TT := TT_in (List.mem_of_getElem? (i := 583) (by decide +kernel)) (by decide +kernel)
theorem m_582 : (Jvm.Cond.methodLink "TupleMethods$Function" (66 : Nat) ({ cls := "java/lang/Math", name := "max", desc := "(II)I" } : Jvm.MethodName)) ∈ TT := TT_in (List.mem_of_getElem? (i := 582) (by decide +kernel)) (by decide +kernel)
theorem kw_X1_66 : Cw 1 RX1 66 yJ9_max_7cf53 cJ9_max_7cf53 2 (some .int) 2 := ⟨⟨m_582, m_583⟩, m_72, m_584, by decide +kernel, by decide⟩
theorem m_673 : (Jvm.Cond.code ({ cls := "TupleMethodsModel", name := "thrown", desc := "()I" } : Jvm.MethodName) prog_5_method_2_code (1 : Nat) (Option.some Jvm.ClassFile.FieldType.int)) ∈ TT := TT_in (List.mem_of_getElem? (i := 673) (by decide +kernel)) (by decide +kernel)
theorem m_65 : (Jvm.Cond.initialized "TupleMethodsModel") ∈ TT := TT_in (List.mem_of_getElem? (i := 65) (by decide +kernel)) (by decide +kernel)
theorem m_672 : (Jvm.Cond.selects "TupleMethodsModel" ({ cls := "TupleMethodsModel", name := "thrown", desc := "()I" } : Jvm.MethodName) ({ cls := "TupleMethodsModel", name := "thrown", desc := "()I" } : Jvm.MethodName)) ∈ TT := TT_in (List.mem_of_getElem? (i := 672) (by decide +kernel)) (by decide +kernel)
theorem m_670 : (Jvm.Cond.methodLink "TupleMethodsLaw" (73 : Nat) ({ cls := "TupleMethodsModel", name := "thrown", desc := "()I" } : Jvm.MethodName)) ∈ TT := TT_in (List.mem_of_getElem? (i := 670) (by decide +kernel)) (by decide +kernel)
theorem m_671 : (Jvm.Cond.instanceMethod ({ cls := "TupleMethodsModel", name := "thrown", desc := "()I" } : Jvm.MethodName)) ∈ TT := TT_in (List.mem_of_getElem? (i := 671) (by decide +kernel)) (by decide +kernel)
theorem kw_L_73 : Cw 0 RL 73 yX3_thrown cX3_thrown 1 (some .int) 0 := ⟨⟨m_670, m_671, m_672⟩, m_65, m_673, by decide +kernel, by decide⟩
theorem m_677 : (Jvm.Cond.code ({ cls := "TupleMethodsModel", name := "kind", desc := "(III)I" } : Jvm.MethodName) prog_5_method_13_code (7 : Nat) (Option.some Jvm.ClassFile.FieldType.int)) ∈ TT := TT_in (List.mem_of_getElem? (i := 677) (by decide +kernel)) (by decide +kernel)
theorem m_676 : (Jvm.Cond.selects "TupleMethodsModel" ({ cls := "TupleMethodsModel", name := "kind", desc := "(III)I" } : Jvm.MethodName) ({ cls := "TupleMethodsModel", name := "kind", desc := "(III)I" } : Jvm.MethodName)) ∈ TT := TT_in (List.mem_of_getElem? (i := 676) (by decide +kernel)) (by decide +kernel)
theorem m_674 : (Jvm.Cond.methodLink "TupleMethodsLaw" (26 : Nat) ({ cls := "TupleMethodsModel", name := "kind", desc := "(III)I" } : Jvm.MethodName)) ∈ TT := TT_in (List.mem_of_getElem? (i := 674) (by decide +kernel)) (by decide +kernel)
theorem m_675 : (Jvm.Cond.instanceMethod ({ cls := "TupleMethodsModel", name := "kind", desc := "(III)I" } : Jvm.MethodName)) ∈ TT := TT_in (List.mem_of_getElem? (i := 675) (by decide +kernel)) (by decide +kernel)
theorem kw_L_26 : Cw 0 RL 26 yX3_kind cX3_kind 7 (some .int) 3 := ⟨⟨m_674, m_675, m_676⟩, m_65, m_677, by decide +kernel, by decide⟩
theorem m_681 : (Jvm.Cond.code ({ cls := "TupleMethodsModel", name := "isClass", desc := "(I)Z" } : Jvm.MethodName) prog_5_method_6_code (2 : Nat) (Option.some Jvm.ClassFile.FieldType.boolean)) ∈ TT := TT_in (List.mem_of_getElem? (i := 681) (by decide +kernel)) (by decide +kernel)
theorem m_29 : (Jvm.Cond.selects "TupleMethodsModel" ({ cls := "TupleMethodsModel", name := "isClass", desc := "(I)Z" } : Jvm.MethodName) ({ cls := "TupleMethodsModel", name := "isClass", desc := "(I)Z" } : Jvm.MethodName)) ∈ TT := TT_in (List.mem_of_getElem? (i := 29) (by decide +kernel)) (by decide +kernel)
theorem m_678 : (Jvm.Cond.methodLink "TupleMethodsModel" (87 : Nat) ({ cls := "TupleMethodsModel", name := "isClass", desc := "(I)Z" } : Jvm.MethodName)) ∈ TT := TT_in (List.mem_of_getElem? (i := 678) (by decide +kernel)) (by decide +kernel)
theorem m_680 : (Jvm.Cond.instanceMethod ({ cls := "TupleMethodsModel", name := "isClass", desc := "(I)Z" } : Jvm.MethodName)) ∈ TT := TT_in (List.mem_of_getElem? (i := 680) (by decide +kernel)) (by decide +kernel)
theorem kw_X3_87 : Cw 0 RX3 87 yX3_isClass cX3_isClass 2 (some .boolean) 1 := ⟨⟨m_678, m_680, m_29⟩, m_65, m_681, by decide +kernel, by decide⟩
theorem m_684 : (Jvm.Cond.code ({ cls := "TupleMethodsModel", name := "in", desc := "(III)Z" } : Jvm.MethodName) prog_5_method_3_code (3 : Nat) (Option.some Jvm.ClassFile.FieldType.boolean)) ∈ TT := TT_in (List.mem_of_getElem? (i := 684) (by decide +kernel)) (by decide +kernel)
theorem m_683 : (Jvm.Cond.static ({ cls := "TupleMethodsModel", name := "in", desc := "(III)Z" } : Jvm.MethodName)) ∈ TT := TT_in (List.mem_of_getElem? (i := 683) (by decide +kernel)) (by decide +kernel)
theorem m_682 : (Jvm.Cond.methodLink "TupleMethodsModel" (68 : Nat) ({ cls := "TupleMethodsModel", name := "in", desc := "(III)Z" } : Jvm.MethodName)) ∈ TT := TT_in (List.mem_of_getElem? (i := 682) (by decide +kernel)) (by decide +kernel)
theorem kw_X3_68 : Cw 1 RX3 68 yX3_in cX3_in 3 (some .boolean) 3 := ⟨⟨m_682, m_683⟩, m_65, m_684, by decide +kernel, by decide⟩
theorem m_688 : (Jvm.Cond.code ({ cls := "TupleMethodsModel", name := "laysRow", desc := "(II)V" } : Jvm.MethodName) prog_5_method_8_code (4 : Nat) (Option.none : Option Jvm.ClassFile.FieldType)) ∈ TT := TT_in (List.mem_of_getElem? (i := 688) (by decide +kernel)) (by decide +kernel)
theorem m_30 : (Jvm.Cond.selects "TupleMethodsModel" ({ cls := "TupleMethodsModel", name := "laysRow", desc := "(II)V" } : Jvm.MethodName) ({ cls := "TupleMethodsModel", name := "laysRow", desc := "(II)V" } : Jvm.MethodName)) ∈ TT := TT_in (List.mem_of_getElem? (i := 30) (by decide +kernel)) (by decide +kernel)
theorem m_685 : (Jvm.Cond.methodLink "TupleMethodsModel" (90 : Nat) ({ cls := "TupleMethodsModel", name := "laysRow", desc := "(II)V" } : Jvm.MethodName)) ∈ TT := TT_in (List.mem_of_getElem? (i := 685) (by decide +kernel)) (by decide +kernel)
theorem m_687 : (Jvm.Cond.instanceMethod ({ cls := "TupleMethodsModel", name := "laysRow", desc := "(II)V" } : Jvm.MethodName)) ∈ TT := TT_in (List.mem_of_getElem? (i := 687) (by decide +kernel)) (by decide +kernel)
theorem kw_X3_90 : Cw 0 RX3 90 yX3_laysRow cX3_laysRow 4 none 2 := ⟨⟨m_685, m_687, m_30⟩, m_65, m_688, by decide +kernel, by decide⟩
theorem m_692 : (Jvm.Cond.code ({ cls := "TupleMethodsModel", name := "merges", desc := "(I)Z" } : Jvm.MethodName) prog_5_method_12_code (4 : Nat) (Option.some Jvm.ClassFile.FieldType.boolean)) ∈ TT := TT_in (List.mem_of_getElem? (i := 692) (by decide +kernel)) (by decide +kernel)
theorem m_31 : (Jvm.Cond.selects "TupleMethodsModel" ({ cls := "TupleMethodsModel", name := "merges", desc := "(I)Z" } : Jvm.MethodName) ({ cls := "TupleMethodsModel", name := "merges", desc := "(I)Z" } : Jvm.MethodName)) ∈ TT := TT_in (List.mem_of_getElem? (i := 31) (by decide +kernel)) (by decide +kernel)
theorem m_689 : (Jvm.Cond.methodLink "TupleMethodsModel" (94 : Nat) ({ cls := "TupleMethodsModel", name := "merges", desc := "(I)Z" } : Jvm.MethodName)) ∈ TT := TT_in (List.mem_of_getElem? (i := 689) (by decide +kernel)) (by decide +kernel)
theorem m_691 : (Jvm.Cond.instanceMethod ({ cls := "TupleMethodsModel", name := "merges", desc := "(I)Z" } : Jvm.MethodName)) ∈ TT := TT_in (List.mem_of_getElem? (i := 691) (by decide +kernel)) (by decide +kernel)
theorem kw_X3_94 : Cw 0 RX3 94 yX3_merges cX3_merges 4 (some .boolean) 1 := ⟨⟨m_689, m_691, m_31⟩, m_65, m_692, by decide +kernel, by decide⟩
theorem m_696 : (Jvm.Cond.code ({ cls := "TupleMethodsModel", name := "isLeft", desc := "()Z" } : Jvm.MethodName) prog_5_method_11_code (3 : Nat) (Option.some Jvm.ClassFile.FieldType.boolean)) ∈ TT := TT_in (List.mem_of_getElem? (i := 696) (by decide +kernel)) (by decide +kernel)
theorem m_32 : (Jvm.Cond.selects "TupleMethodsModel" ({ cls := "TupleMethodsModel", name := "isLeft", desc := "()Z" } : Jvm.MethodName) ({ cls := "TupleMethodsModel", name := "isLeft", desc := "()Z" } : Jvm.MethodName)) ∈ TT := TT_in (List.mem_of_getElem? (i := 32) (by decide +kernel)) (by decide +kernel)
theorem m_693 : (Jvm.Cond.methodLink "TupleMethodsModel" (79 : Nat) ({ cls := "TupleMethodsModel", name := "isLeft", desc := "()Z" } : Jvm.MethodName)) ∈ TT := TT_in (List.mem_of_getElem? (i := 693) (by decide +kernel)) (by decide +kernel)
theorem m_695 : (Jvm.Cond.instanceMethod ({ cls := "TupleMethodsModel", name := "isLeft", desc := "()Z" } : Jvm.MethodName)) ∈ TT := TT_in (List.mem_of_getElem? (i := 695) (by decide +kernel)) (by decide +kernel)
theorem kw_X3_79 : Cw 0 RX3 79 yX3_isLeft cX3_isLeft 3 (some .boolean) 0 := ⟨⟨m_693, m_695, m_32⟩, m_65, m_696, by decide +kernel, by decide⟩
theorem m_700 : (Jvm.Cond.code ({ cls := "TupleMethodsModel", name := "comesNext", desc := "()I" } : Jvm.MethodName) prog_5_method_10_code (2 : Nat) (Option.some Jvm.ClassFile.FieldType.int)) ∈ TT := TT_in (List.mem_of_getElem? (i := 700) (by decide +kernel)) (by decide +kernel)
theorem m_33 : (Jvm.Cond.selects "TupleMethodsModel" ({ cls := "TupleMethodsModel", name := "comesNext", desc := "()I" } : Jvm.MethodName) ({ cls := "TupleMethodsModel", name := "comesNext", desc := "()I" } : Jvm.MethodName)) ∈ TT := TT_in (List.mem_of_getElem? (i := 33) (by decide +kernel)) (by decide +kernel)
theorem m_697 : (Jvm.Cond.methodLink "TupleMethodsModel" (83 : Nat) ({ cls := "TupleMethodsModel", name := "comesNext", desc := "()I" } : Jvm.MethodName)) ∈ TT := TT_in (List.mem_of_getElem? (i := 697) (by decide +kernel)) (by decide +kernel)
theorem m_699 : (Jvm.Cond.instanceMethod ({ cls := "TupleMethodsModel", name := "comesNext", desc := "()I" } : Jvm.MethodName)) ∈ TT := TT_in (List.mem_of_getElem? (i := 699) (by decide +kernel)) (by decide +kernel)
theorem kw_X3_83 : Cw 0 RX3 83 yX3_comesNext cX3_comesNext 2 (some .int) 0 := ⟨⟨m_697, m_699, m_33⟩, m_65, m_700, by decide +kernel, by decide⟩
theorem m_704 : (Jvm.Cond.code ({ cls := "TupleMethodsModel", name := "standsBehind", desc := "(I)Z" } : Jvm.MethodName) prog_5_method_9_code (4 : Nat) (Option.some Jvm.ClassFile.FieldType.boolean)) ∈ TT := TT_in (List.mem_of_getElem? (i := 704) (by decide +kernel)) (by decide +kernel)
theorem m_34 : (Jvm.Cond.selects "TupleMethodsModel" ({ cls := "TupleMethodsModel", name := "standsBehind", desc := "(I)Z" } : Jvm.MethodName) ({ cls := "TupleMethodsModel", name := "standsBehind", desc := "(I)Z" } : Jvm.MethodName)) ∈ TT := TT_in (List.mem_of_getElem? (i := 34) (by decide +kernel)) (by decide +kernel)
theorem m_701 : (Jvm.Cond.methodLink "TupleMethodsModel" (75 : Nat) ({ cls := "TupleMethodsModel", name := "standsBehind", desc := "(I)Z" } : Jvm.MethodName)) ∈ TT := TT_in (List.mem_of_getElem? (i := 701) (by decide +kernel)) (by decide +kernel)
theorem m_703 : (Jvm.Cond.instanceMethod ({ cls := "TupleMethodsModel", name := "standsBehind", desc := "(I)Z" } : Jvm.MethodName)) ∈ TT := TT_in (List.mem_of_getElem? (i := 703) (by decide +kernel)) (by decide +kernel)
theorem kw_X3_75 : Cw 0 RX3 75 yX3_standsBehind cX3_standsBehind 4 (some .boolean) 1 := ⟨⟨m_701, m_703, m_34⟩, m_65, m_704, by decide +kernel, by decide⟩
theorem m_708 : (Jvm.Cond.code ({ cls := "TupleMethodsModel", name := "is", desc := "(II)Z" } : Jvm.MethodName) prog_5_method_14_code (3 : Nat) (Option.some Jvm.ClassFile.FieldType.boolean)) ∈ TT := TT_in (List.mem_of_getElem? (i := 708) (by decide +kernel)) (by decide +kernel)
theorem m_707 : (Jvm.Cond.selects "TupleMethodsModel" ({ cls := "TupleMethodsModel", name := "is", desc := "(II)Z" } : Jvm.MethodName) ({ cls := "TupleMethodsModel", name := "is", desc := "(II)Z" } : Jvm.MethodName)) ∈ TT := TT_in (List.mem_of_getElem? (i := 707) (by decide +kernel)) (by decide +kernel)
theorem m_705 : (Jvm.Cond.methodLink "TupleMethodsLaw" (31 : Nat) ({ cls := "TupleMethodsModel", name := "is", desc := "(II)Z" } : Jvm.MethodName)) ∈ TT := TT_in (List.mem_of_getElem? (i := 705) (by decide +kernel)) (by decide +kernel)
theorem m_706 : (Jvm.Cond.instanceMethod ({ cls := "TupleMethodsModel", name := "is", desc := "(II)Z" } : Jvm.MethodName)) ∈ TT := TT_in (List.mem_of_getElem? (i := 706) (by decide +kernel)) (by decide +kernel)
theorem kw_L_31 : Cw 0 RL 31 yX3_is cX3_is 3 (some .boolean) 2 := ⟨⟨m_705, m_706, m_707⟩, m_65, m_708, by decide +kernel, by decide⟩
theorem m_711 : (Jvm.Cond.code ({ cls := "TupleMethodsModel", name := "isOn", desc := "(II)Z" } : Jvm.MethodName) prog_5_method_4_code (2 : Nat) (Option.some Jvm.ClassFile.FieldType.boolean)) ∈ TT := TT_in (List.mem_of_getElem? (i := 711) (by decide +kernel)) (by decide +kernel)
theorem m_710 : (Jvm.Cond.static ({ cls := "TupleMethodsModel", name := "isOn", desc := "(II)Z" } : Jvm.MethodName)) ∈ TT := TT_in (List.mem_of_getElem? (i := 710) (by decide +kernel)) (by decide +kernel)
theorem m_709 : (Jvm.Cond.methodLink "TupleMethodsModel" (97 : Nat) ({ cls := "TupleMethodsModel", name := "isOn", desc := "(II)Z" } : Jvm.MethodName)) ∈ TT := TT_in (List.mem_of_getElem? (i := 709) (by decide +kernel)) (by decide +kernel)
theorem kw_X3_97 : Cw 1 RX3 97 yX3_isOn cX3_isOn 2 (some .boolean) 2 := ⟨⟨m_709, m_710⟩, m_65, m_711, by decide +kernel, by decide⟩
theorem m_715 : (Jvm.Cond.code ({ cls := "TupleMethodsModel", name := "list", desc := "(II)I" } : Jvm.MethodName) prog_5_method_15_code (3 : Nat) (Option.some Jvm.ClassFile.FieldType.int)) ∈ TT := TT_in (List.mem_of_getElem? (i := 715) (by decide +kernel)) (by decide +kernel)
theorem m_714 : (Jvm.Cond.selects "TupleMethodsModel" ({ cls := "TupleMethodsModel", name := "list", desc := "(II)I" } : Jvm.MethodName) ({ cls := "TupleMethodsModel", name := "list", desc := "(II)I" } : Jvm.MethodName)) ∈ TT := TT_in (List.mem_of_getElem? (i := 714) (by decide +kernel)) (by decide +kernel)
theorem m_712 : (Jvm.Cond.methodLink "TupleMethodsLaw" (35 : Nat) ({ cls := "TupleMethodsModel", name := "list", desc := "(II)I" } : Jvm.MethodName)) ∈ TT := TT_in (List.mem_of_getElem? (i := 712) (by decide +kernel)) (by decide +kernel)
theorem m_713 : (Jvm.Cond.instanceMethod ({ cls := "TupleMethodsModel", name := "list", desc := "(II)I" } : Jvm.MethodName)) ∈ TT := TT_in (List.mem_of_getElem? (i := 713) (by decide +kernel)) (by decide +kernel)
theorem kw_L_35 : Cw 0 RL 35 yX3_list cX3_list 3 (some .int) 2 := ⟨⟨m_712, m_713, m_714⟩, m_65, m_715, by decide +kernel, by decide⟩
theorem m_719 : (Jvm.Cond.code ({ cls := "TupleMethodsModel", name := "meet", desc := "(III)I" } : Jvm.MethodName) prog_5_method_17_code (6 : Nat) (Option.some Jvm.ClassFile.FieldType.int)) ∈ TT := TT_in (List.mem_of_getElem? (i := 719) (by decide +kernel)) (by decide +kernel)
theorem m_718 : (Jvm.Cond.selects "TupleMethodsModel" ({ cls := "TupleMethodsModel", name := "meet", desc := "(III)I" } : Jvm.MethodName) ({ cls := "TupleMethodsModel", name := "meet", desc := "(III)I" } : Jvm.MethodName)) ∈ TT := TT_in (List.mem_of_getElem? (i := 718) (by decide +kernel)) (by decide +kernel)
theorem m_716 : (Jvm.Cond.methodLink "TupleMethodsLaw" (39 : Nat) ({ cls := "TupleMethodsModel", name := "meet", desc := "(III)I" } : Jvm.MethodName)) ∈ TT := TT_in (List.mem_of_getElem? (i := 716) (by decide +kernel)) (by decide +kernel)
theorem m_717 : (Jvm.Cond.instanceMethod ({ cls := "TupleMethodsModel", name := "meet", desc := "(III)I" } : Jvm.MethodName)) ∈ TT := TT_in (List.mem_of_getElem? (i := 717) (by decide +kernel)) (by decide +kernel)
theorem kw_L_39 : Cw 0 RL 39 yX3_meet cX3_meet 6 (some .int) 3 := ⟨⟨m_716, m_717, m_718⟩, m_65, m_719, by decide +kernel, by decide⟩
theorem m_723 : (Jvm.Cond.code ({ cls := "TupleMethodsModel", name := "isMeet", desc := "(III)Z" } : Jvm.MethodName) prog_5_method_16_code (5 : Nat) (Option.some Jvm.ClassFile.FieldType.boolean)) ∈ TT := TT_in (List.mem_of_getElem? (i := 723) (by decide +kernel)) (by decide +kernel)
theorem m_35 : (Jvm.Cond.selects "TupleMethodsModel" ({ cls := "TupleMethodsModel", name := "isMeet", desc := "(III)Z" } : Jvm.MethodName) ({ cls := "TupleMethodsModel", name := "isMeet", desc := "(III)Z" } : Jvm.MethodName)) ∈ TT := TT_in (List.mem_of_getElem? (i := 35) (by decide +kernel)) (by decide +kernel)
theorem m_720 : (Jvm.Cond.methodLink "TupleMethodsModel" (101 : Nat) ({ cls := "TupleMethodsModel", name := "isMeet", desc := "(III)Z" } : Jvm.MethodName)) ∈ TT := TT_in (List.mem_of_getElem? (i := 720) (by decide +kernel)) (by decide +kernel)
theorem m_722 : (Jvm.Cond.instanceMethod ({ cls := "TupleMethodsModel", name := "isMeet", desc := "(III)Z" } : Jvm.MethodName)) ∈ TT := TT_in (List.mem_of_getElem? (i := 722) (by decide +kernel)) (by decide +kernel)
theorem kw_X3_101 : Cw 0 RX3 101 yX3_isMeet cX3_isMeet 5 (some .boolean) 3 := ⟨⟨m_720, m_722, m_35⟩, m_65, m_723, by decide +kernel, by decide⟩
theorem m_727 : (Jvm.Cond.code ({ cls := "TupleMethodsModel", name := "function", desc := "(I)I" } : Jvm.MethodName) prog_5_method_18_code (3 : Nat) (Option.some Jvm.ClassFile.FieldType.int)) ∈ TT := TT_in (List.mem_of_getElem? (i := 727) (by decide +kernel)) (by decide +kernel)
theorem m_726 : (Jvm.Cond.selects "TupleMethodsModel" ({ cls := "TupleMethodsModel", name := "function", desc := "(I)I" } : Jvm.MethodName) ({ cls := "TupleMethodsModel", name := "function", desc := "(I)I" } : Jvm.MethodName)) ∈ TT := TT_in (List.mem_of_getElem? (i := 726) (by decide +kernel)) (by decide +kernel)
theorem m_724 : (Jvm.Cond.methodLink "TupleMethodsLaw" (44 : Nat) ({ cls := "TupleMethodsModel", name := "function", desc := "(I)I" } : Jvm.MethodName)) ∈ TT := TT_in (List.mem_of_getElem? (i := 724) (by decide +kernel)) (by decide +kernel)
theorem m_725 : (Jvm.Cond.instanceMethod ({ cls := "TupleMethodsModel", name := "function", desc := "(I)I" } : Jvm.MethodName)) ∈ TT := TT_in (List.mem_of_getElem? (i := 725) (by decide +kernel)) (by decide +kernel)
theorem kw_L_44 : Cw 0 RL 44 yX3_function cX3_function 3 (some .int) 1 := ⟨⟨m_724, m_725, m_726⟩, m_65, m_727, by decide +kernel, by decide⟩
theorem m_731 : (Jvm.Cond.code ({ cls := "TupleMethodsModel", name := "method", desc := "(IIII)I" } : Jvm.MethodName) prog_5_method_26_code (6 : Nat) (Option.some Jvm.ClassFile.FieldType.int)) ∈ TT := TT_in (List.mem_of_getElem? (i := 731) (by decide +kernel)) (by decide +kernel)
theorem m_730 : (Jvm.Cond.selects "TupleMethodsModel" ({ cls := "TupleMethodsModel", name := "method", desc := "(IIII)I" } : Jvm.MethodName) ({ cls := "TupleMethodsModel", name := "method", desc := "(IIII)I" } : Jvm.MethodName)) ∈ TT := TT_in (List.mem_of_getElem? (i := 730) (by decide +kernel)) (by decide +kernel)
theorem m_728 : (Jvm.Cond.methodLink "TupleMethodsLaw" (49 : Nat) ({ cls := "TupleMethodsModel", name := "method", desc := "(IIII)I" } : Jvm.MethodName)) ∈ TT := TT_in (List.mem_of_getElem? (i := 728) (by decide +kernel)) (by decide +kernel)
theorem m_729 : (Jvm.Cond.instanceMethod ({ cls := "TupleMethodsModel", name := "method", desc := "(IIII)I" } : Jvm.MethodName)) ∈ TT := TT_in (List.mem_of_getElem? (i := 729) (by decide +kernel)) (by decide +kernel)
theorem kw_L_49 : Cw 0 RL 49 yX3_method cX3_method 6 (some .int) 4 := ⟨⟨m_728, m_729, m_730⟩, m_65, m_731, by decide +kernel, by decide⟩
theorem m_735 : (Jvm.Cond.code ({ cls := "TupleMethodsModel", name := "isCall", desc := "(II)Z" } : Jvm.MethodName) prog_5_method_20_code (4 : Nat) (Option.some Jvm.ClassFile.FieldType.boolean)) ∈ TT := TT_in (List.mem_of_getElem? (i := 735) (by decide +kernel)) (by decide +kernel)
theorem m_36 : (Jvm.Cond.selects "TupleMethodsModel" ({ cls := "TupleMethodsModel", name := "isCall", desc := "(II)Z" } : Jvm.MethodName) ({ cls := "TupleMethodsModel", name := "isCall", desc := "(II)Z" } : Jvm.MethodName)) ∈ TT := TT_in (List.mem_of_getElem? (i := 36) (by decide +kernel)) (by decide +kernel)
theorem m_732 : (Jvm.Cond.methodLink "TupleMethodsModel" (114 : Nat) ({ cls := "TupleMethodsModel", name := "isCall", desc := "(II)Z" } : Jvm.MethodName)) ∈ TT := TT_in (List.mem_of_getElem? (i := 732) (by decide +kernel)) (by decide +kernel)
theorem m_734 : (Jvm.Cond.instanceMethod ({ cls := "TupleMethodsModel", name := "isCall", desc := "(II)Z" } : Jvm.MethodName)) ∈ TT := TT_in (List.mem_of_getElem? (i := 734) (by decide +kernel)) (by decide +kernel)
theorem kw_X3_114 : Cw 0 RX3 114 yX3_isCall cX3_isCall 4 (some .boolean) 2 := ⟨⟨m_732, m_734, m_36⟩, m_65, m_735, by decide +kernel, by decide⟩
theorem m_739 : (Jvm.Cond.code ({ cls := "TupleMethodsModel", name := "isFunction", desc := "(I)Z" } : Jvm.MethodName) prog_5_method_7_code (2 : Nat) (Option.some Jvm.ClassFile.FieldType.boolean)) ∈ TT := TT_in (List.mem_of_getElem? (i := 739) (by decide +kernel)) (by decide +kernel)
theorem m_37 : (Jvm.Cond.selects "TupleMethodsModel" ({ cls := "TupleMethodsModel", name := "isFunction", desc := "(I)Z" } : Jvm.MethodName) ({ cls := "TupleMethodsModel", name := "isFunction", desc := "(I)Z" } : Jvm.MethodName)) ∈ TT := TT_in (List.mem_of_getElem? (i := 37) (by decide +kernel)) (by decide +kernel)
theorem m_736 : (Jvm.Cond.methodLink "TupleMethodsModel" (104 : Nat) ({ cls := "TupleMethodsModel", name := "isFunction", desc := "(I)Z" } : Jvm.MethodName)) ∈ TT := TT_in (List.mem_of_getElem? (i := 736) (by decide +kernel)) (by decide +kernel)
theorem m_738 : (Jvm.Cond.instanceMethod ({ cls := "TupleMethodsModel", name := "isFunction", desc := "(I)Z" } : Jvm.MethodName)) ∈ TT := TT_in (List.mem_of_getElem? (i := 738) (by decide +kernel)) (by decide +kernel)
theorem kw_X3_104 : Cw 0 RX3 104 yX3_isFunction cX3_isFunction 2 (some .boolean) 1 := ⟨⟨m_736, m_738, m_37⟩, m_65, m_739, by decide +kernel, by decide⟩
theorem m_742 : (Jvm.Cond.code ({ cls := "TupleMethodsModel", name := "digit", desc := "(II)I" } : Jvm.MethodName) prog_5_method_19_code (2 : Nat) (Option.some Jvm.ClassFile.FieldType.int)) ∈ TT := TT_in (List.mem_of_getElem? (i := 742) (by decide +kernel)) (by decide +kernel)
theorem m_741 : (Jvm.Cond.static ({ cls := "TupleMethodsModel", name := "digit", desc := "(II)I" } : Jvm.MethodName)) ∈ TT := TT_in (List.mem_of_getElem? (i := 741) (by decide +kernel)) (by decide +kernel)
theorem m_740 : (Jvm.Cond.methodLink "TupleMethodsModel" (107 : Nat) ({ cls := "TupleMethodsModel", name := "digit", desc := "(II)I" } : Jvm.MethodName)) ∈ TT := TT_in (List.mem_of_getElem? (i := 740) (by decide +kernel)) (by decide +kernel)
theorem kw_X3_107 : Cw 1 RX3 107 yX3_digit cX3_digit 2 (some .int) 2 := ⟨⟨m_740, m_741⟩, m_65, m_742, by decide +kernel, by decide⟩
theorem m_746 : (Jvm.Cond.code ({ cls := "TupleMethodsModel", name := "methodFor", desc := "(II)I" } : Jvm.MethodName) prog_5_method_22_code (4 : Nat) (Option.some Jvm.ClassFile.FieldType.int)) ∈ TT := TT_in (List.mem_of_getElem? (i := 746) (by decide +kernel)) (by decide +kernel)
theorem m_38 : (Jvm.Cond.selects "TupleMethodsModel" ({ cls := "TupleMethodsModel", name := "methodFor", desc := "(II)I" } : Jvm.MethodName) ({ cls := "TupleMethodsModel", name := "methodFor", desc := "(II)I" } : Jvm.MethodName)) ∈ TT := TT_in (List.mem_of_getElem? (i := 38) (by decide +kernel)) (by decide +kernel)
theorem m_743 : (Jvm.Cond.methodLink "TupleMethodsModel" (117 : Nat) ({ cls := "TupleMethodsModel", name := "methodFor", desc := "(II)I" } : Jvm.MethodName)) ∈ TT := TT_in (List.mem_of_getElem? (i := 743) (by decide +kernel)) (by decide +kernel)
theorem m_745 : (Jvm.Cond.instanceMethod ({ cls := "TupleMethodsModel", name := "methodFor", desc := "(II)I" } : Jvm.MethodName)) ∈ TT := TT_in (List.mem_of_getElem? (i := 745) (by decide +kernel)) (by decide +kernel)
theorem kw_X3_117 : Cw 0 RX3 117 yX3_methodFor cX3_methodFor 4 (some .int) 2 := ⟨⟨m_743, m_745, m_38⟩, m_65, m_746, by decide +kernel, by decide⟩
theorem m_750 : (Jvm.Cond.code ({ cls := "TupleMethodsModel", name := "drops", desc := "(II)V" } : Jvm.MethodName) prog_5_method_25_code (5 : Nat) (Option.none : Option Jvm.ClassFile.FieldType)) ∈ TT := TT_in (List.mem_of_getElem? (i := 750) (by decide +kernel)) (by decide +kernel)
theorem m_39 : (Jvm.Cond.selects "TupleMethodsModel" ({ cls := "TupleMethodsModel", name := "drops", desc := "(II)V" } : Jvm.MethodName) ({ cls := "TupleMethodsModel", name := "drops", desc := "(II)V" } : Jvm.MethodName)) ∈ TT := TT_in (List.mem_of_getElem? (i := 39) (by decide +kernel)) (by decide +kernel)
theorem m_747 : (Jvm.Cond.methodLink "TupleMethodsModel" (120 : Nat) ({ cls := "TupleMethodsModel", name := "drops", desc := "(II)V" } : Jvm.MethodName)) ∈ TT := TT_in (List.mem_of_getElem? (i := 747) (by decide +kernel)) (by decide +kernel)
theorem m_749 : (Jvm.Cond.instanceMethod ({ cls := "TupleMethodsModel", name := "drops", desc := "(II)V" } : Jvm.MethodName)) ∈ TT := TT_in (List.mem_of_getElem? (i := 749) (by decide +kernel)) (by decide +kernel)
theorem kw_X3_120 : Cw 0 RX3 120 yX3_drops cX3_drops 5 none 2 := ⟨⟨m_747, m_749, m_39⟩, m_65, m_750, by decide +kernel, by decide⟩
theorem m_754 : (Jvm.Cond.code ({ cls := "TupleMethodsModel", name := "areOf", desc := "(III)Z" } : Jvm.MethodName) prog_5_method_21_code (5 : Nat) (Option.some Jvm.ClassFile.FieldType.boolean)) ∈ TT := TT_in (List.mem_of_getElem? (i := 754) (by decide +kernel)) (by decide +kernel)
theorem m_40 : (Jvm.Cond.selects "TupleMethodsModel" ({ cls := "TupleMethodsModel", name := "areOf", desc := "(III)Z" } : Jvm.MethodName) ({ cls := "TupleMethodsModel", name := "areOf", desc := "(III)Z" } : Jvm.MethodName)) ∈ TT := TT_in (List.mem_of_getElem? (i := 40) (by decide +kernel)) (by decide +kernel)
theorem m_751 : (Jvm.Cond.methodLink "TupleMethodsModel" (111 : Nat) ({ cls := "TupleMethodsModel", name := "areOf", desc := "(III)Z" } : Jvm.MethodName)) ∈ TT := TT_in (List.mem_of_getElem? (i := 751) (by decide +kernel)) (by decide +kernel)
theorem m_753 : (Jvm.Cond.instanceMethod ({ cls := "TupleMethodsModel", name := "areOf", desc := "(III)Z" } : Jvm.MethodName)) ∈ TT := TT_in (List.mem_of_getElem? (i := 753) (by decide +kernel)) (by decide +kernel)
theorem kw_X3_111 : Cw 0 RX3 111 yX3_areOf cX3_areOf 5 (some .boolean) 3 := ⟨⟨m_751, m_753, m_40⟩, m_65, m_754, by decide +kernel, by decide⟩
theorem m_758 : (Jvm.Cond.code ({ cls := "TupleMethodsModel", name := "drop", desc := "(II)I" } : Jvm.MethodName) prog_5_method_27_code (3 : Nat) (Option.some Jvm.ClassFile.FieldType.int)) ∈ TT := TT_in (List.mem_of_getElem? (i := 758) (by decide +kernel)) (by decide +kernel)
theorem m_757 : (Jvm.Cond.selects "TupleMethodsModel" ({ cls := "TupleMethodsModel", name := "drop", desc := "(II)I" } : Jvm.MethodName) ({ cls := "TupleMethodsModel", name := "drop", desc := "(II)I" } : Jvm.MethodName)) ∈ TT := TT_in (List.mem_of_getElem? (i := 757) (by decide +kernel)) (by decide +kernel)
theorem m_755 : (Jvm.Cond.methodLink "TupleMethodsLaw" (53 : Nat) ({ cls := "TupleMethodsModel", name := "drop", desc := "(II)I" } : Jvm.MethodName)) ∈ TT := TT_in (List.mem_of_getElem? (i := 755) (by decide +kernel)) (by decide +kernel)
theorem m_756 : (Jvm.Cond.instanceMethod ({ cls := "TupleMethodsModel", name := "drop", desc := "(II)I" } : Jvm.MethodName)) ∈ TT := TT_in (List.mem_of_getElem? (i := 756) (by decide +kernel)) (by decide +kernel)
theorem kw_L_53 : Cw 0 RL 53 yX3_drop cX3_drop 3 (some .int) 2 := ⟨⟨m_755, m_756, m_757⟩, m_65, m_758, by decide +kernel, by decide⟩
theorem m_762 : (Jvm.Cond.code ({ cls := "TupleMethodsModel", name := "isMethod", desc := "(II)Z" } : Jvm.MethodName) prog_5_method_23_code (3 : Nat) (Option.some Jvm.ClassFile.FieldType.boolean)) ∈ TT := TT_in (List.mem_of_getElem? (i := 762) (by decide +kernel)) (by decide +kernel)
theorem m_41 : (Jvm.Cond.selects "TupleMethodsModel" ({ cls := "TupleMethodsModel", name := "isMethod", desc := "(II)Z" } : Jvm.MethodName) ({ cls := "TupleMethodsModel", name := "isMethod", desc := "(II)Z" } : Jvm.MethodName)) ∈ TT := TT_in (List.mem_of_getElem? (i := 41) (by decide +kernel)) (by decide +kernel)
theorem m_759 : (Jvm.Cond.methodLink "TupleMethodsModel" (123 : Nat) ({ cls := "TupleMethodsModel", name := "isMethod", desc := "(II)Z" } : Jvm.MethodName)) ∈ TT := TT_in (List.mem_of_getElem? (i := 759) (by decide +kernel)) (by decide +kernel)
theorem m_761 : (Jvm.Cond.instanceMethod ({ cls := "TupleMethodsModel", name := "isMethod", desc := "(II)Z" } : Jvm.MethodName)) ∈ TT := TT_in (List.mem_of_getElem? (i := 761) (by decide +kernel)) (by decide +kernel)
theorem kw_X3_123 : Cw 0 RX3 123 yX3_isMethod cX3_isMethod 3 (some .boolean) 2 := ⟨⟨m_759, m_761, m_41⟩, m_65, m_762, by decide +kernel, by decide⟩
theorem m_766 : (Jvm.Cond.code ({ cls := "TupleMethodsModel", name := "methodsOf", desc := "(I)I" } : Jvm.MethodName) prog_5_method_24_code (4 : Nat) (Option.some Jvm.ClassFile.FieldType.int)) ∈ TT := TT_in (List.mem_of_getElem? (i := 766) (by decide +kernel)) (by decide +kernel)
theorem m_42 : (Jvm.Cond.selects "TupleMethodsModel" ({ cls := "TupleMethodsModel", name := "methodsOf", desc := "(I)I" } : Jvm.MethodName) ({ cls := "TupleMethodsModel", name := "methodsOf", desc := "(I)I" } : Jvm.MethodName)) ∈ TT := TT_in (List.mem_of_getElem? (i := 42) (by decide +kernel)) (by decide +kernel)
theorem m_763 : (Jvm.Cond.methodLink "TupleMethodsModel" (126 : Nat) ({ cls := "TupleMethodsModel", name := "methodsOf", desc := "(I)I" } : Jvm.MethodName)) ∈ TT := TT_in (List.mem_of_getElem? (i := 763) (by decide +kernel)) (by decide +kernel)
theorem m_765 : (Jvm.Cond.instanceMethod ({ cls := "TupleMethodsModel", name := "methodsOf", desc := "(I)I" } : Jvm.MethodName)) ∈ TT := TT_in (List.mem_of_getElem? (i := 765) (by decide +kernel)) (by decide +kernel)
theorem kw_X3_126 : Cw 0 RX3 126 yX3_methodsOf cX3_methodsOf 4 (some .int) 1 := ⟨⟨m_763, m_765, m_42⟩, m_65, m_766, by decide +kernel, by decide⟩
theorem m_769 : (Jvm.Cond.code ({ cls := "TupleMethodsModel", name := "bits", desc := "(I)I" } : Jvm.MethodName) prog_5_method_5_code (3 : Nat) (Option.some Jvm.ClassFile.FieldType.int)) ∈ TT := TT_in (List.mem_of_getElem? (i := 769) (by decide +kernel)) (by decide +kernel)
theorem m_768 : (Jvm.Cond.static ({ cls := "TupleMethodsModel", name := "bits", desc := "(I)I" } : Jvm.MethodName)) ∈ TT := TT_in (List.mem_of_getElem? (i := 768) (by decide +kernel)) (by decide +kernel)
theorem m_767 : (Jvm.Cond.methodLink "TupleMethodsModel" (130 : Nat) ({ cls := "TupleMethodsModel", name := "bits", desc := "(I)I" } : Jvm.MethodName)) ∈ TT := TT_in (List.mem_of_getElem? (i := 767) (by decide +kernel)) (by decide +kernel)
theorem kw_X3_130 : Cw 1 RX3 130 yX3_bits cX3_bits 3 (some .int) 1 := ⟨⟨m_767, m_768⟩, m_65, m_769, by decide +kernel, by decide⟩
theorem m_773 : (Jvm.Cond.code ({ cls := "TupleMethodsModel", name := "rule", desc := "()I" } : Jvm.MethodName) prog_5_method_28_code (2 : Nat) (Option.some Jvm.ClassFile.FieldType.int)) ∈ TT := TT_in (List.mem_of_getElem? (i := 773) (by decide +kernel)) (by decide +kernel)
theorem m_772 : (Jvm.Cond.selects "TupleMethodsModel" ({ cls := "TupleMethodsModel", name := "rule", desc := "()I" } : Jvm.MethodName) ({ cls := "TupleMethodsModel", name := "rule", desc := "()I" } : Jvm.MethodName)) ∈ TT := TT_in (List.mem_of_getElem? (i := 772) (by decide +kernel)) (by decide +kernel)
theorem m_770 : (Jvm.Cond.methodLink "TupleMethodsLaw" (58 : Nat) ({ cls := "TupleMethodsModel", name := "rule", desc := "()I" } : Jvm.MethodName)) ∈ TT := TT_in (List.mem_of_getElem? (i := 770) (by decide +kernel)) (by decide +kernel)
theorem m_771 : (Jvm.Cond.instanceMethod ({ cls := "TupleMethodsModel", name := "rule", desc := "()I" } : Jvm.MethodName)) ∈ TT := TT_in (List.mem_of_getElem? (i := 771) (by decide +kernel)) (by decide +kernel)
theorem kw_L_58 : Cw 0 RL 58 yX3_rule cX3_rule 2 (some .int) 0 := ⟨⟨m_770, m_771, m_772⟩, m_65, m_773, by decide +kernel, by decide⟩
theorem m_777 : (Jvm.Cond.code ({ cls := "TupleMethodsModel", name := "count", desc := "(I)I" } : Jvm.MethodName) prog_5_method_29_code (4 : Nat) (Option.some Jvm.ClassFile.FieldType.int)) ∈ TT := TT_in (List.mem_of_getElem? (i := 777) (by decide +kernel)) (by decide +kernel)
theorem m_776 : (Jvm.Cond.selects "TupleMethodsModel" ({ cls := "TupleMethodsModel", name := "count", desc := "(I)I" } : Jvm.MethodName) ({ cls := "TupleMethodsModel", name := "count", desc := "(I)I" } : Jvm.MethodName)) ∈ TT := TT_in (List.mem_of_getElem? (i := 776) (by decide +kernel)) (by decide +kernel)
theorem m_774 : (Jvm.Cond.methodLink "TupleMethodsLaw" (62 : Nat) ({ cls := "TupleMethodsModel", name := "count", desc := "(I)I" } : Jvm.MethodName)) ∈ TT := TT_in (List.mem_of_getElem? (i := 774) (by decide +kernel)) (by decide +kernel)
theorem m_775 : (Jvm.Cond.instanceMethod ({ cls := "TupleMethodsModel", name := "count", desc := "(I)I" } : Jvm.MethodName)) ∈ TT := TT_in (List.mem_of_getElem? (i := 775) (by decide +kernel)) (by decide +kernel)
theorem kw_L_62 : Cw 0 RL 62 yX3_count cX3_count 4 (some .int) 1 := ⟨⟨m_774, m_775, m_776⟩, m_65, m_777, by decide +kernel, by decide⟩
theorem m_781 : (Jvm.Cond.code ({ cls := "TupleMethodsModel", name := "answer", desc := "(II)I" } : Jvm.MethodName) prog_5_method_35_code (3 : Nat) (Option.some Jvm.ClassFile.FieldType.int)) ∈ TT := TT_in (List.mem_of_getElem? (i := 781) (by decide +kernel)) (by decide +kernel)
theorem m_780 : (Jvm.Cond.selects "TupleMethodsModel" ({ cls := "TupleMethodsModel", name := "answer", desc := "(II)I" } : Jvm.MethodName) ({ cls := "TupleMethodsModel", name := "answer", desc := "(II)I" } : Jvm.MethodName)) ∈ TT := TT_in (List.mem_of_getElem? (i := 780) (by decide +kernel)) (by decide +kernel)
theorem m_778 : (Jvm.Cond.methodLink "TupleMethodsLaw" (83 : Nat) ({ cls := "TupleMethodsModel", name := "answer", desc := "(II)I" } : Jvm.MethodName)) ∈ TT := TT_in (List.mem_of_getElem? (i := 778) (by decide +kernel)) (by decide +kernel)
theorem m_779 : (Jvm.Cond.instanceMethod ({ cls := "TupleMethodsModel", name := "answer", desc := "(II)I" } : Jvm.MethodName)) ∈ TT := TT_in (List.mem_of_getElem? (i := 779) (by decide +kernel)) (by decide +kernel)
theorem kw_L_83 : Cw 0 RL 83 yX3_answer cX3_answer 3 (some .int) 2 := ⟨⟨m_778, m_779, m_780⟩, m_65, m_781, by decide +kernel, by decide⟩
theorem m_785 : (Jvm.Cond.code ({ cls := "TupleMethodsModel", name := "answerOf", desc := "(III)I" } : Jvm.MethodName) prog_5_method_34_code (4 : Nat) (Option.some Jvm.ClassFile.FieldType.int)) ∈ TT := TT_in (List.mem_of_getElem? (i := 785) (by decide +kernel)) (by decide +kernel)
theorem m_43 : (Jvm.Cond.selects "TupleMethodsModel" ({ cls := "TupleMethodsModel", name := "answerOf", desc := "(III)I" } : Jvm.MethodName) ({ cls := "TupleMethodsModel", name := "answerOf", desc := "(III)I" } : Jvm.MethodName)) ∈ TT := TT_in (List.mem_of_getElem? (i := 43) (by decide +kernel)) (by decide +kernel)
theorem m_782 : (Jvm.Cond.methodLink "TupleMethodsModel" (159 : Nat) ({ cls := "TupleMethodsModel", name := "answerOf", desc := "(III)I" } : Jvm.MethodName)) ∈ TT := TT_in (List.mem_of_getElem? (i := 782) (by decide +kernel)) (by decide +kernel)
theorem m_784 : (Jvm.Cond.instanceMethod ({ cls := "TupleMethodsModel", name := "answerOf", desc := "(III)I" } : Jvm.MethodName)) ∈ TT := TT_in (List.mem_of_getElem? (i := 784) (by decide +kernel)) (by decide +kernel)
theorem kw_X3_159 : Cw 0 RX3 159 yX3_answerOf cX3_answerOf 4 (some .int) 3 := ⟨⟨m_782, m_784, m_43⟩, m_65, m_785, by decide +kernel, by decide⟩
theorem m_789 : (Jvm.Cond.code ({ cls := "TupleMethodsModel", name := "applicableTo", desc := "(II)I" } : Jvm.MethodName) prog_5_method_31_code (5 : Nat) (Option.some Jvm.ClassFile.FieldType.int)) ∈ TT := TT_in (List.mem_of_getElem? (i := 789) (by decide +kernel)) (by decide +kernel)
theorem m_44 : (Jvm.Cond.selects "TupleMethodsModel" ({ cls := "TupleMethodsModel", name := "applicableTo", desc := "(II)I" } : Jvm.MethodName) ({ cls := "TupleMethodsModel", name := "applicableTo", desc := "(II)I" } : Jvm.MethodName)) ∈ TT := TT_in (List.mem_of_getElem? (i := 44) (by decide +kernel)) (by decide +kernel)
theorem m_786 : (Jvm.Cond.methodLink "TupleMethodsModel" (152 : Nat) ({ cls := "TupleMethodsModel", name := "applicableTo", desc := "(II)I" } : Jvm.MethodName)) ∈ TT := TT_in (List.mem_of_getElem? (i := 786) (by decide +kernel)) (by decide +kernel)
theorem m_788 : (Jvm.Cond.instanceMethod ({ cls := "TupleMethodsModel", name := "applicableTo", desc := "(II)I" } : Jvm.MethodName)) ∈ TT := TT_in (List.mem_of_getElem? (i := 788) (by decide +kernel)) (by decide +kernel)
theorem kw_X3_152 : Cw 0 RX3 152 yX3_applicableTo cX3_applicableTo 5 (some .int) 2 := ⟨⟨m_786, m_788, m_44⟩, m_65, m_789, by decide +kernel, by decide⟩
theorem m_793 : (Jvm.Cond.code ({ cls := "TupleMethodsModel", name := "firstOf", desc := "(IIII)I" } : Jvm.MethodName) prog_5_method_33_code (8 : Nat) (Option.some Jvm.ClassFile.FieldType.int)) ∈ TT := TT_in (List.mem_of_getElem? (i := 793) (by decide +kernel)) (by decide +kernel)
theorem m_45 : (Jvm.Cond.selects "TupleMethodsModel" ({ cls := "TupleMethodsModel", name := "firstOf", desc := "(IIII)I" } : Jvm.MethodName) ({ cls := "TupleMethodsModel", name := "firstOf", desc := "(IIII)I" } : Jvm.MethodName)) ∈ TT := TT_in (List.mem_of_getElem? (i := 45) (by decide +kernel)) (by decide +kernel)
theorem m_790 : (Jvm.Cond.methodLink "TupleMethodsModel" (155 : Nat) ({ cls := "TupleMethodsModel", name := "firstOf", desc := "(IIII)I" } : Jvm.MethodName)) ∈ TT := TT_in (List.mem_of_getElem? (i := 790) (by decide +kernel)) (by decide +kernel)
theorem m_792 : (Jvm.Cond.instanceMethod ({ cls := "TupleMethodsModel", name := "firstOf", desc := "(IIII)I" } : Jvm.MethodName)) ∈ TT := TT_in (List.mem_of_getElem? (i := 792) (by decide +kernel)) (by decide +kernel)
theorem kw_X3_155 : Cw 0 RX3 155 yX3_firstOf cX3_firstOf 8 (some .int) 4 := ⟨⟨m_790, m_792, m_45⟩, m_65, m_793, by decide +kernel, by decide⟩
theorem m_797 : (Jvm.Cond.code ({ cls := "TupleMethodsModel", name := "whatOf", desc := "(II)I" } : Jvm.MethodName) prog_5_method_30_code (3 : Nat) (Option.some Jvm.ClassFile.FieldType.int)) ∈ TT := TT_in (List.mem_of_getElem? (i := 797) (by decide +kernel)) (by decide +kernel)
theorem m_46 : (Jvm.Cond.selects "TupleMethodsModel" ({ cls := "TupleMethodsModel", name := "whatOf", desc := "(II)I" } : Jvm.MethodName) ({ cls := "TupleMethodsModel", name := "whatOf", desc := "(II)I" } : Jvm.MethodName)) ∈ TT := TT_in (List.mem_of_getElem? (i := 46) (by decide +kernel)) (by decide +kernel)
theorem m_794 : (Jvm.Cond.methodLink "TupleMethodsModel" (145 : Nat) ({ cls := "TupleMethodsModel", name := "whatOf", desc := "(II)I" } : Jvm.MethodName)) ∈ TT := TT_in (List.mem_of_getElem? (i := 794) (by decide +kernel)) (by decide +kernel)
theorem m_796 : (Jvm.Cond.instanceMethod ({ cls := "TupleMethodsModel", name := "whatOf", desc := "(II)I" } : Jvm.MethodName)) ∈ TT := TT_in (List.mem_of_getElem? (i := 796) (by decide +kernel)) (by decide +kernel)
theorem kw_X3_145 : Cw 0 RX3 145 yX3_whatOf cX3_whatOf 3 (some .int) 2 := ⟨⟨m_794, m_796, m_46⟩, m_65, m_797, by decide +kernel, by decide⟩
theorem m_801 : (Jvm.Cond.code ({ cls := "TupleMethodsModel", name := "isAhead", desc := "(IIII)Z" } : Jvm.MethodName) prog_5_method_32_code (8 : Nat) (Option.some Jvm.ClassFile.FieldType.boolean)) ∈ TT := TT_in (List.mem_of_getElem? (i := 801) (by decide +kernel)) (by decide +kernel)
theorem m_47 : (Jvm.Cond.selects "TupleMethodsModel" ({ cls := "TupleMethodsModel", name := "isAhead", desc := "(IIII)Z" } : Jvm.MethodName) ({ cls := "TupleMethodsModel", name := "isAhead", desc := "(IIII)Z" } : Jvm.MethodName)) ∈ TT := TT_in (List.mem_of_getElem? (i := 47) (by decide +kernel)) (by decide +kernel)
theorem m_798 : (Jvm.Cond.methodLink "TupleMethodsModel" (148 : Nat) ({ cls := "TupleMethodsModel", name := "isAhead", desc := "(IIII)Z" } : Jvm.MethodName)) ∈ TT := TT_in (List.mem_of_getElem? (i := 798) (by decide +kernel)) (by decide +kernel)
theorem m_800 : (Jvm.Cond.instanceMethod ({ cls := "TupleMethodsModel", name := "isAhead", desc := "(IIII)Z" } : Jvm.MethodName)) ∈ TT := TT_in (List.mem_of_getElem? (i := 800) (by decide +kernel)) (by decide +kernel)
theorem kw_X3_148 : Cw 0 RX3 148 yX3_isAhead cX3_isAhead 8 (some .boolean) 4 := ⟨⟨m_798, m_800, m_47⟩, m_65, m_801, by decide +kernel, by decide⟩
theorem m_805 : (Jvm.Cond.code ({ cls := "TupleMethodsModel", name := "call", desc := "(II)I" } : Jvm.MethodName) prog_5_method_36_code (5 : Nat) (Option.some Jvm.ClassFile.FieldType.int)) ∈ TT := TT_in (List.mem_of_getElem? (i := 805) (by decide +kernel)) (by decide +kernel)
theorem m_804 : (Jvm.Cond.selects "TupleMethodsModel" ({ cls := "TupleMethodsModel", name := "call", desc := "(II)I" } : Jvm.MethodName) ({ cls := "TupleMethodsModel", name := "call", desc := "(II)I" } : Jvm.MethodName)) ∈ TT := TT_in (List.mem_of_getElem? (i := 804) (by decide +kernel)) (by decide +kernel)
theorem m_802 : (Jvm.Cond.methodLink "TupleMethodsLaw" (79 : Nat) ({ cls := "TupleMethodsModel", name := "call", desc := "(II)I" } : Jvm.MethodName)) ∈ TT := TT_in (List.mem_of_getElem? (i := 802) (by decide +kernel)) (by decide +kernel)
theorem m_803 : (Jvm.Cond.instanceMethod ({ cls := "TupleMethodsModel", name := "call", desc := "(II)I" } : Jvm.MethodName)) ∈ TT := TT_in (List.mem_of_getElem? (i := 803) (by decide +kernel)) (by decide +kernel)
theorem kw_L_79 : Cw 0 RL 79 yX3_call cX3_call 5 (some .int) 2 := ⟨⟨m_802, m_803, m_804⟩, m_65, m_805, by decide +kernel, by decide⟩
theorem m_809 : (Jvm.Cond.code ({ cls := "TupleMethodsModel", name := "applicable", desc := "(II)I" } : Jvm.MethodName) prog_5_method_37_code (3 : Nat) (Option.some Jvm.ClassFile.FieldType.int)) ∈ TT := TT_in (List.mem_of_getElem? (i := 809) (by decide +kernel)) (by decide +kernel)
theorem m_808 : (Jvm.Cond.selects "TupleMethodsModel" ({ cls := "TupleMethodsModel", name := "applicable", desc := "(II)I" } : Jvm.MethodName) ({ cls := "TupleMethodsModel", name := "applicable", desc := "(II)I" } : Jvm.MethodName)) ∈ TT := TT_in (List.mem_of_getElem? (i := 808) (by decide +kernel)) (by decide +kernel)
theorem m_806 : (Jvm.Cond.methodLink "TupleMethodsLaw" (87 : Nat) ({ cls := "TupleMethodsModel", name := "applicable", desc := "(II)I" } : Jvm.MethodName)) ∈ TT := TT_in (List.mem_of_getElem? (i := 806) (by decide +kernel)) (by decide +kernel)
theorem m_807 : (Jvm.Cond.instanceMethod ({ cls := "TupleMethodsModel", name := "applicable", desc := "(II)I" } : Jvm.MethodName)) ∈ TT := TT_in (List.mem_of_getElem? (i := 807) (by decide +kernel)) (by decide +kernel)
theorem kw_L_87 : Cw 0 RL 87 yX3_applicable cX3_applicable 3 (some .int) 2 := ⟨⟨m_806, m_807, m_808⟩, m_65, m_809, by decide +kernel, by decide⟩
theorem m_813 : (Jvm.Cond.code ({ cls := "TupleMethodsModel", name := "chain", desc := "(III)I" } : Jvm.MethodName) prog_5_method_39_code (4 : Nat) (Option.some Jvm.ClassFile.FieldType.int)) ∈ TT := TT_in (List.mem_of_getElem? (i := 813) (by decide +kernel)) (by decide +kernel)
theorem m_812 : (Jvm.Cond.selects "TupleMethodsModel" ({ cls := "TupleMethodsModel", name := "chain", desc := "(III)I" } : Jvm.MethodName) ({ cls := "TupleMethodsModel", name := "chain", desc := "(III)I" } : Jvm.MethodName)) ∈ TT := TT_in (List.mem_of_getElem? (i := 812) (by decide +kernel)) (by decide +kernel)
theorem m_810 : (Jvm.Cond.methodLink "TupleMethodsLaw" (91 : Nat) ({ cls := "TupleMethodsModel", name := "chain", desc := "(III)I" } : Jvm.MethodName)) ∈ TT := TT_in (List.mem_of_getElem? (i := 810) (by decide +kernel)) (by decide +kernel)
theorem m_811 : (Jvm.Cond.instanceMethod ({ cls := "TupleMethodsModel", name := "chain", desc := "(III)I" } : Jvm.MethodName)) ∈ TT := TT_in (List.mem_of_getElem? (i := 811) (by decide +kernel)) (by decide +kernel)
theorem kw_L_91 : Cw 0 RL 91 yX3_chain cX3_chain 4 (some .int) 3 := ⟨⟨m_810, m_811, m_812⟩, m_65, m_813, by decide +kernel, by decide⟩
theorem m_817 : (Jvm.Cond.code ({ cls := "TupleMethodsModel", name := "laysChain", desc := "(II)V" } : Jvm.MethodName) prog_5_method_38_code (4 : Nat) (Option.none : Option Jvm.ClassFile.FieldType)) ∈ TT := TT_in (List.mem_of_getElem? (i := 817) (by decide +kernel)) (by decide +kernel)
theorem m_48 : (Jvm.Cond.selects "TupleMethodsModel" ({ cls := "TupleMethodsModel", name := "laysChain", desc := "(II)V" } : Jvm.MethodName) ({ cls := "TupleMethodsModel", name := "laysChain", desc := "(II)V" } : Jvm.MethodName)) ∈ TT := TT_in (List.mem_of_getElem? (i := 48) (by decide +kernel)) (by decide +kernel)
theorem m_814 : (Jvm.Cond.methodLink "TupleMethodsModel" (169 : Nat) ({ cls := "TupleMethodsModel", name := "laysChain", desc := "(II)V" } : Jvm.MethodName)) ∈ TT := TT_in (List.mem_of_getElem? (i := 814) (by decide +kernel)) (by decide +kernel)
theorem m_816 : (Jvm.Cond.instanceMethod ({ cls := "TupleMethodsModel", name := "laysChain", desc := "(II)V" } : Jvm.MethodName)) ∈ TT := TT_in (List.mem_of_getElem? (i := 816) (by decide +kernel)) (by decide +kernel)
theorem kw_X3_169 : Cw 0 RX3 169 yX3_laysChain cX3_laysChain 4 none 2 := ⟨⟨m_814, m_816, m_48⟩, m_65, m_817, by decide +kernel, by decide⟩
theorem m_821 : (Jvm.Cond.code ({ cls := "TupleMethodsModel", name := "broken", desc := "(II)I" } : Jvm.MethodName) prog_5_method_40_code (3 : Nat) (Option.some Jvm.ClassFile.FieldType.int)) ∈ TT := TT_in (List.mem_of_getElem? (i := 821) (by decide +kernel)) (by decide +kernel)
theorem m_820 : (Jvm.Cond.selects "TupleMethodsModel" ({ cls := "TupleMethodsModel", name := "broken", desc := "(II)I" } : Jvm.MethodName) ({ cls := "TupleMethodsModel", name := "broken", desc := "(II)I" } : Jvm.MethodName)) ∈ TT := TT_in (List.mem_of_getElem? (i := 820) (by decide +kernel)) (by decide +kernel)
theorem m_818 : (Jvm.Cond.methodLink "TupleMethodsLaw" (95 : Nat) ({ cls := "TupleMethodsModel", name := "broken", desc := "(II)I" } : Jvm.MethodName)) ∈ TT := TT_in (List.mem_of_getElem? (i := 818) (by decide +kernel)) (by decide +kernel)
theorem m_819 : (Jvm.Cond.instanceMethod ({ cls := "TupleMethodsModel", name := "broken", desc := "(II)I" } : Jvm.MethodName)) ∈ TT := TT_in (List.mem_of_getElem? (i := 819) (by decide +kernel)) (by decide +kernel)
theorem kw_L_95 : Cw 0 RL 95 yX3_broken cX3_broken 3 (some .int) 2 := ⟨⟨m_818, m_819, m_820⟩, m_65, m_821, by decide +kernel, by decide⟩
theorem m_825 : (Jvm.Cond.code ({ cls := "TupleMethodsModel", name := "work", desc := "(II)I" } : Jvm.MethodName) prog_5_method_41_code (6 : Nat) (Option.some Jvm.ClassFile.FieldType.int)) ∈ TT := TT_in (List.mem_of_getElem? (i := 825) (by decide +kernel)) (by decide +kernel)
theorem m_824 : (Jvm.Cond.selects "TupleMethodsModel" ({ cls := "TupleMethodsModel", name := "work", desc := "(II)I" } : Jvm.MethodName) ({ cls := "TupleMethodsModel", name := "work", desc := "(II)I" } : Jvm.MethodName)) ∈ TT := TT_in (List.mem_of_getElem? (i := 824) (by decide +kernel)) (by decide +kernel)
theorem m_822 : (Jvm.Cond.methodLink "TupleMethodsLaw" (99 : Nat) ({ cls := "TupleMethodsModel", name := "work", desc := "(II)I" } : Jvm.MethodName)) ∈ TT := TT_in (List.mem_of_getElem? (i := 822) (by decide +kernel)) (by decide +kernel)
theorem m_823 : (Jvm.Cond.instanceMethod ({ cls := "TupleMethodsModel", name := "work", desc := "(II)I" } : Jvm.MethodName)) ∈ TT := TT_in (List.mem_of_getElem? (i := 823) (by decide +kernel)) (by decide +kernel)
theorem kw_L_99 : Cw 0 RL 99 yX3_work cX3_work 6 (some .int) 2 := ⟨⟨m_822, m_823, m_824⟩, m_65, m_825, by decide +kernel, by decide⟩
theorem m_829 : (Jvm.Cond.code ({ cls := "TupleMethodsModel", name := "kept", desc := "(II)I" } : Jvm.MethodName) prog_5_method_42_code (3 : Nat) (Option.some Jvm.ClassFile.FieldType.int)) ∈ TT := TT_in (List.mem_of_getElem? (i := 829) (by decide +kernel)) (by decide +kernel)
theorem m_828 : (Jvm.Cond.selects "TupleMethodsModel" ({ cls := "TupleMethodsModel", name := "kept", desc := "(II)I" } : Jvm.MethodName) ({ cls := "TupleMethodsModel", name := "kept", desc := "(II)I" } : Jvm.MethodName)) ∈ TT := TT_in (List.mem_of_getElem? (i := 828) (by decide +kernel)) (by decide +kernel)
theorem m_826 : (Jvm.Cond.methodLink "TupleMethodsLaw" (103 : Nat) ({ cls := "TupleMethodsModel", name := "kept", desc := "(II)I" } : Jvm.MethodName)) ∈ TT := TT_in (List.mem_of_getElem? (i := 826) (by decide +kernel)) (by decide +kernel)
theorem m_827 : (Jvm.Cond.instanceMethod ({ cls := "TupleMethodsModel", name := "kept", desc := "(II)I" } : Jvm.MethodName)) ∈ TT := TT_in (List.mem_of_getElem? (i := 827) (by decide +kernel)) (by decide +kernel)
theorem kw_L_103 : Cw 0 RL 103 yX3_kept cX3_kept 3 (some .int) 2 := ⟨⟨m_826, m_827, m_828⟩, m_65, m_829, by decide +kernel, by decide⟩
theorem m_833 : (Jvm.Cond.code ({ cls := "TupleMethodsModel", name := "of", desc := "(II)I" } : Jvm.MethodName) prog_5_method_53_code (3 : Nat) (Option.some Jvm.ClassFile.FieldType.int)) ∈ TT := TT_in (List.mem_of_getElem? (i := 833) (by decide +kernel)) (by decide +kernel)
theorem m_832 : (Jvm.Cond.selects "TupleMethodsModel" ({ cls := "TupleMethodsModel", name := "of", desc := "(II)I" } : Jvm.MethodName) ({ cls := "TupleMethodsModel", name := "of", desc := "(II)I" } : Jvm.MethodName)) ∈ TT := TT_in (List.mem_of_getElem? (i := 832) (by decide +kernel)) (by decide +kernel)
theorem m_830 : (Jvm.Cond.methodLink "TupleMethodsLaw" (66 : Nat) ({ cls := "TupleMethodsModel", name := "of", desc := "(II)I" } : Jvm.MethodName)) ∈ TT := TT_in (List.mem_of_getElem? (i := 830) (by decide +kernel)) (by decide +kernel)
theorem m_831 : (Jvm.Cond.instanceMethod ({ cls := "TupleMethodsModel", name := "of", desc := "(II)I" } : Jvm.MethodName)) ∈ TT := TT_in (List.mem_of_getElem? (i := 831) (by decide +kernel)) (by decide +kernel)
theorem kw_L_66 : Cw 0 RL 66 yX3_of cX3_of 3 (some .int) 2 := ⟨⟨m_830, m_831, m_832⟩, m_65, m_833, by decide +kernel, by decide⟩
theorem m_837 : (Jvm.Cond.code ({ cls := "TupleMethodsModel", name := "laysAnswers", desc := "(II)V" } : Jvm.MethodName) prog_5_method_44_code (4 : Nat) (Option.none : Option Jvm.ClassFile.FieldType)) ∈ TT := TT_in (List.mem_of_getElem? (i := 837) (by decide +kernel)) (by decide +kernel)
theorem m_49 : (Jvm.Cond.selects "TupleMethodsModel" ({ cls := "TupleMethodsModel", name := "laysAnswers", desc := "(II)V" } : Jvm.MethodName) ({ cls := "TupleMethodsModel", name := "laysAnswers", desc := "(II)V" } : Jvm.MethodName)) ∈ TT := TT_in (List.mem_of_getElem? (i := 49) (by decide +kernel)) (by decide +kernel)
theorem m_834 : (Jvm.Cond.methodLink "TupleMethodsModel" (184 : Nat) ({ cls := "TupleMethodsModel", name := "laysAnswers", desc := "(II)V" } : Jvm.MethodName)) ∈ TT := TT_in (List.mem_of_getElem? (i := 834) (by decide +kernel)) (by decide +kernel)
theorem m_836 : (Jvm.Cond.instanceMethod ({ cls := "TupleMethodsModel", name := "laysAnswers", desc := "(II)V" } : Jvm.MethodName)) ∈ TT := TT_in (List.mem_of_getElem? (i := 836) (by decide +kernel)) (by decide +kernel)
theorem kw_X3_184 : Cw 0 RX3 184 yX3_laysAnswers cX3_laysAnswers 4 none 2 := ⟨⟨m_834, m_836, m_49⟩, m_65, m_837, by decide +kernel, by decide⟩
theorem m_841 : (Jvm.Cond.code ({ cls := "TupleMethodsModel", name := "callsOf", desc := "(I)I" } : Jvm.MethodName) prog_5_method_43_code (2 : Nat) (Option.some Jvm.ClassFile.FieldType.int)) ∈ TT := TT_in (List.mem_of_getElem? (i := 841) (by decide +kernel)) (by decide +kernel)
theorem m_50 : (Jvm.Cond.selects "TupleMethodsModel" ({ cls := "TupleMethodsModel", name := "callsOf", desc := "(I)I" } : Jvm.MethodName) ({ cls := "TupleMethodsModel", name := "callsOf", desc := "(I)I" } : Jvm.MethodName)) ∈ TT := TT_in (List.mem_of_getElem? (i := 50) (by decide +kernel)) (by decide +kernel)
theorem m_838 : (Jvm.Cond.methodLink "TupleMethodsModel" (172 : Nat) ({ cls := "TupleMethodsModel", name := "callsOf", desc := "(I)I" } : Jvm.MethodName)) ∈ TT := TT_in (List.mem_of_getElem? (i := 838) (by decide +kernel)) (by decide +kernel)
theorem m_840 : (Jvm.Cond.instanceMethod ({ cls := "TupleMethodsModel", name := "callsOf", desc := "(I)I" } : Jvm.MethodName)) ∈ TT := TT_in (List.mem_of_getElem? (i := 840) (by decide +kernel)) (by decide +kernel)
theorem kw_X3_172 : Cw 0 RX3 172 yX3_callsOf cX3_callsOf 2 (some .int) 1 := ⟨⟨m_838, m_840, m_50⟩, m_65, m_841, by decide +kernel, by decide⟩
theorem m_845 : (Jvm.Cond.code ({ cls := "TupleMethodsModel", name := "allCalls", desc := "(I)I" } : Jvm.MethodName) prog_5_method_52_code (4 : Nat) (Option.some Jvm.ClassFile.FieldType.int)) ∈ TT := TT_in (List.mem_of_getElem? (i := 845) (by decide +kernel)) (by decide +kernel)
theorem m_51 : (Jvm.Cond.selects "TupleMethodsModel" ({ cls := "TupleMethodsModel", name := "allCalls", desc := "(I)I" } : Jvm.MethodName) ({ cls := "TupleMethodsModel", name := "allCalls", desc := "(I)I" } : Jvm.MethodName)) ∈ TT := TT_in (List.mem_of_getElem? (i := 51) (by decide +kernel)) (by decide +kernel)
theorem m_842 : (Jvm.Cond.methodLink "TupleMethodsModel" (187 : Nat) ({ cls := "TupleMethodsModel", name := "allCalls", desc := "(I)I" } : Jvm.MethodName)) ∈ TT := TT_in (List.mem_of_getElem? (i := 842) (by decide +kernel)) (by decide +kernel)
theorem m_844 : (Jvm.Cond.instanceMethod ({ cls := "TupleMethodsModel", name := "allCalls", desc := "(I)I" } : Jvm.MethodName)) ∈ TT := TT_in (List.mem_of_getElem? (i := 844) (by decide +kernel)) (by decide +kernel)
theorem kw_X3_187 : Cw 0 RX3 187 yX3_allCalls cX3_allCalls 4 (some .int) 1 := ⟨⟨m_842, m_844, m_51⟩, m_65, m_845, by decide +kernel, by decide⟩
theorem m_849 : (Jvm.Cond.code ({ cls := "TupleMethodsModel", name := "howMany", desc := "(II)I" } : Jvm.MethodName) prog_5_method_45_code (5 : Nat) (Option.some Jvm.ClassFile.FieldType.int)) ∈ TT := TT_in (List.mem_of_getElem? (i := 849) (by decide +kernel)) (by decide +kernel)
theorem m_52 : (Jvm.Cond.selects "TupleMethodsModel" ({ cls := "TupleMethodsModel", name := "howMany", desc := "(II)I" } : Jvm.MethodName) ({ cls := "TupleMethodsModel", name := "howMany", desc := "(II)I" } : Jvm.MethodName)) ∈ TT := TT_in (List.mem_of_getElem? (i := 52) (by decide +kernel)) (by decide +kernel)
theorem m_846 : (Jvm.Cond.methodLink "TupleMethodsModel" (190 : Nat) ({ cls := "TupleMethodsModel", name := "howMany", desc := "(II)I" } : Jvm.MethodName)) ∈ TT := TT_in (List.mem_of_getElem? (i := 846) (by decide +kernel)) (by decide +kernel)
theorem m_848 : (Jvm.Cond.instanceMethod ({ cls := "TupleMethodsModel", name := "howMany", desc := "(II)I" } : Jvm.MethodName)) ∈ TT := TT_in (List.mem_of_getElem? (i := 848) (by decide +kernel)) (by decide +kernel)
theorem kw_X3_190 : Cw 0 RX3 190 yX3_howMany cX3_howMany 5 (some .int) 2 := ⟨⟨m_846, m_848, m_52⟩, m_65, m_849, by decide +kernel, by decide⟩
theorem m_853 : (Jvm.Cond.code ({ cls := "TupleMethodsModel", name := "topOf", desc := "(III)I" } : Jvm.MethodName) prog_5_method_47_code (6 : Nat) (Option.some Jvm.ClassFile.FieldType.int)) ∈ TT := TT_in (List.mem_of_getElem? (i := 853) (by decide +kernel)) (by decide +kernel)
theorem m_53 : (Jvm.Cond.selects "TupleMethodsModel" ({ cls := "TupleMethodsModel", name := "topOf", desc := "(III)I" } : Jvm.MethodName) ({ cls := "TupleMethodsModel", name := "topOf", desc := "(III)I" } : Jvm.MethodName)) ∈ TT := TT_in (List.mem_of_getElem? (i := 53) (by decide +kernel)) (by decide +kernel)
theorem m_850 : (Jvm.Cond.methodLink "TupleMethodsModel" (193 : Nat) ({ cls := "TupleMethodsModel", name := "topOf", desc := "(III)I" } : Jvm.MethodName)) ∈ TT := TT_in (List.mem_of_getElem? (i := 850) (by decide +kernel)) (by decide +kernel)
theorem m_852 : (Jvm.Cond.instanceMethod ({ cls := "TupleMethodsModel", name := "topOf", desc := "(III)I" } : Jvm.MethodName)) ∈ TT := TT_in (List.mem_of_getElem? (i := 852) (by decide +kernel)) (by decide +kernel)
theorem kw_X3_193 : Cw 0 RX3 193 yX3_topOf cX3_topOf 6 (some .int) 3 := ⟨⟨m_850, m_852, m_53⟩, m_65, m_853, by decide +kernel, by decide⟩
theorem m_857 : (Jvm.Cond.code ({ cls := "TupleMethodsModel", name := "isTop", desc := "(II)Z" } : Jvm.MethodName) prog_5_method_46_code (4 : Nat) (Option.some Jvm.ClassFile.FieldType.boolean)) ∈ TT := TT_in (List.mem_of_getElem? (i := 857) (by decide +kernel)) (by decide +kernel)
theorem m_54 : (Jvm.Cond.selects "TupleMethodsModel" ({ cls := "TupleMethodsModel", name := "isTop", desc := "(II)Z" } : Jvm.MethodName) ({ cls := "TupleMethodsModel", name := "isTop", desc := "(II)Z" } : Jvm.MethodName)) ∈ TT := TT_in (List.mem_of_getElem? (i := 54) (by decide +kernel)) (by decide +kernel)
theorem m_854 : (Jvm.Cond.methodLink "TupleMethodsModel" (175 : Nat) ({ cls := "TupleMethodsModel", name := "isTop", desc := "(II)Z" } : Jvm.MethodName)) ∈ TT := TT_in (List.mem_of_getElem? (i := 854) (by decide +kernel)) (by decide +kernel)
theorem m_856 : (Jvm.Cond.instanceMethod ({ cls := "TupleMethodsModel", name := "isTop", desc := "(II)Z" } : Jvm.MethodName)) ∈ TT := TT_in (List.mem_of_getElem? (i := 856) (by decide +kernel)) (by decide +kernel)
theorem kw_X3_175 : Cw 0 RX3 175 yX3_isTop cX3_isTop 4 (some .boolean) 2 := ⟨⟨m_854, m_856, m_54⟩, m_65, m_857, by decide +kernel, by decide⟩
theorem m_861 : (Jvm.Cond.code ({ cls := "TupleMethodsModel", name := "sizeOf", desc := "(I)I" } : Jvm.MethodName) prog_5_method_50_code (6 : Nat) (Option.some Jvm.ClassFile.FieldType.int)) ∈ TT := TT_in (List.mem_of_getElem? (i := 861) (by decide +kernel)) (by decide +kernel)
theorem m_55 : (Jvm.Cond.selects "TupleMethodsModel" ({ cls := "TupleMethodsModel", name := "sizeOf", desc := "(I)I" } : Jvm.MethodName) ({ cls := "TupleMethodsModel", name := "sizeOf", desc := "(I)I" } : Jvm.MethodName)) ∈ TT := TT_in (List.mem_of_getElem? (i := 55) (by decide +kernel)) (by decide +kernel)
theorem m_858 : (Jvm.Cond.methodLink "TupleMethodsModel" (196 : Nat) ({ cls := "TupleMethodsModel", name := "sizeOf", desc := "(I)I" } : Jvm.MethodName)) ∈ TT := TT_in (List.mem_of_getElem? (i := 858) (by decide +kernel)) (by decide +kernel)
theorem m_860 : (Jvm.Cond.instanceMethod ({ cls := "TupleMethodsModel", name := "sizeOf", desc := "(I)I" } : Jvm.MethodName)) ∈ TT := TT_in (List.mem_of_getElem? (i := 860) (by decide +kernel)) (by decide +kernel)
theorem kw_X3_196 : Cw 0 RX3 196 yX3_sizeOf cX3_sizeOf 6 (some .int) 1 := ⟨⟨m_858, m_860, m_55⟩, m_65, m_861, by decide +kernel, by decide⟩
theorem m_865 : (Jvm.Cond.code ({ cls := "TupleMethodsModel", name := "poleOf", desc := "(III)I" } : Jvm.MethodName) prog_5_method_49_code (5 : Nat) (Option.some Jvm.ClassFile.FieldType.int)) ∈ TT := TT_in (List.mem_of_getElem? (i := 865) (by decide +kernel)) (by decide +kernel)
theorem m_56 : (Jvm.Cond.selects "TupleMethodsModel" ({ cls := "TupleMethodsModel", name := "poleOf", desc := "(III)I" } : Jvm.MethodName) ({ cls := "TupleMethodsModel", name := "poleOf", desc := "(III)I" } : Jvm.MethodName)) ∈ TT := TT_in (List.mem_of_getElem? (i := 56) (by decide +kernel)) (by decide +kernel)
theorem m_862 : (Jvm.Cond.methodLink "TupleMethodsModel" (181 : Nat) ({ cls := "TupleMethodsModel", name := "poleOf", desc := "(III)I" } : Jvm.MethodName)) ∈ TT := TT_in (List.mem_of_getElem? (i := 862) (by decide +kernel)) (by decide +kernel)
theorem m_864 : (Jvm.Cond.instanceMethod ({ cls := "TupleMethodsModel", name := "poleOf", desc := "(III)I" } : Jvm.MethodName)) ∈ TT := TT_in (List.mem_of_getElem? (i := 864) (by decide +kernel)) (by decide +kernel)
theorem kw_X3_181 : Cw 0 RX3 181 yX3_poleOf cX3_poleOf 5 (some .int) 3 := ⟨⟨m_862, m_864, m_56⟩, m_65, m_865, by decide +kernel, by decide⟩
theorem m_869 : (Jvm.Cond.code ({ cls := "TupleMethodsModel", name := "areAlike", desc := "(IIII)Z" } : Jvm.MethodName) prog_5_method_48_code (7 : Nat) (Option.some Jvm.ClassFile.FieldType.boolean)) ∈ TT := TT_in (List.mem_of_getElem? (i := 869) (by decide +kernel)) (by decide +kernel)
theorem m_57 : (Jvm.Cond.selects "TupleMethodsModel" ({ cls := "TupleMethodsModel", name := "areAlike", desc := "(IIII)Z" } : Jvm.MethodName) ({ cls := "TupleMethodsModel", name := "areAlike", desc := "(IIII)Z" } : Jvm.MethodName)) ∈ TT := TT_in (List.mem_of_getElem? (i := 57) (by decide +kernel)) (by decide +kernel)
theorem m_866 : (Jvm.Cond.methodLink "TupleMethodsModel" (178 : Nat) ({ cls := "TupleMethodsModel", name := "areAlike", desc := "(IIII)Z" } : Jvm.MethodName)) ∈ TT := TT_in (List.mem_of_getElem? (i := 866) (by decide +kernel)) (by decide +kernel)
theorem m_868 : (Jvm.Cond.instanceMethod ({ cls := "TupleMethodsModel", name := "areAlike", desc := "(IIII)Z" } : Jvm.MethodName)) ∈ TT := TT_in (List.mem_of_getElem? (i := 868) (by decide +kernel)) (by decide +kernel)
theorem kw_X3_178 : Cw 0 RX3 178 yX3_areAlike cX3_areAlike 7 (some .boolean) 4 := ⟨⟨m_866, m_868, m_57⟩, m_65, m_869, by decide +kernel, by decide⟩
theorem m_873 : (Jvm.Cond.code ({ cls := "TupleMethodsModel", name := "idleOf", desc := "(I)I" } : Jvm.MethodName) prog_5_method_51_code (4 : Nat) (Option.some Jvm.ClassFile.FieldType.int)) ∈ TT := TT_in (List.mem_of_getElem? (i := 873) (by decide +kernel)) (by decide +kernel)
theorem m_58 : (Jvm.Cond.selects "TupleMethodsModel" ({ cls := "TupleMethodsModel", name := "idleOf", desc := "(I)I" } : Jvm.MethodName) ({ cls := "TupleMethodsModel", name := "idleOf", desc := "(I)I" } : Jvm.MethodName)) ∈ TT := TT_in (List.mem_of_getElem? (i := 58) (by decide +kernel)) (by decide +kernel)
theorem m_870 : (Jvm.Cond.methodLink "TupleMethodsModel" (199 : Nat) ({ cls := "TupleMethodsModel", name := "idleOf", desc := "(I)I" } : Jvm.MethodName)) ∈ TT := TT_in (List.mem_of_getElem? (i := 870) (by decide +kernel)) (by decide +kernel)
theorem m_872 : (Jvm.Cond.instanceMethod ({ cls := "TupleMethodsModel", name := "idleOf", desc := "(I)I" } : Jvm.MethodName)) ∈ TT := TT_in (List.mem_of_getElem? (i := 872) (by decide +kernel)) (by decide +kernel)
theorem kw_X3_199 : Cw 0 RX3 199 yX3_idleOf cX3_idleOf 4 (some .int) 1 := ⟨⟨m_870, m_872, m_58⟩, m_65, m_873, by decide +kernel, by decide⟩
theorem m_877 : (Jvm.Cond.code ({ cls := "TupleMethodsModel", name := "at", desc := "(III)I" } : Jvm.MethodName) prog_5_method_55_code (4 : Nat) (Option.some Jvm.ClassFile.FieldType.int)) ∈ TT := TT_in (List.mem_of_getElem? (i := 877) (by decide +kernel)) (by decide +kernel)
theorem m_876 : (Jvm.Cond.selects "TupleMethodsModel" ({ cls := "TupleMethodsModel", name := "at", desc := "(III)I" } : Jvm.MethodName) ({ cls := "TupleMethodsModel", name := "at", desc := "(III)I" } : Jvm.MethodName)) ∈ TT := TT_in (List.mem_of_getElem? (i := 876) (by decide +kernel)) (by decide +kernel)
theorem m_874 : (Jvm.Cond.methodLink "TupleMethodsLaw" (72 : Nat) ({ cls := "TupleMethodsModel", name := "at", desc := "(III)I" } : Jvm.MethodName)) ∈ TT := TT_in (List.mem_of_getElem? (i := 874) (by decide +kernel)) (by decide +kernel)
theorem m_875 : (Jvm.Cond.instanceMethod ({ cls := "TupleMethodsModel", name := "at", desc := "(III)I" } : Jvm.MethodName)) ∈ TT := TT_in (List.mem_of_getElem? (i := 875) (by decide +kernel)) (by decide +kernel)
theorem kw_L_72 : Cw 0 RL 72 yX3_at cX3_at 4 (some .int) 3 := ⟨⟨m_874, m_875, m_876⟩, m_65, m_877, by decide +kernel, by decide⟩
theorem m_881 : (Jvm.Cond.code ({ cls := "TupleMethodsModel", name := "applicableMany", desc := "(II)I" } : Jvm.MethodName) prog_5_method_54_code (5 : Nat) (Option.some Jvm.ClassFile.FieldType.int)) ∈ TT := TT_in (List.mem_of_getElem? (i := 881) (by decide +kernel)) (by decide +kernel)
theorem m_59 : (Jvm.Cond.selects "TupleMethodsModel" ({ cls := "TupleMethodsModel", name := "applicableMany", desc := "(II)I" } : Jvm.MethodName) ({ cls := "TupleMethodsModel", name := "applicableMany", desc := "(II)I" } : Jvm.MethodName)) ∈ TT := TT_in (List.mem_of_getElem? (i := 59) (by decide +kernel)) (by decide +kernel)
theorem m_878 : (Jvm.Cond.methodLink "TupleMethodsModel" (202 : Nat) ({ cls := "TupleMethodsModel", name := "applicableMany", desc := "(II)I" } : Jvm.MethodName)) ∈ TT := TT_in (List.mem_of_getElem? (i := 878) (by decide +kernel)) (by decide +kernel)
theorem m_880 : (Jvm.Cond.instanceMethod ({ cls := "TupleMethodsModel", name := "applicableMany", desc := "(II)I" } : Jvm.MethodName)) ∈ TT := TT_in (List.mem_of_getElem? (i := 880) (by decide +kernel)) (by decide +kernel)
theorem kw_X3_202 : Cw 0 RX3 202 yX3_applicableMany cX3_applicableMany 5 (some .int) 2 := ⟨⟨m_878, m_880, m_59⟩, m_65, m_881, by decide +kernel, by decide⟩
theorem m_885 : (Jvm.Cond.code ({ cls := "TupleMethodsModel", name := "clash", desc := "(II)I" } : Jvm.MethodName) prog_5_method_56_code (3 : Nat) (Option.some Jvm.ClassFile.FieldType.int)) ∈ TT := TT_in (List.mem_of_getElem? (i := 885) (by decide +kernel)) (by decide +kernel)
theorem m_884 : (Jvm.Cond.selects "TupleMethodsModel" ({ cls := "TupleMethodsModel", name := "clash", desc := "(II)I" } : Jvm.MethodName) ({ cls := "TupleMethodsModel", name := "clash", desc := "(II)I" } : Jvm.MethodName)) ∈ TT := TT_in (List.mem_of_getElem? (i := 884) (by decide +kernel)) (by decide +kernel)
theorem m_882 : (Jvm.Cond.methodLink "TupleMethodsLaw" (107 : Nat) ({ cls := "TupleMethodsModel", name := "clash", desc := "(II)I" } : Jvm.MethodName)) ∈ TT := TT_in (List.mem_of_getElem? (i := 882) (by decide +kernel)) (by decide +kernel)
theorem m_883 : (Jvm.Cond.instanceMethod ({ cls := "TupleMethodsModel", name := "clash", desc := "(II)I" } : Jvm.MethodName)) ∈ TT := TT_in (List.mem_of_getElem? (i := 883) (by decide +kernel)) (by decide +kernel)
theorem kw_L_107 : Cw 0 RL 107 yX3_clash cX3_clash 3 (some .int) 2 := ⟨⟨m_882, m_883, m_884⟩, m_65, m_885, by decide +kernel, by decide⟩
theorem m_889 : (Jvm.Cond.code ({ cls := "TupleMethodsModel", name := "gap", desc := "(II)I" } : Jvm.MethodName) prog_5_method_57_code (3 : Nat) (Option.some Jvm.ClassFile.FieldType.int)) ∈ TT := TT_in (List.mem_of_getElem? (i := 889) (by decide +kernel)) (by decide +kernel)
theorem m_888 : (Jvm.Cond.selects "TupleMethodsModel" ({ cls := "TupleMethodsModel", name := "gap", desc := "(II)I" } : Jvm.MethodName) ({ cls := "TupleMethodsModel", name := "gap", desc := "(II)I" } : Jvm.MethodName)) ∈ TT := TT_in (List.mem_of_getElem? (i := 888) (by decide +kernel)) (by decide +kernel)
theorem m_886 : (Jvm.Cond.methodLink "TupleMethodsLaw" (111 : Nat) ({ cls := "TupleMethodsModel", name := "gap", desc := "(II)I" } : Jvm.MethodName)) ∈ TT := TT_in (List.mem_of_getElem? (i := 886) (by decide +kernel)) (by decide +kernel)
theorem m_887 : (Jvm.Cond.instanceMethod ({ cls := "TupleMethodsModel", name := "gap", desc := "(II)I" } : Jvm.MethodName)) ∈ TT := TT_in (List.mem_of_getElem? (i := 887) (by decide +kernel)) (by decide +kernel)
theorem kw_L_111 : Cw 0 RL 111 yX3_gap cX3_gap 3 (some .int) 2 := ⟨⟨m_886, m_887, m_888⟩, m_65, m_889, by decide +kernel, by decide⟩
theorem m_893 : (Jvm.Cond.code ({ cls := "TupleMethodsModel", name := "fight", desc := "(III)I" } : Jvm.MethodName) prog_5_method_59_code (5 : Nat) (Option.some Jvm.ClassFile.FieldType.int)) ∈ TT := TT_in (List.mem_of_getElem? (i := 893) (by decide +kernel)) (by decide +kernel)
theorem m_892 : (Jvm.Cond.selects "TupleMethodsModel" ({ cls := "TupleMethodsModel", name := "fight", desc := "(III)I" } : Jvm.MethodName) ({ cls := "TupleMethodsModel", name := "fight", desc := "(III)I" } : Jvm.MethodName)) ∈ TT := TT_in (List.mem_of_getElem? (i := 892) (by decide +kernel)) (by decide +kernel)
theorem m_890 : (Jvm.Cond.methodLink "TupleMethodsLaw" (115 : Nat) ({ cls := "TupleMethodsModel", name := "fight", desc := "(III)I" } : Jvm.MethodName)) ∈ TT := TT_in (List.mem_of_getElem? (i := 890) (by decide +kernel)) (by decide +kernel)
theorem m_891 : (Jvm.Cond.instanceMethod ({ cls := "TupleMethodsModel", name := "fight", desc := "(III)I" } : Jvm.MethodName)) ∈ TT := TT_in (List.mem_of_getElem? (i := 891) (by decide +kernel)) (by decide +kernel)
theorem kw_L_115 : Cw 0 RL 115 yX3_fight cX3_fight 5 (some .int) 3 := ⟨⟨m_890, m_891, m_892⟩, m_65, m_893, by decide +kernel, by decide⟩
theorem m_897 : (Jvm.Cond.code ({ cls := "TupleMethodsModel", name := "fightIn", desc := "(IIII)Z" } : Jvm.MethodName) prog_5_method_58_code (7 : Nat) (Option.some Jvm.ClassFile.FieldType.boolean)) ∈ TT := TT_in (List.mem_of_getElem? (i := 897) (by decide +kernel)) (by decide +kernel)
theorem m_60 : (Jvm.Cond.selects "TupleMethodsModel" ({ cls := "TupleMethodsModel", name := "fightIn", desc := "(IIII)Z" } : Jvm.MethodName) ({ cls := "TupleMethodsModel", name := "fightIn", desc := "(IIII)Z" } : Jvm.MethodName)) ∈ TT := TT_in (List.mem_of_getElem? (i := 60) (by decide +kernel)) (by decide +kernel)
theorem m_894 : (Jvm.Cond.methodLink "TupleMethodsModel" (205 : Nat) ({ cls := "TupleMethodsModel", name := "fightIn", desc := "(IIII)Z" } : Jvm.MethodName)) ∈ TT := TT_in (List.mem_of_getElem? (i := 894) (by decide +kernel)) (by decide +kernel)
theorem m_896 : (Jvm.Cond.instanceMethod ({ cls := "TupleMethodsModel", name := "fightIn", desc := "(IIII)Z" } : Jvm.MethodName)) ∈ TT := TT_in (List.mem_of_getElem? (i := 896) (by decide +kernel)) (by decide +kernel)
theorem kw_X3_205 : Cw 0 RX3 205 yX3_fightIn cX3_fightIn 7 (some .boolean) 4 := ⟨⟨m_894, m_896, m_60⟩, m_65, m_897, by decide +kernel, by decide⟩
theorem m_901 : (Jvm.Cond.code ({ cls := "TupleMethodsModel", name := "pole", desc := "(III)I" } : Jvm.MethodName) prog_5_method_60_code (4 : Nat) (Option.some Jvm.ClassFile.FieldType.int)) ∈ TT := TT_in (List.mem_of_getElem? (i := 901) (by decide +kernel)) (by decide +kernel)
theorem m_900 : (Jvm.Cond.selects "TupleMethodsModel" ({ cls := "TupleMethodsModel", name := "pole", desc := "(III)I" } : Jvm.MethodName) ({ cls := "TupleMethodsModel", name := "pole", desc := "(III)I" } : Jvm.MethodName)) ∈ TT := TT_in (List.mem_of_getElem? (i := 900) (by decide +kernel)) (by decide +kernel)
theorem m_898 : (Jvm.Cond.methodLink "TupleMethodsLaw" (119 : Nat) ({ cls := "TupleMethodsModel", name := "pole", desc := "(III)I" } : Jvm.MethodName)) ∈ TT := TT_in (List.mem_of_getElem? (i := 898) (by decide +kernel)) (by decide +kernel)
theorem m_899 : (Jvm.Cond.instanceMethod ({ cls := "TupleMethodsModel", name := "pole", desc := "(III)I" } : Jvm.MethodName)) ∈ TT := TT_in (List.mem_of_getElem? (i := 899) (by decide +kernel)) (by decide +kernel)
theorem kw_L_119 : Cw 0 RL 119 yX3_pole cX3_pole 4 (some .int) 3 := ⟨⟨m_898, m_899, m_900⟩, m_65, m_901, by decide +kernel, by decide⟩
theorem m_905 : (Jvm.Cond.code ({ cls := "TupleMethodsModel", name := "change", desc := "(II)I" } : Jvm.MethodName) prog_5_method_61_code (5 : Nat) (Option.some Jvm.ClassFile.FieldType.int)) ∈ TT := TT_in (List.mem_of_getElem? (i := 905) (by decide +kernel)) (by decide +kernel)
theorem m_904 : (Jvm.Cond.selects "TupleMethodsModel" ({ cls := "TupleMethodsModel", name := "change", desc := "(II)I" } : Jvm.MethodName) ({ cls := "TupleMethodsModel", name := "change", desc := "(II)I" } : Jvm.MethodName)) ∈ TT := TT_in (List.mem_of_getElem? (i := 904) (by decide +kernel)) (by decide +kernel)
theorem m_902 : (Jvm.Cond.methodLink "TupleMethodsLaw" (123 : Nat) ({ cls := "TupleMethodsModel", name := "change", desc := "(II)I" } : Jvm.MethodName)) ∈ TT := TT_in (List.mem_of_getElem? (i := 902) (by decide +kernel)) (by decide +kernel)
theorem m_903 : (Jvm.Cond.instanceMethod ({ cls := "TupleMethodsModel", name := "change", desc := "(II)I" } : Jvm.MethodName)) ∈ TT := TT_in (List.mem_of_getElem? (i := 903) (by decide +kernel)) (by decide +kernel)
theorem kw_L_123 : Cw 0 RL 123 yX3_change cX3_change 5 (some .int) 2 := ⟨⟨m_902, m_903, m_904⟩, m_65, m_905, by decide +kernel, by decide⟩
theorem m_909 : (Jvm.Cond.code ({ cls := "TupleMethodsModel", name := "settle", desc := "(I)I" } : Jvm.MethodName) prog_5_method_62_code (5 : Nat) (Option.some Jvm.ClassFile.FieldType.int)) ∈ TT := TT_in (List.mem_of_getElem? (i := 909) (by decide +kernel)) (by decide +kernel)
theorem m_908 : (Jvm.Cond.selects "TupleMethodsModel" ({ cls := "TupleMethodsModel", name := "settle", desc := "(I)I" } : Jvm.MethodName) ({ cls := "TupleMethodsModel", name := "settle", desc := "(I)I" } : Jvm.MethodName)) ∈ TT := TT_in (List.mem_of_getElem? (i := 908) (by decide +kernel)) (by decide +kernel)
theorem m_906 : (Jvm.Cond.methodLink "TupleMethodsLaw" (127 : Nat) ({ cls := "TupleMethodsModel", name := "settle", desc := "(I)I" } : Jvm.MethodName)) ∈ TT := TT_in (List.mem_of_getElem? (i := 906) (by decide +kernel)) (by decide +kernel)
theorem m_907 : (Jvm.Cond.instanceMethod ({ cls := "TupleMethodsModel", name := "settle", desc := "(I)I" } : Jvm.MethodName)) ∈ TT := TT_in (List.mem_of_getElem? (i := 907) (by decide +kernel)) (by decide +kernel)
theorem kw_L_127 : Cw 0 RL 127 yX3_settle cX3_settle 5 (some .int) 1 := ⟨⟨m_906, m_907, m_908⟩, m_65, m_909, by decide +kernel, by decide⟩
theorem m_227 : (Jvm.Cond.methodLink "TupleMethods$Classes" (62 : Nat) ({ cls := "java/lang/System", name := "arraycopy", desc := "(Ljava/lang/Object;ILjava/lang/Object;II)V" } : Jvm.MethodName)) ∈ TT := TT_in (List.mem_of_getElem? (i := 227) (by decide +kernel)) (by decide +kernel)
theorem cp_X0_62 : (Jvm.Cond.methodLink "TupleMethods$Classes" (62 : Nat) ({ cls := "java/lang/System", name := "arraycopy", desc := "(Ljava/lang/Object;ILjava/lang/Object;II)V" } : Jvm.MethodName)) ∈ TT := m_227
theorem m_485 : (Jvm.Cond.methodLink "TupleMethods$Function" (60 : Nat) ({ cls := "java/lang/System", name := "arraycopy", desc := "(Ljava/lang/Object;ILjava/lang/Object;II)V" } : Jvm.MethodName)) ∈ TT := TT_in (List.mem_of_getElem? (i := 485) (by decide +kernel)) (by decide +kernel)
theorem cp_X1_60 : (Jvm.Cond.methodLink "TupleMethods$Function" (60 : Nat) ({ cls := "java/lang/System", name := "arraycopy", desc := "(Ljava/lang/Object;ILjava/lang/Object;II)V" } : Jvm.MethodName)) ∈ TT := m_485
theorem m_229 : (Jvm.Cond.native ({ cls := "java/lang/System", name := "arraycopy", desc := "(Ljava/lang/Object;ILjava/lang/Object;II)V" } : Jvm.MethodName)) ∈ TT := TT_in (List.mem_of_getElem? (i := 229) (by decide +kernel)) (by decide +kernel)
theorem cp_nat : (Jvm.Cond.native ({ cls := "java/lang/System", name := "arraycopy", desc := "(Ljava/lang/Object;ILjava/lang/Object;II)V" } : Jvm.MethodName)) ∈ TT := m_229
theorem m_228 : (Jvm.Cond.static ({ cls := "java/lang/System", name := "arraycopy", desc := "(Ljava/lang/Object;ILjava/lang/Object;II)V" } : Jvm.MethodName)) ∈ TT := TT_in (List.mem_of_getElem? (i := 228) (by decide +kernel)) (by decide +kernel)
theorem cp_stat : (Jvm.Cond.static ({ cls := "java/lang/System", name := "arraycopy", desc := "(Ljava/lang/Object;ILjava/lang/Object;II)V" } : Jvm.MethodName)) ∈ TT := m_228
theorem m_66 : (Jvm.Cond.initialized "java/lang/System") ∈ TT := TT_in (List.mem_of_getElem? (i := 66) (by decide +kernel)) (by decide +kernel)
theorem cp_init : (Jvm.Cond.initialized "java/lang/System") ∈ TT := m_66
theorem mx_link : (Jvm.Cond.methodLink "TupleMethods$Function" (66 : Nat) ({ cls := "java/lang/Math", name := "max", desc := "(II)I" } : Jvm.MethodName)) ∈ TT := m_582
theorem mx_stat : (Jvm.Cond.static ({ cls := "java/lang/Math", name := "max", desc := "(II)I" } : Jvm.MethodName)) ∈ TT := m_583
theorem mx_init : (Jvm.Cond.initialized "java/lang/Math") ∈ TT := m_72
theorem mx_code : (Jvm.Cond.code ({ cls := "java/lang/Math", name := "max", desc := "(II)I" } : Jvm.MethodName) prog_9_method_65_code (2 : Nat) (Option.some Jvm.ClassFile.FieldType.int)) ∈ TT := m_584
theorem m_332 : (Jvm.Cond.constant "java/lang/Integer" (265 : Nat) (1431655765 : Int32)) ∈ TT := TT_in (List.mem_of_getElem? (i := 332) (by decide +kernel)) (by decide +kernel)
theorem bc_265 : (Jvm.Cond.constant "java/lang/Integer" (265 : Nat) (1431655765 : Int32)) ∈ TT := m_332
theorem m_333 : (Jvm.Cond.constant "java/lang/Integer" (266 : Nat) (858993459 : Int32)) ∈ TT := TT_in (List.mem_of_getElem? (i := 333) (by decide +kernel)) (by decide +kernel)
theorem bc_266 : (Jvm.Cond.constant "java/lang/Integer" (266 : Nat) (858993459 : Int32)) ∈ TT := m_333
theorem m_334 : (Jvm.Cond.constant "java/lang/Integer" (267 : Nat) (252645135 : Int32)) ∈ TT := TT_in (List.mem_of_getElem? (i := 334) (by decide +kernel)) (by decide +kernel)
theorem bc_267 : (Jvm.Cond.constant "java/lang/Integer" (267 : Nat) (252645135 : Int32)) ∈ TT := m_334
end
section
-- ===== 04: numbers, bits, digits; calls whose answer is known =====
def bI (b : Bool) : Int32 := if b then nI 1 else nI 0
def bt (x : Int32) (k : Nat) : Bool := x.toBitVec.getLsbD k
def dg (c p : Nat) : Nat := c / 16 ^ p % 16
theorem dg_lt (c p : Nat) : dg c p < 16 := Nat.mod_lt _ (by decide)
theorem bI_t : bI true = nI 1 := rfl
theorem bI_f : bI false = nI 0 := rfl
theorem bI_inj {a b : Bool} (h : bI a = bI b) : a = b := by
  cases a <;> cases b <;> first | rfl | exact absurd h (by decide)
theorem bI_ne0 {b : Bool} : bI b = 0 ↔ b = false := by cases b <;> decide
theorem bI_eq1 {b : Bool} : bI b = nI 1 ↔ b = true := by cases b <;> decide
theorem narrow_bI (b : Bool) : narrow .boolean (.int (bI b)) = .int (bI b) := by cases b <;> rfl
theorem nar_bI (b : Bool) : vp_nar .boolean (bI b) = bI b := by cases b <;> rfl
theorem narrow_i (x : Int32) : narrow .int (.int x) = .int x := rfl
theorem m31 {j : Nat} (h : j < 32) : nI j &&& 31 = nI j := by
  rw [pk_andN (n := j) (by omega) 5 (by decide)]
  rw [Nat.mod_eq_of_lt (by omega)]
theorem smod32 {j : Nat} (h : j < 32) : ((nI j).toBitVec.smod 32).toNat = j := by
  have key : ∀ j : Fin 32, ((nI j.val).toBitVec.smod 32).toNat = j.val := by decide +kernel
  exact key ⟨j, h⟩
theorem bt_ext {x y : Int32} (h : ∀ k, k < 32 → bt x k = bt y k) : x = y := by
  apply Int32.toBitVec_inj.mp
  apply BitVec.eq_of_getLsbD_eq
  intro i hi
  exact h i hi
theorem bt_ge {x : Int32} {k : Nat} (h : 32 ≤ k) : bt x k = false := BitVec.getLsbD_of_ge _ _ h
theorem bt_or (x y : Int32) (k : Nat) : bt (x ||| y) k = (bt x k || bt y k) := by
  unfold bt
  rw [Int32.toBitVec_or, BitVec.getLsbD_or]
theorem bt_and (x y : Int32) (k : Nat) : bt (x &&& y) k = (bt x k && bt y k) := by
  unfold bt
  rw [Int32.toBitVec_and, BitVec.getLsbD_and]
theorem bt_not (x : Int32) {k : Nat} (hk : k < 32) : bt (x ^^^ (-1)) k = !bt x k := by
  unfold bt
  rw [Int32.toBitVec_xor, BitVec.getLsbD_xor]
  have : (-1 : Int32).toBitVec.getLsbD k = true := by
    rw [show (-1 : Int32).toBitVec = BitVec.allOnes 32 by decide, BitVec.getLsbD_allOnes]
    simp [hk]
  rw [this, Bool.xor_true]
theorem bt_0 (k : Nat) : bt (nI 0) k = false := by
  unfold bt
  rw [show (nI 0).toBitVec = 0#32 by decide]
  simp
theorem bt_shlx {m : Nat} (hm : m < 32) (x : Int32) (k : Nat) : bt (x <<< (nI m &&& 31)) k = (decide (k < 32) && (!decide (k < m) && bt x (k - m))) := by
  unfold bt
  rw [m31 hm, Int32.toBitVec_shiftLeft, BitVec.shiftLeft_eq', smod32 hm, BitVec.getLsbD_shiftLeft, Bool.and_assoc]
theorem bt_1 (k : Nat) : bt (nI 1) k = decide (k = 0) := by
  unfold bt
  rw [show (nI 1).toBitVec = 1#32 by decide, BitVec.getLsbD_one]
  simp
theorem bt_one {m k : Nat} (hm : m < 32) : bt (nI 1 <<< (nI m &&& 31)) k = decide (k = m) := by
  rw [bt_shlx hm, bt_1]
  by_cases h : k = m
  · subst h; simp [hm]
  · simp [h]
    omega
theorem bt_shr (x : Int32) {j : Nat} (hj : j < 32) : (x >>> (nI j &&& 31)) &&& nI 1 = bI (bt x j) := by
  apply bt_ext
  intro k hk
  rw [bt_and, bt_1]
  have h1 : bt (x >>> (nI j &&& 31)) 0 = bt x j := by
    unfold bt
    rw [m31 hj, Int32.toBitVec_shiftRight, BitVec.sshiftRight_eq', smod32 hj, BitVec.getLsbD_sshiftRight]
    simp [hj]
  by_cases h : k = 0
  · subst h
    rw [h1]
    cases bt x j <;> simp [bI, bt_1, bt_0]
  · simp [h]
    cases bt x j <;> simp [bI, bt_1, bt_0, h]
theorem dg_shr {c p : Nat} (hc : c < 2 ^ 31) (hp : p < 8) : (nI c >>> (nI (4 * p) &&& 31)) &&& nI 15 = nI (dg c p) := by
  rw [m31 (by omega), pk_shrN hc (nI (4 * p)) (4 * p) (smod32 (by omega)), pk_andN (Nat.lt_of_le_of_lt (Nat.div_le_self _ _) (by omega)) 4 (by decide)]
  unfold dg
  rw [Nat.pow_mul]
/-- numbers as Nat or as refused -/
theorem nI_cases (x : Int32) : x < 0 ∨ ∃ j : Nat, j < 2 ^ 31 ∧ x = nI j := by
  by_cases h : x < 0
  · exact Or.inl h
  · exact Or.inr (nI_of h)
theorem lt0_ne {x : Int32} (h : x < 0) (j : Nat) (hj : j < 2 ^ 31) : x ≠ nI j := fun e => nI_pos hj (e ▸ h)
theorem nI_ltm {a : Nat} {x : Int32} (h : x < 0) (ha : a < 2 ^ 31) : x < nI a := by
  have h1 : x.toInt < 0 := Int32.lt_iff_toInt_lt.mp h
  refine Int32.lt_iff_toInt_lt.mpr ?_
  rw [nI_toInt ha]
  omega
/-- a contract's end: this answer, nothing changed -/
def rt (σ : Sg) (v : PV) : Option PV → Sg → Prop := fun r σ' => r = some v ∧ σ' = σ
theorem rt.mk {σ : Sg} {v w : PV} (h : v = w) : rt σ w (some v) σ := ⟨by rw [h], rfl⟩
section Calls2
variable {Γ : Gm} {own : String} {cc : ByteArray} {d pc : Nat} {L : List (Option PV)} {σ : Sg}
theorem j_callV1 (hc : Cx Γ own cc d) {y : MethodName} {bytes : ByteArray} {maxL n index d' q ci : Nat} {ret : Option FieldType} {as rest st : List PV} {v : PV} {fs : List (Option Nat)} {T : u_T} {N : Nat} (hw : Cw 0 own index y bytes maxL ret n) (hM : Sp y bytes maxL ret d' (.inr q :: as) σ (rt σ v)) (hd : decode cc pc = .ok (.invokevirtual index, 3)) (hst : st = as.reverse ++ .inr q :: rest) (hn : as.length = n) (hdd : d' + 1 ≤ d) (hrl : rest.length ≤ 8) (hq : q < 68) (hy : lay q = .inl (ci, fs)) (hci : vwCl[ci]? = some (y.cls, T, N)) (n1 : J Γ (pc + 3) L (v :: rest) σ) : J Γ pc L st σ :=
  j_callV hc hw hM hd hst hn hdd hrl hq hy hci (fun r σ' h => by obtain ⟨rfl, rfl⟩ := h; exact n1)
theorem j_callS1 (hc : Cx Γ own cc d) {y : MethodName} {bytes : ByteArray} {maxL n index d' : Nat} {ret : Option FieldType} {as rest st : List PV} {v : PV} (hw : Cw 1 own index y bytes maxL ret n) (hM : Sp y bytes maxL ret d' as σ (rt σ v)) (hd : decode cc pc = .ok (.invokestatic index, 3)) (hst : st = as.reverse ++ rest) (hn : as.length = n) (hdd : d' + 1 ≤ d) (hrl : rest.length ≤ 8) (n1 : J Γ (pc + 3) L (v :: rest) σ) : J Γ pc L st σ :=
  j_callS hc hw hM hd hst hn hdd hrl (fun r σ' h => by obtain ⟨rfl, rfl⟩ := h; exact n1)
theorem j_callSN1 (hc : Cx Γ own cc d) {y : MethodName} {bytes : ByteArray} {maxL n index d' : Nat} {ret : Option FieldType} {as rest st : List PV} {v : PV} (hw : Cw 2 own index y bytes maxL ret n) (hM : Sp y bytes maxL ret d' as σ (rt σ v)) (hd : decode cc pc = .ok (.invokestatic index, 3)) (hst : st = as.reverse ++ rest) (hn : as.length = n) (hdd : d' + 1 ≤ d) (hrl : rest.length ≤ 8) (n1 : J Γ (pc + 3) L (v :: rest) σ) : J Γ pc L st σ :=
  j_callSN hc hw hM hd hst hn hdd hrl (fun r σ' h => by obtain ⟨rfl, rfl⟩ := h; exact n1)
/-- a contract for a stronger end serves a weaker one -/
theorem Sp.mono {y : MethodName} {nL : Nat} {rt0 : Option FieldType} {as : List PV} {post post' : Option PV → Sg → Prop} (h : Sp y cc nL rt0 d as σ post) (hp : ∀ r σ', post r σ' → post' r σ') : Sp y cc nL rt0 d as σ post' := by
  intro l D K ad p e ha hc hk s m args below hf happ hP hK
  obtain ⟨k, o, h1, h2, h3, ⟨⟨r, σ', e1, e2, e3⟩, e4⟩, h5⟩ := h l D K ad p e ha hc hk s m args below hf happ hP hK
  exact ⟨k, o, h1, h2, h3, ⟨⟨r, σ', e1, hp r σ' e2, e3⟩, e4⟩, h5⟩
end Calls2
end
section
-- ===== 05: what the two objects hold, as one mathematical state; loops =====
theorem loopN {P : Nat → Prop} (N : Nat) (hx : P N) (hs : ∀ k, k < N → P (k + 1) → P k) : ∀ k, k ≤ N → P k := by
  have key : ∀ j k, k + j = N → P k := by
    intro j
    induction j with
    | zero => intro k hk; rw [show k = N by omega]; exact hx
    | succ j ih => intro k hk; exact hs k (by omega) (ih (k + 1) (by omega))
  exact fun k hk => key (N - k) k (by omega)
theorem rtT {σ : Sg} {b : Bool} (h : b = true) : rt σ (.inl (bI b)) (some (.inl (nI 1))) σ := by subst h; exact ⟨rfl, rfl⟩
theorem rtF {σ : Sg} {b : Bool} (h : b = false) : rt σ (.inl (bI b)) (some (.inl (nI 0))) σ := by subst h; exact ⟨rfl, rfl⟩
/-- a number within 0 .. n-1 -/
def isN (x : Int32) (n : Nat) : Bool := decide (0 ≤ x.toInt) && decide (x.toInt < n)
theorem isN_nI {j n : Nat} (hj : j < 2 ^ 31) : isN (nI j) n = decide (j < n) := by
  unfold isN
  rw [nI_toInt hj]
  simp
theorem isN_of {x : Int32} {n : Nat} (h : isN x n = true) : ∃ j, j < n ∧ j < 2 ^ 31 ∧ x = nI j := by
  unfold isN at h
  simp only [Bool.and_eq_true, decide_eq_true_eq] at h
  have h0 : ¬ x < 0 := by
    intro h1
    have h2 : x.toInt < 0 := Int32.lt_iff_toInt_lt.mp h1
    omega
  obtain ⟨j, hj, rfl⟩ := nI_of h0
  rw [nI_toInt hj] at h
  exact ⟨j, by omega, hj, rfl⟩
theorem isN_neg {x : Int32} {n : Nat} (h : x < 0) : isN x n = false := by
  have h2 : x.toInt < 0 := Int32.lt_iff_toInt_lt.mp h
  unfold isN
  simp
  omega
/-- the mathematical state: classes and their LISTS, functions, places, what methods are for, KIND, VALUE, RULE, KEPT, HITS, MISSES -/
abbrev TS : Type := Nat × (Nat → List Nat) × Nat × (Nat → Nat) × (Nat → Nat → Option Nat) × (Nat → Nat → Int32) × (Nat → Nat → Int32) × Nat × (Nat → List Nat) × Int32 × Int32
abbrev tn (T : TS) : Nat := T.1
abbrev tls (T : TS) : Nat → List Nat := T.2.1
abbrev tnf (T : TS) : Nat := T.2.2.1
abbrev tpl (T : TS) : Nat → Nat := T.2.2.2.1
abbrev ttg (T : TS) : Nat → Nat → Option Nat := T.2.2.2.2.1
abbrev tkd (T : TS) : Nat → Nat → Int32 := T.2.2.2.2.2.1
abbrev tvl (T : TS) : Nat → Nat → Int32 := T.2.2.2.2.2.2.1
abbrev tru (T : TS) : Nat := T.2.2.2.2.2.2.2.1
abbrev tkp (T : TS) : Nat → List Nat := T.2.2.2.2.2.2.2.2.1
abbrev thi (T : TS) : Int32 := T.2.2.2.2.2.2.2.2.2.1
abbrev tmi (T : TS) : Int32 := T.2.2.2.2.2.2.2.2.2.2
def up (ls : Nat → List Nat) (c d : Nat) : Bool := decide (d ∈ ls c)
def rk (ls : Nat → List Nat) (c d : Nat) : Nat := (ls c).idxOf d
/-- at each place one is of the other -/
def le3 (ls : Nat → List Nat) (a b : Nat) : Bool := up ls (dg a 0) (dg b 0) && up ls (dg a 1) (dg b 1) && up ls (dg a 2) (dg b 2)
/-- at the first place at which they differ, one's class stands ahead in the list of the call's -/
def ahd (ls : Nat → List Nat) (call a b : Nat) : Bool :=
  if dg a 0 ≠ dg b 0 then decide (rk ls (dg call 0) (dg a 0) < rk ls (dg call 0) (dg b 0))
  else if dg a 1 ≠ dg b 1 then decide (rk ls (dg call 1) (dg a 1) < rk ls (dg call 1) (dg b 1))
  else if dg a 2 ≠ dg b 2 then decide (rk ls (dg call 2) (dg a 2) < rk ls (dg call 2) (dg b 2))
  else false
def oI (o : Option Nat) : Int32 := match o with
  | none => -1
  | some t => nI t
/-- a call of a function with pl places, n classes -/
def vcall (n pl c : Nat) : Bool := decide (c < 16 ^ pl) && (decide (dg c 0 < n) && (decide (dg c 1 < n) && decide (dg c 2 < n)))
/-- the methods that apply -/
def appB (ls : Nat → List Nat) (tg : Nat → Option Nat) (call m : Nat) : Bool := match tg m with
  | none => false
  | some t => decide (m < 13) && le3 ls call t
/-- which of two is ahead, by a rule -/
def befB (ls : Nat → List Nat) (tg : Nat → Option Nat) (by1 : Nat) (call m o : Nat) : Bool := match tg m, tg o with
  | some a, some b => if by1 = 0 then le3 ls a b else ahd ls call a b
  | _, _ => false
/-- the first of some methods, that is ahead of all others; -1: there are none, -2: there is none such -/
def fstI (S : Nat → Bool) (R : Nat → Nat → Bool) : Int32 :=
  if (List.range 13).any S then
    match (List.range 13).find? (fun m => S m && (List.range 13).all (fun o => !S o || (o == m || R m o))) with
    | some m => nI m
    | none => -2
  else -1
def ansI (ls : Nat → List Nat) (tg : Nat → Option Nat) (by1 call : Nat) : Int32 := fstI (appB ls tg call) (befB ls tg by1 call)
/-- a function's methods with one more -/
def tgx (tg : Nat → Option Nat) (mo : Option (Nat × Nat)) (m : Nat) : Option Nat := match mo with
  | none => tg m
  | some (w, k) => if m = k then some w else tg m
/-- what is always so of a state -/
def WF (T : TS) : Prop :=
  (1 ≤ tn T ∧ tn T ≤ 16) ∧
  (∀ c, c < tn T → (tls T c).Nodup ∧ c ∈ tls T c ∧ (∀ d, d ∈ tls T c → d ≤ c) ∧ (∀ d e, d ∈ tls T c → e ∈ tls T d → e ∈ tls T c)) ∧
  tls T 0 = [0] ∧
  tnf T ≤ 4 ∧ (∀ f, f < tnf T → 1 ≤ tpl T f ∧ tpl T f ≤ 3) ∧
  (∀ f m t, f < tnf T → ttg T f m = some t → m < 12 ∧ vcall (tn T) (tpl T f) t = true ∧ (∀ m', ttg T f m' = some t → m' = m) ∧ (∃ j, j < 4 ∧ tkd T f m = nI j)) ∧
  tru T < 2 ∧
  (∀ f, f < 4 → (tkp T f).length ≤ 6 ∧ (tnf T ≤ f → tkp T f = [])) ∧
  (∀ f c, f < tnf T → c ∈ tkp T f → vcall (tn T) (tpl T f) c = true)
/-- the reference holds the state T, and mo as a method more -/
def InvM (T : TS) (mo : Option (Nat × Nat)) (σ : Sg) : Prop :=
  σ 50 1 = nI (tn T) ∧
  (∀ c, c < tn T → ∀ d, d < 32 → bt (σ 51 c) d = up (tls T) c d) ∧
  (∀ c, c < tn T → ∀ k d, (tls T c)[k]? = some d → σ 52 (16 * c + k) = nI d) ∧
  (∀ c, c < tn T → σ 53 c = nI (tls T c).length) ∧
  (∀ c d, c < tn T → d ∈ tls T c → σ 54 (16 * c + d) = nI (rk (tls T) c d)) ∧
  σ 50 6 = nI (tnf T) ∧
  (∀ f, f < tnf T → σ 55 f = nI (tpl T f)) ∧
  (∀ f m, f < tnf T → m < 12 → σ 56 (12 * f + m) = oI (ttg T f m)) ∧
  (∀ f m, f < 4 → m < 12 → σ 57 (12 * f + m) = tkd T f m ∧ σ 58 (12 * f + m) = tvl T f m) ∧
  σ 50 11 = nI (tru T) ∧
  (∀ f, f < 4 → σ 60 f = nI (tkp T f).length) ∧
  (∀ f k c, f < tnf T → (tkp T f)[k]? = some c → σ 59 (6 * f + k) = nI c) ∧
  σ 50 14 = thi T ∧ σ 50 15 = tmi T ∧
  σ 50 19 = oI (mo.map (fun x => x.1)) ∧
  (∀ w k, mo = some (w, k) → σ 50 20 = nI k)
/-- two states are alike at the reference's places but some -/
def frM (σ σ' : Sg) : Prop := ∀ q, q < 50 → σ' q = σ q
def frX (σ σ' : Sg) : Prop := ∀ q, 50 ≤ q → σ' q = σ q
end
section
-- ===== 10a: the reference's small methods =====
theorem sp_in (σ : Sg) (v lo hi : Int32) : Sp yX3_in cX3_in 3 (some .boolean) 0 [.inl v, .inl lo, .inl hi] σ (rt σ (.inl (bI (decide (lo ≤ v) && decide (v ≤ hi))))) := by
  refine Sp.intro rfl (Nat.le_of_ble_eq_true rfl) (fun Γ c r => ?_)
  show J Γ 0 [some (.inl v), some (.inl lo), some (.inl hi)] [] σ
  refine j_iload_n c dX3_in_0 rfl ?_
  refine j_iload_n c dX3_in_1 rfl ?_
  refine j_icmp_lt c 14 dX3_in_2 (by decide) (fun h => ?_) (fun h => ?_)
  · refine j_iconst c (nI 0) dX3_in_14 (by decide) ?_
    exact j_iret c r dX3_in_15 rfl (rtF (by simp [Int32.not_le.mpr h]))
  · refine j_iload_n c dX3_in_5 rfl ?_
    refine j_iload_n c dX3_in_6 rfl ?_
    refine j_icmp_gt c 14 dX3_in_7 (by decide) (fun g => ?_) (fun g => ?_)
    · refine j_iconst c (nI 0) dX3_in_14 (by decide) ?_
      exact j_iret c r dX3_in_15 rfl (rtF (by simp [Int32.not_le.mpr g]))
    · refine j_iconst c (nI 1) dX3_in_10 (by decide) ?_
      refine j_goto c 15 dX3_in_11 (by decide) ?_
      exact j_iret c r dX3_in_15 rfl (rtT (by simp [Int32.not_lt.mp h, Int32.not_lt.mp g]))
theorem sp_inN (σ : Sg) (v : Int32) (n : Nat) (hn : n < 2 ^ 31) (hn0 : 1 ≤ n) : Sp yX3_in cX3_in 3 (some .boolean) 0 [.inl v, .inl (nI 0), .inl (nI (n - 1))] σ (rt σ (.inl (bI (isN v n)))) := by
  have h := sp_in σ v (nI 0) (nI (n - 1))
  have e : (decide (nI 0 ≤ v) && decide (v ≤ nI (n - 1))) = isN v n := by
    unfold isN
    simp only [Int32.le_iff_toInt_le, nI_toInt (show 0 < 2 ^ 31 by decide), nI_toInt (show n - 1 < 2 ^ 31 by omega)]
    congr 1
    simp only [decide_eq_decide]
    omega
  rw [e] at h
  exact h
theorem sp_isOn (σ : Sg) (x : Int32) (k : Nat) (hk : k < 32) : Sp yX3_isOn cX3_isOn 2 (some .boolean) 0 [.inl x, .inl (nI k)] σ (rt σ (.inl (bI (bt x k)))) := by
  refine Sp.intro rfl (Nat.le_of_ble_eq_true rfl) (fun Γ c r => ?_)
  show J Γ 0 [some (.inl x), some (.inl (nI k))] [] σ
  refine j_iload_n c dX3_isOn_0 rfl ?_
  refine j_iload_n c dX3_isOn_1 rfl ?_
  refine j_ishr c _ dX3_isOn_2 rfl ?_
  refine j_iconst c (nI 1) dX3_isOn_3 (by decide) ?_
  refine j_iand c _ dX3_isOn_4 (bt_shr x hk) ?_
  refine j_iconst c (nI 1) dX3_isOn_5 (by decide) ?_
  refine j_icmp_ne c 13 dX3_isOn_6 (by decide) (fun h => ?_) (fun h => ?_)
  · refine j_iconst c (nI 0) dX3_isOn_13 (by decide) ?_
    exact j_iret c r dX3_isOn_14 rfl (rtF (by simpa [bI_eq1] using h))
  · refine j_iconst c (nI 1) dX3_isOn_9 (by decide) ?_
    refine j_goto c 14 dX3_isOn_10 (by decide) ?_
    exact j_iret c r dX3_isOn_14 rfl (rtT (by simpa [bI_eq1] using h))
theorem sp_digit (σ : Sg) (x p : Nat) (hx : x < 2 ^ 31) (hp : p < 8) : Sp yX3_digit cX3_digit 2 (some .int) 0 [.inl (nI x), .inl (nI p)] σ (rt σ (.inl (nI (dg x p)))) := by
  refine Sp.intro rfl (Nat.le_of_ble_eq_true rfl) (fun Γ c r => ?_)
  show J Γ 0 [some (.inl (nI x)), some (.inl (nI p))] [] σ
  refine j_iload_n c dX3_digit_0 rfl ?_
  refine j_iconst c (nI 4) dX3_digit_1 (by decide) ?_
  refine j_iload_n c dX3_digit_2 rfl ?_
  refine j_imul c _ dX3_digit_3 (by first | exact pk_mul _ _ | rfl) ?_
  refine j_ishr c _ dX3_digit_4 rfl ?_
  refine j_bipush c (nI 15) dX3_digit_5 (by decide) ?_
  refine j_iand c _ dX3_digit_7 (dg_shr hx hp) ?_
  exact j_iret c r dX3_digit_8 rfl ⟨rfl, rfl⟩
theorem sp_isClass (σ : Sg) (x : Int32) (n : Nat) (h1 : σ 50 1 = nI n) (hn : 1 ≤ n) (hn2 : n ≤ 16) : Sp yX3_isClass cX3_isClass 2 (some .boolean) 1 [.inr 50, .inl x] σ (rt σ (.inl (bI (isN x n)))) := by
  refine Sp.intro rfl (Nat.le_of_ble_eq_true rfl) (fun Γ c r => ?_)
  show J Γ 0 [some (.inr 50), some (.inl x)] [] σ
  refine j_iload_n c dX3_isClass_0 rfl ?_
  refine j_iconst c (nI 0) dX3_isClass_1 (by decide) ?_
  refine j_aload_n c dX3_isClass_2 rfl ?_
  refine j_getI c fl_X3_62 dX3_isClass_3 (Nat.le_of_ble_eq_true rfl) rfl rfl ?_
  rw [h1]
  refine j_iconst c (nI 1) dX3_isClass_6 (by decide) ?_
  refine j_isub c _ dX3_isClass_7 (by first | exact pk_sub (by omega) | rfl) ?_
  refine j_callS1 c kw_X3_68 (sp_inN σ x n (by omega) hn) dX3_isClass_8 rfl rfl (by decide) (Nat.le_of_ble_eq_true rfl) ?_
  exact j_iret c r dX3_isClass_11 (narrow_bI _) ⟨rfl, rfl⟩
theorem sp_isFunction (σ : Sg) (x : Int32) (n : Nat) (h1 : σ 50 6 = nI n) (hn2 : n ≤ 4) : Sp yX3_isFunction cX3_isFunction 2 (some .boolean) 1 [.inr 50, .inl x] σ (rt σ (.inl (bI (isN x n)))) := by
  refine Sp.intro rfl (Nat.le_of_ble_eq_true rfl) (fun Γ c r => ?_)
  show J Γ 0 [some (.inr 50), some (.inl x)] [] σ
  refine j_iload_n c dX3_isFunction_0 rfl ?_
  refine j_iconst c (nI 0) dX3_isFunction_1 (by decide) ?_
  refine j_aload_n c dX3_isFunction_2 rfl ?_
  refine j_getI c fl_X3_72 dX3_isFunction_3 (Nat.le_of_ble_eq_true rfl) rfl rfl ?_
  rw [h1]
  by_cases h0 : n = 0
  · subst h0
    refine j_iconst c (nI 1) dX3_isFunction_6 (by decide) ?_
    refine j_isub c (-1) dX3_isFunction_7 (by decide) ?_
    have e : (decide (nI 0 ≤ x) && decide (x ≤ -1)) = isN x 0 := by
      unfold isN
      simp only [Int32.le_iff_toInt_le, nI_toInt (show 0 < 2 ^ 31 by decide)]
      congr 1
      simp only [decide_eq_decide]
      have : (-1 : Int32).toInt = -1 := by decide
      omega
    have hs := sp_in σ x (nI 0) (-1)
    rw [e] at hs
    refine j_callS1 c kw_X3_68 (hs) dX3_isFunction_8 rfl rfl (by decide) (Nat.le_of_ble_eq_true rfl) ?_
    exact j_iret c r dX3_isFunction_11 (narrow_bI _) ⟨rfl, rfl⟩
  · refine j_iconst c (nI 1) dX3_isFunction_6 (by decide) ?_
    refine j_isub c _ dX3_isFunction_7 (by first | exact pk_sub (by omega) | rfl) ?_
    refine j_callS1 c kw_X3_68 (sp_inN σ x n (by omega) (by omega)) dX3_isFunction_8 rfl rfl (by decide) (Nat.le_of_ble_eq_true rfl) ?_
    exact j_iret c r dX3_isFunction_11 (narrow_bI _) ⟨rfl, rfl⟩
end
